theorem dX8_run_0 : decode cX8_run 0 = .ok (.aload_n 0, 1) := by decide +kernel
theorem dX8_run_1 : decode cX8_run 1 = .ok (.iload_n 1, 1) := by decide +kernel
theorem dX8_run_2 : decode cX8_run 2 = .ok (.invokevirtual 295, 3) := by decide +kernel
theorem dX8_run_5 : decode cX8_run 5 = .ok (.ifCond .eq 5, 3) := by decide +kernel
theorem dX8_run_8 : decode cX8_run 8 = .ok (.iconst 0, 1) := by decide +kernel
theorem dX8_run_9 : decode cX8_run 9 = .ok (.ireturn, 1) := by decide +kernel
theorem dX8_run_10 : decode cX8_run 10 = .ok (.aload_n 0, 1) := by decide +kernel
theorem dX8_run_11 : decode cX8_run 11 = .ok (.invokevirtual 292, 3) := by decide +kernel
theorem dX8_run_14 : decode cX8_run 14 = .ok (.aload_n 0, 1) := by decide +kernel
theorem dX8_run_15 : decode cX8_run 15 = .ok (.iload_n 1, 1) := by decide +kernel
theorem dX8_run_16 : decode cX8_run 16 = .ok (.invokevirtual 298, 3) := by decide +kernel
theorem dX8_run_19 : decode cX8_run 19 = .ok (.ireturn, 1) := by decide +kernel
/-! BusLiftsModel.run(I)I -/
noncomputable def f_X8_run  (σ : Sg) (v1 : Int32) : Option (Int32 × Sg) := bi (f_X8_badTicks σ v1) fun r2 σ1 => (if r2 = 0 then (bv (f_X8_remembers σ1) fun σ3 => (bi (f_X8_passes σ3 v1) fun r5 σ4 => (some (r5, σ4)))) else (some (0, σ1)))
set_option maxHeartbeats 4000000 in
set_option maxRecDepth 100000 in
theorem w_X8_run_0 {p : Program} {l : Launch} {e : Env} {s : State} {m : MethodId} {args : Array Value} {below : List Frame} {meth : Method} {c : Code} {G : Gx} {ad : Ad} {res : Int32 × Sg} (C : Cx p s m args meth c yX8_run.cls cX8_run 2 (Option.some FieldType.int) G)  : ∀ (σ : Sg) (v1 : Int32) (H : Heap) (locs : List Loc) (ls : Array Slot), z_S 1 G ad σ (z_A 1 ad s.heap.size) s.heap H locs → lv_has ls 2 [(0, .ref (ad 8 0)), (1, .int v1)] → f_X8_run  σ v1 = some res → W p l e { frames := 8, cells := 0, slots := 0, locals := 184 } s m args below meth c H locs 0 0 (MQ below (va_Qi (S := Unit) (fun r1 _ => r1 = res.1) (fun _ t => z_W 1 G ad res.2 t.heap) (z_A 1 ad s.heap.size)) args s 0 0 (z_A 1 ad s.heap.size)) (F0 m 0 ls []) := by
  intro σ v1 H locs ls S hl  hf
  unfold f_X8_run at hf
  refine lv_aload_n C.1 C.2.1 dX8_run_0 rfl (lv_at hl 0 rfl) ?_
  refine lv_iload_n C.1 C.2.1 dX8_run_1 rfl (lv_at hl 1 rfl) ?_
  obtain ⟨r2, σ1, q_2, hf⟩ := bib hf
  refine z_callI C S 8 0 rfl (by decide) cf_8 ⟨_, rfl⟩ [.int v1] (m_X8_badTicks l G ad σ v1 r2 σ1 q_2 _) kv_X8_badTicks tw_7_186 ⟨Nat.le_of_ble_eq_true rfl, Nat.le_of_ble_eq_true rfl⟩ rfl rfl (Nat.le_of_ble_eq_true rfl) hl.1 ⟨Nat.le_of_ble_eq_true rfl, Nat.le_of_ble_eq_true rfl⟩ dX8_run_2 (fun H locs S => ?_)
  refine lv_if_eq (tgt := 10) C.1 C.2.1 dX8_run_5 (by decide) (fun c_5 => ?_) (fun c_5 => ?_)
  · rw [if_pos c_5] at hf
    refine lv_aload_n C.1 C.2.1 dX8_run_10 rfl (lv_at hl 0 rfl) ?_
    obtain ⟨σ3, q_11, hf⟩ := bvb hf
    refine z_callV C S 8 0 rfl (by decide) cf_8 ⟨_, rfl⟩ [] (m_X8_remembers l G ad σ1 σ3 q_11 _) kv_X8_remembers tw_7_178 ⟨Nat.le_of_ble_eq_true rfl, Nat.le_of_ble_eq_true rfl⟩ rfl rfl (Nat.le_of_ble_eq_true rfl) hl.1 ⟨Nat.le_of_ble_eq_true rfl, Nat.le_of_ble_eq_true rfl⟩ dX8_run_11 (fun H locs S => ?_)
    refine lv_aload_n C.1 C.2.1 dX8_run_14 rfl (lv_at hl 0 rfl) ?_
    refine lv_iload_n C.1 C.2.1 dX8_run_15 rfl (lv_at hl 1 rfl) ?_
    obtain ⟨r5, σ4, q_16, hf⟩ := bib hf
    refine z_callI C S 8 0 rfl (by decide) cf_8 ⟨_, rfl⟩ [.int v1] (m_X8_passes l G ad σ3 v1 r5 σ4 q_16 _) kv_X8_passes tw_7_190 ⟨Nat.le_of_ble_eq_true rfl, Nat.le_of_ble_eq_true rfl⟩ rfl rfl (Nat.le_of_ble_eq_true rfl) hl.1 ⟨Nat.le_of_ble_eq_true rfl, Nat.le_of_ble_eq_true rfl⟩ dX8_run_16 (fun H locs S => ?_)
    exact z_iret C S hf dX8_run_19
  · rw [if_neg c_5] at hf
    refine lv_iconst (v := 0) C.1 C.2.1 dX8_run_8 (by decide) ?_
    exact z_iret C S hf dX8_run_9
theorem kv_X8_run : KV yX8_run cX8_run 2 (Option.some FieldType.int) 1 := ⟨tw_7_185, tw_7_183, tw_7_184, tw_1_10, by decide, by decide, by decide +kernel⟩
theorem m_X8_run (l : Launch) (G : Gx) (ad : Ad) (σ : Sg) (v1 : Int32) (r : Int32) (σ' : Sg)  (hf : f_X8_run σ v1 = some (r, σ')) (sz : Nat) : z_MI l yX8_run cX8_run 2 (Option.some FieldType.int) 8 184 1 G ad σ sz [.ref (ad 8 0), .int v1] r σ' := by
  refine z_begin (by decide +kernel) (Nat.le_of_ble_eq_true rfl) [(0, .ref (ad 8 0)), (1, .int v1)] rfl (fun p e s m args below meth c ls C hz S hl => ?_)
  subst hz
  exact w_X8_run_0 (res := (r, σ')) C σ v1 _ _ _ S hl  hf

theorem dX8_setStopped_0 : decode cX8_setStopped 0 = .ok (.aload_n 0, 1) := by decide +kernel
theorem dX8_setStopped_1 : decode cX8_setStopped 1 = .ok (.iload_n 1, 1) := by decide +kernel
theorem dX8_setStopped_2 : decode cX8_setStopped 2 = .ok (.invokevirtual 271, 3) := by decide +kernel
theorem dX8_setStopped_5 : decode cX8_setStopped 5 = .ok (.ifCond .eq 5, 3) := by decide +kernel
theorem dX8_setStopped_8 : decode cX8_setStopped 8 = .ok (.iconst 0, 1) := by decide +kernel
theorem dX8_setStopped_9 : decode cX8_setStopped 9 = .ok (.ireturn, 1) := by decide +kernel
theorem dX8_setStopped_10 : decode cX8_setStopped 10 = .ok (.aload_n 0, 1) := by decide +kernel
theorem dX8_setStopped_11 : decode cX8_setStopped 11 = .ok (.invokevirtual 292, 3) := by decide +kernel
theorem dX8_setStopped_14 : decode cX8_setStopped 14 = .ok (.aload_n 0, 1) := by decide +kernel
theorem dX8_setStopped_15 : decode cX8_setStopped 15 = .ok (.getfield 7, 3) := by decide +kernel
theorem dX8_setStopped_18 : decode cX8_setStopped 18 = .ok (.bipush 35, 2) := by decide +kernel
theorem dX8_setStopped_20 : decode cX8_setStopped 20 = .ok (.iload_n 1, 1) := by decide +kernel
theorem dX8_setStopped_21 : decode cX8_setStopped 21 = .ok (.iadd, 1) := by decide +kernel
theorem dX8_setStopped_22 : decode cX8_setStopped 22 = .ok (.iaload, 1) := by decide +kernel
theorem dX8_setStopped_23 : decode cX8_setStopped 23 = .ok (.iconst 1, 1) := by decide +kernel
theorem dX8_setStopped_24 : decode cX8_setStopped 24 = .ok (.if_icmp .ne 7, 3) := by decide +kernel
theorem dX8_setStopped_27 : decode cX8_setStopped 27 = .ok (.iconst 1, 1) := by decide +kernel
theorem dX8_setStopped_28 : decode cX8_setStopped 28 = .ok (.goto 4, 3) := by decide +kernel
theorem dX8_setStopped_31 : decode cX8_setStopped 31 = .ok (.iconst 0, 1) := by decide +kernel
theorem dX8_setStopped_32 : decode cX8_setStopped 32 = .ok (.istore_n 3, 1) := by decide +kernel
theorem dX8_setStopped_33 : decode cX8_setStopped 33 = .ok (.aload_n 0, 1) := by decide +kernel
theorem dX8_setStopped_34 : decode cX8_setStopped 34 = .ok (.getfield 7, 3) := by decide +kernel
theorem dX8_setStopped_37 : decode cX8_setStopped 37 = .ok (.bipush 35, 2) := by decide +kernel
theorem dX8_setStopped_39 : decode cX8_setStopped 39 = .ok (.iload_n 1, 1) := by decide +kernel
theorem dX8_setStopped_40 : decode cX8_setStopped 40 = .ok (.iadd, 1) := by decide +kernel
theorem dX8_setStopped_41 : decode cX8_setStopped 41 = .ok (.iload_n 2, 1) := by decide +kernel
theorem dX8_setStopped_42 : decode cX8_setStopped 42 = .ok (.ifCond .eq 7, 3) := by decide +kernel
theorem dX8_setStopped_45 : decode cX8_setStopped 45 = .ok (.iconst 1, 1) := by decide +kernel
theorem dX8_setStopped_46 : decode cX8_setStopped 46 = .ok (.goto 4, 3) := by decide +kernel
theorem dX8_setStopped_49 : decode cX8_setStopped 49 = .ok (.iconst 0, 1) := by decide +kernel
theorem dX8_setStopped_50 : decode cX8_setStopped 50 = .ok (.iastore, 1) := by decide +kernel
theorem dX8_setStopped_51 : decode cX8_setStopped 51 = .ok (.iconst 0, 1) := by decide +kernel
theorem dX8_setStopped_52 : decode cX8_setStopped 52 = .ok (.istore 4, 2) := by decide +kernel
theorem dX8_setStopped_54 : decode cX8_setStopped 54 = .ok (.iload 4, 2) := by decide +kernel
theorem dX8_setStopped_56 : decode cX8_setStopped 56 = .ok (.aload_n 0, 1) := by decide +kernel
theorem dX8_setStopped_57 : decode cX8_setStopped 57 = .ok (.getfield 7, 3) := by decide +kernel
theorem dX8_setStopped_60 : decode cX8_setStopped 60 = .ok (.iconst 2, 1) := by decide +kernel
theorem dX8_setStopped_61 : decode cX8_setStopped 61 = .ok (.iaload, 1) := by decide +kernel
theorem dX8_setStopped_62 : decode cX8_setStopped 62 = .ok (.if_icmp .ge 28, 3) := by decide +kernel
theorem dX8_setStopped_65 : decode cX8_setStopped 65 = .ok (.iload_n 2, 1) := by decide +kernel
theorem dX8_setStopped_66 : decode cX8_setStopped 66 = .ok (.ifCond .eq 24, 3) := by decide +kernel
theorem dX8_setStopped_69 : decode cX8_setStopped 69 = .ok (.aload_n 0, 1) := by decide +kernel
theorem dX8_setStopped_70 : decode cX8_setStopped 70 = .ok (.getfield 7, 3) := by decide +kernel
theorem dX8_setStopped_73 : decode cX8_setStopped 73 = .ok (.sipush 511, 3) := by decide +kernel
theorem dX8_setStopped_76 : decode cX8_setStopped 76 = .ok (.iload_n 1, 1) := by decide +kernel
theorem dX8_setStopped_77 : decode cX8_setStopped 77 = .ok (.iload 4, 2) := by decide +kernel
theorem dX8_setStopped_79 : decode cX8_setStopped 79 = .ok (.invokestatic 65, 3) := by decide +kernel
theorem dX8_setStopped_82 : decode cX8_setStopped 82 = .ok (.iconst (-1), 1) := by decide +kernel
theorem dX8_setStopped_83 : decode cX8_setStopped 83 = .ok (.iastore, 1) := by decide +kernel
theorem dX8_setStopped_84 : decode cX8_setStopped 84 = .ok (.iinc 4 1, 3) := by decide +kernel
theorem dX8_setStopped_87 : decode cX8_setStopped 87 = .ok (.goto (-33), 3) := by decide +kernel
theorem dX8_setStopped_90 : decode cX8_setStopped 90 = .ok (.iload_n 3, 1) := by decide +kernel
theorem dX8_setStopped_91 : decode cX8_setStopped 91 = .ok (.ireturn, 1) := by decide +kernel
/-! BusLiftsModel.setStopped(IZ)Z -/
noncomputable def f_X8_setStopped_90  (σ : Sg) (v3 : Int32) : Option (Int32 × Sg) := if ¬ (v3 = 0 ∨ v3 = 1) then none else (some (v3, σ))
noncomputable def f_X8_setStopped_54  : Nat → Sg → Int32 → Int32 → Int32 → Int32 → Option (Int32 × Sg)
  | 0, _, _, _, _, _ => none
  | n + 1, σ, v1, v2, v3, v4 => if (σ 30 0 2) ≤ v4 then (f_X8_setStopped_90 σ v3) else (if v2 = 0 then (f_X8_setStopped_90 σ v3) else (bi (f_X8_of σ 511 v1 v4) fun r2 σ1 => (if r2 < 0 ∨ 2111 ≤ (r2).toNatClampNeg then none else (st (sup σ1 30 0 (r2).toNatClampNeg (-1)) fun σ3 => (f_X8_setStopped_54  n σ3 v1 v2 v3 (v4 + 1))))))
theorem f_X8_setStopped_54_s  (n : Nat) (σ : Sg) (v1 : Int32) (v2 : Int32) (v3 : Int32) (v4 : Int32) : f_X8_setStopped_54  (n + 1) σ v1 v2 v3 v4 = (if (σ 30 0 2) ≤ v4 then (f_X8_setStopped_90 σ v3) else (if v2 = 0 then (f_X8_setStopped_90 σ v3) else (bi (f_X8_of σ 511 v1 v4) fun r2 σ1 => (if r2 < 0 ∨ 2111 ≤ (r2).toNatClampNeg then none else (st (sup σ1 30 0 (r2).toNatClampNeg (-1)) fun σ3 => (f_X8_setStopped_54  n σ3 v1 v2 v3 (v4 + 1))))))) := rfl
noncomputable def f_X8_setStopped_50  (σ : Sg) (v1 : Int32) (v2 : Int32) (v3 : Int32) (v101 : Int32) (v102 : Int32) : Option (Int32 × Sg) := if v101 < 0 ∨ 2111 ≤ (v101).toNatClampNeg then none else (st (sup σ 30 0 (v101).toNatClampNeg v102) fun σ1 => (f_X8_setStopped_54 FU σ1 v1 v2 v3 0))
noncomputable def f_X8_setStopped_32  (σ : Sg) (v1 : Int32) (v2 : Int32) (v100 : Int32) : Option (Int32 × Sg) := if v2 = 0 then (f_X8_setStopped_50 σ v1 v2 v100 (35 + v1) 0) else (f_X8_setStopped_50 σ v1 v2 v100 (35 + v1) 1)
noncomputable def f_X8_setStopped  (σ : Sg) (v1 : Int32) (v2 : Int32) : Option (Int32 × Sg) := bi (f_X8_noCar σ v1) fun r2 σ1 => (if r2 = 0 then (bv (f_X8_remembers σ1) fun σ3 => (if (35 + v1) < 0 ∨ 2111 ≤ ((35 + v1)).toNatClampNeg then none else (if (σ3 30 0 ((35 + v1)).toNatClampNeg) = 1 then (f_X8_setStopped_32 σ3 v1 v2 1) else (f_X8_setStopped_32 σ3 v1 v2 0)))) else (some (0, σ1)))
set_option maxHeartbeats 4000000 in
set_option maxRecDepth 100000 in
theorem w_X8_setStopped_90 {p : Program} {l : Launch} {e : Env} {s : State} {m : MethodId} {args : Array Value} {below : List Frame} {meth : Method} {c : Code} {G : Gx} {ad : Ad} {res : Int32 × Sg} (C : Cx p s m args meth c yX8_setStopped.cls cX8_setStopped 5 (Option.some FieldType.boolean) G)  : ∀ (σ : Sg) (v3 : Int32) (H : Heap) (locs : List Loc) (ls : Array Slot), z_S 1 G ad σ (z_A 1 ad s.heap.size) s.heap H locs → lv_has ls 5 [(3, .int v3)] → f_X8_setStopped_90  σ v3 = some res → W p l e { frames := 2, cells := 0, slots := 0, locals := 45 } s m args below meth c H locs 0 0 (MQ below (va_Qi (S := Unit) (fun r1 _ => r1 = res.1) (fun _ t => z_W 1 G ad res.2 t.heap) (z_A 1 ad s.heap.size)) args s 0 0 (z_A 1 ad s.heap.size)) (F0 m 90 ls []) := by
  intro σ v3 H locs ls S hl  hf
  unfold f_X8_setStopped_90 at hf
  refine lv_iload_n C.1 C.2.1 dX8_setStopped_90 rfl (lv_at hl 0 rfl) ?_
  obtain ⟨g_91, hf⟩ := gd hf
  exact z_zret C S (nbz g_91).1 hf dX8_setStopped_91
set_option maxHeartbeats 4000000 in
set_option maxRecDepth 100000 in
theorem w_X8_setStopped_54 {p : Program} {l : Launch} {e : Env} {s : State} {m : MethodId} {args : Array Value} {below : List Frame} {meth : Method} {c : Code} {G : Gx} {ad : Ad} {res : Int32 × Sg} (C : Cx p s m args meth c yX8_setStopped.cls cX8_setStopped 5 (Option.some FieldType.boolean) G)  : ∀ n : Nat, ∀ (σ : Sg) (v1 : Int32) (v2 : Int32) (v3 : Int32) (v4 : Int32) (H : Heap) (locs : List Loc) (ls : Array Slot), z_S 1 G ad σ (z_A 1 ad s.heap.size) s.heap H locs → lv_has ls 5 [(0, .ref (ad 8 0)), (1, .int v1), (2, .int v2), (3, .int v3), (4, .int v4)] → f_X8_setStopped_54  n σ v1 v2 v3 v4 = some res → W p l e { frames := 2, cells := 0, slots := 0, locals := 45 } s m args below meth c H locs 0 0 (MQ below (va_Qi (S := Unit) (fun r1 _ => r1 = res.1) (fun _ t => z_W 1 G ad res.2 t.heap) (z_A 1 ad s.heap.size)) args s 0 0 (z_A 1 ad s.heap.size)) (F0 m 54 ls []) := by
  intro n
  induction n with
  | zero => intro σ v1 v2 v3 v4 H locs ls S hl  hf; cases hf
  | succ n ih =>
    intro σ v1 v2 v3 v4 H locs ls S hl  hf
    rw [f_X8_setStopped_54_s] at hf
    refine lv_iload C.1 C.2.1 dX8_setStopped_54 (lv_at hl 4 rfl) ?_
    refine lv_aload_n C.1 C.2.1 dX8_setStopped_56 rfl (lv_at hl 0 rfl) ?_
    refine z_getR C S 8 0 rfl (by decide) cf_8 0 (by decide) _ (gr_8_0 G ad 0) tw_6_118 dX8_setStopped_57 ?_
    refine lv_iconst (v := 2) C.1 C.2.1 dX8_setStopped_60 (by decide) ?_
    refine z_ialdL C S 30 0 rfl (by decide) 2111 (fun _ => rfl) 2 (by decide) (by decide) (by decide) dX8_setStopped_61 ?_
    refine lv_icmp_ge (tgt := 90) C.1 C.2.1 dX8_setStopped_62 (by decide) (fun c_62 => ?_) (fun c_62 => ?_)
    · rw [if_pos c_62] at hf
      exact w_X8_setStopped_90 C _ v3 _ _ _ S (lv_sub hl [3] rfl) hf
    · rw [if_neg c_62] at hf
      refine lv_iload_n C.1 C.2.1 dX8_setStopped_65 rfl (lv_at hl 2 rfl) ?_
      refine lv_if_eq (tgt := 90) C.1 C.2.1 dX8_setStopped_66 (by decide) (fun c_66 => ?_) (fun c_66 => ?_)
      · rw [if_pos c_66] at hf
        exact w_X8_setStopped_90 C _ v3 _ _ _ S (lv_sub hl [3] rfl) hf
      · rw [if_neg c_66] at hf
        refine lv_aload_n C.1 C.2.1 dX8_setStopped_69 rfl (lv_at hl 0 rfl) ?_
        refine z_getR C S 8 0 rfl (by decide) cf_8 0 (by decide) _ (gr_8_0 G ad 0) tw_6_118 dX8_setStopped_70 ?_
        refine lv_sipush (v := 511) C.1 C.2.1 dX8_setStopped_73 (by decide) ?_
        refine lv_iload_n C.1 C.2.1 dX8_setStopped_76 rfl (lv_at hl 1 rfl) ?_
        refine lv_iload C.1 C.2.1 dX8_setStopped_77 (lv_at hl 4 rfl) ?_
        obtain ⟨r2, σ1, q_79, hf⟩ := bib hf
        refine z_callSI C S [.int 511, .int v1, .int v4] (m_X8_of l G ad σ 511 v1 v4 r2 σ1 q_79 _) kv_X8_of tw_7_76 ⟨Nat.le_of_ble_eq_true rfl, Nat.le_of_ble_eq_true rfl⟩ rfl rfl (Nat.le_of_ble_eq_true rfl) hl.1 ⟨Nat.le_of_ble_eq_true rfl, Nat.le_of_ble_eq_true rfl⟩ dX8_setStopped_79 (fun H locs S => ?_)
        refine lv_iconst (v := (-1)) C.1 C.2.1 dX8_setStopped_82 (by decide) ?_
        obtain ⟨g_83, hf⟩ := gd hf
        obtain ⟨σ3, e_83, hf⟩ := stb hf
        refine z_iast C S 30 0 rfl (by decide) 2111 (fun _ => rfl) g_83 dX8_setStopped_83 (fun H locs S => ?_)
        rw [← e_83] at S
        refine lv_iinc (v := (v4 + 1)) (lv' := [(4, .int (v4 + 1)), (0, .ref (ad 8 0)), (1, .int v1), (2, .int v2), (3, .int v3)]) C.1 C.2.1 dX8_setStopped_84 hl (k := 4) rfl rfl (by decide) rfl (fun ls hl => ?_)
        refine lv_goto (tgt := 54) C.1 C.2.1 dX8_setStopped_87 (by decide) ?_
        exact ih _ v1 v2 v3 (v4 + 1) _ _ _ S (lv_sub hl [1, 2, 3, 4, 0] rfl)  hf
set_option maxHeartbeats 4000000 in
set_option maxRecDepth 100000 in
theorem w_X8_setStopped_50 {p : Program} {l : Launch} {e : Env} {s : State} {m : MethodId} {args : Array Value} {below : List Frame} {meth : Method} {c : Code} {G : Gx} {ad : Ad} {res : Int32 × Sg} (C : Cx p s m args meth c yX8_setStopped.cls cX8_setStopped 5 (Option.some FieldType.boolean) G)  : ∀ (σ : Sg) (v1 : Int32) (v2 : Int32) (v3 : Int32) (v101 : Int32) (v102 : Int32) (H : Heap) (locs : List Loc) (ls : Array Slot), z_S 1 G ad σ (z_A 1 ad s.heap.size) s.heap H locs → lv_has ls 5 [(0, .ref (ad 8 0)), (1, .int v1), (2, .int v2), (3, .int v3)] → f_X8_setStopped_50  σ v1 v2 v3 v101 v102 = some res → W p l e { frames := 2, cells := 0, slots := 0, locals := 45 } s m args below meth c H locs 0 0 (MQ below (va_Qi (S := Unit) (fun r1 _ => r1 = res.1) (fun _ t => z_W 1 G ad res.2 t.heap) (z_A 1 ad s.heap.size)) args s 0 0 (z_A 1 ad s.heap.size)) (F0 m 50 ls [.int v102, .int v101, .ref (ad 30 0)]) := by
  intro σ v1 v2 v3 v101 v102 H locs ls S hl  hf
  unfold f_X8_setStopped_50 at hf
  obtain ⟨g_50, hf⟩ := gd hf
  obtain ⟨σ1, e_50, hf⟩ := stb hf
  refine z_iast C S 30 0 rfl (by decide) 2111 (fun _ => rfl) g_50 dX8_setStopped_50 (fun H locs S => ?_)
  rw [← e_50] at S
  refine lv_iconst (v := 0) C.1 C.2.1 dX8_setStopped_51 (by decide) ?_
  refine lv_istore (lv' := [(4, .int 0), (0, .ref (ad 8 0)), (1, .int v1), (2, .int v2), (3, .int v3)]) C.1 C.2.1 dX8_setStopped_52 hl (by decide) rfl (fun ls hl => ?_)
  exact w_X8_setStopped_54 C FU _ v1 v2 v3 0 _ _ _ S (lv_sub hl [1, 2, 3, 4, 0] rfl) hf
set_option maxHeartbeats 4000000 in
set_option maxRecDepth 100000 in
theorem w_X8_setStopped_32 {p : Program} {l : Launch} {e : Env} {s : State} {m : MethodId} {args : Array Value} {below : List Frame} {meth : Method} {c : Code} {G : Gx} {ad : Ad} {res : Int32 × Sg} (C : Cx p s m args meth c yX8_setStopped.cls cX8_setStopped 5 (Option.some FieldType.boolean) G)  : ∀ (σ : Sg) (v1 : Int32) (v2 : Int32) (v100 : Int32) (H : Heap) (locs : List Loc) (ls : Array Slot), z_S 1 G ad σ (z_A 1 ad s.heap.size) s.heap H locs → lv_has ls 5 [(0, .ref (ad 8 0)), (1, .int v1), (2, .int v2)] → f_X8_setStopped_32  σ v1 v2 v100 = some res → W p l e { frames := 2, cells := 0, slots := 0, locals := 45 } s m args below meth c H locs 0 0 (MQ below (va_Qi (S := Unit) (fun r1 _ => r1 = res.1) (fun _ t => z_W 1 G ad res.2 t.heap) (z_A 1 ad s.heap.size)) args s 0 0 (z_A 1 ad s.heap.size)) (F0 m 32 ls [.int v100]) := by
  intro σ v1 v2 v100 H locs ls S hl  hf
  unfold f_X8_setStopped_32 at hf
  refine lv_istore_n (lv' := [(3, .int v100), (0, .ref (ad 8 0)), (1, .int v1), (2, .int v2)]) C.1 C.2.1 dX8_setStopped_32 rfl hl (by decide) rfl (fun ls hl => ?_)
  refine lv_aload_n C.1 C.2.1 dX8_setStopped_33 rfl (lv_at hl 1 rfl) ?_
  refine z_getR C S 8 0 rfl (by decide) cf_8 0 (by decide) _ (gr_8_0 G ad 0) tw_6_118 dX8_setStopped_34 ?_
  refine lv_bipush (v := 35) C.1 C.2.1 dX8_setStopped_37 (by decide) ?_
  refine lv_iload_n C.1 C.2.1 dX8_setStopped_39 rfl (lv_at hl 2 rfl) ?_
  refine lv_iadd C.1 C.2.1 dX8_setStopped_40 ?_
  refine lv_iload_n C.1 C.2.1 dX8_setStopped_41 rfl (lv_at hl 3 rfl) ?_
  refine lv_if_eq (tgt := 49) C.1 C.2.1 dX8_setStopped_42 (by decide) (fun c_42 => ?_) (fun c_42 => ?_)
  · rw [if_pos c_42] at hf
    refine lv_iconst (v := 0) C.1 C.2.1 dX8_setStopped_49 (by decide) ?_
    exact w_X8_setStopped_50 C _ v1 v2 v100 (35 + v1) 0 _ _ _ S (lv_sub hl [1, 2, 3, 0] rfl) hf
  · rw [if_neg c_42] at hf
    refine lv_iconst (v := 1) C.1 C.2.1 dX8_setStopped_45 (by decide) ?_
    refine lv_goto (tgt := 50) C.1 C.2.1 dX8_setStopped_46 (by decide) ?_
    exact w_X8_setStopped_50 C _ v1 v2 v100 (35 + v1) 1 _ _ _ S (lv_sub hl [1, 2, 3, 0] rfl) hf
set_option maxHeartbeats 4000000 in
set_option maxRecDepth 100000 in
theorem w_X8_setStopped_0 {p : Program} {l : Launch} {e : Env} {s : State} {m : MethodId} {args : Array Value} {below : List Frame} {meth : Method} {c : Code} {G : Gx} {ad : Ad} {res : Int32 × Sg} (C : Cx p s m args meth c yX8_setStopped.cls cX8_setStopped 5 (Option.some FieldType.boolean) G)  : ∀ (σ : Sg) (v1 : Int32) (v2 : Int32) (H : Heap) (locs : List Loc) (ls : Array Slot), z_S 1 G ad σ (z_A 1 ad s.heap.size) s.heap H locs → lv_has ls 5 [(0, .ref (ad 8 0)), (1, .int v1), (2, .int v2)] → f_X8_setStopped  σ v1 v2 = some res → W p l e { frames := 2, cells := 0, slots := 0, locals := 45 } s m args below meth c H locs 0 0 (MQ below (va_Qi (S := Unit) (fun r1 _ => r1 = res.1) (fun _ t => z_W 1 G ad res.2 t.heap) (z_A 1 ad s.heap.size)) args s 0 0 (z_A 1 ad s.heap.size)) (F0 m 0 ls []) := by
  intro σ v1 v2 H locs ls S hl  hf
  unfold f_X8_setStopped at hf
  refine lv_aload_n C.1 C.2.1 dX8_setStopped_0 rfl (lv_at hl 0 rfl) ?_
  refine lv_iload_n C.1 C.2.1 dX8_setStopped_1 rfl (lv_at hl 1 rfl) ?_
  obtain ⟨r2, σ1, q_2, hf⟩ := bib hf
  refine z_callI C S 8 0 rfl (by decide) cf_8 ⟨_, rfl⟩ [.int v1] (m_X8_noCar l G ad σ v1 r2 σ1 q_2 _) kv_X8_noCar tw_7_68 ⟨Nat.le_of_ble_eq_true rfl, Nat.le_of_ble_eq_true rfl⟩ rfl rfl (Nat.le_of_ble_eq_true rfl) hl.1 ⟨Nat.le_of_ble_eq_true rfl, Nat.le_of_ble_eq_true rfl⟩ dX8_setStopped_2 (fun H locs S => ?_)
  refine lv_if_eq (tgt := 10) C.1 C.2.1 dX8_setStopped_5 (by decide) (fun c_5 => ?_) (fun c_5 => ?_)
  · rw [if_pos c_5] at hf
    refine lv_aload_n C.1 C.2.1 dX8_setStopped_10 rfl (lv_at hl 0 rfl) ?_
    obtain ⟨σ3, q_11, hf⟩ := bvb hf
    refine z_callV C S 8 0 rfl (by decide) cf_8 ⟨_, rfl⟩ [] (m_X8_remembers l G ad σ1 σ3 q_11 _) kv_X8_remembers tw_7_178 ⟨Nat.le_of_ble_eq_true rfl, Nat.le_of_ble_eq_true rfl⟩ rfl rfl (Nat.le_of_ble_eq_true rfl) hl.1 ⟨Nat.le_of_ble_eq_true rfl, Nat.le_of_ble_eq_true rfl⟩ dX8_setStopped_11 (fun H locs S => ?_)
    refine lv_aload_n C.1 C.2.1 dX8_setStopped_14 rfl (lv_at hl 0 rfl) ?_
    refine z_getR C S 8 0 rfl (by decide) cf_8 0 (by decide) _ (gr_8_0 G ad 0) tw_6_118 dX8_setStopped_15 ?_
    refine lv_bipush (v := 35) C.1 C.2.1 dX8_setStopped_18 (by decide) ?_
    refine lv_iload_n C.1 C.2.1 dX8_setStopped_20 rfl (lv_at hl 1 rfl) ?_
    refine lv_iadd C.1 C.2.1 dX8_setStopped_21 ?_
    obtain ⟨g_22, hf⟩ := gd hf
    refine z_iald C S 30 0 rfl (by decide) 2111 (fun _ => rfl) g_22 dX8_setStopped_22 ?_
    refine lv_iconst (v := 1) C.1 C.2.1 dX8_setStopped_23 (by decide) ?_
    refine lv_icmp_ne (tgt := 31) C.1 C.2.1 dX8_setStopped_24 (by decide) (fun c_24 => ?_) (fun c_24 => ?_)
    · rw [if_neg c_24] at hf
      refine lv_iconst (v := 0) C.1 C.2.1 dX8_setStopped_31 (by decide) ?_
      exact w_X8_setStopped_32 C _ v1 v2 0 _ _ _ S (lv_sub hl [0, 1, 2] rfl) hf
    · rw [if_pos c_24] at hf
      refine lv_iconst (v := 1) C.1 C.2.1 dX8_setStopped_27 (by decide) ?_
      refine lv_goto (tgt := 32) C.1 C.2.1 dX8_setStopped_28 (by decide) ?_
      exact w_X8_setStopped_32 C _ v1 v2 1 _ _ _ S (lv_sub hl [0, 1, 2] rfl) hf
  · rw [if_neg c_5] at hf
    refine lv_iconst (v := 0) C.1 C.2.1 dX8_setStopped_8 (by decide) ?_
    exact z_zret C S rfl hf dX8_setStopped_9
theorem kv_X8_setStopped : KV yX8_setStopped cX8_setStopped 5 (Option.some FieldType.boolean) 2 := ⟨tw_8_33, tw_8_31, tw_8_32, tw_1_10, by decide, by decide, by decide +kernel⟩
theorem m_X8_setStopped (l : Launch) (G : Gx) (ad : Ad) (σ : Sg) (v1 : Int32) (v2 : Int32) (r : Int32) (σ' : Sg)  (hf : f_X8_setStopped σ v1 v2 = some (r, σ')) (sz : Nat) : z_MI l yX8_setStopped cX8_setStopped 5 (Option.some FieldType.boolean) 2 45 1 G ad σ sz [.ref (ad 8 0), .int v1, .int v2] r σ' := by
  refine z_begin (by decide +kernel) (Nat.le_of_ble_eq_true rfl) [(0, .ref (ad 8 0)), (1, .int v1), (2, .int v2)] rfl (fun p e s m args below meth c ls C hz S hl => ?_)
  subst hz
  exact w_X8_setStopped_0 (res := (r, σ')) C σ v1 v2 _ _ _ S hl  hf

theorem dX8_setJammed_0 : decode cX8_setJammed 0 = .ok (.aload_n 0, 1) := by decide +kernel
theorem dX8_setJammed_1 : decode cX8_setJammed 1 = .ok (.iload_n 1, 1) := by decide +kernel
theorem dX8_setJammed_2 : decode cX8_setJammed 2 = .ok (.invokevirtual 271, 3) := by decide +kernel
theorem dX8_setJammed_5 : decode cX8_setJammed 5 = .ok (.ifCond .eq 5, 3) := by decide +kernel
theorem dX8_setJammed_8 : decode cX8_setJammed 8 = .ok (.iconst 0, 1) := by decide +kernel
theorem dX8_setJammed_9 : decode cX8_setJammed 9 = .ok (.ireturn, 1) := by decide +kernel
theorem dX8_setJammed_10 : decode cX8_setJammed 10 = .ok (.aload_n 0, 1) := by decide +kernel
theorem dX8_setJammed_11 : decode cX8_setJammed 11 = .ok (.invokevirtual 292, 3) := by decide +kernel
theorem dX8_setJammed_14 : decode cX8_setJammed 14 = .ok (.aload_n 0, 1) := by decide +kernel
theorem dX8_setJammed_15 : decode cX8_setJammed 15 = .ok (.getfield 7, 3) := by decide +kernel
theorem dX8_setJammed_18 : decode cX8_setJammed 18 = .ok (.bipush 39, 2) := by decide +kernel
theorem dX8_setJammed_20 : decode cX8_setJammed 20 = .ok (.iload_n 1, 1) := by decide +kernel
theorem dX8_setJammed_21 : decode cX8_setJammed 21 = .ok (.iadd, 1) := by decide +kernel
theorem dX8_setJammed_22 : decode cX8_setJammed 22 = .ok (.iaload, 1) := by decide +kernel
theorem dX8_setJammed_23 : decode cX8_setJammed 23 = .ok (.iconst 1, 1) := by decide +kernel
theorem dX8_setJammed_24 : decode cX8_setJammed 24 = .ok (.if_icmp .ne 7, 3) := by decide +kernel
theorem dX8_setJammed_27 : decode cX8_setJammed 27 = .ok (.iconst 1, 1) := by decide +kernel
theorem dX8_setJammed_28 : decode cX8_setJammed 28 = .ok (.goto 4, 3) := by decide +kernel
theorem dX8_setJammed_31 : decode cX8_setJammed 31 = .ok (.iconst 0, 1) := by decide +kernel
theorem dX8_setJammed_32 : decode cX8_setJammed 32 = .ok (.istore_n 3, 1) := by decide +kernel
theorem dX8_setJammed_33 : decode cX8_setJammed 33 = .ok (.aload_n 0, 1) := by decide +kernel
theorem dX8_setJammed_34 : decode cX8_setJammed 34 = .ok (.getfield 7, 3) := by decide +kernel
theorem dX8_setJammed_37 : decode cX8_setJammed 37 = .ok (.bipush 39, 2) := by decide +kernel
theorem dX8_setJammed_39 : decode cX8_setJammed 39 = .ok (.iload_n 1, 1) := by decide +kernel
theorem dX8_setJammed_40 : decode cX8_setJammed 40 = .ok (.iadd, 1) := by decide +kernel
theorem dX8_setJammed_41 : decode cX8_setJammed 41 = .ok (.iload_n 2, 1) := by decide +kernel
theorem dX8_setJammed_42 : decode cX8_setJammed 42 = .ok (.ifCond .eq 7, 3) := by decide +kernel
theorem dX8_setJammed_45 : decode cX8_setJammed 45 = .ok (.iconst 1, 1) := by decide +kernel
theorem dX8_setJammed_46 : decode cX8_setJammed 46 = .ok (.goto 4, 3) := by decide +kernel
theorem dX8_setJammed_49 : decode cX8_setJammed 49 = .ok (.iconst 0, 1) := by decide +kernel
theorem dX8_setJammed_50 : decode cX8_setJammed 50 = .ok (.iastore, 1) := by decide +kernel
theorem dX8_setJammed_51 : decode cX8_setJammed 51 = .ok (.iload_n 3, 1) := by decide +kernel
theorem dX8_setJammed_52 : decode cX8_setJammed 52 = .ok (.ireturn, 1) := by decide +kernel
/-! BusLiftsModel.setJammed(IZ)Z -/
noncomputable def f_X8_setJammed_50  (σ : Sg) (v3 : Int32) (v101 : Int32) (v102 : Int32) : Option (Int32 × Sg) := if v101 < 0 ∨ 2111 ≤ (v101).toNatClampNeg then none else (st (sup σ 30 0 (v101).toNatClampNeg v102) fun σ1 => (if ¬ (v3 = 0 ∨ v3 = 1) then none else (some (v3, σ1))))
noncomputable def f_X8_setJammed_32  (σ : Sg) (v1 : Int32) (v2 : Int32) (v100 : Int32) : Option (Int32 × Sg) := if v2 = 0 then (f_X8_setJammed_50 σ v100 (39 + v1) 0) else (f_X8_setJammed_50 σ v100 (39 + v1) 1)
noncomputable def f_X8_setJammed  (σ : Sg) (v1 : Int32) (v2 : Int32) : Option (Int32 × Sg) := bi (f_X8_noCar σ v1) fun r2 σ1 => (if r2 = 0 then (bv (f_X8_remembers σ1) fun σ3 => (if (39 + v1) < 0 ∨ 2111 ≤ ((39 + v1)).toNatClampNeg then none else (if (σ3 30 0 ((39 + v1)).toNatClampNeg) = 1 then (f_X8_setJammed_32 σ3 v1 v2 1) else (f_X8_setJammed_32 σ3 v1 v2 0)))) else (some (0, σ1)))
set_option maxHeartbeats 4000000 in
set_option maxRecDepth 100000 in
theorem w_X8_setJammed_50 {p : Program} {l : Launch} {e : Env} {s : State} {m : MethodId} {args : Array Value} {below : List Frame} {meth : Method} {c : Code} {G : Gx} {ad : Ad} {res : Int32 × Sg} (C : Cx p s m args meth c yX8_setJammed.cls cX8_setJammed 4 (Option.some FieldType.boolean) G)  : ∀ (σ : Sg) (v3 : Int32) (v101 : Int32) (v102 : Int32) (H : Heap) (locs : List Loc) (ls : Array Slot), z_S 1 G ad σ (z_A 1 ad s.heap.size) s.heap H locs → lv_has ls 4 [(3, .int v3)] → f_X8_setJammed_50  σ v3 v101 v102 = some res → W p l e { frames := 2, cells := 0, slots := 0, locals := 45 } s m args below meth c H locs 0 0 (MQ below (va_Qi (S := Unit) (fun r1 _ => r1 = res.1) (fun _ t => z_W 1 G ad res.2 t.heap) (z_A 1 ad s.heap.size)) args s 0 0 (z_A 1 ad s.heap.size)) (F0 m 50 ls [.int v102, .int v101, .ref (ad 30 0)]) := by
  intro σ v3 v101 v102 H locs ls S hl  hf
  unfold f_X8_setJammed_50 at hf
  obtain ⟨g_50, hf⟩ := gd hf
  obtain ⟨σ1, e_50, hf⟩ := stb hf
  refine z_iast C S 30 0 rfl (by decide) 2111 (fun _ => rfl) g_50 dX8_setJammed_50 (fun H locs S => ?_)
  rw [← e_50] at S
  refine lv_iload_n C.1 C.2.1 dX8_setJammed_51 rfl (lv_at hl 0 rfl) ?_
  obtain ⟨g_52, hf⟩ := gd hf
  exact z_zret C S (nbz g_52).1 hf dX8_setJammed_52
set_option maxHeartbeats 4000000 in
set_option maxRecDepth 100000 in
theorem w_X8_setJammed_32 {p : Program} {l : Launch} {e : Env} {s : State} {m : MethodId} {args : Array Value} {below : List Frame} {meth : Method} {c : Code} {G : Gx} {ad : Ad} {res : Int32 × Sg} (C : Cx p s m args meth c yX8_setJammed.cls cX8_setJammed 4 (Option.some FieldType.boolean) G)  : ∀ (σ : Sg) (v1 : Int32) (v2 : Int32) (v100 : Int32) (H : Heap) (locs : List Loc) (ls : Array Slot), z_S 1 G ad σ (z_A 1 ad s.heap.size) s.heap H locs → lv_has ls 4 [(0, .ref (ad 8 0)), (1, .int v1), (2, .int v2)] → f_X8_setJammed_32  σ v1 v2 v100 = some res → W p l e { frames := 2, cells := 0, slots := 0, locals := 45 } s m args below meth c H locs 0 0 (MQ below (va_Qi (S := Unit) (fun r1 _ => r1 = res.1) (fun _ t => z_W 1 G ad res.2 t.heap) (z_A 1 ad s.heap.size)) args s 0 0 (z_A 1 ad s.heap.size)) (F0 m 32 ls [.int v100]) := by
  intro σ v1 v2 v100 H locs ls S hl  hf
  unfold f_X8_setJammed_32 at hf
  refine lv_istore_n (lv' := [(3, .int v100), (0, .ref (ad 8 0)), (1, .int v1), (2, .int v2)]) C.1 C.2.1 dX8_setJammed_32 rfl hl (by decide) rfl (fun ls hl => ?_)
  refine lv_aload_n C.1 C.2.1 dX8_setJammed_33 rfl (lv_at hl 1 rfl) ?_
  refine z_getR C S 8 0 rfl (by decide) cf_8 0 (by decide) _ (gr_8_0 G ad 0) tw_6_118 dX8_setJammed_34 ?_
  refine lv_bipush (v := 39) C.1 C.2.1 dX8_setJammed_37 (by decide) ?_
  refine lv_iload_n C.1 C.2.1 dX8_setJammed_39 rfl (lv_at hl 2 rfl) ?_
  refine lv_iadd C.1 C.2.1 dX8_setJammed_40 ?_
  refine lv_iload_n C.1 C.2.1 dX8_setJammed_41 rfl (lv_at hl 3 rfl) ?_
  refine lv_if_eq (tgt := 49) C.1 C.2.1 dX8_setJammed_42 (by decide) (fun c_42 => ?_) (fun c_42 => ?_)
  · rw [if_pos c_42] at hf
    refine lv_iconst (v := 0) C.1 C.2.1 dX8_setJammed_49 (by decide) ?_
    exact w_X8_setJammed_50 C _ v100 (39 + v1) 0 _ _ _ S (lv_sub hl [0] rfl) hf
  · rw [if_neg c_42] at hf
    refine lv_iconst (v := 1) C.1 C.2.1 dX8_setJammed_45 (by decide) ?_
    refine lv_goto (tgt := 50) C.1 C.2.1 dX8_setJammed_46 (by decide) ?_
    exact w_X8_setJammed_50 C _ v100 (39 + v1) 1 _ _ _ S (lv_sub hl [0] rfl) hf
set_option maxHeartbeats 4000000 in
set_option maxRecDepth 100000 in
theorem w_X8_setJammed_0 {p : Program} {l : Launch} {e : Env} {s : State} {m : MethodId} {args : Array Value} {below : List Frame} {meth : Method} {c : Code} {G : Gx} {ad : Ad} {res : Int32 × Sg} (C : Cx p s m args meth c yX8_setJammed.cls cX8_setJammed 4 (Option.some FieldType.boolean) G)  : ∀ (σ : Sg) (v1 : Int32) (v2 : Int32) (H : Heap) (locs : List Loc) (ls : Array Slot), z_S 1 G ad σ (z_A 1 ad s.heap.size) s.heap H locs → lv_has ls 4 [(0, .ref (ad 8 0)), (1, .int v1), (2, .int v2)] → f_X8_setJammed  σ v1 v2 = some res → W p l e { frames := 2, cells := 0, slots := 0, locals := 45 } s m args below meth c H locs 0 0 (MQ below (va_Qi (S := Unit) (fun r1 _ => r1 = res.1) (fun _ t => z_W 1 G ad res.2 t.heap) (z_A 1 ad s.heap.size)) args s 0 0 (z_A 1 ad s.heap.size)) (F0 m 0 ls []) := by
  intro σ v1 v2 H locs ls S hl  hf
  unfold f_X8_setJammed at hf
  refine lv_aload_n C.1 C.2.1 dX8_setJammed_0 rfl (lv_at hl 0 rfl) ?_
  refine lv_iload_n C.1 C.2.1 dX8_setJammed_1 rfl (lv_at hl 1 rfl) ?_
  obtain ⟨r2, σ1, q_2, hf⟩ := bib hf
  refine z_callI C S 8 0 rfl (by decide) cf_8 ⟨_, rfl⟩ [.int v1] (m_X8_noCar l G ad σ v1 r2 σ1 q_2 _) kv_X8_noCar tw_7_68 ⟨Nat.le_of_ble_eq_true rfl, Nat.le_of_ble_eq_true rfl⟩ rfl rfl (Nat.le_of_ble_eq_true rfl) hl.1 ⟨Nat.le_of_ble_eq_true rfl, Nat.le_of_ble_eq_true rfl⟩ dX8_setJammed_2 (fun H locs S => ?_)
  refine lv_if_eq (tgt := 10) C.1 C.2.1 dX8_setJammed_5 (by decide) (fun c_5 => ?_) (fun c_5 => ?_)
  · rw [if_pos c_5] at hf
    refine lv_aload_n C.1 C.2.1 dX8_setJammed_10 rfl (lv_at hl 0 rfl) ?_
    obtain ⟨σ3, q_11, hf⟩ := bvb hf
    refine z_callV C S 8 0 rfl (by decide) cf_8 ⟨_, rfl⟩ [] (m_X8_remembers l G ad σ1 σ3 q_11 _) kv_X8_remembers tw_7_178 ⟨Nat.le_of_ble_eq_true rfl, Nat.le_of_ble_eq_true rfl⟩ rfl rfl (Nat.le_of_ble_eq_true rfl) hl.1 ⟨Nat.le_of_ble_eq_true rfl, Nat.le_of_ble_eq_true rfl⟩ dX8_setJammed_11 (fun H locs S => ?_)
    refine lv_aload_n C.1 C.2.1 dX8_setJammed_14 rfl (lv_at hl 0 rfl) ?_
    refine z_getR C S 8 0 rfl (by decide) cf_8 0 (by decide) _ (gr_8_0 G ad 0) tw_6_118 dX8_setJammed_15 ?_
    refine lv_bipush (v := 39) C.1 C.2.1 dX8_setJammed_18 (by decide) ?_
    refine lv_iload_n C.1 C.2.1 dX8_setJammed_20 rfl (lv_at hl 1 rfl) ?_
    refine lv_iadd C.1 C.2.1 dX8_setJammed_21 ?_
    obtain ⟨g_22, hf⟩ := gd hf
    refine z_iald C S 30 0 rfl (by decide) 2111 (fun _ => rfl) g_22 dX8_setJammed_22 ?_
    refine lv_iconst (v := 1) C.1 C.2.1 dX8_setJammed_23 (by decide) ?_
    refine lv_icmp_ne (tgt := 31) C.1 C.2.1 dX8_setJammed_24 (by decide) (fun c_24 => ?_) (fun c_24 => ?_)
    · rw [if_neg c_24] at hf
      refine lv_iconst (v := 0) C.1 C.2.1 dX8_setJammed_31 (by decide) ?_
      exact w_X8_setJammed_32 C _ v1 v2 0 _ _ _ S (lv_sub hl [0, 1, 2] rfl) hf
    · rw [if_pos c_24] at hf
      refine lv_iconst (v := 1) C.1 C.2.1 dX8_setJammed_27 (by decide) ?_
      refine lv_goto (tgt := 32) C.1 C.2.1 dX8_setJammed_28 (by decide) ?_
      exact w_X8_setJammed_32 C _ v1 v2 1 _ _ _ S (lv_sub hl [0, 1, 2] rfl) hf
  · rw [if_neg c_5] at hf
    refine lv_iconst (v := 0) C.1 C.2.1 dX8_setJammed_8 (by decide) ?_
    exact z_zret C S rfl hf dX8_setJammed_9
theorem kv_X8_setJammed : KV yX8_setJammed cX8_setJammed 4 (Option.some FieldType.boolean) 2 := ⟨tw_8_37, tw_8_35, tw_8_36, tw_1_10, by decide, by decide, by decide +kernel⟩
theorem m_X8_setJammed (l : Launch) (G : Gx) (ad : Ad) (σ : Sg) (v1 : Int32) (v2 : Int32) (r : Int32) (σ' : Sg)  (hf : f_X8_setJammed σ v1 v2 = some (r, σ')) (sz : Nat) : z_MI l yX8_setJammed cX8_setJammed 4 (Option.some FieldType.boolean) 2 45 1 G ad σ sz [.ref (ad 8 0), .int v1, .int v2] r σ' := by
  refine z_begin (by decide +kernel) (Nat.le_of_ble_eq_true rfl) [(0, .ref (ad 8 0)), (1, .int v1), (2, .int v2)] rfl (fun p e s m args below meth c ls C hz S hl => ?_)
  subst hz
  exact w_X8_setJammed_0 (res := (r, σ')) C σ v1 v2 _ _ _ S hl  hf

theorem dX8_least_0 : decode cX8_least 0 = .ok (.iload_n 0, 1) := by decide +kernel
theorem dX8_least_1 : decode cX8_least 1 = .ok (.iconst 1, 1) := by decide +kernel
theorem dX8_least_2 : decode cX8_least 2 = .ok (.if_icmp .ne 7, 3) := by decide +kernel
theorem dX8_least_5 : decode cX8_least 5 = .ok (.iconst 3, 1) := by decide +kernel
theorem dX8_least_6 : decode cX8_least 6 = .ok (.goto 13, 3) := by decide +kernel
theorem dX8_least_9 : decode cX8_least 9 = .ok (.iload_n 0, 1) := by decide +kernel
theorem dX8_least_10 : decode cX8_least 10 = .ok (.iconst 4, 1) := by decide +kernel
theorem dX8_least_11 : decode cX8_least 11 = .ok (.if_icmp .ne 7, 3) := by decide +kernel
theorem dX8_least_14 : decode cX8_least 14 = .ok (.iconst 1, 1) := by decide +kernel
theorem dX8_least_15 : decode cX8_least 15 = .ok (.goto 4, 3) := by decide +kernel
theorem dX8_least_18 : decode cX8_least 18 = .ok (.iconst 0, 1) := by decide +kernel
theorem dX8_least_19 : decode cX8_least 19 = .ok (.ireturn, 1) := by decide +kernel
/-! BusLiftsModel.least(I)I -/
noncomputable def f_X8_least_19  (σ : Sg) (v100 : Int32) : Option (Int32 × Sg) := some (v100, σ)
noncomputable def f_X8_least  (σ : Sg) (v0 : Int32) : Option (Int32 × Sg) := if v0 = 1 then (f_X8_least_19 σ 3) else (if v0 = 4 then (f_X8_least_19 σ 1) else (f_X8_least_19 σ 0))
set_option maxHeartbeats 4000000 in
set_option maxRecDepth 100000 in
theorem w_X8_least_19 {p : Program} {l : Launch} {e : Env} {s : State} {m : MethodId} {args : Array Value} {below : List Frame} {meth : Method} {c : Code} {G : Gx} {ad : Ad} {res : Int32 × Sg} (C : Cx p s m args meth c yX8_least.cls cX8_least 1 (Option.some FieldType.int) G)  : ∀ (σ : Sg) (v100 : Int32) (H : Heap) (locs : List Loc) (ls : Array Slot), z_S 1 G ad σ (z_A 1 ad s.heap.size) s.heap H locs → lv_has ls 1 [] → f_X8_least_19  σ v100 = some res → W p l e { frames := 0, cells := 0, slots := 0, locals := 0 } s m args below meth c H locs 0 0 (MQ below (va_Qi (S := Unit) (fun r1 _ => r1 = res.1) (fun _ t => z_W 1 G ad res.2 t.heap) (z_A 1 ad s.heap.size)) args s 0 0 (z_A 1 ad s.heap.size)) (F0 m 19 ls [.int v100]) := by
  intro σ v100 H locs ls S hl  hf
  unfold f_X8_least_19 at hf
  exact z_iret C S hf dX8_least_19
set_option maxHeartbeats 4000000 in
set_option maxRecDepth 100000 in
theorem w_X8_least_0 {p : Program} {l : Launch} {e : Env} {s : State} {m : MethodId} {args : Array Value} {below : List Frame} {meth : Method} {c : Code} {G : Gx} {ad : Ad} {res : Int32 × Sg} (C : Cx p s m args meth c yX8_least.cls cX8_least 1 (Option.some FieldType.int) G)  : ∀ (σ : Sg) (v0 : Int32) (H : Heap) (locs : List Loc) (ls : Array Slot), z_S 1 G ad σ (z_A 1 ad s.heap.size) s.heap H locs → lv_has ls 1 [(0, .int v0)] → f_X8_least  σ v0 = some res → W p l e { frames := 0, cells := 0, slots := 0, locals := 0 } s m args below meth c H locs 0 0 (MQ below (va_Qi (S := Unit) (fun r1 _ => r1 = res.1) (fun _ t => z_W 1 G ad res.2 t.heap) (z_A 1 ad s.heap.size)) args s 0 0 (z_A 1 ad s.heap.size)) (F0 m 0 ls []) := by
  intro σ v0 H locs ls S hl  hf
  unfold f_X8_least at hf
  refine lv_iload_n C.1 C.2.1 dX8_least_0 rfl (lv_at hl 0 rfl) ?_
  refine lv_iconst (v := 1) C.1 C.2.1 dX8_least_1 (by decide) ?_
  refine lv_icmp_ne (tgt := 9) C.1 C.2.1 dX8_least_2 (by decide) (fun c_2 => ?_) (fun c_2 => ?_)
  · rw [if_neg c_2] at hf
    refine lv_iload_n C.1 C.2.1 dX8_least_9 rfl (lv_at hl 0 rfl) ?_
    refine lv_iconst (v := 4) C.1 C.2.1 dX8_least_10 (by decide) ?_
    refine lv_icmp_ne (tgt := 18) C.1 C.2.1 dX8_least_11 (by decide) (fun c_11 => ?_) (fun c_11 => ?_)
    · rw [if_neg c_11] at hf
      refine lv_iconst (v := 0) C.1 C.2.1 dX8_least_18 (by decide) ?_
      exact w_X8_least_19 C _ 0 _ _ _ S (lv_sub hl [] rfl) hf
    · rw [if_pos c_11] at hf
      refine lv_iconst (v := 1) C.1 C.2.1 dX8_least_14 (by decide) ?_
      refine lv_goto (tgt := 19) C.1 C.2.1 dX8_least_15 (by decide) ?_
      exact w_X8_least_19 C _ 1 _ _ _ S (lv_sub hl [] rfl) hf
  · rw [if_pos c_2] at hf
    refine lv_iconst (v := 3) C.1 C.2.1 dX8_least_5 (by decide) ?_
    refine lv_goto (tgt := 19) C.1 C.2.1 dX8_least_6 (by decide) ?_
    exact w_X8_least_19 C _ 3 _ _ _ S (lv_sub hl [] rfl) hf
theorem kv_X8_least : KS yX8_least cX8_least 1 (Option.some FieldType.int) 1 := ⟨tw_8_44, tw_8_43, tw_1_10, by decide, by decide, by decide +kernel⟩
theorem m_X8_least (l : Launch) (G : Gx) (ad : Ad) (σ : Sg) (v0 : Int32) (r : Int32) (σ' : Sg)  (hf : f_X8_least σ v0 = some (r, σ')) (sz : Nat) : z_MI l yX8_least cX8_least 1 (Option.some FieldType.int) 0 0 1 G ad σ sz [.int v0] r σ' := by
  refine z_begin (by decide +kernel) (Nat.le_of_ble_eq_true rfl) [(0, .int v0)] rfl (fun p e s m args below meth c ls C hz S hl => ?_)
  subst hz
  exact w_X8_least_0 (res := (r, σ')) C σ v0 _ _ _ S hl  hf

theorem dX8_most_0 : decode cX8_most 0 = .ok (.iload_n 0, 1) := by decide +kernel
theorem dX8_most_1 : decode cX8_most 1 = .ok (.ifCond .ne 8, 3) := by decide +kernel
theorem dX8_most_4 : decode cX8_most 4 = .ok (.bipush 90, 2) := by decide +kernel
theorem dX8_most_6 : decode cX8_most 6 = .ok (.goto 35, 3) := by decide +kernel
theorem dX8_most_9 : decode cX8_most 9 = .ok (.iload_n 0, 1) := by decide +kernel
theorem dX8_most_10 : decode cX8_most 10 = .ok (.iconst 1, 1) := by decide +kernel
theorem dX8_most_11 : decode cX8_most 11 = .ok (.if_icmp .ne 8, 3) := by decide +kernel
theorem dX8_most_14 : decode cX8_most 14 = .ok (.bipush 50, 2) := by decide +kernel
theorem dX8_most_16 : decode cX8_most 16 = .ok (.goto 25, 3) := by decide +kernel
theorem dX8_most_19 : decode cX8_most 19 = .ok (.iload_n 0, 1) := by decide +kernel
theorem dX8_most_20 : decode cX8_most 20 = .ok (.iconst 2, 1) := by decide +kernel
theorem dX8_most_21 : decode cX8_most 21 = .ok (.if_icmp .ne 8, 3) := by decide +kernel
theorem dX8_most_24 : decode cX8_most 24 = .ok (.bipush 20, 2) := by decide +kernel
theorem dX8_most_26 : decode cX8_most 26 = .ok (.goto 15, 3) := by decide +kernel
theorem dX8_most_29 : decode cX8_most 29 = .ok (.iload_n 0, 1) := by decide +kernel
theorem dX8_most_30 : decode cX8_most 30 = .ok (.iconst 3, 1) := by decide +kernel
theorem dX8_most_31 : decode cX8_most 31 = .ok (.if_icmp .ne 7, 3) := by decide +kernel
theorem dX8_most_34 : decode cX8_most 34 = .ok (.iconst 5, 1) := by decide +kernel
theorem dX8_most_35 : decode cX8_most 35 = .ok (.goto 6, 3) := by decide +kernel
theorem dX8_most_38 : decode cX8_most 38 = .ok (.sipush 999, 3) := by decide +kernel
theorem dX8_most_41 : decode cX8_most 41 = .ok (.ireturn, 1) := by decide +kernel
/-! BusLiftsModel.most(I)I -/
noncomputable def f_X8_most_41  (σ : Sg) (v100 : Int32) : Option (Int32 × Sg) := some (v100, σ)
noncomputable def f_X8_most  (σ : Sg) (v0 : Int32) : Option (Int32 × Sg) := if v0 = 0 then (f_X8_most_41 σ 90) else (if v0 = 1 then (f_X8_most_41 σ 50) else (if v0 = 2 then (f_X8_most_41 σ 20) else (if v0 = 3 then (f_X8_most_41 σ 5) else (f_X8_most_41 σ 999))))
set_option maxHeartbeats 4000000 in
set_option maxRecDepth 100000 in
theorem w_X8_most_41 {p : Program} {l : Launch} {e : Env} {s : State} {m : MethodId} {args : Array Value} {below : List Frame} {meth : Method} {c : Code} {G : Gx} {ad : Ad} {res : Int32 × Sg} (C : Cx p s m args meth c yX8_most.cls cX8_most 1 (Option.some FieldType.int) G)  : ∀ (σ : Sg) (v100 : Int32) (H : Heap) (locs : List Loc) (ls : Array Slot), z_S 1 G ad σ (z_A 1 ad s.heap.size) s.heap H locs → lv_has ls 1 [] → f_X8_most_41  σ v100 = some res → W p l e { frames := 0, cells := 0, slots := 0, locals := 0 } s m args below meth c H locs 0 0 (MQ below (va_Qi (S := Unit) (fun r1 _ => r1 = res.1) (fun _ t => z_W 1 G ad res.2 t.heap) (z_A 1 ad s.heap.size)) args s 0 0 (z_A 1 ad s.heap.size)) (F0 m 41 ls [.int v100]) := by
  intro σ v100 H locs ls S hl  hf
  unfold f_X8_most_41 at hf
  exact z_iret C S hf dX8_most_41
set_option maxHeartbeats 4000000 in
set_option maxRecDepth 100000 in
theorem w_X8_most_0 {p : Program} {l : Launch} {e : Env} {s : State} {m : MethodId} {args : Array Value} {below : List Frame} {meth : Method} {c : Code} {G : Gx} {ad : Ad} {res : Int32 × Sg} (C : Cx p s m args meth c yX8_most.cls cX8_most 1 (Option.some FieldType.int) G)  : ∀ (σ : Sg) (v0 : Int32) (H : Heap) (locs : List Loc) (ls : Array Slot), z_S 1 G ad σ (z_A 1 ad s.heap.size) s.heap H locs → lv_has ls 1 [(0, .int v0)] → f_X8_most  σ v0 = some res → W p l e { frames := 0, cells := 0, slots := 0, locals := 0 } s m args below meth c H locs 0 0 (MQ below (va_Qi (S := Unit) (fun r1 _ => r1 = res.1) (fun _ t => z_W 1 G ad res.2 t.heap) (z_A 1 ad s.heap.size)) args s 0 0 (z_A 1 ad s.heap.size)) (F0 m 0 ls []) := by
  intro σ v0 H locs ls S hl  hf
  unfold f_X8_most at hf
  refine lv_iload_n C.1 C.2.1 dX8_most_0 rfl (lv_at hl 0 rfl) ?_
  refine lv_if_ne (tgt := 9) C.1 C.2.1 dX8_most_1 (by decide) (fun c_1 => ?_) (fun c_1 => ?_)
  · rw [if_neg c_1] at hf
    refine lv_iload_n C.1 C.2.1 dX8_most_9 rfl (lv_at hl 0 rfl) ?_
    refine lv_iconst (v := 1) C.1 C.2.1 dX8_most_10 (by decide) ?_
    refine lv_icmp_ne (tgt := 19) C.1 C.2.1 dX8_most_11 (by decide) (fun c_11 => ?_) (fun c_11 => ?_)
    · rw [if_neg c_11] at hf
      refine lv_iload_n C.1 C.2.1 dX8_most_19 rfl (lv_at hl 0 rfl) ?_
      refine lv_iconst (v := 2) C.1 C.2.1 dX8_most_20 (by decide) ?_
      refine lv_icmp_ne (tgt := 29) C.1 C.2.1 dX8_most_21 (by decide) (fun c_21 => ?_) (fun c_21 => ?_)
      · rw [if_neg c_21] at hf
        refine lv_iload_n C.1 C.2.1 dX8_most_29 rfl (lv_at hl 0 rfl) ?_
        refine lv_iconst (v := 3) C.1 C.2.1 dX8_most_30 (by decide) ?_
        refine lv_icmp_ne (tgt := 38) C.1 C.2.1 dX8_most_31 (by decide) (fun c_31 => ?_) (fun c_31 => ?_)
        · rw [if_neg c_31] at hf
          refine lv_sipush (v := 999) C.1 C.2.1 dX8_most_38 (by decide) ?_
          exact w_X8_most_41 C _ 999 _ _ _ S (lv_sub hl [] rfl) hf
        · rw [if_pos c_31] at hf
          refine lv_iconst (v := 5) C.1 C.2.1 dX8_most_34 (by decide) ?_
          refine lv_goto (tgt := 41) C.1 C.2.1 dX8_most_35 (by decide) ?_
          exact w_X8_most_41 C _ 5 _ _ _ S (lv_sub hl [] rfl) hf
      · rw [if_pos c_21] at hf
        refine lv_bipush (v := 20) C.1 C.2.1 dX8_most_24 (by decide) ?_
        refine lv_goto (tgt := 41) C.1 C.2.1 dX8_most_26 (by decide) ?_
        exact w_X8_most_41 C _ 20 _ _ _ S (lv_sub hl [] rfl) hf
    · rw [if_pos c_11] at hf
      refine lv_bipush (v := 50) C.1 C.2.1 dX8_most_14 (by decide) ?_
      refine lv_goto (tgt := 41) C.1 C.2.1 dX8_most_16 (by decide) ?_
      exact w_X8_most_41 C _ 50 _ _ _ S (lv_sub hl [] rfl) hf
  · rw [if_pos c_1] at hf
    refine lv_bipush (v := 90) C.1 C.2.1 dX8_most_4 (by decide) ?_
    refine lv_goto (tgt := 41) C.1 C.2.1 dX8_most_6 (by decide) ?_
    exact w_X8_most_41 C _ 90 _ _ _ S (lv_sub hl [] rfl) hf
theorem kv_X8_most : KS yX8_most cX8_most 1 (Option.some FieldType.int) 1 := ⟨tw_8_47, tw_8_46, tw_1_10, by decide, by decide, by decide +kernel⟩
theorem m_X8_most (l : Launch) (G : Gx) (ad : Ad) (σ : Sg) (v0 : Int32) (r : Int32) (σ' : Sg)  (hf : f_X8_most σ v0 = some (r, σ')) (sz : Nat) : z_MI l yX8_most cX8_most 1 (Option.some FieldType.int) 0 0 1 G ad σ sz [.int v0] r σ' := by
  refine z_begin (by decide +kernel) (Nat.le_of_ble_eq_true rfl) [(0, .int v0)] rfl (fun p e s m args below meth c ls C hz S hl => ?_)
  subst hz
  exact w_X8_most_0 (res := (r, σ')) C σ v0 _ _ _ S hl  hf

theorem dX8_set_0 : decode cX8_set 0 = .ok (.aload_n 0, 1) := by decide +kernel
theorem dX8_set_1 : decode cX8_set 1 = .ok (.iconst 0, 1) := by decide +kernel
theorem dX8_set_2 : decode cX8_set 2 = .ok (.putfield 48, 3) := by decide +kernel
theorem dX8_set_5 : decode cX8_set 5 = .ok (.aload_n 0, 1) := by decide +kernel
theorem dX8_set_6 : decode cX8_set 6 = .ok (.iload_n 1, 1) := by decide +kernel
theorem dX8_set_7 : decode cX8_set 7 = .ok (.iconst 0, 1) := by decide +kernel
theorem dX8_set_8 : decode cX8_set 8 = .ok (.iconst 4, 1) := by decide +kernel
theorem dX8_set_9 : decode cX8_set 9 = .ok (.invokestatic 165, 3) := by decide +kernel
theorem dX8_set_12 : decode cX8_set 12 = .ok (.ifCond .eq 18, 3) := by decide +kernel
theorem dX8_set_15 : decode cX8_set 15 = .ok (.iload_n 2, 1) := by decide +kernel
theorem dX8_set_16 : decode cX8_set 16 = .ok (.iload_n 1, 1) := by decide +kernel
theorem dX8_set_17 : decode cX8_set 17 = .ok (.invokestatic 301, 3) := by decide +kernel
theorem dX8_set_20 : decode cX8_set 20 = .ok (.iload_n 1, 1) := by decide +kernel
theorem dX8_set_21 : decode cX8_set 21 = .ok (.invokestatic 304, 3) := by decide +kernel
theorem dX8_set_24 : decode cX8_set 24 = .ok (.invokestatic 165, 3) := by decide +kernel
theorem dX8_set_27 : decode cX8_set 27 = .ok (.ifCond .ne 7, 3) := by decide +kernel
theorem dX8_set_30 : decode cX8_set 30 = .ok (.iconst 1, 1) := by decide +kernel
theorem dX8_set_31 : decode cX8_set 31 = .ok (.goto 4, 3) := by decide +kernel
theorem dX8_set_34 : decode cX8_set 34 = .ok (.iconst 0, 1) := by decide +kernel
theorem dX8_set_35 : decode cX8_set 35 = .ok (.iconst 1, 1) := by decide +kernel
theorem dX8_set_36 : decode cX8_set 36 = .ok (.invokevirtual 267, 3) := by decide +kernel
theorem dX8_set_39 : decode cX8_set 39 = .ok (.ifCond .eq 5, 3) := by decide +kernel
theorem dX8_set_42 : decode cX8_set 42 = .ok (.iconst 0, 1) := by decide +kernel
theorem dX8_set_43 : decode cX8_set 43 = .ok (.ireturn, 1) := by decide +kernel
theorem dX8_set_44 : decode cX8_set 44 = .ok (.aload_n 0, 1) := by decide +kernel
theorem dX8_set_45 : decode cX8_set 45 = .ok (.invokevirtual 292, 3) := by decide +kernel
theorem dX8_set_48 : decode cX8_set 48 = .ok (.aload_n 0, 1) := by decide +kernel
theorem dX8_set_49 : decode cX8_set 49 = .ok (.getfield 7, 3) := by decide +kernel
theorem dX8_set_52 : decode cX8_set 52 = .ok (.iconst 4, 1) := by decide +kernel
theorem dX8_set_53 : decode cX8_set 53 = .ok (.iload_n 1, 1) := by decide +kernel
theorem dX8_set_54 : decode cX8_set 54 = .ok (.iadd, 1) := by decide +kernel
theorem dX8_set_55 : decode cX8_set 55 = .ok (.iaload, 1) := by decide +kernel
theorem dX8_set_56 : decode cX8_set 56 = .ok (.istore_n 3, 1) := by decide +kernel
theorem dX8_set_57 : decode cX8_set 57 = .ok (.aload_n 0, 1) := by decide +kernel
theorem dX8_set_58 : decode cX8_set 58 = .ok (.getfield 7, 3) := by decide +kernel
theorem dX8_set_61 : decode cX8_set 61 = .ok (.iconst 4, 1) := by decide +kernel
theorem dX8_set_62 : decode cX8_set 62 = .ok (.iload_n 1, 1) := by decide +kernel
theorem dX8_set_63 : decode cX8_set 63 = .ok (.iadd, 1) := by decide +kernel
theorem dX8_set_64 : decode cX8_set 64 = .ok (.iload_n 2, 1) := by decide +kernel
theorem dX8_set_65 : decode cX8_set 65 = .ok (.iastore, 1) := by decide +kernel
theorem dX8_set_66 : decode cX8_set 66 = .ok (.iload_n 3, 1) := by decide +kernel
theorem dX8_set_67 : decode cX8_set 67 = .ok (.ireturn, 1) := by decide +kernel
/-! BusLiftsModel.set(II)I -/
noncomputable def f_X8_set_35  (σ : Sg) (v1 : Int32) (v2 : Int32) (v101 : Int32) : Option (Int32 × Sg) := bi (f_X8_fails σ v101 1) fun r2 σ1 => (if r2 = 0 then (bv (f_X8_remembers σ1) fun σ3 => (if (4 + v1) < 0 ∨ 2111 ≤ ((4 + v1)).toNatClampNeg then none else (if (4 + v1) < 0 ∨ 2111 ≤ ((4 + v1)).toNatClampNeg then none else (st (sup σ3 30 0 ((4 + v1)).toNatClampNeg v2) fun σ4 => (some ((σ3 30 0 ((4 + v1)).toNatClampNeg), σ4)))))) else (some (0, σ1)))
noncomputable def f_X8_set_30  (σ : Sg) (v1 : Int32) (v2 : Int32) : Option (Int32 × Sg) := f_X8_set_35 σ v1 v2 1
noncomputable def f_X8_set  (σ : Sg) (v1 : Int32) (v2 : Int32) : Option (Int32 × Sg) := st (sup σ 8 0 8 0) fun σ1 => (bi (f_X8_inRange σ1 v1 0 4) fun r3 σ2 => (if r3 = 0 then (f_X8_set_30 σ2 v1 v2) else (bi (f_X8_least σ2 v1) fun r5 σ4 => (bi (f_X8_most σ4 v1) fun r7 σ6 => (bi (f_X8_inRange σ6 v2 r5 r7) fun r9 σ8 => (if r9 = 0 then (f_X8_set_30 σ8 v1 v2) else (f_X8_set_35 σ8 v1 v2 0)))))))
set_option maxHeartbeats 4000000 in
set_option maxRecDepth 100000 in
theorem w_X8_set_35 {p : Program} {l : Launch} {e : Env} {s : State} {m : MethodId} {args : Array Value} {below : List Frame} {meth : Method} {c : Code} {G : Gx} {ad : Ad} {res : Int32 × Sg} (C : Cx p s m args meth c yX8_set.cls cX8_set 4 (Option.some FieldType.int) G)  : ∀ (σ : Sg) (v1 : Int32) (v2 : Int32) (v101 : Int32) (H : Heap) (locs : List Loc) (ls : Array Slot), z_S 1 G ad σ (z_A 1 ad s.heap.size) s.heap H locs → lv_has ls 4 [(0, .ref (ad 8 0)), (1, .int v1), (2, .int v2)] → f_X8_set_35  σ v1 v2 v101 = some res → W p l e { frames := 2, cells := 0, slots := 0, locals := 45 } s m args below meth c H locs 0 0 (MQ below (va_Qi (S := Unit) (fun r1 _ => r1 = res.1) (fun _ t => z_W 1 G ad res.2 t.heap) (z_A 1 ad s.heap.size)) args s 0 0 (z_A 1 ad s.heap.size)) (F0 m 35 ls [.int v101, .ref (ad 8 0)]) := by
  intro σ v1 v2 v101 H locs ls S hl  hf
  unfold f_X8_set_35 at hf
  refine lv_iconst (v := 1) C.1 C.2.1 dX8_set_35 (by decide) ?_
  obtain ⟨r2, σ1, q_36, hf⟩ := bib hf
  refine z_callI C S 8 0 rfl (by decide) cf_8 ⟨_, rfl⟩ [.int v101, .int 1] (m_X8_fails l G ad σ v101 1 r2 σ1 q_36 _) kv_X8_fails tw_7_56 ⟨Nat.le_of_ble_eq_true rfl, Nat.le_of_ble_eq_true rfl⟩ rfl rfl (Nat.le_of_ble_eq_true rfl) hl.1 ⟨Nat.le_of_ble_eq_true rfl, Nat.le_of_ble_eq_true rfl⟩ dX8_set_36 (fun H locs S => ?_)
  refine lv_if_eq (tgt := 44) C.1 C.2.1 dX8_set_39 (by decide) (fun c_39 => ?_) (fun c_39 => ?_)
  · rw [if_pos c_39] at hf
    refine lv_aload_n C.1 C.2.1 dX8_set_44 rfl (lv_at hl 0 rfl) ?_
    obtain ⟨σ3, q_45, hf⟩ := bvb hf
    refine z_callV C S 8 0 rfl (by decide) cf_8 ⟨_, rfl⟩ [] (m_X8_remembers l G ad σ1 σ3 q_45 _) kv_X8_remembers tw_7_178 ⟨Nat.le_of_ble_eq_true rfl, Nat.le_of_ble_eq_true rfl⟩ rfl rfl (Nat.le_of_ble_eq_true rfl) hl.1 ⟨Nat.le_of_ble_eq_true rfl, Nat.le_of_ble_eq_true rfl⟩ dX8_set_45 (fun H locs S => ?_)
    refine lv_aload_n C.1 C.2.1 dX8_set_48 rfl (lv_at hl 0 rfl) ?_
    refine z_getR C S 8 0 rfl (by decide) cf_8 0 (by decide) _ (gr_8_0 G ad 0) tw_6_118 dX8_set_49 ?_
    refine lv_iconst (v := 4) C.1 C.2.1 dX8_set_52 (by decide) ?_
    refine lv_iload_n C.1 C.2.1 dX8_set_53 rfl (lv_at hl 1 rfl) ?_
    refine lv_iadd C.1 C.2.1 dX8_set_54 ?_
    obtain ⟨g_55, hf⟩ := gd hf
    refine z_iald C S 30 0 rfl (by decide) 2111 (fun _ => rfl) g_55 dX8_set_55 ?_
    refine lv_istore_n (lv' := [(3, .int (σ3 30 0 ((4 + v1)).toNatClampNeg)), (0, .ref (ad 8 0)), (1, .int v1), (2, .int v2)]) C.1 C.2.1 dX8_set_56 rfl hl (by decide) rfl (fun ls hl => ?_)
    refine lv_aload_n C.1 C.2.1 dX8_set_57 rfl (lv_at hl 1 rfl) ?_
    refine z_getR C S 8 0 rfl (by decide) cf_8 0 (by decide) _ (gr_8_0 G ad 0) tw_6_118 dX8_set_58 ?_
    refine lv_iconst (v := 4) C.1 C.2.1 dX8_set_61 (by decide) ?_
    refine lv_iload_n C.1 C.2.1 dX8_set_62 rfl (lv_at hl 2 rfl) ?_
    refine lv_iadd C.1 C.2.1 dX8_set_63 ?_
    refine lv_iload_n C.1 C.2.1 dX8_set_64 rfl (lv_at hl 3 rfl) ?_
    obtain ⟨g_65, hf⟩ := gd hf
    obtain ⟨σ4, e_65, hf⟩ := stb hf
    refine z_iast C S 30 0 rfl (by decide) 2111 (fun _ => rfl) g_65 dX8_set_65 (fun H locs S => ?_)
    rw [← e_65] at S
    refine lv_iload_n C.1 C.2.1 dX8_set_66 rfl (lv_at hl 0 rfl) ?_
    exact z_iret C S hf dX8_set_67
  · rw [if_neg c_39] at hf
    refine lv_iconst (v := 0) C.1 C.2.1 dX8_set_42 (by decide) ?_
    exact z_iret C S hf dX8_set_43
set_option maxHeartbeats 4000000 in
set_option maxRecDepth 100000 in
theorem w_X8_set_30 {p : Program} {l : Launch} {e : Env} {s : State} {m : MethodId} {args : Array Value} {below : List Frame} {meth : Method} {c : Code} {G : Gx} {ad : Ad} {res : Int32 × Sg} (C : Cx p s m args meth c yX8_set.cls cX8_set 4 (Option.some FieldType.int) G)  : ∀ (σ : Sg) (v1 : Int32) (v2 : Int32) (H : Heap) (locs : List Loc) (ls : Array Slot), z_S 1 G ad σ (z_A 1 ad s.heap.size) s.heap H locs → lv_has ls 4 [(0, .ref (ad 8 0)), (1, .int v1), (2, .int v2)] → f_X8_set_30  σ v1 v2 = some res → W p l e { frames := 2, cells := 0, slots := 0, locals := 45 } s m args below meth c H locs 0 0 (MQ below (va_Qi (S := Unit) (fun r1 _ => r1 = res.1) (fun _ t => z_W 1 G ad res.2 t.heap) (z_A 1 ad s.heap.size)) args s 0 0 (z_A 1 ad s.heap.size)) (F0 m 30 ls [.ref (ad 8 0)]) := by
  intro σ v1 v2 H locs ls S hl  hf
  unfold f_X8_set_30 at hf
  refine lv_iconst (v := 1) C.1 C.2.1 dX8_set_30 (by decide) ?_
  refine lv_goto (tgt := 35) C.1 C.2.1 dX8_set_31 (by decide) ?_
  exact w_X8_set_35 C _ v1 v2 1 _ _ _ S (lv_sub hl [0, 1, 2] rfl) hf
set_option maxHeartbeats 4000000 in
set_option maxRecDepth 100000 in
theorem w_X8_set_0 {p : Program} {l : Launch} {e : Env} {s : State} {m : MethodId} {args : Array Value} {below : List Frame} {meth : Method} {c : Code} {G : Gx} {ad : Ad} {res : Int32 × Sg} (C : Cx p s m args meth c yX8_set.cls cX8_set 4 (Option.some FieldType.int) G)  : ∀ (σ : Sg) (v1 : Int32) (v2 : Int32) (H : Heap) (locs : List Loc) (ls : Array Slot), z_S 1 G ad σ (z_A 1 ad s.heap.size) s.heap H locs → lv_has ls 4 [(0, .ref (ad 8 0)), (1, .int v1), (2, .int v2)] → f_X8_set  σ v1 v2 = some res → W p l e { frames := 2, cells := 0, slots := 0, locals := 45 } s m args below meth c H locs 0 0 (MQ below (va_Qi (S := Unit) (fun r1 _ => r1 = res.1) (fun _ t => z_W 1 G ad res.2 t.heap) (z_A 1 ad s.heap.size)) args s 0 0 (z_A 1 ad s.heap.size)) (F0 m 0 ls []) := by
  intro σ v1 v2 H locs ls S hl  hf
  unfold f_X8_set at hf
  refine lv_aload_n C.1 C.2.1 dX8_set_0 rfl (lv_at hl 0 rfl) ?_
  refine lv_iconst (v := 0) C.1 C.2.1 dX8_set_1 (by decide) ?_
  obtain ⟨σ1, e_2, hf⟩ := stb hf
  refine z_putI C S 8 0 rfl (by decide) cf_8 8 (by decide) (pi_8_8 G ad 0) rfl rfl rfl tw_6_126 dX8_set_2 (fun H locs S => ?_)
  rw [← e_2] at S
  refine lv_aload_n C.1 C.2.1 dX8_set_5 rfl (lv_at hl 0 rfl) ?_
  refine lv_iload_n C.1 C.2.1 dX8_set_6 rfl (lv_at hl 1 rfl) ?_
  refine lv_iconst (v := 0) C.1 C.2.1 dX8_set_7 (by decide) ?_
  refine lv_iconst (v := 4) C.1 C.2.1 dX8_set_8 (by decide) ?_
  obtain ⟨r3, σ2, q_9, hf⟩ := bib hf
  refine z_callSI C S [.int v1, .int 0, .int 4] (m_X8_inRange l G ad σ1 v1 0 4 r3 σ2 q_9 _) kv_X8_inRange tw_6_204 ⟨Nat.le_of_ble_eq_true rfl, Nat.le_of_ble_eq_true rfl⟩ rfl rfl (Nat.le_of_ble_eq_true rfl) hl.1 ⟨Nat.le_of_ble_eq_true rfl, Nat.le_of_ble_eq_true rfl⟩ dX8_set_9 (fun H locs S => ?_)
  refine lv_if_eq (tgt := 30) C.1 C.2.1 dX8_set_12 (by decide) (fun c_12 => ?_) (fun c_12 => ?_)
  · rw [if_pos c_12] at hf
    exact w_X8_set_30 C _ v1 v2 _ _ _ S (lv_sub hl [0, 1, 2] rfl) hf
  · rw [if_neg c_12] at hf
    refine lv_iload_n C.1 C.2.1 dX8_set_15 rfl (lv_at hl 2 rfl) ?_
    refine lv_iload_n C.1 C.2.1 dX8_set_16 rfl (lv_at hl 1 rfl) ?_
    obtain ⟨r5, σ4, q_17, hf⟩ := bib hf
    refine z_callSI C S [.int v1] (m_X8_least l G ad σ2 v1 r5 σ4 q_17 _) kv_X8_least tw_8_42 ⟨Nat.le_of_ble_eq_true rfl, Nat.le_of_ble_eq_true rfl⟩ rfl rfl (Nat.le_of_ble_eq_true rfl) hl.1 ⟨Nat.le_of_ble_eq_true rfl, Nat.le_of_ble_eq_true rfl⟩ dX8_set_17 (fun H locs S => ?_)
    refine lv_iload_n C.1 C.2.1 dX8_set_20 rfl (lv_at hl 1 rfl) ?_
    obtain ⟨r7, σ6, q_21, hf⟩ := bib hf
    refine z_callSI C S [.int v1] (m_X8_most l G ad σ4 v1 r7 σ6 q_21 _) kv_X8_most tw_8_45 ⟨Nat.le_of_ble_eq_true rfl, Nat.le_of_ble_eq_true rfl⟩ rfl rfl (Nat.le_of_ble_eq_true rfl) hl.1 ⟨Nat.le_of_ble_eq_true rfl, Nat.le_of_ble_eq_true rfl⟩ dX8_set_21 (fun H locs S => ?_)
    obtain ⟨r9, σ8, q_24, hf⟩ := bib hf
    refine z_callSI C S [.int v2, .int r5, .int r7] (m_X8_inRange l G ad σ6 v2 r5 r7 r9 σ8 q_24 _) kv_X8_inRange tw_6_204 ⟨Nat.le_of_ble_eq_true rfl, Nat.le_of_ble_eq_true rfl⟩ rfl rfl (Nat.le_of_ble_eq_true rfl) hl.1 ⟨Nat.le_of_ble_eq_true rfl, Nat.le_of_ble_eq_true rfl⟩ dX8_set_24 (fun H locs S => ?_)
    refine lv_if_ne (tgt := 34) C.1 C.2.1 dX8_set_27 (by decide) (fun c_27 => ?_) (fun c_27 => ?_)
    · rw [if_neg c_27] at hf
      refine lv_iconst (v := 0) C.1 C.2.1 dX8_set_34 (by decide) ?_
      exact w_X8_set_35 C _ v1 v2 0 _ _ _ S (lv_sub hl [0, 1, 2] rfl) hf
    · rw [if_pos c_27] at hf
      exact w_X8_set_30 C _ v1 v2 _ _ _ S (lv_sub hl [0, 1, 2] rfl) hf
theorem kv_X8_set : KV yX8_set cX8_set 4 (Option.some FieldType.int) 2 := ⟨tw_8_41, tw_8_39, tw_8_40, tw_1_10, by decide, by decide, by decide +kernel⟩
theorem m_X8_set (l : Launch) (G : Gx) (ad : Ad) (σ : Sg) (v1 : Int32) (v2 : Int32) (r : Int32) (σ' : Sg)  (hf : f_X8_set σ v1 v2 = some (r, σ')) (sz : Nat) : z_MI l yX8_set cX8_set 4 (Option.some FieldType.int) 2 45 1 G ad σ sz [.ref (ad 8 0), .int v1, .int v2] r σ' := by
  refine z_begin (by decide +kernel) (Nat.le_of_ble_eq_true rfl) [(0, .ref (ad 8 0)), (1, .int v1), (2, .int v2)] rfl (fun p e s m args below meth c ls C hz S hl => ?_)
  subst hz
  exact w_X8_set_0 (res := (r, σ')) C σ v1 v2 _ _ _ S hl  hf

theorem dX8_forget_0 : decode cX8_forget 0 = .ok (.aload_n 0, 1) := by decide +kernel
theorem dX8_forget_1 : decode cX8_forget 1 = .ok (.iload_n 1, 1) := by decide +kernel
theorem dX8_forget_2 : decode cX8_forget 2 = .ok (.iload_n 2, 1) := by decide +kernel
theorem dX8_forget_3 : decode cX8_forget 3 = .ok (.invokevirtual 283, 3) := by decide +kernel
theorem dX8_forget_6 : decode cX8_forget 6 = .ok (.ifCond .ne 25, 3) := by decide +kernel
theorem dX8_forget_9 : decode cX8_forget 9 = .ok (.aload_n 0, 1) := by decide +kernel
theorem dX8_forget_10 : decode cX8_forget 10 = .ok (.aload_n 0, 1) := by decide +kernel
theorem dX8_forget_11 : decode cX8_forget 11 = .ok (.iload_n 1, 1) := by decide +kernel
theorem dX8_forget_12 : decode cX8_forget 12 = .ok (.iload_n 2, 1) := by decide +kernel
theorem dX8_forget_13 : decode cX8_forget 13 = .ok (.invokevirtual 92, 3) := by decide +kernel
theorem dX8_forget_16 : decode cX8_forget 16 = .ok (.ifCond .ne 7, 3) := by decide +kernel
theorem dX8_forget_19 : decode cX8_forget 19 = .ok (.iconst 1, 1) := by decide +kernel
theorem dX8_forget_20 : decode cX8_forget 20 = .ok (.goto 4, 3) := by decide +kernel
theorem dX8_forget_23 : decode cX8_forget 23 = .ok (.iconst 0, 1) := by decide +kernel
theorem dX8_forget_24 : decode cX8_forget 24 = .ok (.iconst 2, 1) := by decide +kernel
theorem dX8_forget_25 : decode cX8_forget 25 = .ok (.invokevirtual 267, 3) := by decide +kernel
theorem dX8_forget_28 : decode cX8_forget 28 = .ok (.ifCond .eq 5, 3) := by decide +kernel
theorem dX8_forget_31 : decode cX8_forget 31 = .ok (.iconst 0, 1) := by decide +kernel
theorem dX8_forget_32 : decode cX8_forget 32 = .ok (.ireturn, 1) := by decide +kernel
theorem dX8_forget_33 : decode cX8_forget 33 = .ok (.aload_n 0, 1) := by decide +kernel
theorem dX8_forget_34 : decode cX8_forget 34 = .ok (.invokevirtual 292, 3) := by decide +kernel
theorem dX8_forget_37 : decode cX8_forget 37 = .ok (.aload_n 0, 1) := by decide +kernel
theorem dX8_forget_38 : decode cX8_forget 38 = .ok (.iload_n 1, 1) := by decide +kernel
theorem dX8_forget_39 : decode cX8_forget 39 = .ok (.iconst 3, 1) := by decide +kernel
theorem dX8_forget_40 : decode cX8_forget 40 = .ok (.iload_n 2, 1) := by decide +kernel
theorem dX8_forget_41 : decode cX8_forget 41 = .ok (.iload_n 1, 1) := by decide +kernel
theorem dX8_forget_42 : decode cX8_forget 42 = .ok (.iconst 0, 1) := by decide +kernel
theorem dX8_forget_43 : decode cX8_forget 43 = .ok (.invokevirtual 112, 3) := by decide +kernel
theorem dX8_forget_46 : decode cX8_forget 46 = .ok (.aload_n 0, 1) := by decide +kernel
theorem dX8_forget_47 : decode cX8_forget 47 = .ok (.iload_n 1, 1) := by decide +kernel
theorem dX8_forget_48 : decode cX8_forget 48 = .ok (.invokevirtual 76, 3) := by decide +kernel
theorem dX8_forget_51 : decode cX8_forget 51 = .ok (.ireturn, 1) := by decide +kernel
/-! BusLiftsModel.forget(II)I -/
noncomputable def f_X8_forget_31  (σ : Sg)  : Option (Int32 × Sg) := some (0, σ)
noncomputable def f_X8_forget_24  (σ : Sg) (v1 : Int32) (v2 : Int32) (v101 : Int32) : Option (Int32 × Sg) := bi (f_X8_fails σ v101 2) fun r2 σ1 => (if r2 = 0 then (bv (f_X8_remembers σ1) fun σ3 => (bv (f_X8_hears σ3 v1 3 v2 v1 0) fun σ4 => (bi (f_X8_heldMany σ4 v1) fun r6 σ5 => (some (r6, σ5))))) else (f_X8_forget_31 σ1))
noncomputable def f_X8_forget  (σ : Sg) (v1 : Int32) (v2 : Int32) : Option (Int32 × Sg) := bi (f_X8_noPair σ v1 v2) fun r2 σ1 => (if r2 = 0 then (bi (f_X8_doesHold σ1 v1 v2) fun r4 σ3 => (if r4 = 0 then (f_X8_forget_24 σ3 v1 v2 1) else (f_X8_forget_24 σ3 v1 v2 0))) else (f_X8_forget_31 σ1))
set_option maxHeartbeats 4000000 in
set_option maxRecDepth 100000 in
theorem w_X8_forget_31 {p : Program} {l : Launch} {e : Env} {s : State} {m : MethodId} {args : Array Value} {below : List Frame} {meth : Method} {c : Code} {G : Gx} {ad : Ad} {res : Int32 × Sg} (C : Cx p s m args meth c yX8_forget.cls cX8_forget 3 (Option.some FieldType.int) G)  : ∀ (σ : Sg)  (H : Heap) (locs : List Loc) (ls : Array Slot), z_S 1 G ad σ (z_A 1 ad s.heap.size) s.heap H locs → lv_has ls 3 [] → f_X8_forget_31  σ  = some res → W p l e { frames := 5, cells := 0, slots := 0, locals := 114 } s m args below meth c H locs 0 0 (MQ below (va_Qi (S := Unit) (fun r1 _ => r1 = res.1) (fun _ t => z_W 1 G ad res.2 t.heap) (z_A 1 ad s.heap.size)) args s 0 0 (z_A 1 ad s.heap.size)) (F0 m 31 ls []) := by
  intro σ  H locs ls S hl  hf
  unfold f_X8_forget_31 at hf
  refine lv_iconst (v := 0) C.1 C.2.1 dX8_forget_31 (by decide) ?_
  exact z_iret C S hf dX8_forget_32
set_option maxHeartbeats 4000000 in
set_option maxRecDepth 100000 in
theorem w_X8_forget_24 {p : Program} {l : Launch} {e : Env} {s : State} {m : MethodId} {args : Array Value} {below : List Frame} {meth : Method} {c : Code} {G : Gx} {ad : Ad} {res : Int32 × Sg} (C : Cx p s m args meth c yX8_forget.cls cX8_forget 3 (Option.some FieldType.int) G)  : ∀ (σ : Sg) (v1 : Int32) (v2 : Int32) (v101 : Int32) (H : Heap) (locs : List Loc) (ls : Array Slot), z_S 1 G ad σ (z_A 1 ad s.heap.size) s.heap H locs → lv_has ls 3 [(0, .ref (ad 8 0)), (1, .int v1), (2, .int v2)] → f_X8_forget_24  σ v1 v2 v101 = some res → W p l e { frames := 5, cells := 0, slots := 0, locals := 114 } s m args below meth c H locs 0 0 (MQ below (va_Qi (S := Unit) (fun r1 _ => r1 = res.1) (fun _ t => z_W 1 G ad res.2 t.heap) (z_A 1 ad s.heap.size)) args s 0 0 (z_A 1 ad s.heap.size)) (F0 m 24 ls [.int v101, .ref (ad 8 0)]) := by
  intro σ v1 v2 v101 H locs ls S hl  hf
  unfold f_X8_forget_24 at hf
  refine lv_iconst (v := 2) C.1 C.2.1 dX8_forget_24 (by decide) ?_
  obtain ⟨r2, σ1, q_25, hf⟩ := bib hf
  refine z_callI C S 8 0 rfl (by decide) cf_8 ⟨_, rfl⟩ [.int v101, .int 2] (m_X8_fails l G ad σ v101 2 r2 σ1 q_25 _) kv_X8_fails tw_7_56 ⟨Nat.le_of_ble_eq_true rfl, Nat.le_of_ble_eq_true rfl⟩ rfl rfl (Nat.le_of_ble_eq_true rfl) hl.1 ⟨Nat.le_of_ble_eq_true rfl, Nat.le_of_ble_eq_true rfl⟩ dX8_forget_25 (fun H locs S => ?_)
  refine lv_if_eq (tgt := 33) C.1 C.2.1 dX8_forget_28 (by decide) (fun c_28 => ?_) (fun c_28 => ?_)
  · rw [if_pos c_28] at hf
    refine lv_aload_n C.1 C.2.1 dX8_forget_33 rfl (lv_at hl 0 rfl) ?_
    obtain ⟨σ3, q_34, hf⟩ := bvb hf
    refine z_callV C S 8 0 rfl (by decide) cf_8 ⟨_, rfl⟩ [] (m_X8_remembers l G ad σ1 σ3 q_34 _) kv_X8_remembers tw_7_178 ⟨Nat.le_of_ble_eq_true rfl, Nat.le_of_ble_eq_true rfl⟩ rfl rfl (Nat.le_of_ble_eq_true rfl) hl.1 ⟨Nat.le_of_ble_eq_true rfl, Nat.le_of_ble_eq_true rfl⟩ dX8_forget_34 (fun H locs S => ?_)
    refine lv_aload_n C.1 C.2.1 dX8_forget_37 rfl (lv_at hl 0 rfl) ?_
    refine lv_iload_n C.1 C.2.1 dX8_forget_38 rfl (lv_at hl 1 rfl) ?_
    refine lv_iconst (v := 3) C.1 C.2.1 dX8_forget_39 (by decide) ?_
    refine lv_iload_n C.1 C.2.1 dX8_forget_40 rfl (lv_at hl 2 rfl) ?_
    refine lv_iload_n C.1 C.2.1 dX8_forget_41 rfl (lv_at hl 1 rfl) ?_
    refine lv_iconst (v := 0) C.1 C.2.1 dX8_forget_42 (by decide) ?_
    obtain ⟨σ4, q_43, hf⟩ := bvb hf
    refine z_callV C S 8 0 rfl (by decide) cf_8 ⟨_, rfl⟩ [.int v1, .int 3, .int v2, .int v1, .int 0] (m_X8_hears l G ad σ3 v1 3 v2 v1 0 σ4 q_43 _) kv_X8_hears tw_7_227 ⟨Nat.le_of_ble_eq_true rfl, Nat.le_of_ble_eq_true rfl⟩ rfl rfl (Nat.le_of_ble_eq_true rfl) hl.1 ⟨Nat.le_of_ble_eq_true rfl, Nat.le_of_ble_eq_true rfl⟩ dX8_forget_43 (fun H locs S => ?_)
    refine lv_aload_n C.1 C.2.1 dX8_forget_46 rfl (lv_at hl 0 rfl) ?_
    refine lv_iload_n C.1 C.2.1 dX8_forget_47 rfl (lv_at hl 1 rfl) ?_
    obtain ⟨r6, σ5, q_48, hf⟩ := bib hf
    refine z_callI C S 8 0 rfl (by decide) cf_8 ⟨_, rfl⟩ [.int v1] (m_X8_heldMany l G ad σ4 v1 r6 σ5 q_48 _) kv_X8_heldMany tw_7_72 ⟨Nat.le_of_ble_eq_true rfl, Nat.le_of_ble_eq_true rfl⟩ rfl rfl (Nat.le_of_ble_eq_true rfl) hl.1 ⟨Nat.le_of_ble_eq_true rfl, Nat.le_of_ble_eq_true rfl⟩ dX8_forget_48 (fun H locs S => ?_)
    exact z_iret C S hf dX8_forget_51
  · rw [if_neg c_28] at hf
    exact w_X8_forget_31 C _ _ _ _ S (lv_sub hl [] rfl) hf
set_option maxHeartbeats 4000000 in
set_option maxRecDepth 100000 in
theorem w_X8_forget_0 {p : Program} {l : Launch} {e : Env} {s : State} {m : MethodId} {args : Array Value} {below : List Frame} {meth : Method} {c : Code} {G : Gx} {ad : Ad} {res : Int32 × Sg} (C : Cx p s m args meth c yX8_forget.cls cX8_forget 3 (Option.some FieldType.int) G)  : ∀ (σ : Sg) (v1 : Int32) (v2 : Int32) (H : Heap) (locs : List Loc) (ls : Array Slot), z_S 1 G ad σ (z_A 1 ad s.heap.size) s.heap H locs → lv_has ls 3 [(0, .ref (ad 8 0)), (1, .int v1), (2, .int v2)] → f_X8_forget  σ v1 v2 = some res → W p l e { frames := 5, cells := 0, slots := 0, locals := 114 } s m args below meth c H locs 0 0 (MQ below (va_Qi (S := Unit) (fun r1 _ => r1 = res.1) (fun _ t => z_W 1 G ad res.2 t.heap) (z_A 1 ad s.heap.size)) args s 0 0 (z_A 1 ad s.heap.size)) (F0 m 0 ls []) := by
  intro σ v1 v2 H locs ls S hl  hf
  unfold f_X8_forget at hf
  refine lv_aload_n C.1 C.2.1 dX8_forget_0 rfl (lv_at hl 0 rfl) ?_
  refine lv_iload_n C.1 C.2.1 dX8_forget_1 rfl (lv_at hl 1 rfl) ?_
  refine lv_iload_n C.1 C.2.1 dX8_forget_2 rfl (lv_at hl 2 rfl) ?_
  obtain ⟨r2, σ1, q_3, hf⟩ := bib hf
  refine z_callI C S 8 0 rfl (by decide) cf_8 ⟨_, rfl⟩ [.int v1, .int v2] (m_X8_noPair l G ad σ v1 v2 r2 σ1 q_3 _) kv_X8_noPair tw_7_111 ⟨Nat.le_of_ble_eq_true rfl, Nat.le_of_ble_eq_true rfl⟩ rfl rfl (Nat.le_of_ble_eq_true rfl) hl.1 ⟨Nat.le_of_ble_eq_true rfl, Nat.le_of_ble_eq_true rfl⟩ dX8_forget_3 (fun H locs S => ?_)
  refine lv_if_ne (tgt := 31) C.1 C.2.1 dX8_forget_6 (by decide) (fun c_6 => ?_) (fun c_6 => ?_)
  · rw [if_neg c_6] at hf
    exact w_X8_forget_31 C _ _ _ _ S (lv_sub hl [] rfl) hf
  · rw [if_pos c_6] at hf
    refine lv_aload_n C.1 C.2.1 dX8_forget_9 rfl (lv_at hl 0 rfl) ?_
    refine lv_aload_n C.1 C.2.1 dX8_forget_10 rfl (lv_at hl 0 rfl) ?_
    refine lv_iload_n C.1 C.2.1 dX8_forget_11 rfl (lv_at hl 1 rfl) ?_
    refine lv_iload_n C.1 C.2.1 dX8_forget_12 rfl (lv_at hl 2 rfl) ?_
    obtain ⟨r4, σ3, q_13, hf⟩ := bib hf
    refine z_callI C S 8 0 rfl (by decide) cf_8 ⟨_, rfl⟩ [.int v1, .int v2] (m_X8_doesHold l G ad σ1 v1 v2 r4 σ3 q_13 _) kv_X8_doesHold tw_7_115 ⟨Nat.le_of_ble_eq_true rfl, Nat.le_of_ble_eq_true rfl⟩ rfl rfl (Nat.le_of_ble_eq_true rfl) hl.1 ⟨Nat.le_of_ble_eq_true rfl, Nat.le_of_ble_eq_true rfl⟩ dX8_forget_13 (fun H locs S => ?_)
    refine lv_if_ne (tgt := 23) C.1 C.2.1 dX8_forget_16 (by decide) (fun c_16 => ?_) (fun c_16 => ?_)
    · rw [if_neg c_16] at hf
      refine lv_iconst (v := 0) C.1 C.2.1 dX8_forget_23 (by decide) ?_
      exact w_X8_forget_24 C _ v1 v2 0 _ _ _ S (lv_sub hl [0, 1, 2] rfl) hf
    · rw [if_pos c_16] at hf
      refine lv_iconst (v := 1) C.1 C.2.1 dX8_forget_19 (by decide) ?_
      refine lv_goto (tgt := 24) C.1 C.2.1 dX8_forget_20 (by decide) ?_
      exact w_X8_forget_24 C _ v1 v2 1 _ _ _ S (lv_sub hl [0, 1, 2] rfl) hf
theorem kv_X8_forget : KV yX8_forget cX8_forget 3 (Option.some FieldType.int) 2 := ⟨tw_8_51, tw_8_49, tw_8_50, tw_1_10, by decide, by decide, by decide +kernel⟩
theorem m_X8_forget (l : Launch) (G : Gx) (ad : Ad) (σ : Sg) (v1 : Int32) (v2 : Int32) (r : Int32) (σ' : Sg)  (hf : f_X8_forget σ v1 v2 = some (r, σ')) (sz : Nat) : z_MI l yX8_forget cX8_forget 3 (Option.some FieldType.int) 5 114 1 G ad σ sz [.ref (ad 8 0), .int v1, .int v2] r σ' := by
  refine z_begin (by decide +kernel) (Nat.le_of_ble_eq_true rfl) [(0, .ref (ad 8 0)), (1, .int v1), (2, .int v2)] rfl (fun p e s m args below meth c ls C hz S hl => ?_)
  subst hz
  exact w_X8_forget_0 (res := (r, σ')) C σ v1 v2 _ _ _ S hl  hf

theorem dX8_longest_0 : decode cX8_longest 0 = .ok (.iconst (-1), 1) := by decide +kernel
theorem dX8_longest_1 : decode cX8_longest 1 = .ok (.istore_n 1, 1) := by decide +kernel
theorem dX8_longest_2 : decode cX8_longest 2 = .ok (.iconst 0, 1) := by decide +kernel
theorem dX8_longest_3 : decode cX8_longest 3 = .ok (.istore_n 2, 1) := by decide +kernel
theorem dX8_longest_4 : decode cX8_longest 4 = .ok (.iload_n 2, 1) := by decide +kernel
theorem dX8_longest_5 : decode cX8_longest 5 = .ok (.aload_n 0, 1) := by decide +kernel
theorem dX8_longest_6 : decode cX8_longest 6 = .ok (.getfield 7, 3) := by decide +kernel
theorem dX8_longest_9 : decode cX8_longest 9 = .ok (.iconst 2, 1) := by decide +kernel
theorem dX8_longest_10 : decode cX8_longest 10 = .ok (.iaload, 1) := by decide +kernel
theorem dX8_longest_11 : decode cX8_longest 11 = .ok (.if_icmp .ge 19, 3) := by decide +kernel
theorem dX8_longest_14 : decode cX8_longest 14 = .ok (.iload_n 1, 1) := by decide +kernel
theorem dX8_longest_15 : decode cX8_longest 15 = .ok (.aload_n 0, 1) := by decide +kernel
theorem dX8_longest_16 : decode cX8_longest 16 = .ok (.iload_n 2, 1) := by decide +kernel
theorem dX8_longest_17 : decode cX8_longest 17 = .ok (.invokevirtual 280, 3) := by decide +kernel
theorem dX8_longest_20 : decode cX8_longest 20 = .ok (.invokestatic 307, 3) := by decide +kernel
theorem dX8_longest_23 : decode cX8_longest 23 = .ok (.istore_n 1, 1) := by decide +kernel
theorem dX8_longest_24 : decode cX8_longest 24 = .ok (.iinc 2 1, 3) := by decide +kernel
theorem dX8_longest_27 : decode cX8_longest 27 = .ok (.goto (-23), 3) := by decide +kernel
theorem dX8_longest_30 : decode cX8_longest 30 = .ok (.iload_n 1, 1) := by decide +kernel
theorem dX8_longest_31 : decode cX8_longest 31 = .ok (.ireturn, 1) := by decide +kernel
/-! BusLiftsModel.longest()I -/
noncomputable def f_X8_longest_30  (σ : Sg) (v1 : Int32) : Option (Int32 × Sg) := some (v1, σ)
noncomputable def f_X8_longest_4  : Nat → Sg → Int32 → Int32 → Option (Int32 × Sg)
  | 0, _, _, _ => none
  | n + 1, σ, v1, v2 => if (σ 30 0 2) ≤ v2 then (f_X8_longest_30 σ v1) else (bi (f_X8_waitNow σ v2) fun r2 σ1 => (f_X8_longest_4  n σ1 (jmax v1 r2) (v2 + 1)))
theorem f_X8_longest_4_s  (n : Nat) (σ : Sg) (v1 : Int32) (v2 : Int32) : f_X8_longest_4  (n + 1) σ v1 v2 = (if (σ 30 0 2) ≤ v2 then (f_X8_longest_30 σ v1) else (bi (f_X8_waitNow σ v2) fun r2 σ1 => (f_X8_longest_4  n σ1 (jmax v1 r2) (v2 + 1)))) := rfl
noncomputable def f_X8_longest  (σ : Sg)  : Option (Int32 × Sg) := f_X8_longest_4 FU σ (-1) 0
set_option maxHeartbeats 4000000 in
set_option maxRecDepth 100000 in
theorem w_X8_longest_30 {p : Program} {l : Launch} {e : Env} {s : State} {m : MethodId} {args : Array Value} {below : List Frame} {meth : Method} {c : Code} {G : Gx} {ad : Ad} {res : Int32 × Sg} (C : Cx p s m args meth c yX8_longest.cls cX8_longest 3 (Option.some FieldType.int) G)  : ∀ (σ : Sg) (v1 : Int32) (H : Heap) (locs : List Loc) (ls : Array Slot), z_S 1 G ad σ (z_A 1 ad s.heap.size) s.heap H locs → lv_has ls 3 [(1, .int v1)] → f_X8_longest_30  σ v1 = some res → W p l e { frames := 1, cells := 0, slots := 0, locals := 21 } s m args below meth c H locs 0 0 (MQ below (va_Qi (S := Unit) (fun r1 _ => r1 = res.1) (fun _ t => z_W 1 G ad res.2 t.heap) (z_A 1 ad s.heap.size)) args s 0 0 (z_A 1 ad s.heap.size)) (F0 m 30 ls []) := by
  intro σ v1 H locs ls S hl  hf
  unfold f_X8_longest_30 at hf
  refine lv_iload_n C.1 C.2.1 dX8_longest_30 rfl (lv_at hl 0 rfl) ?_
  exact z_iret C S hf dX8_longest_31
set_option maxHeartbeats 4000000 in
set_option maxRecDepth 100000 in
theorem w_X8_longest_4 {p : Program} {l : Launch} {e : Env} {s : State} {m : MethodId} {args : Array Value} {below : List Frame} {meth : Method} {c : Code} {G : Gx} {ad : Ad} {res : Int32 × Sg} (C : Cx p s m args meth c yX8_longest.cls cX8_longest 3 (Option.some FieldType.int) G)  : ∀ n : Nat, ∀ (σ : Sg) (v1 : Int32) (v2 : Int32) (H : Heap) (locs : List Loc) (ls : Array Slot), z_S 1 G ad σ (z_A 1 ad s.heap.size) s.heap H locs → lv_has ls 3 [(0, .ref (ad 8 0)), (1, .int v1), (2, .int v2)] → f_X8_longest_4  n σ v1 v2 = some res → W p l e { frames := 1, cells := 0, slots := 0, locals := 21 } s m args below meth c H locs 0 0 (MQ below (va_Qi (S := Unit) (fun r1 _ => r1 = res.1) (fun _ t => z_W 1 G ad res.2 t.heap) (z_A 1 ad s.heap.size)) args s 0 0 (z_A 1 ad s.heap.size)) (F0 m 4 ls []) := by
  intro n
  induction n with
  | zero => intro σ v1 v2 H locs ls S hl  hf; cases hf
  | succ n ih =>
    intro σ v1 v2 H locs ls S hl  hf
    rw [f_X8_longest_4_s] at hf
    refine lv_iload_n C.1 C.2.1 dX8_longest_4 rfl (lv_at hl 2 rfl) ?_
    refine lv_aload_n C.1 C.2.1 dX8_longest_5 rfl (lv_at hl 0 rfl) ?_
    refine z_getR C S 8 0 rfl (by decide) cf_8 0 (by decide) _ (gr_8_0 G ad 0) tw_6_118 dX8_longest_6 ?_
    refine lv_iconst (v := 2) C.1 C.2.1 dX8_longest_9 (by decide) ?_
    refine z_ialdL C S 30 0 rfl (by decide) 2111 (fun _ => rfl) 2 (by decide) (by decide) (by decide) dX8_longest_10 ?_
    refine lv_icmp_ge (tgt := 30) C.1 C.2.1 dX8_longest_11 (by decide) (fun c_11 => ?_) (fun c_11 => ?_)
    · rw [if_pos c_11] at hf
      exact w_X8_longest_30 C _ v1 _ _ _ S (lv_sub hl [1] rfl) hf
    · rw [if_neg c_11] at hf
      refine lv_iload_n C.1 C.2.1 dX8_longest_14 rfl (lv_at hl 1 rfl) ?_
      refine lv_aload_n C.1 C.2.1 dX8_longest_15 rfl (lv_at hl 0 rfl) ?_
      refine lv_iload_n C.1 C.2.1 dX8_longest_16 rfl (lv_at hl 2 rfl) ?_
      obtain ⟨r2, σ1, q_17, hf⟩ := bib hf
      refine z_callI C S 8 0 rfl (by decide) cf_8 ⟨_, rfl⟩ [.int v2] (m_X8_waitNow l G ad σ v2 r2 σ1 q_17 _) kv_X8_waitNow tw_7_103 ⟨Nat.le_of_ble_eq_true rfl, Nat.le_of_ble_eq_true rfl⟩ rfl rfl (Nat.le_of_ble_eq_true rfl) hl.1 ⟨Nat.le_of_ble_eq_true rfl, Nat.le_of_ble_eq_true rfl⟩ dX8_longest_17 (fun H locs S => ?_)
      refine z_max C hl.1 tw_8_60 (Nat.le_of_ble_eq_true rfl) (Nat.le_of_ble_eq_true rfl) ⟨Nat.le_of_ble_eq_true rfl, Nat.le_of_ble_eq_true rfl⟩ dX8_longest_20 ?_
      refine lv_istore_n (lv' := [(1, .int (jmax v1 r2)), (0, .ref (ad 8 0)), (2, .int v2)]) C.1 C.2.1 dX8_longest_23 rfl hl (by decide) rfl (fun ls hl => ?_)
      refine lv_iinc (v := (v2 + 1)) (lv' := [(2, .int (v2 + 1)), (1, .int (jmax v1 r2)), (0, .ref (ad 8 0))]) C.1 C.2.1 dX8_longest_24 hl (k := 2) rfl rfl (by decide) rfl (fun ls hl => ?_)
      refine lv_goto (tgt := 4) C.1 C.2.1 dX8_longest_27 (by decide) ?_
      exact ih _ (jmax v1 r2) (v2 + 1) _ _ _ S (lv_sub hl [2, 1, 0] rfl)  hf
set_option maxHeartbeats 4000000 in
set_option maxRecDepth 100000 in
theorem w_X8_longest_0 {p : Program} {l : Launch} {e : Env} {s : State} {m : MethodId} {args : Array Value} {below : List Frame} {meth : Method} {c : Code} {G : Gx} {ad : Ad} {res : Int32 × Sg} (C : Cx p s m args meth c yX8_longest.cls cX8_longest 3 (Option.some FieldType.int) G)  : ∀ (σ : Sg)  (H : Heap) (locs : List Loc) (ls : Array Slot), z_S 1 G ad σ (z_A 1 ad s.heap.size) s.heap H locs → lv_has ls 3 [(0, .ref (ad 8 0))] → f_X8_longest  σ  = some res → W p l e { frames := 1, cells := 0, slots := 0, locals := 21 } s m args below meth c H locs 0 0 (MQ below (va_Qi (S := Unit) (fun r1 _ => r1 = res.1) (fun _ t => z_W 1 G ad res.2 t.heap) (z_A 1 ad s.heap.size)) args s 0 0 (z_A 1 ad s.heap.size)) (F0 m 0 ls []) := by
  intro σ  H locs ls S hl  hf
  unfold f_X8_longest at hf
  refine lv_iconst (v := (-1)) C.1 C.2.1 dX8_longest_0 (by decide) ?_
  refine lv_istore_n (lv' := [(1, .int (-1)), (0, .ref (ad 8 0))]) C.1 C.2.1 dX8_longest_1 rfl hl (by decide) rfl (fun ls hl => ?_)
  refine lv_iconst (v := 0) C.1 C.2.1 dX8_longest_2 (by decide) ?_
  refine lv_istore_n (lv' := [(2, .int 0), (1, .int (-1)), (0, .ref (ad 8 0))]) C.1 C.2.1 dX8_longest_3 rfl hl (by decide) rfl (fun ls hl => ?_)
  exact w_X8_longest_4 C FU _ (-1) 0 _ _ _ S (lv_sub hl [2, 1, 0] rfl) hf
theorem kv_X8_longest : KV yX8_longest cX8_longest 3 (Option.some FieldType.int) 0 := ⟨tw_8_59, tw_8_58, tw_p_94, tw_1_10, by decide, by decide, by decide +kernel⟩
theorem m_X8_longest (l : Launch) (G : Gx) (ad : Ad) (σ : Sg)  (r : Int32) (σ' : Sg)  (hf : f_X8_longest σ  = some (r, σ')) (sz : Nat) : z_MI l yX8_longest cX8_longest 3 (Option.some FieldType.int) 1 21 1 G ad σ sz [.ref (ad 8 0)] r σ' := by
  refine z_begin (by decide +kernel) (Nat.le_of_ble_eq_true rfl) [(0, .ref (ad 8 0))] rfl (fun p e s m args below meth c ls C hz S hl => ?_)
  subst hz
  exact w_X8_longest_0 (res := (r, σ')) C σ  _ _ _ S hl  hf

theorem dX8_longestWait_0 : decode cX8_longestWait 0 = .ok (.aload_n 0, 1) := by decide +kernel
theorem dX8_longestWait_1 : decode cX8_longestWait 1 = .ok (.iconst 0, 1) := by decide +kernel
theorem dX8_longestWait_2 : decode cX8_longestWait 2 = .ok (.putfield 48, 3) := by decide +kernel
theorem dX8_longestWait_5 : decode cX8_longestWait 5 = .ok (.aload_n 0, 1) := by decide +kernel
theorem dX8_longestWait_6 : decode cX8_longestWait 6 = .ok (.invokevirtual 312, 3) := by decide +kernel
theorem dX8_longestWait_9 : decode cX8_longestWait 9 = .ok (.ireturn, 1) := by decide +kernel
/-! BusLiftsModel.longestWait()I -/
noncomputable def f_X8_longestWait  (σ : Sg)  : Option (Int32 × Sg) := st (sup σ 8 0 8 0) fun σ1 => (bi (f_X8_longest σ1) fun r3 σ2 => (some (r3, σ2)))
set_option maxHeartbeats 4000000 in
set_option maxRecDepth 100000 in
theorem w_X8_longestWait_0 {p : Program} {l : Launch} {e : Env} {s : State} {m : MethodId} {args : Array Value} {below : List Frame} {meth : Method} {c : Code} {G : Gx} {ad : Ad} {res : Int32 × Sg} (C : Cx p s m args meth c yX8_longestWait.cls cX8_longestWait 1 (Option.some FieldType.int) G)  : ∀ (σ : Sg)  (H : Heap) (locs : List Loc) (ls : Array Slot), z_S 1 G ad σ (z_A 1 ad s.heap.size) s.heap H locs → lv_has ls 1 [(0, .ref (ad 8 0))] → f_X8_longestWait  σ  = some res → W p l e { frames := 2, cells := 0, slots := 0, locals := 43 } s m args below meth c H locs 0 0 (MQ below (va_Qi (S := Unit) (fun r1 _ => r1 = res.1) (fun _ t => z_W 1 G ad res.2 t.heap) (z_A 1 ad s.heap.size)) args s 0 0 (z_A 1 ad s.heap.size)) (F0 m 0 ls []) := by
  intro σ  H locs ls S hl  hf
  unfold f_X8_longestWait at hf
  refine lv_aload_n C.1 C.2.1 dX8_longestWait_0 rfl (lv_at hl 0 rfl) ?_
  refine lv_iconst (v := 0) C.1 C.2.1 dX8_longestWait_1 (by decide) ?_
  obtain ⟨σ1, e_2, hf⟩ := stb hf
  refine z_putI C S 8 0 rfl (by decide) cf_8 8 (by decide) (pi_8_8 G ad 0) rfl rfl rfl tw_6_126 dX8_longestWait_2 (fun H locs S => ?_)
  rw [← e_2] at S
  refine lv_aload_n C.1 C.2.1 dX8_longestWait_5 rfl (lv_at hl 0 rfl) ?_
  obtain ⟨r3, σ2, q_6, hf⟩ := bib hf
  refine z_callI C S 8 0 rfl (by decide) cf_8 ⟨_, rfl⟩ [] (m_X8_longest l G ad σ1 r3 σ2 q_6 _) kv_X8_longest tw_8_56 ⟨Nat.le_of_ble_eq_true rfl, Nat.le_of_ble_eq_true rfl⟩ rfl rfl (Nat.le_of_ble_eq_true rfl) hl.1 ⟨Nat.le_of_ble_eq_true rfl, Nat.le_of_ble_eq_true rfl⟩ dX8_longestWait_6 (fun H locs S => ?_)
  exact z_iret C S hf dX8_longestWait_9
theorem kv_X8_longestWait : KV yX8_longestWait cX8_longestWait 1 (Option.some FieldType.int) 0 := ⟨tw_8_55, tw_8_53, tw_8_54, tw_1_10, by decide, by decide, by decide +kernel⟩
theorem m_X8_longestWait (l : Launch) (G : Gx) (ad : Ad) (σ : Sg)  (r : Int32) (σ' : Sg)  (hf : f_X8_longestWait σ  = some (r, σ')) (sz : Nat) : z_MI l yX8_longestWait cX8_longestWait 1 (Option.some FieldType.int) 2 43 1 G ad σ sz [.ref (ad 8 0)] r σ' := by
  refine z_begin (by decide +kernel) (Nat.le_of_ble_eq_true rfl) [(0, .ref (ad 8 0))] rfl (fun p e s m args below meth c ls C hz S hl => ?_)
  subst hz
  exact w_X8_longestWait_0 (res := (r, σ')) C σ  _ _ _ S hl  hf

theorem dX8_lateMany_0 : decode cX8_lateMany 0 = .ok (.iconst 0, 1) := by decide +kernel
theorem dX8_lateMany_1 : decode cX8_lateMany 1 = .ok (.istore_n 1, 1) := by decide +kernel
theorem dX8_lateMany_2 : decode cX8_lateMany 2 = .ok (.iconst 0, 1) := by decide +kernel
theorem dX8_lateMany_3 : decode cX8_lateMany 3 = .ok (.istore_n 2, 1) := by decide +kernel
theorem dX8_lateMany_4 : decode cX8_lateMany 4 = .ok (.iload_n 2, 1) := by decide +kernel
theorem dX8_lateMany_5 : decode cX8_lateMany 5 = .ok (.aload_n 0, 1) := by decide +kernel
theorem dX8_lateMany_6 : decode cX8_lateMany 6 = .ok (.getfield 7, 3) := by decide +kernel
theorem dX8_lateMany_9 : decode cX8_lateMany 9 = .ok (.iconst 2, 1) := by decide +kernel
theorem dX8_lateMany_10 : decode cX8_lateMany 10 = .ok (.iaload, 1) := by decide +kernel
theorem dX8_lateMany_11 : decode cX8_lateMany 11 = .ok (.if_icmp .ge 32, 3) := by decide +kernel
theorem dX8_lateMany_14 : decode cX8_lateMany 14 = .ok (.iload_n 1, 1) := by decide +kernel
theorem dX8_lateMany_15 : decode cX8_lateMany 15 = .ok (.aload_n 0, 1) := by decide +kernel
theorem dX8_lateMany_16 : decode cX8_lateMany 16 = .ok (.iload_n 2, 1) := by decide +kernel
theorem dX8_lateMany_17 : decode cX8_lateMany 17 = .ok (.invokevirtual 280, 3) := by decide +kernel
theorem dX8_lateMany_20 : decode cX8_lateMany 20 = .ok (.aload_n 0, 1) := by decide +kernel
theorem dX8_lateMany_21 : decode cX8_lateMany 21 = .ok (.getfield 7, 3) := by decide +kernel
theorem dX8_lateMany_24 : decode cX8_lateMany 24 = .ok (.bipush 8, 2) := by decide +kernel
theorem dX8_lateMany_26 : decode cX8_lateMany 26 = .ok (.iaload, 1) := by decide +kernel
theorem dX8_lateMany_27 : decode cX8_lateMany 27 = .ok (.if_icmp .le 7, 3) := by decide +kernel
theorem dX8_lateMany_30 : decode cX8_lateMany 30 = .ok (.iconst 1, 1) := by decide +kernel
theorem dX8_lateMany_31 : decode cX8_lateMany 31 = .ok (.goto 4, 3) := by decide +kernel
theorem dX8_lateMany_34 : decode cX8_lateMany 34 = .ok (.iconst 0, 1) := by decide +kernel
theorem dX8_lateMany_35 : decode cX8_lateMany 35 = .ok (.iadd, 1) := by decide +kernel
theorem dX8_lateMany_36 : decode cX8_lateMany 36 = .ok (.istore_n 1, 1) := by decide +kernel
theorem dX8_lateMany_37 : decode cX8_lateMany 37 = .ok (.iinc 2 1, 3) := by decide +kernel
theorem dX8_lateMany_40 : decode cX8_lateMany 40 = .ok (.goto (-36), 3) := by decide +kernel
theorem dX8_lateMany_43 : decode cX8_lateMany 43 = .ok (.iload_n 1, 1) := by decide +kernel
theorem dX8_lateMany_44 : decode cX8_lateMany 44 = .ok (.ireturn, 1) := by decide +kernel
/-! BusLiftsModel.lateMany()I -/
noncomputable def f_X8_lateMany_43  (σ : Sg) (v1 : Int32) : Option (Int32 × Sg) := some (v1, σ)
noncomputable def f_X8_lateMany_35 (k4 : Sg → Int32 → Int32 → Option (Int32 × Sg)) (σ : Sg) (v2 : Int32) (v100 : Int32) (v101 : Int32) : Option (Int32 × Sg) := k4 σ (v100 + v101) (v2 + 1)
noncomputable def f_X8_lateMany_4  : Nat → Sg → Int32 → Int32 → Option (Int32 × Sg)
  | 0, _, _, _ => none
  | n + 1, σ, v1, v2 => if (σ 30 0 2) ≤ v2 then (f_X8_lateMany_43 σ v1) else (bi (f_X8_waitNow σ v2) fun r2 σ1 => (if r2 ≤ (σ1 30 0 8) then (f_X8_lateMany_35 (f_X8_lateMany_4 n) σ1 v2 v1 0) else (f_X8_lateMany_35 (f_X8_lateMany_4 n) σ1 v2 v1 1)))
theorem f_X8_lateMany_4_s  (n : Nat) (σ : Sg) (v1 : Int32) (v2 : Int32) : f_X8_lateMany_4  (n + 1) σ v1 v2 = (if (σ 30 0 2) ≤ v2 then (f_X8_lateMany_43 σ v1) else (bi (f_X8_waitNow σ v2) fun r2 σ1 => (if r2 ≤ (σ1 30 0 8) then (f_X8_lateMany_35 (f_X8_lateMany_4 n) σ1 v2 v1 0) else (f_X8_lateMany_35 (f_X8_lateMany_4 n) σ1 v2 v1 1)))) := rfl
noncomputable def f_X8_lateMany  (σ : Sg)  : Option (Int32 × Sg) := f_X8_lateMany_4 FU σ 0 0
set_option maxHeartbeats 4000000 in
set_option maxRecDepth 100000 in
theorem w_X8_lateMany_43 {p : Program} {l : Launch} {e : Env} {s : State} {m : MethodId} {args : Array Value} {below : List Frame} {meth : Method} {c : Code} {G : Gx} {ad : Ad} {res : Int32 × Sg} (C : Cx p s m args meth c yX8_lateMany.cls cX8_lateMany 3 (Option.some FieldType.int) G)  : ∀ (σ : Sg) (v1 : Int32) (H : Heap) (locs : List Loc) (ls : Array Slot), z_S 1 G ad σ (z_A 1 ad s.heap.size) s.heap H locs → lv_has ls 3 [(1, .int v1)] → f_X8_lateMany_43  σ v1 = some res → W p l e { frames := 1, cells := 0, slots := 0, locals := 21 } s m args below meth c H locs 0 0 (MQ below (va_Qi (S := Unit) (fun r1 _ => r1 = res.1) (fun _ t => z_W 1 G ad res.2 t.heap) (z_A 1 ad s.heap.size)) args s 0 0 (z_A 1 ad s.heap.size)) (F0 m 43 ls []) := by
  intro σ v1 H locs ls S hl  hf
  unfold f_X8_lateMany_43 at hf
  refine lv_iload_n C.1 C.2.1 dX8_lateMany_43 rfl (lv_at hl 0 rfl) ?_
  exact z_iret C S hf dX8_lateMany_44
set_option maxHeartbeats 4000000 in
set_option maxRecDepth 100000 in
theorem w_X8_lateMany_35 {p : Program} {l : Launch} {e : Env} {s : State} {m : MethodId} {args : Array Value} {below : List Frame} {meth : Method} {c : Code} {G : Gx} {ad : Ad} {res : Int32 × Sg} (C : Cx p s m args meth c yX8_lateMany.cls cX8_lateMany 3 (Option.some FieldType.int) G) (k4 : Sg → Int32 → Int32 → Option (Int32 × Sg)) (hk4 : ∀ (σ : Sg) (v1 : Int32) (v2 : Int32) (H : Heap) (locs : List Loc) (ls : Array Slot), z_S 1 G ad σ (z_A 1 ad s.heap.size) s.heap H locs → lv_has ls 3 [(0, .ref (ad 8 0)), (1, .int v1), (2, .int v2)] → k4 σ v1 v2 = some res → W p l e { frames := 1, cells := 0, slots := 0, locals := 21 } s m args below meth c H locs 0 0 (MQ below (va_Qi (S := Unit) (fun r1 _ => r1 = res.1) (fun _ t => z_W 1 G ad res.2 t.heap) (z_A 1 ad s.heap.size)) args s 0 0 (z_A 1 ad s.heap.size)) (F0 m 4 ls [])) : ∀ (σ : Sg) (v2 : Int32) (v100 : Int32) (v101 : Int32) (H : Heap) (locs : List Loc) (ls : Array Slot), z_S 1 G ad σ (z_A 1 ad s.heap.size) s.heap H locs → lv_has ls 3 [(0, .ref (ad 8 0)), (2, .int v2)] → f_X8_lateMany_35 k4 σ v2 v100 v101 = some res → W p l e { frames := 1, cells := 0, slots := 0, locals := 21 } s m args below meth c H locs 0 0 (MQ below (va_Qi (S := Unit) (fun r1 _ => r1 = res.1) (fun _ t => z_W 1 G ad res.2 t.heap) (z_A 1 ad s.heap.size)) args s 0 0 (z_A 1 ad s.heap.size)) (F0 m 35 ls [.int v101, .int v100]) := by
  intro σ v2 v100 v101 H locs ls S hl  hf
  unfold f_X8_lateMany_35 at hf
  refine lv_iadd C.1 C.2.1 dX8_lateMany_35 ?_
  refine lv_istore_n (lv' := [(1, .int (v100 + v101)), (0, .ref (ad 8 0)), (2, .int v2)]) C.1 C.2.1 dX8_lateMany_36 rfl hl (by decide) rfl (fun ls hl => ?_)
  refine lv_iinc (v := (v2 + 1)) (lv' := [(2, .int (v2 + 1)), (1, .int (v100 + v101)), (0, .ref (ad 8 0))]) C.1 C.2.1 dX8_lateMany_37 hl (k := 2) rfl rfl (by decide) rfl (fun ls hl => ?_)
  refine lv_goto (tgt := 4) C.1 C.2.1 dX8_lateMany_40 (by decide) ?_
  exact hk4 _ (v100 + v101) (v2 + 1) _ _ _ S (lv_sub hl [2, 1, 0] rfl)  hf
set_option maxHeartbeats 4000000 in
set_option maxRecDepth 100000 in
theorem w_X8_lateMany_4 {p : Program} {l : Launch} {e : Env} {s : State} {m : MethodId} {args : Array Value} {below : List Frame} {meth : Method} {c : Code} {G : Gx} {ad : Ad} {res : Int32 × Sg} (C : Cx p s m args meth c yX8_lateMany.cls cX8_lateMany 3 (Option.some FieldType.int) G)  : ∀ n : Nat, ∀ (σ : Sg) (v1 : Int32) (v2 : Int32) (H : Heap) (locs : List Loc) (ls : Array Slot), z_S 1 G ad σ (z_A 1 ad s.heap.size) s.heap H locs → lv_has ls 3 [(0, .ref (ad 8 0)), (1, .int v1), (2, .int v2)] → f_X8_lateMany_4  n σ v1 v2 = some res → W p l e { frames := 1, cells := 0, slots := 0, locals := 21 } s m args below meth c H locs 0 0 (MQ below (va_Qi (S := Unit) (fun r1 _ => r1 = res.1) (fun _ t => z_W 1 G ad res.2 t.heap) (z_A 1 ad s.heap.size)) args s 0 0 (z_A 1 ad s.heap.size)) (F0 m 4 ls []) := by
  intro n
  induction n with
  | zero => intro σ v1 v2 H locs ls S hl  hf; cases hf
  | succ n ih =>
    intro σ v1 v2 H locs ls S hl  hf
    rw [f_X8_lateMany_4_s] at hf
    refine lv_iload_n C.1 C.2.1 dX8_lateMany_4 rfl (lv_at hl 2 rfl) ?_
    refine lv_aload_n C.1 C.2.1 dX8_lateMany_5 rfl (lv_at hl 0 rfl) ?_
    refine z_getR C S 8 0 rfl (by decide) cf_8 0 (by decide) _ (gr_8_0 G ad 0) tw_6_118 dX8_lateMany_6 ?_
    refine lv_iconst (v := 2) C.1 C.2.1 dX8_lateMany_9 (by decide) ?_
    refine z_ialdL C S 30 0 rfl (by decide) 2111 (fun _ => rfl) 2 (by decide) (by decide) (by decide) dX8_lateMany_10 ?_
    refine lv_icmp_ge (tgt := 43) C.1 C.2.1 dX8_lateMany_11 (by decide) (fun c_11 => ?_) (fun c_11 => ?_)
    · rw [if_pos c_11] at hf
      exact w_X8_lateMany_43 C _ v1 _ _ _ S (lv_sub hl [1] rfl) hf
    · rw [if_neg c_11] at hf
      refine lv_iload_n C.1 C.2.1 dX8_lateMany_14 rfl (lv_at hl 1 rfl) ?_
      refine lv_aload_n C.1 C.2.1 dX8_lateMany_15 rfl (lv_at hl 0 rfl) ?_
      refine lv_iload_n C.1 C.2.1 dX8_lateMany_16 rfl (lv_at hl 2 rfl) ?_
      obtain ⟨r2, σ1, q_17, hf⟩ := bib hf
      refine z_callI C S 8 0 rfl (by decide) cf_8 ⟨_, rfl⟩ [.int v2] (m_X8_waitNow l G ad σ v2 r2 σ1 q_17 _) kv_X8_waitNow tw_7_103 ⟨Nat.le_of_ble_eq_true rfl, Nat.le_of_ble_eq_true rfl⟩ rfl rfl (Nat.le_of_ble_eq_true rfl) hl.1 ⟨Nat.le_of_ble_eq_true rfl, Nat.le_of_ble_eq_true rfl⟩ dX8_lateMany_17 (fun H locs S => ?_)
      refine lv_aload_n C.1 C.2.1 dX8_lateMany_20 rfl (lv_at hl 0 rfl) ?_
      refine z_getR C S 8 0 rfl (by decide) cf_8 0 (by decide) _ (gr_8_0 G ad 0) tw_6_118 dX8_lateMany_21 ?_
      refine lv_bipush (v := 8) C.1 C.2.1 dX8_lateMany_24 (by decide) ?_
      refine z_ialdL C S 30 0 rfl (by decide) 2111 (fun _ => rfl) 8 (by decide) (by decide) (by decide) dX8_lateMany_26 ?_
      refine lv_icmp_le (tgt := 34) C.1 C.2.1 dX8_lateMany_27 (by decide) (fun c_27 => ?_) (fun c_27 => ?_)
      · rw [if_pos c_27] at hf
        refine lv_iconst (v := 0) C.1 C.2.1 dX8_lateMany_34 (by decide) ?_
        exact w_X8_lateMany_35 C (f_X8_lateMany_4 n) ih _ v2 v1 0 _ _ _ S (lv_sub hl [0, 2] rfl) hf
      · rw [if_neg c_27] at hf
        refine lv_iconst (v := 1) C.1 C.2.1 dX8_lateMany_30 (by decide) ?_
        refine lv_goto (tgt := 35) C.1 C.2.1 dX8_lateMany_31 (by decide) ?_
        exact w_X8_lateMany_35 C (f_X8_lateMany_4 n) ih _ v2 v1 1 _ _ _ S (lv_sub hl [0, 2] rfl) hf
set_option maxHeartbeats 4000000 in
set_option maxRecDepth 100000 in
theorem w_X8_lateMany_0 {p : Program} {l : Launch} {e : Env} {s : State} {m : MethodId} {args : Array Value} {below : List Frame} {meth : Method} {c : Code} {G : Gx} {ad : Ad} {res : Int32 × Sg} (C : Cx p s m args meth c yX8_lateMany.cls cX8_lateMany 3 (Option.some FieldType.int) G)  : ∀ (σ : Sg)  (H : Heap) (locs : List Loc) (ls : Array Slot), z_S 1 G ad σ (z_A 1 ad s.heap.size) s.heap H locs → lv_has ls 3 [(0, .ref (ad 8 0))] → f_X8_lateMany  σ  = some res → W p l e { frames := 1, cells := 0, slots := 0, locals := 21 } s m args below meth c H locs 0 0 (MQ below (va_Qi (S := Unit) (fun r1 _ => r1 = res.1) (fun _ t => z_W 1 G ad res.2 t.heap) (z_A 1 ad s.heap.size)) args s 0 0 (z_A 1 ad s.heap.size)) (F0 m 0 ls []) := by
  intro σ  H locs ls S hl  hf
  unfold f_X8_lateMany at hf
  refine lv_iconst (v := 0) C.1 C.2.1 dX8_lateMany_0 (by decide) ?_
  refine lv_istore_n (lv' := [(1, .int 0), (0, .ref (ad 8 0))]) C.1 C.2.1 dX8_lateMany_1 rfl hl (by decide) rfl (fun ls hl => ?_)
  refine lv_iconst (v := 0) C.1 C.2.1 dX8_lateMany_2 (by decide) ?_
  refine lv_istore_n (lv' := [(2, .int 0), (1, .int 0), (0, .ref (ad 8 0))]) C.1 C.2.1 dX8_lateMany_3 rfl hl (by decide) rfl (fun ls hl => ?_)
  exact w_X8_lateMany_4 C FU _ 0 0 _ _ _ S (lv_sub hl [2, 1, 0] rfl) hf
theorem kv_X8_lateMany : KV yX8_lateMany cX8_lateMany 3 (Option.some FieldType.int) 0 := ⟨tw_8_72, tw_8_71, tw_p_95, tw_1_10, by decide, by decide, by decide +kernel⟩
theorem m_X8_lateMany (l : Launch) (G : Gx) (ad : Ad) (σ : Sg)  (r : Int32) (σ' : Sg)  (hf : f_X8_lateMany σ  = some (r, σ')) (sz : Nat) : z_MI l yX8_lateMany cX8_lateMany 3 (Option.some FieldType.int) 1 21 1 G ad σ sz [.ref (ad 8 0)] r σ' := by
  refine z_begin (by decide +kernel) (Nat.le_of_ble_eq_true rfl) [(0, .ref (ad 8 0))] rfl (fun p e s m args below meth c ls C hz S hl => ?_)
  subst hz
  exact w_X8_lateMany_0 (res := (r, σ')) C σ  _ _ _ S hl  hf

theorem dX8_doubles_0 : decode cX8_doubles 0 = .ok (.aload_n 0, 1) := by decide +kernel
theorem dX8_doubles_1 : decode cX8_doubles 1 = .ok (.iconst 0, 1) := by decide +kernel
theorem dX8_doubles_2 : decode cX8_doubles 2 = .ok (.putfield 48, 3) := by decide +kernel
theorem dX8_doubles_5 : decode cX8_doubles 5 = .ok (.iconst 0, 1) := by decide +kernel
theorem dX8_doubles_6 : decode cX8_doubles 6 = .ok (.istore_n 1, 1) := by decide +kernel
theorem dX8_doubles_7 : decode cX8_doubles 7 = .ok (.iconst 0, 1) := by decide +kernel
theorem dX8_doubles_8 : decode cX8_doubles 8 = .ok (.istore_n 2, 1) := by decide +kernel
theorem dX8_doubles_9 : decode cX8_doubles 9 = .ok (.iload_n 2, 1) := by decide +kernel
theorem dX8_doubles_10 : decode cX8_doubles 10 = .ok (.aload_n 0, 1) := by decide +kernel
theorem dX8_doubles_11 : decode cX8_doubles 11 = .ok (.getfield 7, 3) := by decide +kernel
theorem dX8_doubles_14 : decode cX8_doubles 14 = .ok (.iconst 2, 1) := by decide +kernel
theorem dX8_doubles_15 : decode cX8_doubles 15 = .ok (.iaload, 1) := by decide +kernel
theorem dX8_doubles_16 : decode cX8_doubles 16 = .ok (.if_icmp .ge 28, 3) := by decide +kernel
theorem dX8_doubles_19 : decode cX8_doubles 19 = .ok (.iload_n 1, 1) := by decide +kernel
theorem dX8_doubles_20 : decode cX8_doubles 20 = .ok (.aload_n 0, 1) := by decide +kernel
theorem dX8_doubles_21 : decode cX8_doubles 21 = .ok (.iload_n 2, 1) := by decide +kernel
theorem dX8_doubles_22 : decode cX8_doubles 22 = .ok (.invokevirtual 277, 3) := by decide +kernel
theorem dX8_doubles_25 : decode cX8_doubles 25 = .ok (.iconst 1, 1) := by decide +kernel
theorem dX8_doubles_26 : decode cX8_doubles 26 = .ok (.if_icmp .le 9, 3) := by decide +kernel
theorem dX8_doubles_29 : decode cX8_doubles 29 = .ok (.iconst 1, 1) := by decide +kernel
theorem dX8_doubles_30 : decode cX8_doubles 30 = .ok (.iload_n 2, 1) := by decide +kernel
theorem dX8_doubles_31 : decode cX8_doubles 31 = .ok (.ishl, 1) := by decide +kernel
theorem dX8_doubles_32 : decode cX8_doubles 32 = .ok (.goto 4, 3) := by decide +kernel
theorem dX8_doubles_35 : decode cX8_doubles 35 = .ok (.iconst 0, 1) := by decide +kernel
theorem dX8_doubles_36 : decode cX8_doubles 36 = .ok (.ior, 1) := by decide +kernel
theorem dX8_doubles_37 : decode cX8_doubles 37 = .ok (.istore_n 1, 1) := by decide +kernel
theorem dX8_doubles_38 : decode cX8_doubles 38 = .ok (.iinc 2 1, 3) := by decide +kernel
theorem dX8_doubles_41 : decode cX8_doubles 41 = .ok (.goto (-32), 3) := by decide +kernel
theorem dX8_doubles_44 : decode cX8_doubles 44 = .ok (.iload_n 1, 1) := by decide +kernel
theorem dX8_doubles_45 : decode cX8_doubles 45 = .ok (.ireturn, 1) := by decide +kernel
/-! BusLiftsModel.doubles()I -/
noncomputable def f_X8_doubles_44  (σ : Sg) (v1 : Int32) : Option (Int32 × Sg) := some (v1, σ)
noncomputable def f_X8_doubles_36 (k9 : Sg → Int32 → Int32 → Option (Int32 × Sg)) (σ : Sg) (v2 : Int32) (v100 : Int32) (v101 : Int32) : Option (Int32 × Sg) := k9 σ (v100 ||| v101) (v2 + 1)
noncomputable def f_X8_doubles_9  : Nat → Sg → Int32 → Int32 → Option (Int32 × Sg)
  | 0, _, _, _ => none
  | n + 1, σ, v1, v2 => if (σ 30 0 2) ≤ v2 then (f_X8_doubles_44 σ v1) else (bi (f_X8_holders σ v2) fun r2 σ1 => (if r2 ≤ 1 then (f_X8_doubles_36 (f_X8_doubles_9 n) σ1 v2 v1 0) else (f_X8_doubles_36 (f_X8_doubles_9 n) σ1 v2 v1 (1 <<< (v2 &&& 31)))))
theorem f_X8_doubles_9_s  (n : Nat) (σ : Sg) (v1 : Int32) (v2 : Int32) : f_X8_doubles_9  (n + 1) σ v1 v2 = (if (σ 30 0 2) ≤ v2 then (f_X8_doubles_44 σ v1) else (bi (f_X8_holders σ v2) fun r2 σ1 => (if r2 ≤ 1 then (f_X8_doubles_36 (f_X8_doubles_9 n) σ1 v2 v1 0) else (f_X8_doubles_36 (f_X8_doubles_9 n) σ1 v2 v1 (1 <<< (v2 &&& 31)))))) := rfl
noncomputable def f_X8_doubles  (σ : Sg)  : Option (Int32 × Sg) := st (sup σ 8 0 8 0) fun σ1 => (f_X8_doubles_9 FU σ1 0 0)
set_option maxHeartbeats 4000000 in
set_option maxRecDepth 100000 in
theorem w_X8_doubles_44 {p : Program} {l : Launch} {e : Env} {s : State} {m : MethodId} {args : Array Value} {below : List Frame} {meth : Method} {c : Code} {G : Gx} {ad : Ad} {res : Int32 × Sg} (C : Cx p s m args meth c yX8_doubles.cls cX8_doubles 3 (Option.some FieldType.int) G)  : ∀ (σ : Sg) (v1 : Int32) (H : Heap) (locs : List Loc) (ls : Array Slot), z_S 1 G ad σ (z_A 1 ad s.heap.size) s.heap H locs → lv_has ls 3 [(1, .int v1)] → f_X8_doubles_44  σ v1 = some res → W p l e { frames := 2, cells := 0, slots := 0, locals := 45 } s m args below meth c H locs 0 0 (MQ below (va_Qi (S := Unit) (fun r1 _ => r1 = res.1) (fun _ t => z_W 1 G ad res.2 t.heap) (z_A 1 ad s.heap.size)) args s 0 0 (z_A 1 ad s.heap.size)) (F0 m 44 ls []) := by
  intro σ v1 H locs ls S hl  hf
  unfold f_X8_doubles_44 at hf
  refine lv_iload_n C.1 C.2.1 dX8_doubles_44 rfl (lv_at hl 0 rfl) ?_
  exact z_iret C S hf dX8_doubles_45
set_option maxHeartbeats 4000000 in
set_option maxRecDepth 100000 in
theorem w_X8_doubles_36 {p : Program} {l : Launch} {e : Env} {s : State} {m : MethodId} {args : Array Value} {below : List Frame} {meth : Method} {c : Code} {G : Gx} {ad : Ad} {res : Int32 × Sg} (C : Cx p s m args meth c yX8_doubles.cls cX8_doubles 3 (Option.some FieldType.int) G) (k9 : Sg → Int32 → Int32 → Option (Int32 × Sg)) (hk9 : ∀ (σ : Sg) (v1 : Int32) (v2 : Int32) (H : Heap) (locs : List Loc) (ls : Array Slot), z_S 1 G ad σ (z_A 1 ad s.heap.size) s.heap H locs → lv_has ls 3 [(0, .ref (ad 8 0)), (1, .int v1), (2, .int v2)] → k9 σ v1 v2 = some res → W p l e { frames := 2, cells := 0, slots := 0, locals := 45 } s m args below meth c H locs 0 0 (MQ below (va_Qi (S := Unit) (fun r1 _ => r1 = res.1) (fun _ t => z_W 1 G ad res.2 t.heap) (z_A 1 ad s.heap.size)) args s 0 0 (z_A 1 ad s.heap.size)) (F0 m 9 ls [])) : ∀ (σ : Sg) (v2 : Int32) (v100 : Int32) (v101 : Int32) (H : Heap) (locs : List Loc) (ls : Array Slot), z_S 1 G ad σ (z_A 1 ad s.heap.size) s.heap H locs → lv_has ls 3 [(0, .ref (ad 8 0)), (2, .int v2)] → f_X8_doubles_36 k9 σ v2 v100 v101 = some res → W p l e { frames := 2, cells := 0, slots := 0, locals := 45 } s m args below meth c H locs 0 0 (MQ below (va_Qi (S := Unit) (fun r1 _ => r1 = res.1) (fun _ t => z_W 1 G ad res.2 t.heap) (z_A 1 ad s.heap.size)) args s 0 0 (z_A 1 ad s.heap.size)) (F0 m 36 ls [.int v101, .int v100]) := by
  intro σ v2 v100 v101 H locs ls S hl  hf
  unfold f_X8_doubles_36 at hf
  refine lv_ior C.1 C.2.1 dX8_doubles_36 ?_
  refine lv_istore_n (lv' := [(1, .int (v100 ||| v101)), (0, .ref (ad 8 0)), (2, .int v2)]) C.1 C.2.1 dX8_doubles_37 rfl hl (by decide) rfl (fun ls hl => ?_)
  refine lv_iinc (v := (v2 + 1)) (lv' := [(2, .int (v2 + 1)), (1, .int (v100 ||| v101)), (0, .ref (ad 8 0))]) C.1 C.2.1 dX8_doubles_38 hl (k := 2) rfl rfl (by decide) rfl (fun ls hl => ?_)
  refine lv_goto (tgt := 9) C.1 C.2.1 dX8_doubles_41 (by decide) ?_
  exact hk9 _ (v100 ||| v101) (v2 + 1) _ _ _ S (lv_sub hl [2, 1, 0] rfl)  hf
set_option maxHeartbeats 4000000 in
set_option maxRecDepth 100000 in
theorem w_X8_doubles_9 {p : Program} {l : Launch} {e : Env} {s : State} {m : MethodId} {args : Array Value} {below : List Frame} {meth : Method} {c : Code} {G : Gx} {ad : Ad} {res : Int32 × Sg} (C : Cx p s m args meth c yX8_doubles.cls cX8_doubles 3 (Option.some FieldType.int) G)  : ∀ n : Nat, ∀ (σ : Sg) (v1 : Int32) (v2 : Int32) (H : Heap) (locs : List Loc) (ls : Array Slot), z_S 1 G ad σ (z_A 1 ad s.heap.size) s.heap H locs → lv_has ls 3 [(0, .ref (ad 8 0)), (1, .int v1), (2, .int v2)] → f_X8_doubles_9  n σ v1 v2 = some res → W p l e { frames := 2, cells := 0, slots := 0, locals := 45 } s m args below meth c H locs 0 0 (MQ below (va_Qi (S := Unit) (fun r1 _ => r1 = res.1) (fun _ t => z_W 1 G ad res.2 t.heap) (z_A 1 ad s.heap.size)) args s 0 0 (z_A 1 ad s.heap.size)) (F0 m 9 ls []) := by
  intro n
  induction n with
  | zero => intro σ v1 v2 H locs ls S hl  hf; cases hf
  | succ n ih =>
    intro σ v1 v2 H locs ls S hl  hf
    rw [f_X8_doubles_9_s] at hf
    refine lv_iload_n C.1 C.2.1 dX8_doubles_9 rfl (lv_at hl 2 rfl) ?_
    refine lv_aload_n C.1 C.2.1 dX8_doubles_10 rfl (lv_at hl 0 rfl) ?_
    refine z_getR C S 8 0 rfl (by decide) cf_8 0 (by decide) _ (gr_8_0 G ad 0) tw_6_118 dX8_doubles_11 ?_
    refine lv_iconst (v := 2) C.1 C.2.1 dX8_doubles_14 (by decide) ?_
    refine z_ialdL C S 30 0 rfl (by decide) 2111 (fun _ => rfl) 2 (by decide) (by decide) (by decide) dX8_doubles_15 ?_
    refine lv_icmp_ge (tgt := 44) C.1 C.2.1 dX8_doubles_16 (by decide) (fun c_16 => ?_) (fun c_16 => ?_)
    · rw [if_pos c_16] at hf
      exact w_X8_doubles_44 C _ v1 _ _ _ S (lv_sub hl [1] rfl) hf
    · rw [if_neg c_16] at hf
      refine lv_iload_n C.1 C.2.1 dX8_doubles_19 rfl (lv_at hl 1 rfl) ?_
      refine lv_aload_n C.1 C.2.1 dX8_doubles_20 rfl (lv_at hl 0 rfl) ?_
      refine lv_iload_n C.1 C.2.1 dX8_doubles_21 rfl (lv_at hl 2 rfl) ?_
      obtain ⟨r2, σ1, q_22, hf⟩ := bib hf
      refine z_callI C S 8 0 rfl (by decide) cf_8 ⟨_, rfl⟩ [.int v2] (m_X8_holders l G ad σ v2 r2 σ1 q_22 _) kv_X8_holders tw_7_95 ⟨Nat.le_of_ble_eq_true rfl, Nat.le_of_ble_eq_true rfl⟩ rfl rfl (Nat.le_of_ble_eq_true rfl) hl.1 ⟨Nat.le_of_ble_eq_true rfl, Nat.le_of_ble_eq_true rfl⟩ dX8_doubles_22 (fun H locs S => ?_)
      refine lv_iconst (v := 1) C.1 C.2.1 dX8_doubles_25 (by decide) ?_
      refine lv_icmp_le (tgt := 35) C.1 C.2.1 dX8_doubles_26 (by decide) (fun c_26 => ?_) (fun c_26 => ?_)
      · rw [if_pos c_26] at hf
        refine lv_iconst (v := 0) C.1 C.2.1 dX8_doubles_35 (by decide) ?_
        exact w_X8_doubles_36 C (f_X8_doubles_9 n) ih _ v2 v1 0 _ _ _ S (lv_sub hl [0, 2] rfl) hf
      · rw [if_neg c_26] at hf
        refine lv_iconst (v := 1) C.1 C.2.1 dX8_doubles_29 (by decide) ?_
        refine lv_iload_n C.1 C.2.1 dX8_doubles_30 rfl (lv_at hl 2 rfl) ?_
        refine lv_ishl C.1 C.2.1 dX8_doubles_31 ?_
        refine lv_goto (tgt := 36) C.1 C.2.1 dX8_doubles_32 (by decide) ?_
        exact w_X8_doubles_36 C (f_X8_doubles_9 n) ih _ v2 v1 (1 <<< (v2 &&& 31)) _ _ _ S (lv_sub hl [0, 2] rfl) hf
set_option maxHeartbeats 4000000 in
set_option maxRecDepth 100000 in
theorem w_X8_doubles_0 {p : Program} {l : Launch} {e : Env} {s : State} {m : MethodId} {args : Array Value} {below : List Frame} {meth : Method} {c : Code} {G : Gx} {ad : Ad} {res : Int32 × Sg} (C : Cx p s m args meth c yX8_doubles.cls cX8_doubles 3 (Option.some FieldType.int) G)  : ∀ (σ : Sg)  (H : Heap) (locs : List Loc) (ls : Array Slot), z_S 1 G ad σ (z_A 1 ad s.heap.size) s.heap H locs → lv_has ls 3 [(0, .ref (ad 8 0))] → f_X8_doubles  σ  = some res → W p l e { frames := 2, cells := 0, slots := 0, locals := 45 } s m args below meth c H locs 0 0 (MQ below (va_Qi (S := Unit) (fun r1 _ => r1 = res.1) (fun _ t => z_W 1 G ad res.2 t.heap) (z_A 1 ad s.heap.size)) args s 0 0 (z_A 1 ad s.heap.size)) (F0 m 0 ls []) := by
  intro σ  H locs ls S hl  hf
  unfold f_X8_doubles at hf
  refine lv_aload_n C.1 C.2.1 dX8_doubles_0 rfl (lv_at hl 0 rfl) ?_
  refine lv_iconst (v := 0) C.1 C.2.1 dX8_doubles_1 (by decide) ?_
  obtain ⟨σ1, e_2, hf⟩ := stb hf
  refine z_putI C S 8 0 rfl (by decide) cf_8 8 (by decide) (pi_8_8 G ad 0) rfl rfl rfl tw_6_126 dX8_doubles_2 (fun H locs S => ?_)
  rw [← e_2] at S
  refine lv_iconst (v := 0) C.1 C.2.1 dX8_doubles_5 (by decide) ?_
  refine lv_istore_n (lv' := [(1, .int 0), (0, .ref (ad 8 0))]) C.1 C.2.1 dX8_doubles_6 rfl hl (by decide) rfl (fun ls hl => ?_)
  refine lv_iconst (v := 0) C.1 C.2.1 dX8_doubles_7 (by decide) ?_
  refine lv_istore_n (lv' := [(2, .int 0), (1, .int 0), (0, .ref (ad 8 0))]) C.1 C.2.1 dX8_doubles_8 rfl hl (by decide) rfl (fun ls hl => ?_)
  exact w_X8_doubles_9 C FU _ 0 0 _ _ _ S (lv_sub hl [2, 1, 0] rfl) hf
theorem kv_X8_doubles : KV yX8_doubles cX8_doubles 3 (Option.some FieldType.int) 0 := ⟨tw_8_76, tw_8_74, tw_8_75, tw_1_10, by decide, by decide, by decide +kernel⟩
theorem m_X8_doubles (l : Launch) (G : Gx) (ad : Ad) (σ : Sg)  (r : Int32) (σ' : Sg)  (hf : f_X8_doubles σ  = some (r, σ')) (sz : Nat) : z_MI l yX8_doubles cX8_doubles 3 (Option.some FieldType.int) 2 45 1 G ad σ sz [.ref (ad 8 0)] r σ' := by
  refine z_begin (by decide +kernel) (Nat.le_of_ble_eq_true rfl) [(0, .ref (ad 8 0))] rfl (fun p e s m args below meth c ls C hz S hl => ?_)
  subst hz
  exact w_X8_doubles_0 (res := (r, σ')) C σ  _ _ _ S hl  hf

theorem dX8_orphans_0 : decode cX8_orphans 0 = .ok (.aload_n 0, 1) := by decide +kernel
theorem dX8_orphans_1 : decode cX8_orphans 1 = .ok (.iconst 0, 1) := by decide +kernel
theorem dX8_orphans_2 : decode cX8_orphans 2 = .ok (.putfield 48, 3) := by decide +kernel
theorem dX8_orphans_5 : decode cX8_orphans 5 = .ok (.iconst 0, 1) := by decide +kernel
theorem dX8_orphans_6 : decode cX8_orphans 6 = .ok (.istore_n 1, 1) := by decide +kernel
theorem dX8_orphans_7 : decode cX8_orphans 7 = .ok (.iconst 0, 1) := by decide +kernel
theorem dX8_orphans_8 : decode cX8_orphans 8 = .ok (.istore_n 2, 1) := by decide +kernel
theorem dX8_orphans_9 : decode cX8_orphans 9 = .ok (.iload_n 2, 1) := by decide +kernel
theorem dX8_orphans_10 : decode cX8_orphans 10 = .ok (.aload_n 0, 1) := by decide +kernel
theorem dX8_orphans_11 : decode cX8_orphans 11 = .ok (.getfield 7, 3) := by decide +kernel
theorem dX8_orphans_14 : decode cX8_orphans 14 = .ok (.iconst 2, 1) := by decide +kernel
theorem dX8_orphans_15 : decode cX8_orphans 15 = .ok (.iaload, 1) := by decide +kernel
theorem dX8_orphans_16 : decode cX8_orphans 16 = .ok (.if_icmp .ge 40, 3) := by decide +kernel
theorem dX8_orphans_19 : decode cX8_orphans 19 = .ok (.iload_n 1, 1) := by decide +kernel
theorem dX8_orphans_20 : decode cX8_orphans 20 = .ok (.aload_n 0, 1) := by decide +kernel
theorem dX8_orphans_21 : decode cX8_orphans 21 = .ok (.getfield 7, 3) := by decide +kernel
theorem dX8_orphans_24 : decode cX8_orphans 24 = .ok (.bipush 127, 2) := by decide +kernel
theorem dX8_orphans_26 : decode cX8_orphans 26 = .ok (.iload_n 2, 1) := by decide +kernel
theorem dX8_orphans_27 : decode cX8_orphans 27 = .ok (.iadd, 1) := by decide +kernel
theorem dX8_orphans_28 : decode cX8_orphans 28 = .ok (.iaload, 1) := by decide +kernel
theorem dX8_orphans_29 : decode cX8_orphans 29 = .ok (.iconst 1, 1) := by decide +kernel
theorem dX8_orphans_30 : decode cX8_orphans 30 = .ok (.if_icmp .ne 17, 3) := by decide +kernel
theorem dX8_orphans_33 : decode cX8_orphans 33 = .ok (.aload_n 0, 1) := by decide +kernel
theorem dX8_orphans_34 : decode cX8_orphans 34 = .ok (.iload_n 2, 1) := by decide +kernel
theorem dX8_orphans_35 : decode cX8_orphans 35 = .ok (.invokevirtual 277, 3) := by decide +kernel
theorem dX8_orphans_38 : decode cX8_orphans 38 = .ok (.ifCond .ne 9, 3) := by decide +kernel
theorem dX8_orphans_41 : decode cX8_orphans 41 = .ok (.iconst 1, 1) := by decide +kernel
theorem dX8_orphans_42 : decode cX8_orphans 42 = .ok (.iload_n 2, 1) := by decide +kernel
theorem dX8_orphans_43 : decode cX8_orphans 43 = .ok (.ishl, 1) := by decide +kernel
theorem dX8_orphans_44 : decode cX8_orphans 44 = .ok (.goto 4, 3) := by decide +kernel
theorem dX8_orphans_47 : decode cX8_orphans 47 = .ok (.iconst 0, 1) := by decide +kernel
theorem dX8_orphans_48 : decode cX8_orphans 48 = .ok (.ior, 1) := by decide +kernel
theorem dX8_orphans_49 : decode cX8_orphans 49 = .ok (.istore_n 1, 1) := by decide +kernel
theorem dX8_orphans_50 : decode cX8_orphans 50 = .ok (.iinc 2 1, 3) := by decide +kernel
theorem dX8_orphans_53 : decode cX8_orphans 53 = .ok (.goto (-44), 3) := by decide +kernel
theorem dX8_orphans_56 : decode cX8_orphans 56 = .ok (.iload_n 1, 1) := by decide +kernel
theorem dX8_orphans_57 : decode cX8_orphans 57 = .ok (.ireturn, 1) := by decide +kernel
/-! BusLiftsModel.orphans()I -/
noncomputable def f_X8_orphans_56  (σ : Sg) (v1 : Int32) : Option (Int32 × Sg) := some (v1, σ)
noncomputable def f_X8_orphans_48 (k9 : Sg → Int32 → Int32 → Option (Int32 × Sg)) (σ : Sg) (v2 : Int32) (v100 : Int32) (v101 : Int32) : Option (Int32 × Sg) := k9 σ (v100 ||| v101) (v2 + 1)
noncomputable def f_X8_orphans_47 (k9 : Sg → Int32 → Int32 → Option (Int32 × Sg)) (σ : Sg) (v2 : Int32) (v100 : Int32) : Option (Int32 × Sg) := f_X8_orphans_48 k9 σ v2 v100 0
noncomputable def f_X8_orphans_9  : Nat → Sg → Int32 → Int32 → Option (Int32 × Sg)
  | 0, _, _, _ => none
  | n + 1, σ, v1, v2 => if (σ 30 0 2) ≤ v2 then (f_X8_orphans_56 σ v1) else (if (127 + v2) < 0 ∨ 2111 ≤ ((127 + v2)).toNatClampNeg then none else (if (σ 30 0 ((127 + v2)).toNatClampNeg) = 1 then (bi (f_X8_holders σ v2) fun r2 σ1 => (if r2 = 0 then (f_X8_orphans_48 (f_X8_orphans_9 n) σ1 v2 v1 (1 <<< (v2 &&& 31))) else (f_X8_orphans_47 (f_X8_orphans_9 n) σ1 v2 v1))) else (f_X8_orphans_47 (f_X8_orphans_9 n) σ v2 v1)))
theorem f_X8_orphans_9_s  (n : Nat) (σ : Sg) (v1 : Int32) (v2 : Int32) : f_X8_orphans_9  (n + 1) σ v1 v2 = (if (σ 30 0 2) ≤ v2 then (f_X8_orphans_56 σ v1) else (if (127 + v2) < 0 ∨ 2111 ≤ ((127 + v2)).toNatClampNeg then none else (if (σ 30 0 ((127 + v2)).toNatClampNeg) = 1 then (bi (f_X8_holders σ v2) fun r2 σ1 => (if r2 = 0 then (f_X8_orphans_48 (f_X8_orphans_9 n) σ1 v2 v1 (1 <<< (v2 &&& 31))) else (f_X8_orphans_47 (f_X8_orphans_9 n) σ1 v2 v1))) else (f_X8_orphans_47 (f_X8_orphans_9 n) σ v2 v1)))) := rfl
noncomputable def f_X8_orphans  (σ : Sg)  : Option (Int32 × Sg) := st (sup σ 8 0 8 0) fun σ1 => (f_X8_orphans_9 FU σ1 0 0)
set_option maxHeartbeats 4000000 in
set_option maxRecDepth 100000 in
theorem w_X8_orphans_56 {p : Program} {l : Launch} {e : Env} {s : State} {m : MethodId} {args : Array Value} {below : List Frame} {meth : Method} {c : Code} {G : Gx} {ad : Ad} {res : Int32 × Sg} (C : Cx p s m args meth c yX8_orphans.cls cX8_orphans 3 (Option.some FieldType.int) G)  : ∀ (σ : Sg) (v1 : Int32) (H : Heap) (locs : List Loc) (ls : Array Slot), z_S 1 G ad σ (z_A 1 ad s.heap.size) s.heap H locs → lv_has ls 3 [(1, .int v1)] → f_X8_orphans_56  σ v1 = some res → W p l e { frames := 2, cells := 0, slots := 0, locals := 45 } s m args below meth c H locs 0 0 (MQ below (va_Qi (S := Unit) (fun r1 _ => r1 = res.1) (fun _ t => z_W 1 G ad res.2 t.heap) (z_A 1 ad s.heap.size)) args s 0 0 (z_A 1 ad s.heap.size)) (F0 m 56 ls []) := by
  intro σ v1 H locs ls S hl  hf
  unfold f_X8_orphans_56 at hf
  refine lv_iload_n C.1 C.2.1 dX8_orphans_56 rfl (lv_at hl 0 rfl) ?_
  exact z_iret C S hf dX8_orphans_57
set_option maxHeartbeats 4000000 in
set_option maxRecDepth 100000 in
theorem w_X8_orphans_48 {p : Program} {l : Launch} {e : Env} {s : State} {m : MethodId} {args : Array Value} {below : List Frame} {meth : Method} {c : Code} {G : Gx} {ad : Ad} {res : Int32 × Sg} (C : Cx p s m args meth c yX8_orphans.cls cX8_orphans 3 (Option.some FieldType.int) G) (k9 : Sg → Int32 → Int32 → Option (Int32 × Sg)) (hk9 : ∀ (σ : Sg) (v1 : Int32) (v2 : Int32) (H : Heap) (locs : List Loc) (ls : Array Slot), z_S 1 G ad σ (z_A 1 ad s.heap.size) s.heap H locs → lv_has ls 3 [(0, .ref (ad 8 0)), (1, .int v1), (2, .int v2)] → k9 σ v1 v2 = some res → W p l e { frames := 2, cells := 0, slots := 0, locals := 45 } s m args below meth c H locs 0 0 (MQ below (va_Qi (S := Unit) (fun r1 _ => r1 = res.1) (fun _ t => z_W 1 G ad res.2 t.heap) (z_A 1 ad s.heap.size)) args s 0 0 (z_A 1 ad s.heap.size)) (F0 m 9 ls [])) : ∀ (σ : Sg) (v2 : Int32) (v100 : Int32) (v101 : Int32) (H : Heap) (locs : List Loc) (ls : Array Slot), z_S 1 G ad σ (z_A 1 ad s.heap.size) s.heap H locs → lv_has ls 3 [(0, .ref (ad 8 0)), (2, .int v2)] → f_X8_orphans_48 k9 σ v2 v100 v101 = some res → W p l e { frames := 2, cells := 0, slots := 0, locals := 45 } s m args below meth c H locs 0 0 (MQ below (va_Qi (S := Unit) (fun r1 _ => r1 = res.1) (fun _ t => z_W 1 G ad res.2 t.heap) (z_A 1 ad s.heap.size)) args s 0 0 (z_A 1 ad s.heap.size)) (F0 m 48 ls [.int v101, .int v100]) := by
  intro σ v2 v100 v101 H locs ls S hl  hf
  unfold f_X8_orphans_48 at hf
  refine lv_ior C.1 C.2.1 dX8_orphans_48 ?_
  refine lv_istore_n (lv' := [(1, .int (v100 ||| v101)), (0, .ref (ad 8 0)), (2, .int v2)]) C.1 C.2.1 dX8_orphans_49 rfl hl (by decide) rfl (fun ls hl => ?_)
  refine lv_iinc (v := (v2 + 1)) (lv' := [(2, .int (v2 + 1)), (1, .int (v100 ||| v101)), (0, .ref (ad 8 0))]) C.1 C.2.1 dX8_orphans_50 hl (k := 2) rfl rfl (by decide) rfl (fun ls hl => ?_)
  refine lv_goto (tgt := 9) C.1 C.2.1 dX8_orphans_53 (by decide) ?_
  exact hk9 _ (v100 ||| v101) (v2 + 1) _ _ _ S (lv_sub hl [2, 1, 0] rfl)  hf
set_option maxHeartbeats 4000000 in
set_option maxRecDepth 100000 in
theorem w_X8_orphans_47 {p : Program} {l : Launch} {e : Env} {s : State} {m : MethodId} {args : Array Value} {below : List Frame} {meth : Method} {c : Code} {G : Gx} {ad : Ad} {res : Int32 × Sg} (C : Cx p s m args meth c yX8_orphans.cls cX8_orphans 3 (Option.some FieldType.int) G) (k9 : Sg → Int32 → Int32 → Option (Int32 × Sg)) (hk9 : ∀ (σ : Sg) (v1 : Int32) (v2 : Int32) (H : Heap) (locs : List Loc) (ls : Array Slot), z_S 1 G ad σ (z_A 1 ad s.heap.size) s.heap H locs → lv_has ls 3 [(0, .ref (ad 8 0)), (1, .int v1), (2, .int v2)] → k9 σ v1 v2 = some res → W p l e { frames := 2, cells := 0, slots := 0, locals := 45 } s m args below meth c H locs 0 0 (MQ below (va_Qi (S := Unit) (fun r1 _ => r1 = res.1) (fun _ t => z_W 1 G ad res.2 t.heap) (z_A 1 ad s.heap.size)) args s 0 0 (z_A 1 ad s.heap.size)) (F0 m 9 ls [])) : ∀ (σ : Sg) (v2 : Int32) (v100 : Int32) (H : Heap) (locs : List Loc) (ls : Array Slot), z_S 1 G ad σ (z_A 1 ad s.heap.size) s.heap H locs → lv_has ls 3 [(0, .ref (ad 8 0)), (2, .int v2)] → f_X8_orphans_47 k9 σ v2 v100 = some res → W p l e { frames := 2, cells := 0, slots := 0, locals := 45 } s m args below meth c H locs 0 0 (MQ below (va_Qi (S := Unit) (fun r1 _ => r1 = res.1) (fun _ t => z_W 1 G ad res.2 t.heap) (z_A 1 ad s.heap.size)) args s 0 0 (z_A 1 ad s.heap.size)) (F0 m 47 ls [.int v100]) := by
  intro σ v2 v100 H locs ls S hl  hf
  unfold f_X8_orphans_47 at hf
  refine lv_iconst (v := 0) C.1 C.2.1 dX8_orphans_47 (by decide) ?_
  exact w_X8_orphans_48 C k9 hk9 _ v2 v100 0 _ _ _ S (lv_sub hl [0, 1] rfl) hf
set_option maxHeartbeats 4000000 in
set_option maxRecDepth 100000 in
theorem w_X8_orphans_9 {p : Program} {l : Launch} {e : Env} {s : State} {m : MethodId} {args : Array Value} {below : List Frame} {meth : Method} {c : Code} {G : Gx} {ad : Ad} {res : Int32 × Sg} (C : Cx p s m args meth c yX8_orphans.cls cX8_orphans 3 (Option.some FieldType.int) G)  : ∀ n : Nat, ∀ (σ : Sg) (v1 : Int32) (v2 : Int32) (H : Heap) (locs : List Loc) (ls : Array Slot), z_S 1 G ad σ (z_A 1 ad s.heap.size) s.heap H locs → lv_has ls 3 [(0, .ref (ad 8 0)), (1, .int v1), (2, .int v2)] → f_X8_orphans_9  n σ v1 v2 = some res → W p l e { frames := 2, cells := 0, slots := 0, locals := 45 } s m args below meth c H locs 0 0 (MQ below (va_Qi (S := Unit) (fun r1 _ => r1 = res.1) (fun _ t => z_W 1 G ad res.2 t.heap) (z_A 1 ad s.heap.size)) args s 0 0 (z_A 1 ad s.heap.size)) (F0 m 9 ls []) := by
  intro n
  induction n with
  | zero => intro σ v1 v2 H locs ls S hl  hf; cases hf
  | succ n ih =>
    intro σ v1 v2 H locs ls S hl  hf
    rw [f_X8_orphans_9_s] at hf
    refine lv_iload_n C.1 C.2.1 dX8_orphans_9 rfl (lv_at hl 2 rfl) ?_
    refine lv_aload_n C.1 C.2.1 dX8_orphans_10 rfl (lv_at hl 0 rfl) ?_
    refine z_getR C S 8 0 rfl (by decide) cf_8 0 (by decide) _ (gr_8_0 G ad 0) tw_6_118 dX8_orphans_11 ?_
    refine lv_iconst (v := 2) C.1 C.2.1 dX8_orphans_14 (by decide) ?_
    refine z_ialdL C S 30 0 rfl (by decide) 2111 (fun _ => rfl) 2 (by decide) (by decide) (by decide) dX8_orphans_15 ?_
    refine lv_icmp_ge (tgt := 56) C.1 C.2.1 dX8_orphans_16 (by decide) (fun c_16 => ?_) (fun c_16 => ?_)
    · rw [if_pos c_16] at hf
      exact w_X8_orphans_56 C _ v1 _ _ _ S (lv_sub hl [1] rfl) hf
    · rw [if_neg c_16] at hf
      refine lv_iload_n C.1 C.2.1 dX8_orphans_19 rfl (lv_at hl 1 rfl) ?_
      refine lv_aload_n C.1 C.2.1 dX8_orphans_20 rfl (lv_at hl 0 rfl) ?_
      refine z_getR C S 8 0 rfl (by decide) cf_8 0 (by decide) _ (gr_8_0 G ad 0) tw_6_118 dX8_orphans_21 ?_
      refine lv_bipush (v := 127) C.1 C.2.1 dX8_orphans_24 (by decide) ?_
      refine lv_iload_n C.1 C.2.1 dX8_orphans_26 rfl (lv_at hl 2 rfl) ?_
      refine lv_iadd C.1 C.2.1 dX8_orphans_27 ?_
      obtain ⟨g_28, hf⟩ := gd hf
      refine z_iald C S 30 0 rfl (by decide) 2111 (fun _ => rfl) g_28 dX8_orphans_28 ?_
      refine lv_iconst (v := 1) C.1 C.2.1 dX8_orphans_29 (by decide) ?_
      refine lv_icmp_ne (tgt := 47) C.1 C.2.1 dX8_orphans_30 (by decide) (fun c_30 => ?_) (fun c_30 => ?_)
      · rw [if_neg c_30] at hf
        exact w_X8_orphans_47 C (f_X8_orphans_9 n) ih _ v2 v1 _ _ _ S (lv_sub hl [0, 2] rfl) hf
      · rw [if_pos c_30] at hf
        refine lv_aload_n C.1 C.2.1 dX8_orphans_33 rfl (lv_at hl 0 rfl) ?_
        refine lv_iload_n C.1 C.2.1 dX8_orphans_34 rfl (lv_at hl 2 rfl) ?_
        obtain ⟨r2, σ1, q_35, hf⟩ := bib hf
        refine z_callI C S 8 0 rfl (by decide) cf_8 ⟨_, rfl⟩ [.int v2] (m_X8_holders l G ad σ v2 r2 σ1 q_35 _) kv_X8_holders tw_7_95 ⟨Nat.le_of_ble_eq_true rfl, Nat.le_of_ble_eq_true rfl⟩ rfl rfl (Nat.le_of_ble_eq_true rfl) hl.1 ⟨Nat.le_of_ble_eq_true rfl, Nat.le_of_ble_eq_true rfl⟩ dX8_orphans_35 (fun H locs S => ?_)
        refine lv_if_ne (tgt := 47) C.1 C.2.1 dX8_orphans_38 (by decide) (fun c_38 => ?_) (fun c_38 => ?_)
        · rw [if_neg c_38] at hf
          exact w_X8_orphans_47 C (f_X8_orphans_9 n) ih _ v2 v1 _ _ _ S (lv_sub hl [0, 2] rfl) hf
        · rw [if_pos c_38] at hf
          refine lv_iconst (v := 1) C.1 C.2.1 dX8_orphans_41 (by decide) ?_
          refine lv_iload_n C.1 C.2.1 dX8_orphans_42 rfl (lv_at hl 2 rfl) ?_
          refine lv_ishl C.1 C.2.1 dX8_orphans_43 ?_
          refine lv_goto (tgt := 48) C.1 C.2.1 dX8_orphans_44 (by decide) ?_
          exact w_X8_orphans_48 C (f_X8_orphans_9 n) ih _ v2 v1 (1 <<< (v2 &&& 31)) _ _ _ S (lv_sub hl [0, 2] rfl) hf
set_option maxHeartbeats 4000000 in
set_option maxRecDepth 100000 in
theorem w_X8_orphans_0 {p : Program} {l : Launch} {e : Env} {s : State} {m : MethodId} {args : Array Value} {below : List Frame} {meth : Method} {c : Code} {G : Gx} {ad : Ad} {res : Int32 × Sg} (C : Cx p s m args meth c yX8_orphans.cls cX8_orphans 3 (Option.some FieldType.int) G)  : ∀ (σ : Sg)  (H : Heap) (locs : List Loc) (ls : Array Slot), z_S 1 G ad σ (z_A 1 ad s.heap.size) s.heap H locs → lv_has ls 3 [(0, .ref (ad 8 0))] → f_X8_orphans  σ  = some res → W p l e { frames := 2, cells := 0, slots := 0, locals := 45 } s m args below meth c H locs 0 0 (MQ below (va_Qi (S := Unit) (fun r1 _ => r1 = res.1) (fun _ t => z_W 1 G ad res.2 t.heap) (z_A 1 ad s.heap.size)) args s 0 0 (z_A 1 ad s.heap.size)) (F0 m 0 ls []) := by
  intro σ  H locs ls S hl  hf
  unfold f_X8_orphans at hf
  refine lv_aload_n C.1 C.2.1 dX8_orphans_0 rfl (lv_at hl 0 rfl) ?_
  refine lv_iconst (v := 0) C.1 C.2.1 dX8_orphans_1 (by decide) ?_
  obtain ⟨σ1, e_2, hf⟩ := stb hf
  refine z_putI C S 8 0 rfl (by decide) cf_8 8 (by decide) (pi_8_8 G ad 0) rfl rfl rfl tw_6_126 dX8_orphans_2 (fun H locs S => ?_)
  rw [← e_2] at S
  refine lv_iconst (v := 0) C.1 C.2.1 dX8_orphans_5 (by decide) ?_
  refine lv_istore_n (lv' := [(1, .int 0), (0, .ref (ad 8 0))]) C.1 C.2.1 dX8_orphans_6 rfl hl (by decide) rfl (fun ls hl => ?_)
  refine lv_iconst (v := 0) C.1 C.2.1 dX8_orphans_7 (by decide) ?_
  refine lv_istore_n (lv' := [(2, .int 0), (1, .int 0), (0, .ref (ad 8 0))]) C.1 C.2.1 dX8_orphans_8 rfl hl (by decide) rfl (fun ls hl => ?_)
  exact w_X8_orphans_9 C FU _ 0 0 _ _ _ S (lv_sub hl [2, 1, 0] rfl) hf
theorem kv_X8_orphans : KV yX8_orphans cX8_orphans 3 (Option.some FieldType.int) 0 := ⟨tw_8_80, tw_8_78, tw_8_79, tw_1_10, by decide, by decide, by decide +kernel⟩
theorem m_X8_orphans (l : Launch) (G : Gx) (ad : Ad) (σ : Sg)  (r : Int32) (σ' : Sg)  (hf : f_X8_orphans σ  = some (r, σ')) (sz : Nat) : z_MI l yX8_orphans cX8_orphans 3 (Option.some FieldType.int) 2 45 1 G ad σ sz [.ref (ad 8 0)] r σ' := by
  refine z_begin (by decide +kernel) (Nat.le_of_ble_eq_true rfl) [(0, .ref (ad 8 0))] rfl (fun p e s m args below meth c ls C hz S hl => ?_)
  subst hz
  exact w_X8_orphans_0 (res := (r, σ')) C σ  _ _ _ S hl  hf

theorem dX8_ride_0 : decode cX8_ride 0 = .ok (.aload_n 0, 1) := by decide +kernel
theorem dX8_ride_1 : decode cX8_ride 1 = .ok (.iload_n 1, 1) := by decide +kernel
theorem dX8_ride_2 : decode cX8_ride 2 = .ok (.invokevirtual 274, 3) := by decide +kernel
theorem dX8_ride_5 : decode cX8_ride 5 = .ok (.ifCond .eq 7, 3) := by decide +kernel
theorem dX8_ride_8 : decode cX8_ride 8 = .ok (.iconst 0, 1) := by decide +kernel
theorem dX8_ride_9 : decode cX8_ride 9 = .ok (.goto 24, 3) := by decide +kernel
theorem dX8_ride_12 : decode cX8_ride 12 = .ok (.aload_n 0, 1) := by decide +kernel
theorem dX8_ride_13 : decode cX8_ride 13 = .ok (.getfield 7, 3) := by decide +kernel
theorem dX8_ride_16 : decode cX8_ride 16 = .ok (.bipush 55, 2) := by decide +kernel
theorem dX8_ride_18 : decode cX8_ride 18 = .ok (.iload_n 1, 1) := by decide +kernel
theorem dX8_ride_19 : decode cX8_ride 19 = .ok (.iadd, 1) := by decide +kernel
theorem dX8_ride_20 : decode cX8_ride 20 = .ok (.iaload, 1) := by decide +kernel
theorem dX8_ride_21 : decode cX8_ride 21 = .ok (.aload_n 0, 1) := by decide +kernel
theorem dX8_ride_22 : decode cX8_ride 22 = .ok (.getfield 7, 3) := by decide +kernel
theorem dX8_ride_25 : decode cX8_ride 25 = .ok (.bipush 79, 2) := by decide +kernel
theorem dX8_ride_27 : decode cX8_ride 27 = .ok (.iload_n 1, 1) := by decide +kernel
theorem dX8_ride_28 : decode cX8_ride 28 = .ok (.iadd, 1) := by decide +kernel
theorem dX8_ride_29 : decode cX8_ride 29 = .ok (.iaload, 1) := by decide +kernel
theorem dX8_ride_30 : decode cX8_ride 30 = .ok (.invokestatic 72, 3) := by decide +kernel
theorem dX8_ride_33 : decode cX8_ride 33 = .ok (.ireturn, 1) := by decide +kernel
/-! BusLiftsModel.ride(I)I -/
noncomputable def f_X8_ride_33  (σ : Sg) (v100 : Int32) : Option (Int32 × Sg) := some (v100, σ)
noncomputable def f_X8_ride  (σ : Sg) (v1 : Int32) : Option (Int32 × Sg) := bi (f_X8_noCall σ v1) fun r2 σ1 => (if r2 = 0 then (if (55 + v1) < 0 ∨ 2111 ≤ ((55 + v1)).toNatClampNeg then none else (if (79 + v1) < 0 ∨ 2111 ≤ ((79 + v1)).toNatClampNeg then none else (bi (f_X8_apart σ1 (σ1 30 0 ((55 + v1)).toNatClampNeg) (σ1 30 0 ((79 + v1)).toNatClampNeg)) fun r4 σ3 => (f_X8_ride_33 σ3 r4)))) else (f_X8_ride_33 σ1 0))
set_option maxHeartbeats 4000000 in
set_option maxRecDepth 100000 in
theorem w_X8_ride_33 {p : Program} {l : Launch} {e : Env} {s : State} {m : MethodId} {args : Array Value} {below : List Frame} {meth : Method} {c : Code} {G : Gx} {ad : Ad} {res : Int32 × Sg} (C : Cx p s m args meth c yX8_ride.cls cX8_ride 2 (Option.some FieldType.int) G)  : ∀ (σ : Sg) (v100 : Int32) (H : Heap) (locs : List Loc) (ls : Array Slot), z_S 1 G ad σ (z_A 1 ad s.heap.size) s.heap H locs → lv_has ls 2 [] → f_X8_ride_33  σ v100 = some res → W p l e { frames := 2, cells := 0, slots := 0, locals := 43 } s m args below meth c H locs 0 0 (MQ below (va_Qi (S := Unit) (fun r1 _ => r1 = res.1) (fun _ t => z_W 1 G ad res.2 t.heap) (z_A 1 ad s.heap.size)) args s 0 0 (z_A 1 ad s.heap.size)) (F0 m 33 ls [.int v100]) := by
  intro σ v100 H locs ls S hl  hf
  unfold f_X8_ride_33 at hf
  exact z_iret C S hf dX8_ride_33
set_option maxHeartbeats 4000000 in
set_option maxRecDepth 100000 in
theorem w_X8_ride_0 {p : Program} {l : Launch} {e : Env} {s : State} {m : MethodId} {args : Array Value} {below : List Frame} {meth : Method} {c : Code} {G : Gx} {ad : Ad} {res : Int32 × Sg} (C : Cx p s m args meth c yX8_ride.cls cX8_ride 2 (Option.some FieldType.int) G)  : ∀ (σ : Sg) (v1 : Int32) (H : Heap) (locs : List Loc) (ls : Array Slot), z_S 1 G ad σ (z_A 1 ad s.heap.size) s.heap H locs → lv_has ls 2 [(0, .ref (ad 8 0)), (1, .int v1)] → f_X8_ride  σ v1 = some res → W p l e { frames := 2, cells := 0, slots := 0, locals := 43 } s m args below meth c H locs 0 0 (MQ below (va_Qi (S := Unit) (fun r1 _ => r1 = res.1) (fun _ t => z_W 1 G ad res.2 t.heap) (z_A 1 ad s.heap.size)) args s 0 0 (z_A 1 ad s.heap.size)) (F0 m 0 ls []) := by
  intro σ v1 H locs ls S hl  hf
  unfold f_X8_ride at hf
  refine lv_aload_n C.1 C.2.1 dX8_ride_0 rfl (lv_at hl 0 rfl) ?_
  refine lv_iload_n C.1 C.2.1 dX8_ride_1 rfl (lv_at hl 1 rfl) ?_
  obtain ⟨r2, σ1, q_2, hf⟩ := bib hf
  refine z_callI C S 8 0 rfl (by decide) cf_8 ⟨_, rfl⟩ [.int v1] (m_X8_noCall l G ad σ v1 r2 σ1 q_2 _) kv_X8_noCall tw_7_91 ⟨Nat.le_of_ble_eq_true rfl, Nat.le_of_ble_eq_true rfl⟩ rfl rfl (Nat.le_of_ble_eq_true rfl) hl.1 ⟨Nat.le_of_ble_eq_true rfl, Nat.le_of_ble_eq_true rfl⟩ dX8_ride_2 (fun H locs S => ?_)
  refine lv_if_eq (tgt := 12) C.1 C.2.1 dX8_ride_5 (by decide) (fun c_5 => ?_) (fun c_5 => ?_)
  · rw [if_pos c_5] at hf
    refine lv_aload_n C.1 C.2.1 dX8_ride_12 rfl (lv_at hl 0 rfl) ?_
    refine z_getR C S 8 0 rfl (by decide) cf_8 0 (by decide) _ (gr_8_0 G ad 0) tw_6_118 dX8_ride_13 ?_
    refine lv_bipush (v := 55) C.1 C.2.1 dX8_ride_16 (by decide) ?_
    refine lv_iload_n C.1 C.2.1 dX8_ride_18 rfl (lv_at hl 1 rfl) ?_
    refine lv_iadd C.1 C.2.1 dX8_ride_19 ?_
    obtain ⟨g_20, hf⟩ := gd hf
    refine z_iald C S 30 0 rfl (by decide) 2111 (fun _ => rfl) g_20 dX8_ride_20 ?_
    refine lv_aload_n C.1 C.2.1 dX8_ride_21 rfl (lv_at hl 0 rfl) ?_
    refine z_getR C S 8 0 rfl (by decide) cf_8 0 (by decide) _ (gr_8_0 G ad 0) tw_6_118 dX8_ride_22 ?_
    refine lv_bipush (v := 79) C.1 C.2.1 dX8_ride_25 (by decide) ?_
    refine lv_iload_n C.1 C.2.1 dX8_ride_27 rfl (lv_at hl 1 rfl) ?_
    refine lv_iadd C.1 C.2.1 dX8_ride_28 ?_
    obtain ⟨g_29, hf⟩ := gd hf
    refine z_iald C S 30 0 rfl (by decide) 2111 (fun _ => rfl) g_29 dX8_ride_29 ?_
    obtain ⟨r4, σ3, q_30, hf⟩ := bib hf
    refine z_callSI C S [.int (σ1 30 0 ((55 + v1)).toNatClampNeg), .int (σ1 30 0 ((79 + v1)).toNatClampNeg)] (m_X8_apart l G ad σ1 (σ1 30 0 ((55 + v1)).toNatClampNeg) (σ1 30 0 ((79 + v1)).toNatClampNeg) r4 σ3 q_30 _) kv_X8_apart tw_7_143 ⟨Nat.le_of_ble_eq_true rfl, Nat.le_of_ble_eq_true rfl⟩ rfl rfl (Nat.le_of_ble_eq_true rfl) hl.1 ⟨Nat.le_of_ble_eq_true rfl, Nat.le_of_ble_eq_true rfl⟩ dX8_ride_30 (fun H locs S => ?_)
    exact w_X8_ride_33 C _ r4 _ _ _ S (lv_sub hl [] rfl) hf
  · rw [if_neg c_5] at hf
    refine lv_iconst (v := 0) C.1 C.2.1 dX8_ride_8 (by decide) ?_
    refine lv_goto (tgt := 33) C.1 C.2.1 dX8_ride_9 (by decide) ?_
    exact w_X8_ride_33 C _ 0 _ _ _ S (lv_sub hl [] rfl) hf
theorem kv_X8_ride : KV yX8_ride cX8_ride 2 (Option.some FieldType.int) 1 := ⟨tw_8_84, tw_8_82, tw_8_83, tw_1_10, by decide, by decide, by decide +kernel⟩
theorem m_X8_ride (l : Launch) (G : Gx) (ad : Ad) (σ : Sg) (v1 : Int32) (r : Int32) (σ' : Sg)  (hf : f_X8_ride σ v1 = some (r, σ')) (sz : Nat) : z_MI l yX8_ride cX8_ride 2 (Option.some FieldType.int) 2 43 1 G ad σ sz [.ref (ad 8 0), .int v1] r σ' := by
  refine z_begin (by decide +kernel) (Nat.le_of_ble_eq_true rfl) [(0, .ref (ad 8 0)), (1, .int v1)] rfl (fun p e s m args below meth c ls C hz S hl => ?_)
  subst hz
  exact w_X8_ride_0 (res := (r, σ')) C σ v1 _ _ _ S hl  hf

theorem dX8_busiest_0 : decode cX8_busiest 0 = .ok (.aload_n 0, 1) := by decide +kernel
theorem dX8_busiest_1 : decode cX8_busiest 1 = .ok (.iconst 0, 1) := by decide +kernel
theorem dX8_busiest_2 : decode cX8_busiest 2 = .ok (.putfield 48, 3) := by decide +kernel
theorem dX8_busiest_5 : decode cX8_busiest 5 = .ok (.iconst 0, 1) := by decide +kernel
theorem dX8_busiest_6 : decode cX8_busiest 6 = .ok (.istore_n 1, 1) := by decide +kernel
theorem dX8_busiest_7 : decode cX8_busiest 7 = .ok (.iconst 1, 1) := by decide +kernel
theorem dX8_busiest_8 : decode cX8_busiest 8 = .ok (.istore_n 2, 1) := by decide +kernel
theorem dX8_busiest_9 : decode cX8_busiest 9 = .ok (.iload_n 2, 1) := by decide +kernel
theorem dX8_busiest_10 : decode cX8_busiest 10 = .ok (.aload_n 0, 1) := by decide +kernel
theorem dX8_busiest_11 : decode cX8_busiest 11 = .ok (.getfield 7, 3) := by decide +kernel
theorem dX8_busiest_14 : decode cX8_busiest 14 = .ok (.iconst 1, 1) := by decide +kernel
theorem dX8_busiest_15 : decode cX8_busiest 15 = .ok (.iaload, 1) := by decide +kernel
theorem dX8_busiest_16 : decode cX8_busiest 16 = .ok (.if_icmp .ge 32, 3) := by decide +kernel
theorem dX8_busiest_19 : decode cX8_busiest 19 = .ok (.aload_n 0, 1) := by decide +kernel
theorem dX8_busiest_20 : decode cX8_busiest 20 = .ok (.getfield 7, 3) := by decide +kernel
theorem dX8_busiest_23 : decode cX8_busiest 23 = .ok (.bipush 43, 2) := by decide +kernel
theorem dX8_busiest_25 : decode cX8_busiest 25 = .ok (.iload_n 2, 1) := by decide +kernel
theorem dX8_busiest_26 : decode cX8_busiest 26 = .ok (.iadd, 1) := by decide +kernel
theorem dX8_busiest_27 : decode cX8_busiest 27 = .ok (.iaload, 1) := by decide +kernel
theorem dX8_busiest_28 : decode cX8_busiest 28 = .ok (.aload_n 0, 1) := by decide +kernel
theorem dX8_busiest_29 : decode cX8_busiest 29 = .ok (.getfield 7, 3) := by decide +kernel
theorem dX8_busiest_32 : decode cX8_busiest 32 = .ok (.bipush 43, 2) := by decide +kernel
theorem dX8_busiest_34 : decode cX8_busiest 34 = .ok (.iload_n 1, 1) := by decide +kernel
theorem dX8_busiest_35 : decode cX8_busiest 35 = .ok (.iadd, 1) := by decide +kernel
theorem dX8_busiest_36 : decode cX8_busiest 36 = .ok (.iaload, 1) := by decide +kernel
theorem dX8_busiest_37 : decode cX8_busiest 37 = .ok (.if_icmp .le 5, 3) := by decide +kernel
theorem dX8_busiest_40 : decode cX8_busiest 40 = .ok (.iload_n 2, 1) := by decide +kernel
theorem dX8_busiest_41 : decode cX8_busiest 41 = .ok (.istore_n 1, 1) := by decide +kernel
theorem dX8_busiest_42 : decode cX8_busiest 42 = .ok (.iinc 2 1, 3) := by decide +kernel
theorem dX8_busiest_45 : decode cX8_busiest 45 = .ok (.goto (-36), 3) := by decide +kernel
theorem dX8_busiest_48 : decode cX8_busiest 48 = .ok (.iload_n 1, 1) := by decide +kernel
theorem dX8_busiest_49 : decode cX8_busiest 49 = .ok (.ireturn, 1) := by decide +kernel
/-! BusLiftsModel.busiest()I -/
noncomputable def f_X8_busiest_48  (σ : Sg) (v1 : Int32) : Option (Int32 × Sg) := some (v1, σ)
noncomputable def f_X8_busiest_42 (k9 : Sg → Int32 → Int32 → Option (Int32 × Sg)) (σ : Sg) (v1 : Int32) (v2 : Int32) : Option (Int32 × Sg) := k9 σ v1 (v2 + 1)
noncomputable def f_X8_busiest_9  : Nat → Sg → Int32 → Int32 → Option (Int32 × Sg)
  | 0, _, _, _ => none
  | n + 1, σ, v1, v2 => if (σ 30 0 1) ≤ v2 then (f_X8_busiest_48 σ v1) else (if (43 + v2) < 0 ∨ 2111 ≤ ((43 + v2)).toNatClampNeg then none else (if (43 + v1) < 0 ∨ 2111 ≤ ((43 + v1)).toNatClampNeg then none else (if (σ 30 0 ((43 + v2)).toNatClampNeg) ≤ (σ 30 0 ((43 + v1)).toNatClampNeg) then (f_X8_busiest_42 (f_X8_busiest_9 n) σ v1 v2) else (f_X8_busiest_42 (f_X8_busiest_9 n) σ v2 v2))))
theorem f_X8_busiest_9_s  (n : Nat) (σ : Sg) (v1 : Int32) (v2 : Int32) : f_X8_busiest_9  (n + 1) σ v1 v2 = (if (σ 30 0 1) ≤ v2 then (f_X8_busiest_48 σ v1) else (if (43 + v2) < 0 ∨ 2111 ≤ ((43 + v2)).toNatClampNeg then none else (if (43 + v1) < 0 ∨ 2111 ≤ ((43 + v1)).toNatClampNeg then none else (if (σ 30 0 ((43 + v2)).toNatClampNeg) ≤ (σ 30 0 ((43 + v1)).toNatClampNeg) then (f_X8_busiest_42 (f_X8_busiest_9 n) σ v1 v2) else (f_X8_busiest_42 (f_X8_busiest_9 n) σ v2 v2))))) := rfl
noncomputable def f_X8_busiest  (σ : Sg)  : Option (Int32 × Sg) := st (sup σ 8 0 8 0) fun σ1 => (f_X8_busiest_9 FU σ1 0 1)
set_option maxHeartbeats 4000000 in
set_option maxRecDepth 100000 in
theorem w_X8_busiest_48 {p : Program} {l : Launch} {e : Env} {s : State} {m : MethodId} {args : Array Value} {below : List Frame} {meth : Method} {c : Code} {G : Gx} {ad : Ad} {res : Int32 × Sg} (C : Cx p s m args meth c yX8_busiest.cls cX8_busiest 3 (Option.some FieldType.int) G)  : ∀ (σ : Sg) (v1 : Int32) (H : Heap) (locs : List Loc) (ls : Array Slot), z_S 1 G ad σ (z_A 1 ad s.heap.size) s.heap H locs → lv_has ls 3 [(1, .int v1)] → f_X8_busiest_48  σ v1 = some res → W p l e { frames := 0, cells := 0, slots := 0, locals := 0 } s m args below meth c H locs 0 0 (MQ below (va_Qi (S := Unit) (fun r1 _ => r1 = res.1) (fun _ t => z_W 1 G ad res.2 t.heap) (z_A 1 ad s.heap.size)) args s 0 0 (z_A 1 ad s.heap.size)) (F0 m 48 ls []) := by
  intro σ v1 H locs ls S hl  hf
  unfold f_X8_busiest_48 at hf
  refine lv_iload_n C.1 C.2.1 dX8_busiest_48 rfl (lv_at hl 0 rfl) ?_
  exact z_iret C S hf dX8_busiest_49
set_option maxHeartbeats 4000000 in
set_option maxRecDepth 100000 in
theorem w_X8_busiest_42 {p : Program} {l : Launch} {e : Env} {s : State} {m : MethodId} {args : Array Value} {below : List Frame} {meth : Method} {c : Code} {G : Gx} {ad : Ad} {res : Int32 × Sg} (C : Cx p s m args meth c yX8_busiest.cls cX8_busiest 3 (Option.some FieldType.int) G) (k9 : Sg → Int32 → Int32 → Option (Int32 × Sg)) (hk9 : ∀ (σ : Sg) (v1 : Int32) (v2 : Int32) (H : Heap) (locs : List Loc) (ls : Array Slot), z_S 1 G ad σ (z_A 1 ad s.heap.size) s.heap H locs → lv_has ls 3 [(0, .ref (ad 8 0)), (1, .int v1), (2, .int v2)] → k9 σ v1 v2 = some res → W p l e { frames := 0, cells := 0, slots := 0, locals := 0 } s m args below meth c H locs 0 0 (MQ below (va_Qi (S := Unit) (fun r1 _ => r1 = res.1) (fun _ t => z_W 1 G ad res.2 t.heap) (z_A 1 ad s.heap.size)) args s 0 0 (z_A 1 ad s.heap.size)) (F0 m 9 ls [])) : ∀ (σ : Sg) (v1 : Int32) (v2 : Int32) (H : Heap) (locs : List Loc) (ls : Array Slot), z_S 1 G ad σ (z_A 1 ad s.heap.size) s.heap H locs → lv_has ls 3 [(0, .ref (ad 8 0)), (1, .int v1), (2, .int v2)] → f_X8_busiest_42 k9 σ v1 v2 = some res → W p l e { frames := 0, cells := 0, slots := 0, locals := 0 } s m args below meth c H locs 0 0 (MQ below (va_Qi (S := Unit) (fun r1 _ => r1 = res.1) (fun _ t => z_W 1 G ad res.2 t.heap) (z_A 1 ad s.heap.size)) args s 0 0 (z_A 1 ad s.heap.size)) (F0 m 42 ls []) := by
  intro σ v1 v2 H locs ls S hl  hf
  unfold f_X8_busiest_42 at hf
  refine lv_iinc (v := (v2 + 1)) (lv' := [(2, .int (v2 + 1)), (0, .ref (ad 8 0)), (1, .int v1)]) C.1 C.2.1 dX8_busiest_42 hl (k := 2) rfl rfl (by decide) rfl (fun ls hl => ?_)
  refine lv_goto (tgt := 9) C.1 C.2.1 dX8_busiest_45 (by decide) ?_
  exact hk9 _ v1 (v2 + 1) _ _ _ S (lv_sub hl [1, 2, 0] rfl)  hf
set_option maxHeartbeats 4000000 in
set_option maxRecDepth 100000 in
theorem w_X8_busiest_9 {p : Program} {l : Launch} {e : Env} {s : State} {m : MethodId} {args : Array Value} {below : List Frame} {meth : Method} {c : Code} {G : Gx} {ad : Ad} {res : Int32 × Sg} (C : Cx p s m args meth c yX8_busiest.cls cX8_busiest 3 (Option.some FieldType.int) G)  : ∀ n : Nat, ∀ (σ : Sg) (v1 : Int32) (v2 : Int32) (H : Heap) (locs : List Loc) (ls : Array Slot), z_S 1 G ad σ (z_A 1 ad s.heap.size) s.heap H locs → lv_has ls 3 [(0, .ref (ad 8 0)), (1, .int v1), (2, .int v2)] → f_X8_busiest_9  n σ v1 v2 = some res → W p l e { frames := 0, cells := 0, slots := 0, locals := 0 } s m args below meth c H locs 0 0 (MQ below (va_Qi (S := Unit) (fun r1 _ => r1 = res.1) (fun _ t => z_W 1 G ad res.2 t.heap) (z_A 1 ad s.heap.size)) args s 0 0 (z_A 1 ad s.heap.size)) (F0 m 9 ls []) := by
  intro n
  induction n with
  | zero => intro σ v1 v2 H locs ls S hl  hf; cases hf
  | succ n ih =>
    intro σ v1 v2 H locs ls S hl  hf
    rw [f_X8_busiest_9_s] at hf
    refine lv_iload_n C.1 C.2.1 dX8_busiest_9 rfl (lv_at hl 2 rfl) ?_
    refine lv_aload_n C.1 C.2.1 dX8_busiest_10 rfl (lv_at hl 0 rfl) ?_
    refine z_getR C S 8 0 rfl (by decide) cf_8 0 (by decide) _ (gr_8_0 G ad 0) tw_6_118 dX8_busiest_11 ?_
    refine lv_iconst (v := 1) C.1 C.2.1 dX8_busiest_14 (by decide) ?_
    refine z_ialdL C S 30 0 rfl (by decide) 2111 (fun _ => rfl) 1 (by decide) (by decide) (by decide) dX8_busiest_15 ?_
    refine lv_icmp_ge (tgt := 48) C.1 C.2.1 dX8_busiest_16 (by decide) (fun c_16 => ?_) (fun c_16 => ?_)
    · rw [if_pos c_16] at hf
      exact w_X8_busiest_48 C _ v1 _ _ _ S (lv_sub hl [1] rfl) hf
    · rw [if_neg c_16] at hf
      refine lv_aload_n C.1 C.2.1 dX8_busiest_19 rfl (lv_at hl 0 rfl) ?_
      refine z_getR C S 8 0 rfl (by decide) cf_8 0 (by decide) _ (gr_8_0 G ad 0) tw_6_118 dX8_busiest_20 ?_
      refine lv_bipush (v := 43) C.1 C.2.1 dX8_busiest_23 (by decide) ?_
      refine lv_iload_n C.1 C.2.1 dX8_busiest_25 rfl (lv_at hl 2 rfl) ?_
      refine lv_iadd C.1 C.2.1 dX8_busiest_26 ?_
      obtain ⟨g_27, hf⟩ := gd hf
      refine z_iald C S 30 0 rfl (by decide) 2111 (fun _ => rfl) g_27 dX8_busiest_27 ?_
      refine lv_aload_n C.1 C.2.1 dX8_busiest_28 rfl (lv_at hl 0 rfl) ?_
      refine z_getR C S 8 0 rfl (by decide) cf_8 0 (by decide) _ (gr_8_0 G ad 0) tw_6_118 dX8_busiest_29 ?_
      refine lv_bipush (v := 43) C.1 C.2.1 dX8_busiest_32 (by decide) ?_
      refine lv_iload_n C.1 C.2.1 dX8_busiest_34 rfl (lv_at hl 1 rfl) ?_
      refine lv_iadd C.1 C.2.1 dX8_busiest_35 ?_
      obtain ⟨g_36, hf⟩ := gd hf
      refine z_iald C S 30 0 rfl (by decide) 2111 (fun _ => rfl) g_36 dX8_busiest_36 ?_
      refine lv_icmp_le (tgt := 42) C.1 C.2.1 dX8_busiest_37 (by decide) (fun c_37 => ?_) (fun c_37 => ?_)
      · rw [if_pos c_37] at hf
        exact w_X8_busiest_42 C (f_X8_busiest_9 n) ih _ v1 v2 _ _ _ S (lv_sub hl [0, 1, 2] rfl) hf
      · rw [if_neg c_37] at hf
        refine lv_iload_n C.1 C.2.1 dX8_busiest_40 rfl (lv_at hl 2 rfl) ?_
        refine lv_istore_n (lv' := [(1, .int v2), (0, .ref (ad 8 0)), (2, .int v2)]) C.1 C.2.1 dX8_busiest_41 rfl hl (by decide) rfl (fun ls hl => ?_)
        exact w_X8_busiest_42 C (f_X8_busiest_9 n) ih _ v2 v2 _ _ _ S (lv_sub hl [1, 0, 2] rfl) hf
set_option maxHeartbeats 4000000 in
set_option maxRecDepth 100000 in
theorem w_X8_busiest_0 {p : Program} {l : Launch} {e : Env} {s : State} {m : MethodId} {args : Array Value} {below : List Frame} {meth : Method} {c : Code} {G : Gx} {ad : Ad} {res : Int32 × Sg} (C : Cx p s m args meth c yX8_busiest.cls cX8_busiest 3 (Option.some FieldType.int) G)  : ∀ (σ : Sg)  (H : Heap) (locs : List Loc) (ls : Array Slot), z_S 1 G ad σ (z_A 1 ad s.heap.size) s.heap H locs → lv_has ls 3 [(0, .ref (ad 8 0))] → f_X8_busiest  σ  = some res → W p l e { frames := 0, cells := 0, slots := 0, locals := 0 } s m args below meth c H locs 0 0 (MQ below (va_Qi (S := Unit) (fun r1 _ => r1 = res.1) (fun _ t => z_W 1 G ad res.2 t.heap) (z_A 1 ad s.heap.size)) args s 0 0 (z_A 1 ad s.heap.size)) (F0 m 0 ls []) := by
  intro σ  H locs ls S hl  hf
  unfold f_X8_busiest at hf
  refine lv_aload_n C.1 C.2.1 dX8_busiest_0 rfl (lv_at hl 0 rfl) ?_
  refine lv_iconst (v := 0) C.1 C.2.1 dX8_busiest_1 (by decide) ?_
  obtain ⟨σ1, e_2, hf⟩ := stb hf
  refine z_putI C S 8 0 rfl (by decide) cf_8 8 (by decide) (pi_8_8 G ad 0) rfl rfl rfl tw_6_126 dX8_busiest_2 (fun H locs S => ?_)
  rw [← e_2] at S
  refine lv_iconst (v := 0) C.1 C.2.1 dX8_busiest_5 (by decide) ?_
  refine lv_istore_n (lv' := [(1, .int 0), (0, .ref (ad 8 0))]) C.1 C.2.1 dX8_busiest_6 rfl hl (by decide) rfl (fun ls hl => ?_)
  refine lv_iconst (v := 1) C.1 C.2.1 dX8_busiest_7 (by decide) ?_
  refine lv_istore_n (lv' := [(2, .int 1), (1, .int 0), (0, .ref (ad 8 0))]) C.1 C.2.1 dX8_busiest_8 rfl hl (by decide) rfl (fun ls hl => ?_)
  exact w_X8_busiest_9 C FU _ 0 1 _ _ _ S (lv_sub hl [2, 1, 0] rfl) hf
theorem kv_X8_busiest : KV yX8_busiest cX8_busiest 3 (Option.some FieldType.int) 0 := ⟨tw_8_88, tw_8_86, tw_8_87, tw_1_10, by decide, by decide, by decide +kernel⟩
theorem m_X8_busiest (l : Launch) (G : Gx) (ad : Ad) (σ : Sg)  (r : Int32) (σ' : Sg)  (hf : f_X8_busiest σ  = some (r, σ')) (sz : Nat) : z_MI l yX8_busiest cX8_busiest 3 (Option.some FieldType.int) 0 0 1 G ad σ sz [.ref (ad 8 0)] r σ' := by
  refine z_begin (by decide +kernel) (Nat.le_of_ble_eq_true rfl) [(0, .ref (ad 8 0))] rfl (fun p e s m args below meth c ls C hz S hl => ?_)
  subst hz
  exact w_X8_busiest_0 (res := (r, σ')) C σ  _ _ _ S hl  hf

theorem dX8_fullestFloor_0 : decode cX8_fullestFloor 0 = .ok (.aload_n 0, 1) := by decide +kernel
theorem dX8_fullestFloor_1 : decode cX8_fullestFloor 1 = .ok (.iconst 0, 1) := by decide +kernel
theorem dX8_fullestFloor_2 : decode cX8_fullestFloor 2 = .ok (.putfield 48, 3) := by decide +kernel
theorem dX8_fullestFloor_5 : decode cX8_fullestFloor 5 = .ok (.iconst (-1), 1) := by decide +kernel
theorem dX8_fullestFloor_6 : decode cX8_fullestFloor 6 = .ok (.istore_n 1, 1) := by decide +kernel
theorem dX8_fullestFloor_7 : decode cX8_fullestFloor 7 = .ok (.iconst 0, 1) := by decide +kernel
theorem dX8_fullestFloor_8 : decode cX8_fullestFloor 8 = .ok (.istore_n 2, 1) := by decide +kernel
theorem dX8_fullestFloor_9 : decode cX8_fullestFloor 9 = .ok (.iconst 0, 1) := by decide +kernel
theorem dX8_fullestFloor_10 : decode cX8_fullestFloor 10 = .ok (.istore_n 3, 1) := by decide +kernel
theorem dX8_fullestFloor_11 : decode cX8_fullestFloor 11 = .ok (.iload_n 3, 1) := by decide +kernel
theorem dX8_fullestFloor_12 : decode cX8_fullestFloor 12 = .ok (.aload_n 0, 1) := by decide +kernel
theorem dX8_fullestFloor_13 : decode cX8_fullestFloor 13 = .ok (.getfield 7, 3) := by decide +kernel
theorem dX8_fullestFloor_16 : decode cX8_fullestFloor 16 = .ok (.iconst 0, 1) := by decide +kernel
theorem dX8_fullestFloor_17 : decode cX8_fullestFloor 17 = .ok (.iaload, 1) := by decide +kernel
theorem dX8_fullestFloor_18 : decode cX8_fullestFloor 18 = .ok (.if_icmp .ge 83, 3) := by decide +kernel
theorem dX8_fullestFloor_21 : decode cX8_fullestFloor 21 = .ok (.iconst 0, 1) := by decide +kernel
theorem dX8_fullestFloor_22 : decode cX8_fullestFloor 22 = .ok (.istore 4, 2) := by decide +kernel
theorem dX8_fullestFloor_24 : decode cX8_fullestFloor 24 = .ok (.iconst 0, 1) := by decide +kernel
theorem dX8_fullestFloor_25 : decode cX8_fullestFloor 25 = .ok (.istore 5, 2) := by decide +kernel
theorem dX8_fullestFloor_27 : decode cX8_fullestFloor 27 = .ok (.iload 5, 2) := by decide +kernel
theorem dX8_fullestFloor_29 : decode cX8_fullestFloor 29 = .ok (.aload_n 0, 1) := by decide +kernel
theorem dX8_fullestFloor_30 : decode cX8_fullestFloor 30 = .ok (.getfield 7, 3) := by decide +kernel
theorem dX8_fullestFloor_33 : decode cX8_fullestFloor 33 = .ok (.iconst 2, 1) := by decide +kernel
theorem dX8_fullestFloor_34 : decode cX8_fullestFloor 34 = .ok (.iaload, 1) := by decide +kernel
theorem dX8_fullestFloor_35 : decode cX8_fullestFloor 35 = .ok (.if_icmp .ge 46, 3) := by decide +kernel
theorem dX8_fullestFloor_38 : decode cX8_fullestFloor 38 = .ok (.iload 4, 2) := by decide +kernel
theorem dX8_fullestFloor_40 : decode cX8_fullestFloor 40 = .ok (.aload_n 0, 1) := by decide +kernel
theorem dX8_fullestFloor_41 : decode cX8_fullestFloor 41 = .ok (.getfield 7, 3) := by decide +kernel
theorem dX8_fullestFloor_44 : decode cX8_fullestFloor 44 = .ok (.bipush 127, 2) := by decide +kernel
theorem dX8_fullestFloor_46 : decode cX8_fullestFloor 46 = .ok (.iload 5, 2) := by decide +kernel
theorem dX8_fullestFloor_48 : decode cX8_fullestFloor 48 = .ok (.iadd, 1) := by decide +kernel
theorem dX8_fullestFloor_49 : decode cX8_fullestFloor 49 = .ok (.iaload, 1) := by decide +kernel
theorem dX8_fullestFloor_50 : decode cX8_fullestFloor 50 = .ok (.ifCond .eq 21, 3) := by decide +kernel
theorem dX8_fullestFloor_53 : decode cX8_fullestFloor 53 = .ok (.aload_n 0, 1) := by decide +kernel
theorem dX8_fullestFloor_54 : decode cX8_fullestFloor 54 = .ok (.getfield 7, 3) := by decide +kernel
theorem dX8_fullestFloor_57 : decode cX8_fullestFloor 57 = .ok (.bipush 55, 2) := by decide +kernel
theorem dX8_fullestFloor_59 : decode cX8_fullestFloor 59 = .ok (.iload 5, 2) := by decide +kernel
theorem dX8_fullestFloor_61 : decode cX8_fullestFloor 61 = .ok (.iadd, 1) := by decide +kernel
theorem dX8_fullestFloor_62 : decode cX8_fullestFloor 62 = .ok (.iaload, 1) := by decide +kernel
theorem dX8_fullestFloor_63 : decode cX8_fullestFloor 63 = .ok (.iload_n 3, 1) := by decide +kernel
theorem dX8_fullestFloor_64 : decode cX8_fullestFloor 64 = .ok (.if_icmp .ne 7, 3) := by decide +kernel
theorem dX8_fullestFloor_67 : decode cX8_fullestFloor 67 = .ok (.iconst 1, 1) := by decide +kernel
theorem dX8_fullestFloor_68 : decode cX8_fullestFloor 68 = .ok (.goto 4, 3) := by decide +kernel
theorem dX8_fullestFloor_71 : decode cX8_fullestFloor 71 = .ok (.iconst 0, 1) := by decide +kernel
theorem dX8_fullestFloor_72 : decode cX8_fullestFloor 72 = .ok (.iadd, 1) := by decide +kernel
theorem dX8_fullestFloor_73 : decode cX8_fullestFloor 73 = .ok (.istore 4, 2) := by decide +kernel
theorem dX8_fullestFloor_75 : decode cX8_fullestFloor 75 = .ok (.iinc 5 1, 3) := by decide +kernel
theorem dX8_fullestFloor_78 : decode cX8_fullestFloor 78 = .ok (.goto (-51), 3) := by decide +kernel
theorem dX8_fullestFloor_81 : decode cX8_fullestFloor 81 = .ok (.iload 4, 2) := by decide +kernel
theorem dX8_fullestFloor_83 : decode cX8_fullestFloor 83 = .ok (.iload_n 2, 1) := by decide +kernel
theorem dX8_fullestFloor_84 : decode cX8_fullestFloor 84 = .ok (.if_icmp .gt 6, 3) := by decide +kernel
theorem dX8_fullestFloor_87 : decode cX8_fullestFloor 87 = .ok (.goto 8, 3) := by decide +kernel
theorem dX8_fullestFloor_90 : decode cX8_fullestFloor 90 = .ok (.iload_n 3, 1) := by decide +kernel
theorem dX8_fullestFloor_91 : decode cX8_fullestFloor 91 = .ok (.istore_n 1, 1) := by decide +kernel
theorem dX8_fullestFloor_92 : decode cX8_fullestFloor 92 = .ok (.iload 4, 2) := by decide +kernel
theorem dX8_fullestFloor_94 : decode cX8_fullestFloor 94 = .ok (.istore_n 2, 1) := by decide +kernel
theorem dX8_fullestFloor_95 : decode cX8_fullestFloor 95 = .ok (.iinc 3 1, 3) := by decide +kernel
theorem dX8_fullestFloor_98 : decode cX8_fullestFloor 98 = .ok (.goto (-87), 3) := by decide +kernel
theorem dX8_fullestFloor_101 : decode cX8_fullestFloor 101 = .ok (.iload_n 1, 1) := by decide +kernel
theorem dX8_fullestFloor_102 : decode cX8_fullestFloor 102 = .ok (.ireturn, 1) := by decide +kernel
/-! BusLiftsModel.fullestFloor()I -/
noncomputable def f_X8_fullestFloor_101  (σ : Sg) (v1 : Int32) : Option (Int32 × Sg) := some (v1, σ)
noncomputable def f_X8_fullestFloor_95 (k11 : Sg → Int32 → Int32 → Int32 → Option (Int32 × Sg)) (σ : Sg) (v1 : Int32) (v2 : Int32) (v3 : Int32) : Option (Int32 × Sg) := k11 σ v1 v2 (v3 + 1)
noncomputable def f_X8_fullestFloor_81 (k11 : Sg → Int32 → Int32 → Int32 → Option (Int32 × Sg)) (σ : Sg) (v1 : Int32) (v2 : Int32) (v3 : Int32) (v4 : Int32) : Option (Int32 × Sg) := if v2 < v4 then (f_X8_fullestFloor_95 k11 σ v3 v4 v3) else (f_X8_fullestFloor_95 k11 σ v1 v2 v3)
noncomputable def f_X8_fullestFloor_72 (k11 : Sg → Int32 → Int32 → Int32 → Option (Int32 × Sg)) (k27 : Sg → Int32 → Int32 → Int32 → Int32 → Int32 → Option (Int32 × Sg)) (σ : Sg) (v1 : Int32) (v2 : Int32) (v3 : Int32) (v5 : Int32) (v100 : Int32) (v101 : Int32) : Option (Int32 × Sg) := k27 σ v1 v2 v3 (v100 + v101) (v5 + 1)
noncomputable def f_X8_fullestFloor_71 (k11 : Sg → Int32 → Int32 → Int32 → Option (Int32 × Sg)) (k27 : Sg → Int32 → Int32 → Int32 → Int32 → Int32 → Option (Int32 × Sg)) (σ : Sg) (v1 : Int32) (v2 : Int32) (v3 : Int32) (v5 : Int32) (v100 : Int32) : Option (Int32 × Sg) := f_X8_fullestFloor_72 k11 k27 σ v1 v2 v3 v5 v100 0
noncomputable def f_X8_fullestFloor_27 (k11 : Sg → Int32 → Int32 → Int32 → Option (Int32 × Sg)) : Nat → Sg → Int32 → Int32 → Int32 → Int32 → Int32 → Option (Int32 × Sg)
  | 0, _, _, _, _, _, _ => none
  | n + 1, σ, v1, v2, v3, v4, v5 => if (σ 30 0 2) ≤ v5 then (f_X8_fullestFloor_81 k11 σ v1 v2 v3 v4) else (if (127 + v5) < 0 ∨ 2111 ≤ ((127 + v5)).toNatClampNeg then none else (if (σ 30 0 ((127 + v5)).toNatClampNeg) = 0 then (f_X8_fullestFloor_71 k11 (f_X8_fullestFloor_27 k11 n) σ v1 v2 v3 v5 v4) else (if (55 + v5) < 0 ∨ 2111 ≤ ((55 + v5)).toNatClampNeg then none else (if (σ 30 0 ((55 + v5)).toNatClampNeg) = v3 then (f_X8_fullestFloor_72 k11 (f_X8_fullestFloor_27 k11 n) σ v1 v2 v3 v5 v4 1) else (f_X8_fullestFloor_71 k11 (f_X8_fullestFloor_27 k11 n) σ v1 v2 v3 v5 v4)))))
theorem f_X8_fullestFloor_27_s (k11 : Sg → Int32 → Int32 → Int32 → Option (Int32 × Sg)) (n : Nat) (σ : Sg) (v1 : Int32) (v2 : Int32) (v3 : Int32) (v4 : Int32) (v5 : Int32) : f_X8_fullestFloor_27 k11 (n + 1) σ v1 v2 v3 v4 v5 = (if (σ 30 0 2) ≤ v5 then (f_X8_fullestFloor_81 k11 σ v1 v2 v3 v4) else (if (127 + v5) < 0 ∨ 2111 ≤ ((127 + v5)).toNatClampNeg then none else (if (σ 30 0 ((127 + v5)).toNatClampNeg) = 0 then (f_X8_fullestFloor_71 k11 (f_X8_fullestFloor_27 k11 n) σ v1 v2 v3 v5 v4) else (if (55 + v5) < 0 ∨ 2111 ≤ ((55 + v5)).toNatClampNeg then none else (if (σ 30 0 ((55 + v5)).toNatClampNeg) = v3 then (f_X8_fullestFloor_72 k11 (f_X8_fullestFloor_27 k11 n) σ v1 v2 v3 v5 v4 1) else (f_X8_fullestFloor_71 k11 (f_X8_fullestFloor_27 k11 n) σ v1 v2 v3 v5 v4)))))) := rfl
noncomputable def f_X8_fullestFloor_11  : Nat → Sg → Int32 → Int32 → Int32 → Option (Int32 × Sg)
  | 0, _, _, _, _ => none
  | n + 1, σ, v1, v2, v3 => if (σ 30 0 0) ≤ v3 then (f_X8_fullestFloor_101 σ v1) else (f_X8_fullestFloor_27 (f_X8_fullestFloor_11 n) FU σ v1 v2 v3 0 0)
theorem f_X8_fullestFloor_11_s  (n : Nat) (σ : Sg) (v1 : Int32) (v2 : Int32) (v3 : Int32) : f_X8_fullestFloor_11  (n + 1) σ v1 v2 v3 = (if (σ 30 0 0) ≤ v3 then (f_X8_fullestFloor_101 σ v1) else (f_X8_fullestFloor_27 (f_X8_fullestFloor_11 n) FU σ v1 v2 v3 0 0)) := rfl
noncomputable def f_X8_fullestFloor  (σ : Sg)  : Option (Int32 × Sg) := st (sup σ 8 0 8 0) fun σ1 => (f_X8_fullestFloor_11 FU σ1 (-1) 0 0)
set_option maxHeartbeats 4000000 in
set_option maxRecDepth 100000 in
theorem w_X8_fullestFloor_101 {p : Program} {l : Launch} {e : Env} {s : State} {m : MethodId} {args : Array Value} {below : List Frame} {meth : Method} {c : Code} {G : Gx} {ad : Ad} {res : Int32 × Sg} (C : Cx p s m args meth c yX8_fullestFloor.cls cX8_fullestFloor 6 (Option.some FieldType.int) G)  : ∀ (σ : Sg) (v1 : Int32) (H : Heap) (locs : List Loc) (ls : Array Slot), z_S 1 G ad σ (z_A 1 ad s.heap.size) s.heap H locs → lv_has ls 6 [(1, .int v1)] → f_X8_fullestFloor_101  σ v1 = some res → W p l e { frames := 0, cells := 0, slots := 0, locals := 0 } s m args below meth c H locs 0 0 (MQ below (va_Qi (S := Unit) (fun r1 _ => r1 = res.1) (fun _ t => z_W 1 G ad res.2 t.heap) (z_A 1 ad s.heap.size)) args s 0 0 (z_A 1 ad s.heap.size)) (F0 m 101 ls []) := by
  intro σ v1 H locs ls S hl  hf
  unfold f_X8_fullestFloor_101 at hf
  refine lv_iload_n C.1 C.2.1 dX8_fullestFloor_101 rfl (lv_at hl 0 rfl) ?_
  exact z_iret C S hf dX8_fullestFloor_102
set_option maxHeartbeats 4000000 in
set_option maxRecDepth 100000 in
theorem w_X8_fullestFloor_95 {p : Program} {l : Launch} {e : Env} {s : State} {m : MethodId} {args : Array Value} {below : List Frame} {meth : Method} {c : Code} {G : Gx} {ad : Ad} {res : Int32 × Sg} (C : Cx p s m args meth c yX8_fullestFloor.cls cX8_fullestFloor 6 (Option.some FieldType.int) G) (k11 : Sg → Int32 → Int32 → Int32 → Option (Int32 × Sg)) (hk11 : ∀ (σ : Sg) (v1 : Int32) (v2 : Int32) (v3 : Int32) (H : Heap) (locs : List Loc) (ls : Array Slot), z_S 1 G ad σ (z_A 1 ad s.heap.size) s.heap H locs → lv_has ls 6 [(0, .ref (ad 8 0)), (1, .int v1), (2, .int v2), (3, .int v3)] → k11 σ v1 v2 v3 = some res → W p l e { frames := 0, cells := 0, slots := 0, locals := 0 } s m args below meth c H locs 0 0 (MQ below (va_Qi (S := Unit) (fun r1 _ => r1 = res.1) (fun _ t => z_W 1 G ad res.2 t.heap) (z_A 1 ad s.heap.size)) args s 0 0 (z_A 1 ad s.heap.size)) (F0 m 11 ls [])) : ∀ (σ : Sg) (v1 : Int32) (v2 : Int32) (v3 : Int32) (H : Heap) (locs : List Loc) (ls : Array Slot), z_S 1 G ad σ (z_A 1 ad s.heap.size) s.heap H locs → lv_has ls 6 [(0, .ref (ad 8 0)), (1, .int v1), (2, .int v2), (3, .int v3)] → f_X8_fullestFloor_95 k11 σ v1 v2 v3 = some res → W p l e { frames := 0, cells := 0, slots := 0, locals := 0 } s m args below meth c H locs 0 0 (MQ below (va_Qi (S := Unit) (fun r1 _ => r1 = res.1) (fun _ t => z_W 1 G ad res.2 t.heap) (z_A 1 ad s.heap.size)) args s 0 0 (z_A 1 ad s.heap.size)) (F0 m 95 ls []) := by
  intro σ v1 v2 v3 H locs ls S hl  hf
  unfold f_X8_fullestFloor_95 at hf
  refine lv_iinc (v := (v3 + 1)) (lv' := [(3, .int (v3 + 1)), (0, .ref (ad 8 0)), (1, .int v1), (2, .int v2)]) C.1 C.2.1 dX8_fullestFloor_95 hl (k := 3) rfl rfl (by decide) rfl (fun ls hl => ?_)
  refine lv_goto (tgt := 11) C.1 C.2.1 dX8_fullestFloor_98 (by decide) ?_
  exact hk11 _ v1 v2 (v3 + 1) _ _ _ S (lv_sub hl [1, 2, 3, 0] rfl)  hf
set_option maxHeartbeats 4000000 in
set_option maxRecDepth 100000 in
theorem w_X8_fullestFloor_81 {p : Program} {l : Launch} {e : Env} {s : State} {m : MethodId} {args : Array Value} {below : List Frame} {meth : Method} {c : Code} {G : Gx} {ad : Ad} {res : Int32 × Sg} (C : Cx p s m args meth c yX8_fullestFloor.cls cX8_fullestFloor 6 (Option.some FieldType.int) G) (k11 : Sg → Int32 → Int32 → Int32 → Option (Int32 × Sg)) (hk11 : ∀ (σ : Sg) (v1 : Int32) (v2 : Int32) (v3 : Int32) (H : Heap) (locs : List Loc) (ls : Array Slot), z_S 1 G ad σ (z_A 1 ad s.heap.size) s.heap H locs → lv_has ls 6 [(0, .ref (ad 8 0)), (1, .int v1), (2, .int v2), (3, .int v3)] → k11 σ v1 v2 v3 = some res → W p l e { frames := 0, cells := 0, slots := 0, locals := 0 } s m args below meth c H locs 0 0 (MQ below (va_Qi (S := Unit) (fun r1 _ => r1 = res.1) (fun _ t => z_W 1 G ad res.2 t.heap) (z_A 1 ad s.heap.size)) args s 0 0 (z_A 1 ad s.heap.size)) (F0 m 11 ls [])) : ∀ (σ : Sg) (v1 : Int32) (v2 : Int32) (v3 : Int32) (v4 : Int32) (H : Heap) (locs : List Loc) (ls : Array Slot), z_S 1 G ad σ (z_A 1 ad s.heap.size) s.heap H locs → lv_has ls 6 [(0, .ref (ad 8 0)), (1, .int v1), (2, .int v2), (3, .int v3), (4, .int v4)] → f_X8_fullestFloor_81 k11 σ v1 v2 v3 v4 = some res → W p l e { frames := 0, cells := 0, slots := 0, locals := 0 } s m args below meth c H locs 0 0 (MQ below (va_Qi (S := Unit) (fun r1 _ => r1 = res.1) (fun _ t => z_W 1 G ad res.2 t.heap) (z_A 1 ad s.heap.size)) args s 0 0 (z_A 1 ad s.heap.size)) (F0 m 81 ls []) := by
  intro σ v1 v2 v3 v4 H locs ls S hl  hf
  unfold f_X8_fullestFloor_81 at hf
  refine lv_iload C.1 C.2.1 dX8_fullestFloor_81 (lv_at hl 4 rfl) ?_
  refine lv_iload_n C.1 C.2.1 dX8_fullestFloor_83 rfl (lv_at hl 2 rfl) ?_
  refine lv_icmp_gt (tgt := 90) C.1 C.2.1 dX8_fullestFloor_84 (by decide) (fun c_84 => ?_) (fun c_84 => ?_)
  · rw [if_pos c_84] at hf
    refine lv_iload_n C.1 C.2.1 dX8_fullestFloor_90 rfl (lv_at hl 3 rfl) ?_
    refine lv_istore_n (lv' := [(1, .int v3), (0, .ref (ad 8 0)), (2, .int v2), (3, .int v3), (4, .int v4)]) C.1 C.2.1 dX8_fullestFloor_91 rfl hl (by decide) rfl (fun ls hl => ?_)
    refine lv_iload C.1 C.2.1 dX8_fullestFloor_92 (lv_at hl 4 rfl) ?_
    refine lv_istore_n (lv' := [(2, .int v4), (1, .int v3), (0, .ref (ad 8 0)), (3, .int v3), (4, .int v4)]) C.1 C.2.1 dX8_fullestFloor_94 rfl hl (by decide) rfl (fun ls hl => ?_)
    exact w_X8_fullestFloor_95 C k11 hk11 _ v3 v4 v3 _ _ _ S (lv_sub hl [2, 1, 0, 3] rfl) hf
  · rw [if_neg c_84] at hf
    refine lv_goto (tgt := 95) C.1 C.2.1 dX8_fullestFloor_87 (by decide) ?_
    exact w_X8_fullestFloor_95 C k11 hk11 _ v1 v2 v3 _ _ _ S (lv_sub hl [0, 1, 2, 3] rfl) hf
set_option maxHeartbeats 4000000 in
set_option maxRecDepth 100000 in
theorem w_X8_fullestFloor_72 {p : Program} {l : Launch} {e : Env} {s : State} {m : MethodId} {args : Array Value} {below : List Frame} {meth : Method} {c : Code} {G : Gx} {ad : Ad} {res : Int32 × Sg} (C : Cx p s m args meth c yX8_fullestFloor.cls cX8_fullestFloor 6 (Option.some FieldType.int) G) (k11 : Sg → Int32 → Int32 → Int32 → Option (Int32 × Sg)) (hk11 : ∀ (σ : Sg) (v1 : Int32) (v2 : Int32) (v3 : Int32) (H : Heap) (locs : List Loc) (ls : Array Slot), z_S 1 G ad σ (z_A 1 ad s.heap.size) s.heap H locs → lv_has ls 6 [(0, .ref (ad 8 0)), (1, .int v1), (2, .int v2), (3, .int v3)] → k11 σ v1 v2 v3 = some res → W p l e { frames := 0, cells := 0, slots := 0, locals := 0 } s m args below meth c H locs 0 0 (MQ below (va_Qi (S := Unit) (fun r1 _ => r1 = res.1) (fun _ t => z_W 1 G ad res.2 t.heap) (z_A 1 ad s.heap.size)) args s 0 0 (z_A 1 ad s.heap.size)) (F0 m 11 ls [])) (k27 : Sg → Int32 → Int32 → Int32 → Int32 → Int32 → Option (Int32 × Sg)) (hk27 : ∀ (σ : Sg) (v1 : Int32) (v2 : Int32) (v3 : Int32) (v4 : Int32) (v5 : Int32) (H : Heap) (locs : List Loc) (ls : Array Slot), z_S 1 G ad σ (z_A 1 ad s.heap.size) s.heap H locs → lv_has ls 6 [(0, .ref (ad 8 0)), (1, .int v1), (2, .int v2), (3, .int v3), (4, .int v4), (5, .int v5)] → k27 σ v1 v2 v3 v4 v5 = some res → W p l e { frames := 0, cells := 0, slots := 0, locals := 0 } s m args below meth c H locs 0 0 (MQ below (va_Qi (S := Unit) (fun r1 _ => r1 = res.1) (fun _ t => z_W 1 G ad res.2 t.heap) (z_A 1 ad s.heap.size)) args s 0 0 (z_A 1 ad s.heap.size)) (F0 m 27 ls [])) : ∀ (σ : Sg) (v1 : Int32) (v2 : Int32) (v3 : Int32) (v5 : Int32) (v100 : Int32) (v101 : Int32) (H : Heap) (locs : List Loc) (ls : Array Slot), z_S 1 G ad σ (z_A 1 ad s.heap.size) s.heap H locs → lv_has ls 6 [(0, .ref (ad 8 0)), (1, .int v1), (2, .int v2), (3, .int v3), (5, .int v5)] → f_X8_fullestFloor_72 k11 k27 σ v1 v2 v3 v5 v100 v101 = some res → W p l e { frames := 0, cells := 0, slots := 0, locals := 0 } s m args below meth c H locs 0 0 (MQ below (va_Qi (S := Unit) (fun r1 _ => r1 = res.1) (fun _ t => z_W 1 G ad res.2 t.heap) (z_A 1 ad s.heap.size)) args s 0 0 (z_A 1 ad s.heap.size)) (F0 m 72 ls [.int v101, .int v100]) := by
  intro σ v1 v2 v3 v5 v100 v101 H locs ls S hl  hf
  unfold f_X8_fullestFloor_72 at hf
  refine lv_iadd C.1 C.2.1 dX8_fullestFloor_72 ?_
  refine lv_istore (lv' := [(4, .int (v100 + v101)), (0, .ref (ad 8 0)), (1, .int v1), (2, .int v2), (3, .int v3), (5, .int v5)]) C.1 C.2.1 dX8_fullestFloor_73 hl (by decide) rfl (fun ls hl => ?_)
  refine lv_iinc (v := (v5 + 1)) (lv' := [(5, .int (v5 + 1)), (4, .int (v100 + v101)), (0, .ref (ad 8 0)), (1, .int v1), (2, .int v2), (3, .int v3)]) C.1 C.2.1 dX8_fullestFloor_75 hl (k := 5) rfl rfl (by decide) rfl (fun ls hl => ?_)
  refine lv_goto (tgt := 27) C.1 C.2.1 dX8_fullestFloor_78 (by decide) ?_
  exact hk27 _ v1 v2 v3 (v100 + v101) (v5 + 1) _ _ _ S (lv_sub hl [2, 3, 4, 5, 1, 0] rfl)  hf
set_option maxHeartbeats 4000000 in
set_option maxRecDepth 100000 in
theorem w_X8_fullestFloor_71 {p : Program} {l : Launch} {e : Env} {s : State} {m : MethodId} {args : Array Value} {below : List Frame} {meth : Method} {c : Code} {G : Gx} {ad : Ad} {res : Int32 × Sg} (C : Cx p s m args meth c yX8_fullestFloor.cls cX8_fullestFloor 6 (Option.some FieldType.int) G) (k11 : Sg → Int32 → Int32 → Int32 → Option (Int32 × Sg)) (hk11 : ∀ (σ : Sg) (v1 : Int32) (v2 : Int32) (v3 : Int32) (H : Heap) (locs : List Loc) (ls : Array Slot), z_S 1 G ad σ (z_A 1 ad s.heap.size) s.heap H locs → lv_has ls 6 [(0, .ref (ad 8 0)), (1, .int v1), (2, .int v2), (3, .int v3)] → k11 σ v1 v2 v3 = some res → W p l e { frames := 0, cells := 0, slots := 0, locals := 0 } s m args below meth c H locs 0 0 (MQ below (va_Qi (S := Unit) (fun r1 _ => r1 = res.1) (fun _ t => z_W 1 G ad res.2 t.heap) (z_A 1 ad s.heap.size)) args s 0 0 (z_A 1 ad s.heap.size)) (F0 m 11 ls [])) (k27 : Sg → Int32 → Int32 → Int32 → Int32 → Int32 → Option (Int32 × Sg)) (hk27 : ∀ (σ : Sg) (v1 : Int32) (v2 : Int32) (v3 : Int32) (v4 : Int32) (v5 : Int32) (H : Heap) (locs : List Loc) (ls : Array Slot), z_S 1 G ad σ (z_A 1 ad s.heap.size) s.heap H locs → lv_has ls 6 [(0, .ref (ad 8 0)), (1, .int v1), (2, .int v2), (3, .int v3), (4, .int v4), (5, .int v5)] → k27 σ v1 v2 v3 v4 v5 = some res → W p l e { frames := 0, cells := 0, slots := 0, locals := 0 } s m args below meth c H locs 0 0 (MQ below (va_Qi (S := Unit) (fun r1 _ => r1 = res.1) (fun _ t => z_W 1 G ad res.2 t.heap) (z_A 1 ad s.heap.size)) args s 0 0 (z_A 1 ad s.heap.size)) (F0 m 27 ls [])) : ∀ (σ : Sg) (v1 : Int32) (v2 : Int32) (v3 : Int32) (v5 : Int32) (v100 : Int32) (H : Heap) (locs : List Loc) (ls : Array Slot), z_S 1 G ad σ (z_A 1 ad s.heap.size) s.heap H locs → lv_has ls 6 [(0, .ref (ad 8 0)), (1, .int v1), (2, .int v2), (3, .int v3), (5, .int v5)] → f_X8_fullestFloor_71 k11 k27 σ v1 v2 v3 v5 v100 = some res → W p l e { frames := 0, cells := 0, slots := 0, locals := 0 } s m args below meth c H locs 0 0 (MQ below (va_Qi (S := Unit) (fun r1 _ => r1 = res.1) (fun _ t => z_W 1 G ad res.2 t.heap) (z_A 1 ad s.heap.size)) args s 0 0 (z_A 1 ad s.heap.size)) (F0 m 71 ls [.int v100]) := by
  intro σ v1 v2 v3 v5 v100 H locs ls S hl  hf
  unfold f_X8_fullestFloor_71 at hf
  refine lv_iconst (v := 0) C.1 C.2.1 dX8_fullestFloor_71 (by decide) ?_
  exact w_X8_fullestFloor_72 C k11 hk11 k27 hk27 _ v1 v2 v3 v5 v100 0 _ _ _ S (lv_sub hl [0, 1, 2, 3, 4] rfl) hf
set_option maxHeartbeats 4000000 in
set_option maxRecDepth 100000 in
theorem w_X8_fullestFloor_27 {p : Program} {l : Launch} {e : Env} {s : State} {m : MethodId} {args : Array Value} {below : List Frame} {meth : Method} {c : Code} {G : Gx} {ad : Ad} {res : Int32 × Sg} (C : Cx p s m args meth c yX8_fullestFloor.cls cX8_fullestFloor 6 (Option.some FieldType.int) G) (k11 : Sg → Int32 → Int32 → Int32 → Option (Int32 × Sg)) (hk11 : ∀ (σ : Sg) (v1 : Int32) (v2 : Int32) (v3 : Int32) (H : Heap) (locs : List Loc) (ls : Array Slot), z_S 1 G ad σ (z_A 1 ad s.heap.size) s.heap H locs → lv_has ls 6 [(0, .ref (ad 8 0)), (1, .int v1), (2, .int v2), (3, .int v3)] → k11 σ v1 v2 v3 = some res → W p l e { frames := 0, cells := 0, slots := 0, locals := 0 } s m args below meth c H locs 0 0 (MQ below (va_Qi (S := Unit) (fun r1 _ => r1 = res.1) (fun _ t => z_W 1 G ad res.2 t.heap) (z_A 1 ad s.heap.size)) args s 0 0 (z_A 1 ad s.heap.size)) (F0 m 11 ls [])) : ∀ n : Nat, ∀ (σ : Sg) (v1 : Int32) (v2 : Int32) (v3 : Int32) (v4 : Int32) (v5 : Int32) (H : Heap) (locs : List Loc) (ls : Array Slot), z_S 1 G ad σ (z_A 1 ad s.heap.size) s.heap H locs → lv_has ls 6 [(0, .ref (ad 8 0)), (1, .int v1), (2, .int v2), (3, .int v3), (4, .int v4), (5, .int v5)] → f_X8_fullestFloor_27 k11 n σ v1 v2 v3 v4 v5 = some res → W p l e { frames := 0, cells := 0, slots := 0, locals := 0 } s m args below meth c H locs 0 0 (MQ below (va_Qi (S := Unit) (fun r1 _ => r1 = res.1) (fun _ t => z_W 1 G ad res.2 t.heap) (z_A 1 ad s.heap.size)) args s 0 0 (z_A 1 ad s.heap.size)) (F0 m 27 ls []) := by
  intro n
  induction n with
  | zero => intro σ v1 v2 v3 v4 v5 H locs ls S hl  hf; cases hf
  | succ n ih =>
    intro σ v1 v2 v3 v4 v5 H locs ls S hl  hf
    rw [f_X8_fullestFloor_27_s] at hf
    refine lv_iload C.1 C.2.1 dX8_fullestFloor_27 (lv_at hl 5 rfl) ?_
    refine lv_aload_n C.1 C.2.1 dX8_fullestFloor_29 rfl (lv_at hl 0 rfl) ?_
    refine z_getR C S 8 0 rfl (by decide) cf_8 0 (by decide) _ (gr_8_0 G ad 0) tw_6_118 dX8_fullestFloor_30 ?_
    refine lv_iconst (v := 2) C.1 C.2.1 dX8_fullestFloor_33 (by decide) ?_
    refine z_ialdL C S 30 0 rfl (by decide) 2111 (fun _ => rfl) 2 (by decide) (by decide) (by decide) dX8_fullestFloor_34 ?_
    refine lv_icmp_ge (tgt := 81) C.1 C.2.1 dX8_fullestFloor_35 (by decide) (fun c_35 => ?_) (fun c_35 => ?_)
    · rw [if_pos c_35] at hf
      exact w_X8_fullestFloor_81 C k11 hk11 _ v1 v2 v3 v4 _ _ _ S (lv_sub hl [0, 1, 2, 3, 4] rfl) hf
    · rw [if_neg c_35] at hf
      refine lv_iload C.1 C.2.1 dX8_fullestFloor_38 (lv_at hl 4 rfl) ?_
      refine lv_aload_n C.1 C.2.1 dX8_fullestFloor_40 rfl (lv_at hl 0 rfl) ?_
      refine z_getR C S 8 0 rfl (by decide) cf_8 0 (by decide) _ (gr_8_0 G ad 0) tw_6_118 dX8_fullestFloor_41 ?_
      refine lv_bipush (v := 127) C.1 C.2.1 dX8_fullestFloor_44 (by decide) ?_
      refine lv_iload C.1 C.2.1 dX8_fullestFloor_46 (lv_at hl 5 rfl) ?_
      refine lv_iadd C.1 C.2.1 dX8_fullestFloor_48 ?_
      obtain ⟨g_49, hf⟩ := gd hf
      refine z_iald C S 30 0 rfl (by decide) 2111 (fun _ => rfl) g_49 dX8_fullestFloor_49 ?_
      refine lv_if_eq (tgt := 71) C.1 C.2.1 dX8_fullestFloor_50 (by decide) (fun c_50 => ?_) (fun c_50 => ?_)
      · rw [if_pos c_50] at hf
        exact w_X8_fullestFloor_71 C k11 hk11 (f_X8_fullestFloor_27 k11 n) ih _ v1 v2 v3 v5 v4 _ _ _ S (lv_sub hl [0, 1, 2, 3, 5] rfl) hf
      · rw [if_neg c_50] at hf
        refine lv_aload_n C.1 C.2.1 dX8_fullestFloor_53 rfl (lv_at hl 0 rfl) ?_
        refine z_getR C S 8 0 rfl (by decide) cf_8 0 (by decide) _ (gr_8_0 G ad 0) tw_6_118 dX8_fullestFloor_54 ?_
        refine lv_bipush (v := 55) C.1 C.2.1 dX8_fullestFloor_57 (by decide) ?_
        refine lv_iload C.1 C.2.1 dX8_fullestFloor_59 (lv_at hl 5 rfl) ?_
        refine lv_iadd C.1 C.2.1 dX8_fullestFloor_61 ?_
        obtain ⟨g_62, hf⟩ := gd hf
        refine z_iald C S 30 0 rfl (by decide) 2111 (fun _ => rfl) g_62 dX8_fullestFloor_62 ?_
        refine lv_iload_n C.1 C.2.1 dX8_fullestFloor_63 rfl (lv_at hl 3 rfl) ?_
        refine lv_icmp_ne (tgt := 71) C.1 C.2.1 dX8_fullestFloor_64 (by decide) (fun c_64 => ?_) (fun c_64 => ?_)
        · rw [if_neg c_64] at hf
          exact w_X8_fullestFloor_71 C k11 hk11 (f_X8_fullestFloor_27 k11 n) ih _ v1 v2 v3 v5 v4 _ _ _ S (lv_sub hl [0, 1, 2, 3, 5] rfl) hf
        · rw [if_pos c_64] at hf
          refine lv_iconst (v := 1) C.1 C.2.1 dX8_fullestFloor_67 (by decide) ?_
          refine lv_goto (tgt := 72) C.1 C.2.1 dX8_fullestFloor_68 (by decide) ?_
          exact w_X8_fullestFloor_72 C k11 hk11 (f_X8_fullestFloor_27 k11 n) ih _ v1 v2 v3 v5 v4 1 _ _ _ S (lv_sub hl [0, 1, 2, 3, 5] rfl) hf
set_option maxHeartbeats 4000000 in
set_option maxRecDepth 100000 in
theorem w_X8_fullestFloor_11 {p : Program} {l : Launch} {e : Env} {s : State} {m : MethodId} {args : Array Value} {below : List Frame} {meth : Method} {c : Code} {G : Gx} {ad : Ad} {res : Int32 × Sg} (C : Cx p s m args meth c yX8_fullestFloor.cls cX8_fullestFloor 6 (Option.some FieldType.int) G)  : ∀ n : Nat, ∀ (σ : Sg) (v1 : Int32) (v2 : Int32) (v3 : Int32) (H : Heap) (locs : List Loc) (ls : Array Slot), z_S 1 G ad σ (z_A 1 ad s.heap.size) s.heap H locs → lv_has ls 6 [(0, .ref (ad 8 0)), (1, .int v1), (2, .int v2), (3, .int v3)] → f_X8_fullestFloor_11  n σ v1 v2 v3 = some res → W p l e { frames := 0, cells := 0, slots := 0, locals := 0 } s m args below meth c H locs 0 0 (MQ below (va_Qi (S := Unit) (fun r1 _ => r1 = res.1) (fun _ t => z_W 1 G ad res.2 t.heap) (z_A 1 ad s.heap.size)) args s 0 0 (z_A 1 ad s.heap.size)) (F0 m 11 ls []) := by
  intro n
  induction n with
  | zero => intro σ v1 v2 v3 H locs ls S hl  hf; cases hf
  | succ n ih =>
    intro σ v1 v2 v3 H locs ls S hl  hf
    rw [f_X8_fullestFloor_11_s] at hf
    refine lv_iload_n C.1 C.2.1 dX8_fullestFloor_11 rfl (lv_at hl 3 rfl) ?_
    refine lv_aload_n C.1 C.2.1 dX8_fullestFloor_12 rfl (lv_at hl 0 rfl) ?_
    refine z_getR C S 8 0 rfl (by decide) cf_8 0 (by decide) _ (gr_8_0 G ad 0) tw_6_118 dX8_fullestFloor_13 ?_
    refine lv_iconst (v := 0) C.1 C.2.1 dX8_fullestFloor_16 (by decide) ?_
    refine z_ialdL C S 30 0 rfl (by decide) 2111 (fun _ => rfl) 0 (by decide) (by decide) (by decide) dX8_fullestFloor_17 ?_
    refine lv_icmp_ge (tgt := 101) C.1 C.2.1 dX8_fullestFloor_18 (by decide) (fun c_18 => ?_) (fun c_18 => ?_)
    · rw [if_pos c_18] at hf
      exact w_X8_fullestFloor_101 C _ v1 _ _ _ S (lv_sub hl [1] rfl) hf
    · rw [if_neg c_18] at hf
      refine lv_iconst (v := 0) C.1 C.2.1 dX8_fullestFloor_21 (by decide) ?_
      refine lv_istore (lv' := [(4, .int 0), (0, .ref (ad 8 0)), (1, .int v1), (2, .int v2), (3, .int v3)]) C.1 C.2.1 dX8_fullestFloor_22 hl (by decide) rfl (fun ls hl => ?_)
      refine lv_iconst (v := 0) C.1 C.2.1 dX8_fullestFloor_24 (by decide) ?_
      refine lv_istore (lv' := [(5, .int 0), (4, .int 0), (0, .ref (ad 8 0)), (1, .int v1), (2, .int v2), (3, .int v3)]) C.1 C.2.1 dX8_fullestFloor_25 hl (by decide) rfl (fun ls hl => ?_)
      exact w_X8_fullestFloor_27 C (f_X8_fullestFloor_11 n) ih FU _ v1 v2 v3 0 0 _ _ _ S (lv_sub hl [2, 3, 4, 5, 1, 0] rfl) hf
set_option maxHeartbeats 4000000 in
set_option maxRecDepth 100000 in
theorem w_X8_fullestFloor_0 {p : Program} {l : Launch} {e : Env} {s : State} {m : MethodId} {args : Array Value} {below : List Frame} {meth : Method} {c : Code} {G : Gx} {ad : Ad} {res : Int32 × Sg} (C : Cx p s m args meth c yX8_fullestFloor.cls cX8_fullestFloor 6 (Option.some FieldType.int) G)  : ∀ (σ : Sg)  (H : Heap) (locs : List Loc) (ls : Array Slot), z_S 1 G ad σ (z_A 1 ad s.heap.size) s.heap H locs → lv_has ls 6 [(0, .ref (ad 8 0))] → f_X8_fullestFloor  σ  = some res → W p l e { frames := 0, cells := 0, slots := 0, locals := 0 } s m args below meth c H locs 0 0 (MQ below (va_Qi (S := Unit) (fun r1 _ => r1 = res.1) (fun _ t => z_W 1 G ad res.2 t.heap) (z_A 1 ad s.heap.size)) args s 0 0 (z_A 1 ad s.heap.size)) (F0 m 0 ls []) := by
  intro σ  H locs ls S hl  hf
  unfold f_X8_fullestFloor at hf
  refine lv_aload_n C.1 C.2.1 dX8_fullestFloor_0 rfl (lv_at hl 0 rfl) ?_
  refine lv_iconst (v := 0) C.1 C.2.1 dX8_fullestFloor_1 (by decide) ?_
  obtain ⟨σ1, e_2, hf⟩ := stb hf
  refine z_putI C S 8 0 rfl (by decide) cf_8 8 (by decide) (pi_8_8 G ad 0) rfl rfl rfl tw_6_126 dX8_fullestFloor_2 (fun H locs S => ?_)
  rw [← e_2] at S
  refine lv_iconst (v := (-1)) C.1 C.2.1 dX8_fullestFloor_5 (by decide) ?_
  refine lv_istore_n (lv' := [(1, .int (-1)), (0, .ref (ad 8 0))]) C.1 C.2.1 dX8_fullestFloor_6 rfl hl (by decide) rfl (fun ls hl => ?_)
  refine lv_iconst (v := 0) C.1 C.2.1 dX8_fullestFloor_7 (by decide) ?_
  refine lv_istore_n (lv' := [(2, .int 0), (1, .int (-1)), (0, .ref (ad 8 0))]) C.1 C.2.1 dX8_fullestFloor_8 rfl hl (by decide) rfl (fun ls hl => ?_)
  refine lv_iconst (v := 0) C.1 C.2.1 dX8_fullestFloor_9 (by decide) ?_
  refine lv_istore_n (lv' := [(3, .int 0), (2, .int 0), (1, .int (-1)), (0, .ref (ad 8 0))]) C.1 C.2.1 dX8_fullestFloor_10 rfl hl (by decide) rfl (fun ls hl => ?_)
  exact w_X8_fullestFloor_11 C FU _ (-1) 0 0 _ _ _ S (lv_sub hl [3, 2, 1, 0] rfl) hf
theorem kv_X8_fullestFloor : KV yX8_fullestFloor cX8_fullestFloor 6 (Option.some FieldType.int) 0 := ⟨tw_8_92, tw_8_90, tw_8_91, tw_1_10, by decide, by decide, by decide +kernel⟩
theorem m_X8_fullestFloor (l : Launch) (G : Gx) (ad : Ad) (σ : Sg)  (r : Int32) (σ' : Sg)  (hf : f_X8_fullestFloor σ  = some (r, σ')) (sz : Nat) : z_MI l yX8_fullestFloor cX8_fullestFloor 6 (Option.some FieldType.int) 0 0 1 G ad σ sz [.ref (ad 8 0)] r σ' := by
  refine z_begin (by decide +kernel) (Nat.le_of_ble_eq_true rfl) [(0, .ref (ad 8 0))] rfl (fun p e s m args below meth c ls C hz S hl => ?_)
  subst hz
  exact w_X8_fullestFloor_0 (res := (r, σ')) C σ  _ _ _ S hl  hf

theorem dX8_crowd_0 : decode cX8_crowd 0 = .ok (.aload_n 0, 1) := by decide +kernel
theorem dX8_crowd_1 : decode cX8_crowd 1 = .ok (.iconst 0, 1) := by decide +kernel
theorem dX8_crowd_2 : decode cX8_crowd 2 = .ok (.putfield 48, 3) := by decide +kernel
theorem dX8_crowd_5 : decode cX8_crowd 5 = .ok (.aload_n 0, 1) := by decide +kernel
theorem dX8_crowd_6 : decode cX8_crowd 6 = .ok (.iload_n 1, 1) := by decide +kernel
theorem dX8_crowd_7 : decode cX8_crowd 7 = .ok (.iconst 0, 1) := by decide +kernel
theorem dX8_crowd_8 : decode cX8_crowd 8 = .ok (.aload_n 0, 1) := by decide +kernel
theorem dX8_crowd_9 : decode cX8_crowd 9 = .ok (.getfield 7, 3) := by decide +kernel
theorem dX8_crowd_12 : decode cX8_crowd 12 = .ok (.iconst 0, 1) := by decide +kernel
theorem dX8_crowd_13 : decode cX8_crowd 13 = .ok (.iaload, 1) := by decide +kernel
theorem dX8_crowd_14 : decode cX8_crowd 14 = .ok (.iconst 1, 1) := by decide +kernel
theorem dX8_crowd_15 : decode cX8_crowd 15 = .ok (.isub, 1) := by decide +kernel
theorem dX8_crowd_16 : decode cX8_crowd 16 = .ok (.invokestatic 165, 3) := by decide +kernel
theorem dX8_crowd_19 : decode cX8_crowd 19 = .ok (.ifCond .ne 7, 3) := by decide +kernel
theorem dX8_crowd_22 : decode cX8_crowd 22 = .ok (.iconst 1, 1) := by decide +kernel
theorem dX8_crowd_23 : decode cX8_crowd 23 = .ok (.goto 4, 3) := by decide +kernel
theorem dX8_crowd_26 : decode cX8_crowd 26 = .ok (.iconst 0, 1) := by decide +kernel
theorem dX8_crowd_27 : decode cX8_crowd 27 = .ok (.iconst 1, 1) := by decide +kernel
theorem dX8_crowd_28 : decode cX8_crowd 28 = .ok (.invokevirtual 267, 3) := by decide +kernel
theorem dX8_crowd_31 : decode cX8_crowd 31 = .ok (.ifCond .eq 5, 3) := by decide +kernel
theorem dX8_crowd_34 : decode cX8_crowd 34 = .ok (.iconst 0, 1) := by decide +kernel
theorem dX8_crowd_35 : decode cX8_crowd 35 = .ok (.ireturn, 1) := by decide +kernel
theorem dX8_crowd_36 : decode cX8_crowd 36 = .ok (.iconst 0, 1) := by decide +kernel
theorem dX8_crowd_37 : decode cX8_crowd 37 = .ok (.istore_n 3, 1) := by decide +kernel
theorem dX8_crowd_38 : decode cX8_crowd 38 = .ok (.iconst 0, 1) := by decide +kernel
theorem dX8_crowd_39 : decode cX8_crowd 39 = .ok (.istore 4, 2) := by decide +kernel
theorem dX8_crowd_41 : decode cX8_crowd 41 = .ok (.iload 4, 2) := by decide +kernel
theorem dX8_crowd_43 : decode cX8_crowd 43 = .ok (.aload_n 0, 1) := by decide +kernel
theorem dX8_crowd_44 : decode cX8_crowd 44 = .ok (.getfield 7, 3) := by decide +kernel
theorem dX8_crowd_47 : decode cX8_crowd 47 = .ok (.iconst 2, 1) := by decide +kernel
theorem dX8_crowd_48 : decode cX8_crowd 48 = .ok (.iaload, 1) := by decide +kernel
theorem dX8_crowd_49 : decode cX8_crowd 49 = .ok (.if_icmp .ge 68, 3) := by decide +kernel
theorem dX8_crowd_52 : decode cX8_crowd 52 = .ok (.iload_n 3, 1) := by decide +kernel
theorem dX8_crowd_53 : decode cX8_crowd 53 = .ok (.aload_n 0, 1) := by decide +kernel
theorem dX8_crowd_54 : decode cX8_crowd 54 = .ok (.getfield 7, 3) := by decide +kernel
theorem dX8_crowd_57 : decode cX8_crowd 57 = .ok (.bipush 127, 2) := by decide +kernel
theorem dX8_crowd_59 : decode cX8_crowd 59 = .ok (.iload 4, 2) := by decide +kernel
theorem dX8_crowd_61 : decode cX8_crowd 61 = .ok (.iadd, 1) := by decide +kernel
theorem dX8_crowd_62 : decode cX8_crowd 62 = .ok (.iaload, 1) := by decide +kernel
theorem dX8_crowd_63 : decode cX8_crowd 63 = .ok (.iconst 1, 1) := by decide +kernel
theorem dX8_crowd_64 : decode cX8_crowd 64 = .ok (.if_icmp .ne 44, 3) := by decide +kernel
theorem dX8_crowd_67 : decode cX8_crowd 67 = .ok (.aload_n 0, 1) := by decide +kernel
theorem dX8_crowd_68 : decode cX8_crowd 68 = .ok (.getfield 7, 3) := by decide +kernel
theorem dX8_crowd_71 : decode cX8_crowd 71 = .ok (.bipush 55, 2) := by decide +kernel
theorem dX8_crowd_73 : decode cX8_crowd 73 = .ok (.iload 4, 2) := by decide +kernel
theorem dX8_crowd_75 : decode cX8_crowd 75 = .ok (.iadd, 1) := by decide +kernel
theorem dX8_crowd_76 : decode cX8_crowd 76 = .ok (.iaload, 1) := by decide +kernel
theorem dX8_crowd_77 : decode cX8_crowd 77 = .ok (.iload_n 1, 1) := by decide +kernel
theorem dX8_crowd_78 : decode cX8_crowd 78 = .ok (.if_icmp .ne 30, 3) := by decide +kernel
theorem dX8_crowd_81 : decode cX8_crowd 81 = .ok (.aload_n 0, 1) := by decide +kernel
theorem dX8_crowd_82 : decode cX8_crowd 82 = .ok (.getfield 7, 3) := by decide +kernel
theorem dX8_crowd_85 : decode cX8_crowd 85 = .ok (.bipush 79, 2) := by decide +kernel
theorem dX8_crowd_87 : decode cX8_crowd 87 = .ok (.iload 4, 2) := by decide +kernel
theorem dX8_crowd_89 : decode cX8_crowd 89 = .ok (.iadd, 1) := by decide +kernel
theorem dX8_crowd_90 : decode cX8_crowd 90 = .ok (.iaload, 1) := by decide +kernel
theorem dX8_crowd_91 : decode cX8_crowd 91 = .ok (.iload_n 1, 1) := by decide +kernel
theorem dX8_crowd_92 : decode cX8_crowd 92 = .ok (.if_icmp .le 7, 3) := by decide +kernel
theorem dX8_crowd_95 : decode cX8_crowd 95 = .ok (.iconst 1, 1) := by decide +kernel
theorem dX8_crowd_96 : decode cX8_crowd 96 = .ok (.goto 4, 3) := by decide +kernel
theorem dX8_crowd_99 : decode cX8_crowd 99 = .ok (.iconst 0, 1) := by decide +kernel
theorem dX8_crowd_100 : decode cX8_crowd 100 = .ok (.iload_n 2, 1) := by decide +kernel
theorem dX8_crowd_101 : decode cX8_crowd 101 = .ok (.if_icmp .ne 7, 3) := by decide +kernel
theorem dX8_crowd_104 : decode cX8_crowd 104 = .ok (.iconst 1, 1) := by decide +kernel
theorem dX8_crowd_105 : decode cX8_crowd 105 = .ok (.goto 4, 3) := by decide +kernel
theorem dX8_crowd_108 : decode cX8_crowd 108 = .ok (.iconst 0, 1) := by decide +kernel
theorem dX8_crowd_109 : decode cX8_crowd 109 = .ok (.iadd, 1) := by decide +kernel
theorem dX8_crowd_110 : decode cX8_crowd 110 = .ok (.istore_n 3, 1) := by decide +kernel
theorem dX8_crowd_111 : decode cX8_crowd 111 = .ok (.iinc 4 1, 3) := by decide +kernel
theorem dX8_crowd_114 : decode cX8_crowd 114 = .ok (.goto (-73), 3) := by decide +kernel
theorem dX8_crowd_117 : decode cX8_crowd 117 = .ok (.iload_n 3, 1) := by decide +kernel
theorem dX8_crowd_118 : decode cX8_crowd 118 = .ok (.ireturn, 1) := by decide +kernel
/-! BusLiftsModel.crowd(IZ)I -/
noncomputable def f_X8_crowd_117  (σ : Sg) (v3 : Int32) : Option (Int32 × Sg) := some (v3, σ)
noncomputable def f_X8_crowd_109 (k41 : Sg → Int32 → Int32 → Int32 → Int32 → Option (Int32 × Sg)) (σ : Sg) (v1 : Int32) (v2 : Int32) (v4 : Int32) (v100 : Int32) (v101 : Int32) : Option (Int32 × Sg) := k41 σ v1 v2 (v100 + v101) (v4 + 1)
noncomputable def f_X8_crowd_108 (k41 : Sg → Int32 → Int32 → Int32 → Int32 → Option (Int32 × Sg)) (σ : Sg) (v1 : Int32) (v2 : Int32) (v4 : Int32) (v100 : Int32) : Option (Int32 × Sg) := f_X8_crowd_109 k41 σ v1 v2 v4 v100 0
noncomputable def f_X8_crowd_100 (k41 : Sg → Int32 → Int32 → Int32 → Int32 → Option (Int32 × Sg)) (σ : Sg) (v1 : Int32) (v2 : Int32) (v4 : Int32) (v100 : Int32) (v101 : Int32) : Option (Int32 × Sg) := if v101 = v2 then (f_X8_crowd_109 k41 σ v1 v2 v4 v100 1) else (f_X8_crowd_108 k41 σ v1 v2 v4 v100)
noncomputable def f_X8_crowd_41  : Nat → Sg → Int32 → Int32 → Int32 → Int32 → Option (Int32 × Sg)
  | 0, _, _, _, _, _ => none
  | n + 1, σ, v1, v2, v3, v4 => if (σ 30 0 2) ≤ v4 then (f_X8_crowd_117 σ v3) else (if (127 + v4) < 0 ∨ 2111 ≤ ((127 + v4)).toNatClampNeg then none else (if (σ 30 0 ((127 + v4)).toNatClampNeg) = 1 then (if (55 + v4) < 0 ∨ 2111 ≤ ((55 + v4)).toNatClampNeg then none else (if (σ 30 0 ((55 + v4)).toNatClampNeg) = v1 then (if (79 + v4) < 0 ∨ 2111 ≤ ((79 + v4)).toNatClampNeg then none else (if (σ 30 0 ((79 + v4)).toNatClampNeg) ≤ v1 then (f_X8_crowd_100 (f_X8_crowd_41 n) σ v1 v2 v4 v3 0) else (f_X8_crowd_100 (f_X8_crowd_41 n) σ v1 v2 v4 v3 1))) else (f_X8_crowd_108 (f_X8_crowd_41 n) σ v1 v2 v4 v3))) else (f_X8_crowd_108 (f_X8_crowd_41 n) σ v1 v2 v4 v3)))
theorem f_X8_crowd_41_s  (n : Nat) (σ : Sg) (v1 : Int32) (v2 : Int32) (v3 : Int32) (v4 : Int32) : f_X8_crowd_41  (n + 1) σ v1 v2 v3 v4 = (if (σ 30 0 2) ≤ v4 then (f_X8_crowd_117 σ v3) else (if (127 + v4) < 0 ∨ 2111 ≤ ((127 + v4)).toNatClampNeg then none else (if (σ 30 0 ((127 + v4)).toNatClampNeg) = 1 then (if (55 + v4) < 0 ∨ 2111 ≤ ((55 + v4)).toNatClampNeg then none else (if (σ 30 0 ((55 + v4)).toNatClampNeg) = v1 then (if (79 + v4) < 0 ∨ 2111 ≤ ((79 + v4)).toNatClampNeg then none else (if (σ 30 0 ((79 + v4)).toNatClampNeg) ≤ v1 then (f_X8_crowd_100 (f_X8_crowd_41 n) σ v1 v2 v4 v3 0) else (f_X8_crowd_100 (f_X8_crowd_41 n) σ v1 v2 v4 v3 1))) else (f_X8_crowd_108 (f_X8_crowd_41 n) σ v1 v2 v4 v3))) else (f_X8_crowd_108 (f_X8_crowd_41 n) σ v1 v2 v4 v3)))) := rfl
noncomputable def f_X8_crowd_27  (σ : Sg) (v1 : Int32) (v2 : Int32) (v101 : Int32) : Option (Int32 × Sg) := bi (f_X8_fails σ v101 1) fun r2 σ1 => (if r2 = 0 then (f_X8_crowd_41 FU σ1 v1 v2 0 0) else (some (0, σ1)))
noncomputable def f_X8_crowd  (σ : Sg) (v1 : Int32) (v2 : Int32) : Option (Int32 × Sg) := st (sup σ 8 0 8 0) fun σ1 => (bi (f_X8_inRange σ1 v1 0 ((σ1 30 0 0) - 1)) fun r3 σ2 => (if r3 = 0 then (f_X8_crowd_27 σ2 v1 v2 1) else (f_X8_crowd_27 σ2 v1 v2 0)))
set_option maxHeartbeats 4000000 in
set_option maxRecDepth 100000 in
theorem w_X8_crowd_117 {p : Program} {l : Launch} {e : Env} {s : State} {m : MethodId} {args : Array Value} {below : List Frame} {meth : Method} {c : Code} {G : Gx} {ad : Ad} {res : Int32 × Sg} (C : Cx p s m args meth c yX8_crowd.cls cX8_crowd 5 (Option.some FieldType.int) G)  : ∀ (σ : Sg) (v3 : Int32) (H : Heap) (locs : List Loc) (ls : Array Slot), z_S 1 G ad σ (z_A 1 ad s.heap.size) s.heap H locs → lv_has ls 5 [(3, .int v3)] → f_X8_crowd_117  σ v3 = some res → W p l e { frames := 1, cells := 0, slots := 0, locals := 22 } s m args below meth c H locs 0 0 (MQ below (va_Qi (S := Unit) (fun r1 _ => r1 = res.1) (fun _ t => z_W 1 G ad res.2 t.heap) (z_A 1 ad s.heap.size)) args s 0 0 (z_A 1 ad s.heap.size)) (F0 m 117 ls []) := by
  intro σ v3 H locs ls S hl  hf
  unfold f_X8_crowd_117 at hf
  refine lv_iload_n C.1 C.2.1 dX8_crowd_117 rfl (lv_at hl 0 rfl) ?_
  exact z_iret C S hf dX8_crowd_118
set_option maxHeartbeats 4000000 in
set_option maxRecDepth 100000 in
theorem w_X8_crowd_109 {p : Program} {l : Launch} {e : Env} {s : State} {m : MethodId} {args : Array Value} {below : List Frame} {meth : Method} {c : Code} {G : Gx} {ad : Ad} {res : Int32 × Sg} (C : Cx p s m args meth c yX8_crowd.cls cX8_crowd 5 (Option.some FieldType.int) G) (k41 : Sg → Int32 → Int32 → Int32 → Int32 → Option (Int32 × Sg)) (hk41 : ∀ (σ : Sg) (v1 : Int32) (v2 : Int32) (v3 : Int32) (v4 : Int32) (H : Heap) (locs : List Loc) (ls : Array Slot), z_S 1 G ad σ (z_A 1 ad s.heap.size) s.heap H locs → lv_has ls 5 [(0, .ref (ad 8 0)), (1, .int v1), (2, .int v2), (3, .int v3), (4, .int v4)] → k41 σ v1 v2 v3 v4 = some res → W p l e { frames := 1, cells := 0, slots := 0, locals := 22 } s m args below meth c H locs 0 0 (MQ below (va_Qi (S := Unit) (fun r1 _ => r1 = res.1) (fun _ t => z_W 1 G ad res.2 t.heap) (z_A 1 ad s.heap.size)) args s 0 0 (z_A 1 ad s.heap.size)) (F0 m 41 ls [])) : ∀ (σ : Sg) (v1 : Int32) (v2 : Int32) (v4 : Int32) (v100 : Int32) (v101 : Int32) (H : Heap) (locs : List Loc) (ls : Array Slot), z_S 1 G ad σ (z_A 1 ad s.heap.size) s.heap H locs → lv_has ls 5 [(0, .ref (ad 8 0)), (1, .int v1), (2, .int v2), (4, .int v4)] → f_X8_crowd_109 k41 σ v1 v2 v4 v100 v101 = some res → W p l e { frames := 1, cells := 0, slots := 0, locals := 22 } s m args below meth c H locs 0 0 (MQ below (va_Qi (S := Unit) (fun r1 _ => r1 = res.1) (fun _ t => z_W 1 G ad res.2 t.heap) (z_A 1 ad s.heap.size)) args s 0 0 (z_A 1 ad s.heap.size)) (F0 m 109 ls [.int v101, .int v100]) := by
  intro σ v1 v2 v4 v100 v101 H locs ls S hl  hf
  unfold f_X8_crowd_109 at hf
  refine lv_iadd C.1 C.2.1 dX8_crowd_109 ?_
  refine lv_istore_n (lv' := [(3, .int (v100 + v101)), (0, .ref (ad 8 0)), (1, .int v1), (2, .int v2), (4, .int v4)]) C.1 C.2.1 dX8_crowd_110 rfl hl (by decide) rfl (fun ls hl => ?_)
  refine lv_iinc (v := (v4 + 1)) (lv' := [(4, .int (v4 + 1)), (3, .int (v100 + v101)), (0, .ref (ad 8 0)), (1, .int v1), (2, .int v2)]) C.1 C.2.1 dX8_crowd_111 hl (k := 4) rfl rfl (by decide) rfl (fun ls hl => ?_)
  refine lv_goto (tgt := 41) C.1 C.2.1 dX8_crowd_114 (by decide) ?_
  exact hk41 _ v1 v2 (v100 + v101) (v4 + 1) _ _ _ S (lv_sub hl [2, 3, 4, 1, 0] rfl)  hf
set_option maxHeartbeats 4000000 in
set_option maxRecDepth 100000 in
theorem w_X8_crowd_108 {p : Program} {l : Launch} {e : Env} {s : State} {m : MethodId} {args : Array Value} {below : List Frame} {meth : Method} {c : Code} {G : Gx} {ad : Ad} {res : Int32 × Sg} (C : Cx p s m args meth c yX8_crowd.cls cX8_crowd 5 (Option.some FieldType.int) G) (k41 : Sg → Int32 → Int32 → Int32 → Int32 → Option (Int32 × Sg)) (hk41 : ∀ (σ : Sg) (v1 : Int32) (v2 : Int32) (v3 : Int32) (v4 : Int32) (H : Heap) (locs : List Loc) (ls : Array Slot), z_S 1 G ad σ (z_A 1 ad s.heap.size) s.heap H locs → lv_has ls 5 [(0, .ref (ad 8 0)), (1, .int v1), (2, .int v2), (3, .int v3), (4, .int v4)] → k41 σ v1 v2 v3 v4 = some res → W p l e { frames := 1, cells := 0, slots := 0, locals := 22 } s m args below meth c H locs 0 0 (MQ below (va_Qi (S := Unit) (fun r1 _ => r1 = res.1) (fun _ t => z_W 1 G ad res.2 t.heap) (z_A 1 ad s.heap.size)) args s 0 0 (z_A 1 ad s.heap.size)) (F0 m 41 ls [])) : ∀ (σ : Sg) (v1 : Int32) (v2 : Int32) (v4 : Int32) (v100 : Int32) (H : Heap) (locs : List Loc) (ls : Array Slot), z_S 1 G ad σ (z_A 1 ad s.heap.size) s.heap H locs → lv_has ls 5 [(0, .ref (ad 8 0)), (1, .int v1), (2, .int v2), (4, .int v4)] → f_X8_crowd_108 k41 σ v1 v2 v4 v100 = some res → W p l e { frames := 1, cells := 0, slots := 0, locals := 22 } s m args below meth c H locs 0 0 (MQ below (va_Qi (S := Unit) (fun r1 _ => r1 = res.1) (fun _ t => z_W 1 G ad res.2 t.heap) (z_A 1 ad s.heap.size)) args s 0 0 (z_A 1 ad s.heap.size)) (F0 m 108 ls [.int v100]) := by
  intro σ v1 v2 v4 v100 H locs ls S hl  hf
  unfold f_X8_crowd_108 at hf
  refine lv_iconst (v := 0) C.1 C.2.1 dX8_crowd_108 (by decide) ?_
  exact w_X8_crowd_109 C k41 hk41 _ v1 v2 v4 v100 0 _ _ _ S (lv_sub hl [0, 1, 2, 3] rfl) hf
set_option maxHeartbeats 4000000 in
set_option maxRecDepth 100000 in
theorem w_X8_crowd_100 {p : Program} {l : Launch} {e : Env} {s : State} {m : MethodId} {args : Array Value} {below : List Frame} {meth : Method} {c : Code} {G : Gx} {ad : Ad} {res : Int32 × Sg} (C : Cx p s m args meth c yX8_crowd.cls cX8_crowd 5 (Option.some FieldType.int) G) (k41 : Sg → Int32 → Int32 → Int32 → Int32 → Option (Int32 × Sg)) (hk41 : ∀ (σ : Sg) (v1 : Int32) (v2 : Int32) (v3 : Int32) (v4 : Int32) (H : Heap) (locs : List Loc) (ls : Array Slot), z_S 1 G ad σ (z_A 1 ad s.heap.size) s.heap H locs → lv_has ls 5 [(0, .ref (ad 8 0)), (1, .int v1), (2, .int v2), (3, .int v3), (4, .int v4)] → k41 σ v1 v2 v3 v4 = some res → W p l e { frames := 1, cells := 0, slots := 0, locals := 22 } s m args below meth c H locs 0 0 (MQ below (va_Qi (S := Unit) (fun r1 _ => r1 = res.1) (fun _ t => z_W 1 G ad res.2 t.heap) (z_A 1 ad s.heap.size)) args s 0 0 (z_A 1 ad s.heap.size)) (F0 m 41 ls [])) : ∀ (σ : Sg) (v1 : Int32) (v2 : Int32) (v4 : Int32) (v100 : Int32) (v101 : Int32) (H : Heap) (locs : List Loc) (ls : Array Slot), z_S 1 G ad σ (z_A 1 ad s.heap.size) s.heap H locs → lv_has ls 5 [(0, .ref (ad 8 0)), (1, .int v1), (2, .int v2), (4, .int v4)] → f_X8_crowd_100 k41 σ v1 v2 v4 v100 v101 = some res → W p l e { frames := 1, cells := 0, slots := 0, locals := 22 } s m args below meth c H locs 0 0 (MQ below (va_Qi (S := Unit) (fun r1 _ => r1 = res.1) (fun _ t => z_W 1 G ad res.2 t.heap) (z_A 1 ad s.heap.size)) args s 0 0 (z_A 1 ad s.heap.size)) (F0 m 100 ls [.int v101, .int v100]) := by
  intro σ v1 v2 v4 v100 v101 H locs ls S hl  hf
  unfold f_X8_crowd_100 at hf
  refine lv_iload_n C.1 C.2.1 dX8_crowd_100 rfl (lv_at hl 2 rfl) ?_
  refine lv_icmp_ne (tgt := 108) C.1 C.2.1 dX8_crowd_101 (by decide) (fun c_101 => ?_) (fun c_101 => ?_)
  · rw [if_neg c_101] at hf
    exact w_X8_crowd_108 C k41 hk41 _ v1 v2 v4 v100 _ _ _ S (lv_sub hl [0, 1, 2, 3] rfl) hf
  · rw [if_pos c_101] at hf
    refine lv_iconst (v := 1) C.1 C.2.1 dX8_crowd_104 (by decide) ?_
    refine lv_goto (tgt := 109) C.1 C.2.1 dX8_crowd_105 (by decide) ?_
    exact w_X8_crowd_109 C k41 hk41 _ v1 v2 v4 v100 1 _ _ _ S (lv_sub hl [0, 1, 2, 3] rfl) hf
set_option maxHeartbeats 4000000 in
set_option maxRecDepth 100000 in
theorem w_X8_crowd_41 {p : Program} {l : Launch} {e : Env} {s : State} {m : MethodId} {args : Array Value} {below : List Frame} {meth : Method} {c : Code} {G : Gx} {ad : Ad} {res : Int32 × Sg} (C : Cx p s m args meth c yX8_crowd.cls cX8_crowd 5 (Option.some FieldType.int) G)  : ∀ n : Nat, ∀ (σ : Sg) (v1 : Int32) (v2 : Int32) (v3 : Int32) (v4 : Int32) (H : Heap) (locs : List Loc) (ls : Array Slot), z_S 1 G ad σ (z_A 1 ad s.heap.size) s.heap H locs → lv_has ls 5 [(0, .ref (ad 8 0)), (1, .int v1), (2, .int v2), (3, .int v3), (4, .int v4)] → f_X8_crowd_41  n σ v1 v2 v3 v4 = some res → W p l e { frames := 1, cells := 0, slots := 0, locals := 22 } s m args below meth c H locs 0 0 (MQ below (va_Qi (S := Unit) (fun r1 _ => r1 = res.1) (fun _ t => z_W 1 G ad res.2 t.heap) (z_A 1 ad s.heap.size)) args s 0 0 (z_A 1 ad s.heap.size)) (F0 m 41 ls []) := by
  intro n
  induction n with
  | zero => intro σ v1 v2 v3 v4 H locs ls S hl  hf; cases hf
  | succ n ih =>
    intro σ v1 v2 v3 v4 H locs ls S hl  hf
    rw [f_X8_crowd_41_s] at hf
    refine lv_iload C.1 C.2.1 dX8_crowd_41 (lv_at hl 4 rfl) ?_
    refine lv_aload_n C.1 C.2.1 dX8_crowd_43 rfl (lv_at hl 0 rfl) ?_
    refine z_getR C S 8 0 rfl (by decide) cf_8 0 (by decide) _ (gr_8_0 G ad 0) tw_6_118 dX8_crowd_44 ?_
    refine lv_iconst (v := 2) C.1 C.2.1 dX8_crowd_47 (by decide) ?_
    refine z_ialdL C S 30 0 rfl (by decide) 2111 (fun _ => rfl) 2 (by decide) (by decide) (by decide) dX8_crowd_48 ?_
    refine lv_icmp_ge (tgt := 117) C.1 C.2.1 dX8_crowd_49 (by decide) (fun c_49 => ?_) (fun c_49 => ?_)
    · rw [if_pos c_49] at hf
      exact w_X8_crowd_117 C _ v3 _ _ _ S (lv_sub hl [3] rfl) hf
    · rw [if_neg c_49] at hf
      refine lv_iload_n C.1 C.2.1 dX8_crowd_52 rfl (lv_at hl 3 rfl) ?_
      refine lv_aload_n C.1 C.2.1 dX8_crowd_53 rfl (lv_at hl 0 rfl) ?_
      refine z_getR C S 8 0 rfl (by decide) cf_8 0 (by decide) _ (gr_8_0 G ad 0) tw_6_118 dX8_crowd_54 ?_
      refine lv_bipush (v := 127) C.1 C.2.1 dX8_crowd_57 (by decide) ?_
      refine lv_iload C.1 C.2.1 dX8_crowd_59 (lv_at hl 4 rfl) ?_
      refine lv_iadd C.1 C.2.1 dX8_crowd_61 ?_
      obtain ⟨g_62, hf⟩ := gd hf
      refine z_iald C S 30 0 rfl (by decide) 2111 (fun _ => rfl) g_62 dX8_crowd_62 ?_
      refine lv_iconst (v := 1) C.1 C.2.1 dX8_crowd_63 (by decide) ?_
      refine lv_icmp_ne (tgt := 108) C.1 C.2.1 dX8_crowd_64 (by decide) (fun c_64 => ?_) (fun c_64 => ?_)
      · rw [if_neg c_64] at hf
        exact w_X8_crowd_108 C (f_X8_crowd_41 n) ih _ v1 v2 v4 v3 _ _ _ S (lv_sub hl [0, 1, 2, 4] rfl) hf
      · rw [if_pos c_64] at hf
        refine lv_aload_n C.1 C.2.1 dX8_crowd_67 rfl (lv_at hl 0 rfl) ?_
        refine z_getR C S 8 0 rfl (by decide) cf_8 0 (by decide) _ (gr_8_0 G ad 0) tw_6_118 dX8_crowd_68 ?_
        refine lv_bipush (v := 55) C.1 C.2.1 dX8_crowd_71 (by decide) ?_
        refine lv_iload C.1 C.2.1 dX8_crowd_73 (lv_at hl 4 rfl) ?_
        refine lv_iadd C.1 C.2.1 dX8_crowd_75 ?_
        obtain ⟨g_76, hf⟩ := gd hf
        refine z_iald C S 30 0 rfl (by decide) 2111 (fun _ => rfl) g_76 dX8_crowd_76 ?_
        refine lv_iload_n C.1 C.2.1 dX8_crowd_77 rfl (lv_at hl 1 rfl) ?_
        refine lv_icmp_ne (tgt := 108) C.1 C.2.1 dX8_crowd_78 (by decide) (fun c_78 => ?_) (fun c_78 => ?_)
        · rw [if_neg c_78] at hf
          exact w_X8_crowd_108 C (f_X8_crowd_41 n) ih _ v1 v2 v4 v3 _ _ _ S (lv_sub hl [0, 1, 2, 4] rfl) hf
        · rw [if_pos c_78] at hf
          refine lv_aload_n C.1 C.2.1 dX8_crowd_81 rfl (lv_at hl 0 rfl) ?_
          refine z_getR C S 8 0 rfl (by decide) cf_8 0 (by decide) _ (gr_8_0 G ad 0) tw_6_118 dX8_crowd_82 ?_
          refine lv_bipush (v := 79) C.1 C.2.1 dX8_crowd_85 (by decide) ?_
          refine lv_iload C.1 C.2.1 dX8_crowd_87 (lv_at hl 4 rfl) ?_
          refine lv_iadd C.1 C.2.1 dX8_crowd_89 ?_
          obtain ⟨g_90, hf⟩ := gd hf
          refine z_iald C S 30 0 rfl (by decide) 2111 (fun _ => rfl) g_90 dX8_crowd_90 ?_
          refine lv_iload_n C.1 C.2.1 dX8_crowd_91 rfl (lv_at hl 1 rfl) ?_
          refine lv_icmp_le (tgt := 99) C.1 C.2.1 dX8_crowd_92 (by decide) (fun c_92 => ?_) (fun c_92 => ?_)
          · rw [if_pos c_92] at hf
            refine lv_iconst (v := 0) C.1 C.2.1 dX8_crowd_99 (by decide) ?_
            exact w_X8_crowd_100 C (f_X8_crowd_41 n) ih _ v1 v2 v4 v3 0 _ _ _ S (lv_sub hl [0, 1, 2, 4] rfl) hf
          · rw [if_neg c_92] at hf
            refine lv_iconst (v := 1) C.1 C.2.1 dX8_crowd_95 (by decide) ?_
            refine lv_goto (tgt := 100) C.1 C.2.1 dX8_crowd_96 (by decide) ?_
            exact w_X8_crowd_100 C (f_X8_crowd_41 n) ih _ v1 v2 v4 v3 1 _ _ _ S (lv_sub hl [0, 1, 2, 4] rfl) hf
set_option maxHeartbeats 4000000 in
set_option maxRecDepth 100000 in
theorem w_X8_crowd_27 {p : Program} {l : Launch} {e : Env} {s : State} {m : MethodId} {args : Array Value} {below : List Frame} {meth : Method} {c : Code} {G : Gx} {ad : Ad} {res : Int32 × Sg} (C : Cx p s m args meth c yX8_crowd.cls cX8_crowd 5 (Option.some FieldType.int) G)  : ∀ (σ : Sg) (v1 : Int32) (v2 : Int32) (v101 : Int32) (H : Heap) (locs : List Loc) (ls : Array Slot), z_S 1 G ad σ (z_A 1 ad s.heap.size) s.heap H locs → lv_has ls 5 [(0, .ref (ad 8 0)), (1, .int v1), (2, .int v2)] → f_X8_crowd_27  σ v1 v2 v101 = some res → W p l e { frames := 1, cells := 0, slots := 0, locals := 22 } s m args below meth c H locs 0 0 (MQ below (va_Qi (S := Unit) (fun r1 _ => r1 = res.1) (fun _ t => z_W 1 G ad res.2 t.heap) (z_A 1 ad s.heap.size)) args s 0 0 (z_A 1 ad s.heap.size)) (F0 m 27 ls [.int v101, .ref (ad 8 0)]) := by
  intro σ v1 v2 v101 H locs ls S hl  hf
  unfold f_X8_crowd_27 at hf
  refine lv_iconst (v := 1) C.1 C.2.1 dX8_crowd_27 (by decide) ?_
  obtain ⟨r2, σ1, q_28, hf⟩ := bib hf
  refine z_callI C S 8 0 rfl (by decide) cf_8 ⟨_, rfl⟩ [.int v101, .int 1] (m_X8_fails l G ad σ v101 1 r2 σ1 q_28 _) kv_X8_fails tw_7_56 ⟨Nat.le_of_ble_eq_true rfl, Nat.le_of_ble_eq_true rfl⟩ rfl rfl (Nat.le_of_ble_eq_true rfl) hl.1 ⟨Nat.le_of_ble_eq_true rfl, Nat.le_of_ble_eq_true rfl⟩ dX8_crowd_28 (fun H locs S => ?_)
  refine lv_if_eq (tgt := 36) C.1 C.2.1 dX8_crowd_31 (by decide) (fun c_31 => ?_) (fun c_31 => ?_)
  · rw [if_pos c_31] at hf
    refine lv_iconst (v := 0) C.1 C.2.1 dX8_crowd_36 (by decide) ?_
    refine lv_istore_n (lv' := [(3, .int 0), (0, .ref (ad 8 0)), (1, .int v1), (2, .int v2)]) C.1 C.2.1 dX8_crowd_37 rfl hl (by decide) rfl (fun ls hl => ?_)
    refine lv_iconst (v := 0) C.1 C.2.1 dX8_crowd_38 (by decide) ?_
    refine lv_istore (lv' := [(4, .int 0), (3, .int 0), (0, .ref (ad 8 0)), (1, .int v1), (2, .int v2)]) C.1 C.2.1 dX8_crowd_39 hl (by decide) rfl (fun ls hl => ?_)
    exact w_X8_crowd_41 C FU _ v1 v2 0 0 _ _ _ S (lv_sub hl [2, 3, 4, 1, 0] rfl) hf
  · rw [if_neg c_31] at hf
    refine lv_iconst (v := 0) C.1 C.2.1 dX8_crowd_34 (by decide) ?_
    exact z_iret C S hf dX8_crowd_35
set_option maxHeartbeats 4000000 in
set_option maxRecDepth 100000 in
theorem w_X8_crowd_0 {p : Program} {l : Launch} {e : Env} {s : State} {m : MethodId} {args : Array Value} {below : List Frame} {meth : Method} {c : Code} {G : Gx} {ad : Ad} {res : Int32 × Sg} (C : Cx p s m args meth c yX8_crowd.cls cX8_crowd 5 (Option.some FieldType.int) G)  : ∀ (σ : Sg) (v1 : Int32) (v2 : Int32) (H : Heap) (locs : List Loc) (ls : Array Slot), z_S 1 G ad σ (z_A 1 ad s.heap.size) s.heap H locs → lv_has ls 5 [(0, .ref (ad 8 0)), (1, .int v1), (2, .int v2)] → f_X8_crowd  σ v1 v2 = some res → W p l e { frames := 1, cells := 0, slots := 0, locals := 22 } s m args below meth c H locs 0 0 (MQ below (va_Qi (S := Unit) (fun r1 _ => r1 = res.1) (fun _ t => z_W 1 G ad res.2 t.heap) (z_A 1 ad s.heap.size)) args s 0 0 (z_A 1 ad s.heap.size)) (F0 m 0 ls []) := by
  intro σ v1 v2 H locs ls S hl  hf
  unfold f_X8_crowd at hf
  refine lv_aload_n C.1 C.2.1 dX8_crowd_0 rfl (lv_at hl 0 rfl) ?_
  refine lv_iconst (v := 0) C.1 C.2.1 dX8_crowd_1 (by decide) ?_
  obtain ⟨σ1, e_2, hf⟩ := stb hf
  refine z_putI C S 8 0 rfl (by decide) cf_8 8 (by decide) (pi_8_8 G ad 0) rfl rfl rfl tw_6_126 dX8_crowd_2 (fun H locs S => ?_)
  rw [← e_2] at S
  refine lv_aload_n C.1 C.2.1 dX8_crowd_5 rfl (lv_at hl 0 rfl) ?_
  refine lv_iload_n C.1 C.2.1 dX8_crowd_6 rfl (lv_at hl 1 rfl) ?_
  refine lv_iconst (v := 0) C.1 C.2.1 dX8_crowd_7 (by decide) ?_
  refine lv_aload_n C.1 C.2.1 dX8_crowd_8 rfl (lv_at hl 0 rfl) ?_
  refine z_getR C S 8 0 rfl (by decide) cf_8 0 (by decide) _ (gr_8_0 G ad 0) tw_6_118 dX8_crowd_9 ?_
  refine lv_iconst (v := 0) C.1 C.2.1 dX8_crowd_12 (by decide) ?_
  refine z_ialdL C S 30 0 rfl (by decide) 2111 (fun _ => rfl) 0 (by decide) (by decide) (by decide) dX8_crowd_13 ?_
  refine lv_iconst (v := 1) C.1 C.2.1 dX8_crowd_14 (by decide) ?_
  refine lv_isub C.1 C.2.1 dX8_crowd_15 ?_
  obtain ⟨r3, σ2, q_16, hf⟩ := bib hf
  refine z_callSI C S [.int v1, .int 0, .int ((σ1 30 0 0) - 1)] (m_X8_inRange l G ad σ1 v1 0 ((σ1 30 0 0) - 1) r3 σ2 q_16 _) kv_X8_inRange tw_6_204 ⟨Nat.le_of_ble_eq_true rfl, Nat.le_of_ble_eq_true rfl⟩ rfl rfl (Nat.le_of_ble_eq_true rfl) hl.1 ⟨Nat.le_of_ble_eq_true rfl, Nat.le_of_ble_eq_true rfl⟩ dX8_crowd_16 (fun H locs S => ?_)
  refine lv_if_ne (tgt := 26) C.1 C.2.1 dX8_crowd_19 (by decide) (fun c_19 => ?_) (fun c_19 => ?_)
  · rw [if_neg c_19] at hf
    refine lv_iconst (v := 0) C.1 C.2.1 dX8_crowd_26 (by decide) ?_
    exact w_X8_crowd_27 C _ v1 v2 0 _ _ _ S (lv_sub hl [0, 1, 2] rfl) hf
  · rw [if_pos c_19] at hf
    refine lv_iconst (v := 1) C.1 C.2.1 dX8_crowd_22 (by decide) ?_
    refine lv_goto (tgt := 27) C.1 C.2.1 dX8_crowd_23 (by decide) ?_
    exact w_X8_crowd_27 C _ v1 v2 1 _ _ _ S (lv_sub hl [0, 1, 2] rfl) hf
theorem kv_X8_crowd : KV yX8_crowd cX8_crowd 5 (Option.some FieldType.int) 2 := ⟨tw_8_96, tw_8_94, tw_8_95, tw_1_10, by decide, by decide, by decide +kernel⟩
theorem m_X8_crowd (l : Launch) (G : Gx) (ad : Ad) (σ : Sg) (v1 : Int32) (v2 : Int32) (r : Int32) (σ' : Sg)  (hf : f_X8_crowd σ v1 v2 = some (r, σ')) (sz : Nat) : z_MI l yX8_crowd cX8_crowd 5 (Option.some FieldType.int) 1 22 1 G ad σ sz [.ref (ad 8 0), .int v1, .int v2] r σ' := by
  refine z_begin (by decide +kernel) (Nat.le_of_ble_eq_true rfl) [(0, .ref (ad 8 0)), (1, .int v1), (2, .int v2)] rfl (fun p e s m args below meth c ls C hz S hl => ?_)
  subst hz
  exact w_X8_crowd_0 (res := (r, σ')) C σ v1 v2 _ _ _ S hl  hf

theorem dX8_waitsWithin_0 : decode cX8_waitsWithin 0 = .ok (.aload_n 0, 1) := by decide +kernel
theorem dX8_waitsWithin_1 : decode cX8_waitsWithin 1 = .ok (.iconst 0, 1) := by decide +kernel
theorem dX8_waitsWithin_2 : decode cX8_waitsWithin 2 = .ok (.putfield 48, 3) := by decide +kernel
theorem dX8_waitsWithin_5 : decode cX8_waitsWithin 5 = .ok (.iconst 0, 1) := by decide +kernel
theorem dX8_waitsWithin_6 : decode cX8_waitsWithin 6 = .ok (.istore_n 3, 1) := by decide +kernel
theorem dX8_waitsWithin_7 : decode cX8_waitsWithin 7 = .ok (.iconst 0, 1) := by decide +kernel
theorem dX8_waitsWithin_8 : decode cX8_waitsWithin 8 = .ok (.istore 4, 2) := by decide +kernel
theorem dX8_waitsWithin_10 : decode cX8_waitsWithin 10 = .ok (.iload 4, 2) := by decide +kernel
theorem dX8_waitsWithin_12 : decode cX8_waitsWithin 12 = .ok (.aload_n 0, 1) := by decide +kernel
theorem dX8_waitsWithin_13 : decode cX8_waitsWithin 13 = .ok (.getfield 7, 3) := by decide +kernel
theorem dX8_waitsWithin_16 : decode cX8_waitsWithin 16 = .ok (.iconst 2, 1) := by decide +kernel
theorem dX8_waitsWithin_17 : decode cX8_waitsWithin 17 = .ok (.iaload, 1) := by decide +kernel
theorem dX8_waitsWithin_18 : decode cX8_waitsWithin 18 = .ok (.if_icmp .ge 44, 3) := by decide +kernel
theorem dX8_waitsWithin_21 : decode cX8_waitsWithin 21 = .ok (.iload_n 3, 1) := by decide +kernel
theorem dX8_waitsWithin_22 : decode cX8_waitsWithin 22 = .ok (.aload_n 0, 1) := by decide +kernel
theorem dX8_waitsWithin_23 : decode cX8_waitsWithin 23 = .ok (.getfield 7, 3) := by decide +kernel
theorem dX8_waitsWithin_26 : decode cX8_waitsWithin 26 = .ok (.bipush 127, 2) := by decide +kernel
theorem dX8_waitsWithin_28 : decode cX8_waitsWithin 28 = .ok (.iload 4, 2) := by decide +kernel
theorem dX8_waitsWithin_30 : decode cX8_waitsWithin 30 = .ok (.iadd, 1) := by decide +kernel
theorem dX8_waitsWithin_31 : decode cX8_waitsWithin 31 = .ok (.iaload, 1) := by decide +kernel
theorem dX8_waitsWithin_32 : decode cX8_waitsWithin 32 = .ok (.ifCond .eq 21, 3) := by decide +kernel
theorem dX8_waitsWithin_35 : decode cX8_waitsWithin 35 = .ok (.aload_n 0, 1) := by decide +kernel
theorem dX8_waitsWithin_36 : decode cX8_waitsWithin 36 = .ok (.iload 4, 2) := by decide +kernel
theorem dX8_waitsWithin_38 : decode cX8_waitsWithin 38 = .ok (.invokevirtual 280, 3) := by decide +kernel
theorem dX8_waitsWithin_41 : decode cX8_waitsWithin 41 = .ok (.iload_n 1, 1) := by decide +kernel
theorem dX8_waitsWithin_42 : decode cX8_waitsWithin 42 = .ok (.iload_n 2, 1) := by decide +kernel
theorem dX8_waitsWithin_43 : decode cX8_waitsWithin 43 = .ok (.invokestatic 165, 3) := by decide +kernel
theorem dX8_waitsWithin_46 : decode cX8_waitsWithin 46 = .ok (.ifCond .eq 7, 3) := by decide +kernel
theorem dX8_waitsWithin_49 : decode cX8_waitsWithin 49 = .ok (.iconst 1, 1) := by decide +kernel
theorem dX8_waitsWithin_50 : decode cX8_waitsWithin 50 = .ok (.goto 4, 3) := by decide +kernel
theorem dX8_waitsWithin_53 : decode cX8_waitsWithin 53 = .ok (.iconst 0, 1) := by decide +kernel
theorem dX8_waitsWithin_54 : decode cX8_waitsWithin 54 = .ok (.iadd, 1) := by decide +kernel
theorem dX8_waitsWithin_55 : decode cX8_waitsWithin 55 = .ok (.istore_n 3, 1) := by decide +kernel
theorem dX8_waitsWithin_56 : decode cX8_waitsWithin 56 = .ok (.iinc 4 1, 3) := by decide +kernel
theorem dX8_waitsWithin_59 : decode cX8_waitsWithin 59 = .ok (.goto (-49), 3) := by decide +kernel
theorem dX8_waitsWithin_62 : decode cX8_waitsWithin 62 = .ok (.iload_n 3, 1) := by decide +kernel
theorem dX8_waitsWithin_63 : decode cX8_waitsWithin 63 = .ok (.ireturn, 1) := by decide +kernel
/-! BusLiftsModel.waitsWithin(II)I -/
noncomputable def f_X8_waitsWithin_62  (σ : Sg) (v3 : Int32) : Option (Int32 × Sg) := some (v3, σ)
noncomputable def f_X8_waitsWithin_54 (k10 : Sg → Int32 → Int32 → Int32 → Int32 → Option (Int32 × Sg)) (σ : Sg) (v1 : Int32) (v2 : Int32) (v4 : Int32) (v100 : Int32) (v101 : Int32) : Option (Int32 × Sg) := k10 σ v1 v2 (v100 + v101) (v4 + 1)
noncomputable def f_X8_waitsWithin_53 (k10 : Sg → Int32 → Int32 → Int32 → Int32 → Option (Int32 × Sg)) (σ : Sg) (v1 : Int32) (v2 : Int32) (v4 : Int32) (v100 : Int32) : Option (Int32 × Sg) := f_X8_waitsWithin_54 k10 σ v1 v2 v4 v100 0
noncomputable def f_X8_waitsWithin_10  : Nat → Sg → Int32 → Int32 → Int32 → Int32 → Option (Int32 × Sg)
  | 0, _, _, _, _, _ => none
  | n + 1, σ, v1, v2, v3, v4 => if (σ 30 0 2) ≤ v4 then (f_X8_waitsWithin_62 σ v3) else (if (127 + v4) < 0 ∨ 2111 ≤ ((127 + v4)).toNatClampNeg then none else (if (σ 30 0 ((127 + v4)).toNatClampNeg) = 0 then (f_X8_waitsWithin_53 (f_X8_waitsWithin_10 n) σ v1 v2 v4 v3) else (bi (f_X8_waitNow σ v4) fun r2 σ1 => (bi (f_X8_inRange σ1 r2 v1 v2) fun r4 σ3 => (if r4 = 0 then (f_X8_waitsWithin_53 (f_X8_waitsWithin_10 n) σ3 v1 v2 v4 v3) else (f_X8_waitsWithin_54 (f_X8_waitsWithin_10 n) σ3 v1 v2 v4 v3 1))))))
theorem f_X8_waitsWithin_10_s  (n : Nat) (σ : Sg) (v1 : Int32) (v2 : Int32) (v3 : Int32) (v4 : Int32) : f_X8_waitsWithin_10  (n + 1) σ v1 v2 v3 v4 = (if (σ 30 0 2) ≤ v4 then (f_X8_waitsWithin_62 σ v3) else (if (127 + v4) < 0 ∨ 2111 ≤ ((127 + v4)).toNatClampNeg then none else (if (σ 30 0 ((127 + v4)).toNatClampNeg) = 0 then (f_X8_waitsWithin_53 (f_X8_waitsWithin_10 n) σ v1 v2 v4 v3) else (bi (f_X8_waitNow σ v4) fun r2 σ1 => (bi (f_X8_inRange σ1 r2 v1 v2) fun r4 σ3 => (if r4 = 0 then (f_X8_waitsWithin_53 (f_X8_waitsWithin_10 n) σ3 v1 v2 v4 v3) else (f_X8_waitsWithin_54 (f_X8_waitsWithin_10 n) σ3 v1 v2 v4 v3 1))))))) := rfl
noncomputable def f_X8_waitsWithin  (σ : Sg) (v1 : Int32) (v2 : Int32) : Option (Int32 × Sg) := st (sup σ 8 0 8 0) fun σ1 => (f_X8_waitsWithin_10 FU σ1 v1 v2 0 0)
set_option maxHeartbeats 4000000 in
set_option maxRecDepth 100000 in
theorem w_X8_waitsWithin_62 {p : Program} {l : Launch} {e : Env} {s : State} {m : MethodId} {args : Array Value} {below : List Frame} {meth : Method} {c : Code} {G : Gx} {ad : Ad} {res : Int32 × Sg} (C : Cx p s m args meth c yX8_waitsWithin.cls cX8_waitsWithin 5 (Option.some FieldType.int) G)  : ∀ (σ : Sg) (v3 : Int32) (H : Heap) (locs : List Loc) (ls : Array Slot), z_S 1 G ad σ (z_A 1 ad s.heap.size) s.heap H locs → lv_has ls 5 [(3, .int v3)] → f_X8_waitsWithin_62  σ v3 = some res → W p l e { frames := 1, cells := 0, slots := 0, locals := 22 } s m args below meth c H locs 0 0 (MQ below (va_Qi (S := Unit) (fun r1 _ => r1 = res.1) (fun _ t => z_W 1 G ad res.2 t.heap) (z_A 1 ad s.heap.size)) args s 0 0 (z_A 1 ad s.heap.size)) (F0 m 62 ls []) := by
  intro σ v3 H locs ls S hl  hf
  unfold f_X8_waitsWithin_62 at hf
  refine lv_iload_n C.1 C.2.1 dX8_waitsWithin_62 rfl (lv_at hl 0 rfl) ?_
  exact z_iret C S hf dX8_waitsWithin_63
set_option maxHeartbeats 4000000 in
set_option maxRecDepth 100000 in
theorem w_X8_waitsWithin_54 {p : Program} {l : Launch} {e : Env} {s : State} {m : MethodId} {args : Array Value} {below : List Frame} {meth : Method} {c : Code} {G : Gx} {ad : Ad} {res : Int32 × Sg} (C : Cx p s m args meth c yX8_waitsWithin.cls cX8_waitsWithin 5 (Option.some FieldType.int) G) (k10 : Sg → Int32 → Int32 → Int32 → Int32 → Option (Int32 × Sg)) (hk10 : ∀ (σ : Sg) (v1 : Int32) (v2 : Int32) (v3 : Int32) (v4 : Int32) (H : Heap) (locs : List Loc) (ls : Array Slot), z_S 1 G ad σ (z_A 1 ad s.heap.size) s.heap H locs → lv_has ls 5 [(0, .ref (ad 8 0)), (1, .int v1), (2, .int v2), (3, .int v3), (4, .int v4)] → k10 σ v1 v2 v3 v4 = some res → W p l e { frames := 1, cells := 0, slots := 0, locals := 22 } s m args below meth c H locs 0 0 (MQ below (va_Qi (S := Unit) (fun r1 _ => r1 = res.1) (fun _ t => z_W 1 G ad res.2 t.heap) (z_A 1 ad s.heap.size)) args s 0 0 (z_A 1 ad s.heap.size)) (F0 m 10 ls [])) : ∀ (σ : Sg) (v1 : Int32) (v2 : Int32) (v4 : Int32) (v100 : Int32) (v101 : Int32) (H : Heap) (locs : List Loc) (ls : Array Slot), z_S 1 G ad σ (z_A 1 ad s.heap.size) s.heap H locs → lv_has ls 5 [(0, .ref (ad 8 0)), (1, .int v1), (2, .int v2), (4, .int v4)] → f_X8_waitsWithin_54 k10 σ v1 v2 v4 v100 v101 = some res → W p l e { frames := 1, cells := 0, slots := 0, locals := 22 } s m args below meth c H locs 0 0 (MQ below (va_Qi (S := Unit) (fun r1 _ => r1 = res.1) (fun _ t => z_W 1 G ad res.2 t.heap) (z_A 1 ad s.heap.size)) args s 0 0 (z_A 1 ad s.heap.size)) (F0 m 54 ls [.int v101, .int v100]) := by
  intro σ v1 v2 v4 v100 v101 H locs ls S hl  hf
  unfold f_X8_waitsWithin_54 at hf
  refine lv_iadd C.1 C.2.1 dX8_waitsWithin_54 ?_
  refine lv_istore_n (lv' := [(3, .int (v100 + v101)), (0, .ref (ad 8 0)), (1, .int v1), (2, .int v2), (4, .int v4)]) C.1 C.2.1 dX8_waitsWithin_55 rfl hl (by decide) rfl (fun ls hl => ?_)
  refine lv_iinc (v := (v4 + 1)) (lv' := [(4, .int (v4 + 1)), (3, .int (v100 + v101)), (0, .ref (ad 8 0)), (1, .int v1), (2, .int v2)]) C.1 C.2.1 dX8_waitsWithin_56 hl (k := 4) rfl rfl (by decide) rfl (fun ls hl => ?_)
  refine lv_goto (tgt := 10) C.1 C.2.1 dX8_waitsWithin_59 (by decide) ?_
  exact hk10 _ v1 v2 (v100 + v101) (v4 + 1) _ _ _ S (lv_sub hl [2, 3, 4, 1, 0] rfl)  hf
set_option maxHeartbeats 4000000 in
set_option maxRecDepth 100000 in
theorem w_X8_waitsWithin_53 {p : Program} {l : Launch} {e : Env} {s : State} {m : MethodId} {args : Array Value} {below : List Frame} {meth : Method} {c : Code} {G : Gx} {ad : Ad} {res : Int32 × Sg} (C : Cx p s m args meth c yX8_waitsWithin.cls cX8_waitsWithin 5 (Option.some FieldType.int) G) (k10 : Sg → Int32 → Int32 → Int32 → Int32 → Option (Int32 × Sg)) (hk10 : ∀ (σ : Sg) (v1 : Int32) (v2 : Int32) (v3 : Int32) (v4 : Int32) (H : Heap) (locs : List Loc) (ls : Array Slot), z_S 1 G ad σ (z_A 1 ad s.heap.size) s.heap H locs → lv_has ls 5 [(0, .ref (ad 8 0)), (1, .int v1), (2, .int v2), (3, .int v3), (4, .int v4)] → k10 σ v1 v2 v3 v4 = some res → W p l e { frames := 1, cells := 0, slots := 0, locals := 22 } s m args below meth c H locs 0 0 (MQ below (va_Qi (S := Unit) (fun r1 _ => r1 = res.1) (fun _ t => z_W 1 G ad res.2 t.heap) (z_A 1 ad s.heap.size)) args s 0 0 (z_A 1 ad s.heap.size)) (F0 m 10 ls [])) : ∀ (σ : Sg) (v1 : Int32) (v2 : Int32) (v4 : Int32) (v100 : Int32) (H : Heap) (locs : List Loc) (ls : Array Slot), z_S 1 G ad σ (z_A 1 ad s.heap.size) s.heap H locs → lv_has ls 5 [(0, .ref (ad 8 0)), (1, .int v1), (2, .int v2), (4, .int v4)] → f_X8_waitsWithin_53 k10 σ v1 v2 v4 v100 = some res → W p l e { frames := 1, cells := 0, slots := 0, locals := 22 } s m args below meth c H locs 0 0 (MQ below (va_Qi (S := Unit) (fun r1 _ => r1 = res.1) (fun _ t => z_W 1 G ad res.2 t.heap) (z_A 1 ad s.heap.size)) args s 0 0 (z_A 1 ad s.heap.size)) (F0 m 53 ls [.int v100]) := by
  intro σ v1 v2 v4 v100 H locs ls S hl  hf
  unfold f_X8_waitsWithin_53 at hf
  refine lv_iconst (v := 0) C.1 C.2.1 dX8_waitsWithin_53 (by decide) ?_
  exact w_X8_waitsWithin_54 C k10 hk10 _ v1 v2 v4 v100 0 _ _ _ S (lv_sub hl [0, 1, 2, 3] rfl) hf
set_option maxHeartbeats 4000000 in
set_option maxRecDepth 100000 in
theorem w_X8_waitsWithin_10 {p : Program} {l : Launch} {e : Env} {s : State} {m : MethodId} {args : Array Value} {below : List Frame} {meth : Method} {c : Code} {G : Gx} {ad : Ad} {res : Int32 × Sg} (C : Cx p s m args meth c yX8_waitsWithin.cls cX8_waitsWithin 5 (Option.some FieldType.int) G)  : ∀ n : Nat, ∀ (σ : Sg) (v1 : Int32) (v2 : Int32) (v3 : Int32) (v4 : Int32) (H : Heap) (locs : List Loc) (ls : Array Slot), z_S 1 G ad σ (z_A 1 ad s.heap.size) s.heap H locs → lv_has ls 5 [(0, .ref (ad 8 0)), (1, .int v1), (2, .int v2), (3, .int v3), (4, .int v4)] → f_X8_waitsWithin_10  n σ v1 v2 v3 v4 = some res → W p l e { frames := 1, cells := 0, slots := 0, locals := 22 } s m args below meth c H locs 0 0 (MQ below (va_Qi (S := Unit) (fun r1 _ => r1 = res.1) (fun _ t => z_W 1 G ad res.2 t.heap) (z_A 1 ad s.heap.size)) args s 0 0 (z_A 1 ad s.heap.size)) (F0 m 10 ls []) := by
  intro n
  induction n with
  | zero => intro σ v1 v2 v3 v4 H locs ls S hl  hf; cases hf
  | succ n ih =>
    intro σ v1 v2 v3 v4 H locs ls S hl  hf
    rw [f_X8_waitsWithin_10_s] at hf
    refine lv_iload C.1 C.2.1 dX8_waitsWithin_10 (lv_at hl 4 rfl) ?_
    refine lv_aload_n C.1 C.2.1 dX8_waitsWithin_12 rfl (lv_at hl 0 rfl) ?_
    refine z_getR C S 8 0 rfl (by decide) cf_8 0 (by decide) _ (gr_8_0 G ad 0) tw_6_118 dX8_waitsWithin_13 ?_
    refine lv_iconst (v := 2) C.1 C.2.1 dX8_waitsWithin_16 (by decide) ?_
    refine z_ialdL C S 30 0 rfl (by decide) 2111 (fun _ => rfl) 2 (by decide) (by decide) (by decide) dX8_waitsWithin_17 ?_
    refine lv_icmp_ge (tgt := 62) C.1 C.2.1 dX8_waitsWithin_18 (by decide) (fun c_18 => ?_) (fun c_18 => ?_)
    · rw [if_pos c_18] at hf
      exact w_X8_waitsWithin_62 C _ v3 _ _ _ S (lv_sub hl [3] rfl) hf
    · rw [if_neg c_18] at hf
      refine lv_iload_n C.1 C.2.1 dX8_waitsWithin_21 rfl (lv_at hl 3 rfl) ?_
      refine lv_aload_n C.1 C.2.1 dX8_waitsWithin_22 rfl (lv_at hl 0 rfl) ?_
      refine z_getR C S 8 0 rfl (by decide) cf_8 0 (by decide) _ (gr_8_0 G ad 0) tw_6_118 dX8_waitsWithin_23 ?_
      refine lv_bipush (v := 127) C.1 C.2.1 dX8_waitsWithin_26 (by decide) ?_
      refine lv_iload C.1 C.2.1 dX8_waitsWithin_28 (lv_at hl 4 rfl) ?_
      refine lv_iadd C.1 C.2.1 dX8_waitsWithin_30 ?_
      obtain ⟨g_31, hf⟩ := gd hf
      refine z_iald C S 30 0 rfl (by decide) 2111 (fun _ => rfl) g_31 dX8_waitsWithin_31 ?_
      refine lv_if_eq (tgt := 53) C.1 C.2.1 dX8_waitsWithin_32 (by decide) (fun c_32 => ?_) (fun c_32 => ?_)
      · rw [if_pos c_32] at hf
        exact w_X8_waitsWithin_53 C (f_X8_waitsWithin_10 n) ih _ v1 v2 v4 v3 _ _ _ S (lv_sub hl [0, 1, 2, 4] rfl) hf
      · rw [if_neg c_32] at hf
        refine lv_aload_n C.1 C.2.1 dX8_waitsWithin_35 rfl (lv_at hl 0 rfl) ?_
        refine lv_iload C.1 C.2.1 dX8_waitsWithin_36 (lv_at hl 4 rfl) ?_
        obtain ⟨r2, σ1, q_38, hf⟩ := bib hf
        refine z_callI C S 8 0 rfl (by decide) cf_8 ⟨_, rfl⟩ [.int v4] (m_X8_waitNow l G ad σ v4 r2 σ1 q_38 _) kv_X8_waitNow tw_7_103 ⟨Nat.le_of_ble_eq_true rfl, Nat.le_of_ble_eq_true rfl⟩ rfl rfl (Nat.le_of_ble_eq_true rfl) hl.1 ⟨Nat.le_of_ble_eq_true rfl, Nat.le_of_ble_eq_true rfl⟩ dX8_waitsWithin_38 (fun H locs S => ?_)
        refine lv_iload_n C.1 C.2.1 dX8_waitsWithin_41 rfl (lv_at hl 1 rfl) ?_
        refine lv_iload_n C.1 C.2.1 dX8_waitsWithin_42 rfl (lv_at hl 2 rfl) ?_
        obtain ⟨r4, σ3, q_43, hf⟩ := bib hf
        refine z_callSI C S [.int r2, .int v1, .int v2] (m_X8_inRange l G ad σ1 r2 v1 v2 r4 σ3 q_43 _) kv_X8_inRange tw_6_204 ⟨Nat.le_of_ble_eq_true rfl, Nat.le_of_ble_eq_true rfl⟩ rfl rfl (Nat.le_of_ble_eq_true rfl) hl.1 ⟨Nat.le_of_ble_eq_true rfl, Nat.le_of_ble_eq_true rfl⟩ dX8_waitsWithin_43 (fun H locs S => ?_)
        refine lv_if_eq (tgt := 53) C.1 C.2.1 dX8_waitsWithin_46 (by decide) (fun c_46 => ?_) (fun c_46 => ?_)
        · rw [if_pos c_46] at hf
          exact w_X8_waitsWithin_53 C (f_X8_waitsWithin_10 n) ih _ v1 v2 v4 v3 _ _ _ S (lv_sub hl [0, 1, 2, 4] rfl) hf
        · rw [if_neg c_46] at hf
          refine lv_iconst (v := 1) C.1 C.2.1 dX8_waitsWithin_49 (by decide) ?_
          refine lv_goto (tgt := 54) C.1 C.2.1 dX8_waitsWithin_50 (by decide) ?_
          exact w_X8_waitsWithin_54 C (f_X8_waitsWithin_10 n) ih _ v1 v2 v4 v3 1 _ _ _ S (lv_sub hl [0, 1, 2, 4] rfl) hf
set_option maxHeartbeats 4000000 in
set_option maxRecDepth 100000 in
theorem w_X8_waitsWithin_0 {p : Program} {l : Launch} {e : Env} {s : State} {m : MethodId} {args : Array Value} {below : List Frame} {meth : Method} {c : Code} {G : Gx} {ad : Ad} {res : Int32 × Sg} (C : Cx p s m args meth c yX8_waitsWithin.cls cX8_waitsWithin 5 (Option.some FieldType.int) G)  : ∀ (σ : Sg) (v1 : Int32) (v2 : Int32) (H : Heap) (locs : List Loc) (ls : Array Slot), z_S 1 G ad σ (z_A 1 ad s.heap.size) s.heap H locs → lv_has ls 5 [(0, .ref (ad 8 0)), (1, .int v1), (2, .int v2)] → f_X8_waitsWithin  σ v1 v2 = some res → W p l e { frames := 1, cells := 0, slots := 0, locals := 22 } s m args below meth c H locs 0 0 (MQ below (va_Qi (S := Unit) (fun r1 _ => r1 = res.1) (fun _ t => z_W 1 G ad res.2 t.heap) (z_A 1 ad s.heap.size)) args s 0 0 (z_A 1 ad s.heap.size)) (F0 m 0 ls []) := by
  intro σ v1 v2 H locs ls S hl  hf
  unfold f_X8_waitsWithin at hf
  refine lv_aload_n C.1 C.2.1 dX8_waitsWithin_0 rfl (lv_at hl 0 rfl) ?_
  refine lv_iconst (v := 0) C.1 C.2.1 dX8_waitsWithin_1 (by decide) ?_
  obtain ⟨σ1, e_2, hf⟩ := stb hf
  refine z_putI C S 8 0 rfl (by decide) cf_8 8 (by decide) (pi_8_8 G ad 0) rfl rfl rfl tw_6_126 dX8_waitsWithin_2 (fun H locs S => ?_)
  rw [← e_2] at S
  refine lv_iconst (v := 0) C.1 C.2.1 dX8_waitsWithin_5 (by decide) ?_
  refine lv_istore_n (lv' := [(3, .int 0), (0, .ref (ad 8 0)), (1, .int v1), (2, .int v2)]) C.1 C.2.1 dX8_waitsWithin_6 rfl hl (by decide) rfl (fun ls hl => ?_)
  refine lv_iconst (v := 0) C.1 C.2.1 dX8_waitsWithin_7 (by decide) ?_
  refine lv_istore (lv' := [(4, .int 0), (3, .int 0), (0, .ref (ad 8 0)), (1, .int v1), (2, .int v2)]) C.1 C.2.1 dX8_waitsWithin_8 hl (by decide) rfl (fun ls hl => ?_)
  exact w_X8_waitsWithin_10 C FU _ v1 v2 0 0 _ _ _ S (lv_sub hl [2, 3, 4, 1, 0] rfl) hf
theorem kv_X8_waitsWithin : KV yX8_waitsWithin cX8_waitsWithin 5 (Option.some FieldType.int) 2 := ⟨tw_8_104, tw_8_102, tw_8_103, tw_1_10, by decide, by decide, by decide +kernel⟩
theorem m_X8_waitsWithin (l : Launch) (G : Gx) (ad : Ad) (σ : Sg) (v1 : Int32) (v2 : Int32) (r : Int32) (σ' : Sg)  (hf : f_X8_waitsWithin σ v1 v2 = some (r, σ')) (sz : Nat) : z_MI l yX8_waitsWithin cX8_waitsWithin 5 (Option.some FieldType.int) 1 22 1 G ad σ sz [.ref (ad 8 0), .int v1, .int v2] r σ' := by
  refine z_begin (by decide +kernel) (Nat.le_of_ble_eq_true rfl) [(0, .ref (ad 8 0)), (1, .int v1), (2, .int v2)] rfl (fun p e s m args below meth c ls C hz S hl => ?_)
  subst hz
  exact w_X8_waitsWithin_0 (res := (r, σ')) C σ v1 v2 _ _ _ S hl  hf

theorem dX8_mostRounds_0 : decode cX8_mostRounds 0 = .ok (.aload_n 0, 1) := by decide +kernel
theorem dX8_mostRounds_1 : decode cX8_mostRounds 1 = .ok (.iconst 0, 1) := by decide +kernel
theorem dX8_mostRounds_2 : decode cX8_mostRounds 2 = .ok (.putfield 48, 3) := by decide +kernel
theorem dX8_mostRounds_5 : decode cX8_mostRounds 5 = .ok (.iconst (-1), 1) := by decide +kernel
theorem dX8_mostRounds_6 : decode cX8_mostRounds 6 = .ok (.istore_n 1, 1) := by decide +kernel
theorem dX8_mostRounds_7 : decode cX8_mostRounds 7 = .ok (.iconst 0, 1) := by decide +kernel
theorem dX8_mostRounds_8 : decode cX8_mostRounds 8 = .ok (.istore_n 2, 1) := by decide +kernel
theorem dX8_mostRounds_9 : decode cX8_mostRounds 9 = .ok (.iload_n 2, 1) := by decide +kernel
theorem dX8_mostRounds_10 : decode cX8_mostRounds 10 = .ok (.aload_n 0, 1) := by decide +kernel
theorem dX8_mostRounds_11 : decode cX8_mostRounds 11 = .ok (.getfield 7, 3) := by decide +kernel
theorem dX8_mostRounds_14 : decode cX8_mostRounds 14 = .ok (.iconst 2, 1) := by decide +kernel
theorem dX8_mostRounds_15 : decode cX8_mostRounds 15 = .ok (.iaload, 1) := by decide +kernel
theorem dX8_mostRounds_16 : decode cX8_mostRounds 16 = .ok (.if_icmp .ge 43, 3) := by decide +kernel
theorem dX8_mostRounds_19 : decode cX8_mostRounds 19 = .ok (.aload_n 0, 1) := by decide +kernel
theorem dX8_mostRounds_20 : decode cX8_mostRounds 20 = .ok (.getfield 7, 3) := by decide +kernel
theorem dX8_mostRounds_23 : decode cX8_mostRounds 23 = .ok (.sipush 223, 3) := by decide +kernel
theorem dX8_mostRounds_26 : decode cX8_mostRounds 26 = .ok (.iload_n 2, 1) := by decide +kernel
theorem dX8_mostRounds_27 : decode cX8_mostRounds 27 = .ok (.iadd, 1) := by decide +kernel
theorem dX8_mostRounds_28 : decode cX8_mostRounds 28 = .ok (.iaload, 1) := by decide +kernel
theorem dX8_mostRounds_29 : decode cX8_mostRounds 29 = .ok (.iload_n 1, 1) := by decide +kernel
theorem dX8_mostRounds_30 : decode cX8_mostRounds 30 = .ok (.iconst (-1), 1) := by decide +kernel
theorem dX8_mostRounds_31 : decode cX8_mostRounds 31 = .ok (.if_icmp .ne 7, 3) := by decide +kernel
theorem dX8_mostRounds_34 : decode cX8_mostRounds 34 = .ok (.iconst 0, 1) := by decide +kernel
theorem dX8_mostRounds_35 : decode cX8_mostRounds 35 = .ok (.goto 13, 3) := by decide +kernel
theorem dX8_mostRounds_38 : decode cX8_mostRounds 38 = .ok (.aload_n 0, 1) := by decide +kernel
theorem dX8_mostRounds_39 : decode cX8_mostRounds 39 = .ok (.getfield 7, 3) := by decide +kernel
theorem dX8_mostRounds_42 : decode cX8_mostRounds 42 = .ok (.sipush 223, 3) := by decide +kernel
theorem dX8_mostRounds_45 : decode cX8_mostRounds 45 = .ok (.iload_n 1, 1) := by decide +kernel
theorem dX8_mostRounds_46 : decode cX8_mostRounds 46 = .ok (.iadd, 1) := by decide +kernel
theorem dX8_mostRounds_47 : decode cX8_mostRounds 47 = .ok (.iaload, 1) := by decide +kernel
theorem dX8_mostRounds_48 : decode cX8_mostRounds 48 = .ok (.if_icmp .le 5, 3) := by decide +kernel
theorem dX8_mostRounds_51 : decode cX8_mostRounds 51 = .ok (.iload_n 2, 1) := by decide +kernel
theorem dX8_mostRounds_52 : decode cX8_mostRounds 52 = .ok (.istore_n 1, 1) := by decide +kernel
theorem dX8_mostRounds_53 : decode cX8_mostRounds 53 = .ok (.iinc 2 1, 3) := by decide +kernel
theorem dX8_mostRounds_56 : decode cX8_mostRounds 56 = .ok (.goto (-47), 3) := by decide +kernel
theorem dX8_mostRounds_59 : decode cX8_mostRounds 59 = .ok (.iload_n 1, 1) := by decide +kernel
theorem dX8_mostRounds_60 : decode cX8_mostRounds 60 = .ok (.ireturn, 1) := by decide +kernel
/-! BusLiftsModel.mostRounds()I -/
noncomputable def f_X8_mostRounds_59  (σ : Sg) (v1 : Int32) : Option (Int32 × Sg) := some (v1, σ)
noncomputable def f_X8_mostRounds_53 (k9 : Sg → Int32 → Int32 → Option (Int32 × Sg)) (σ : Sg) (v1 : Int32) (v2 : Int32) : Option (Int32 × Sg) := k9 σ v1 (v2 + 1)
noncomputable def f_X8_mostRounds_48 (k9 : Sg → Int32 → Int32 → Option (Int32 × Sg)) (σ : Sg) (v1 : Int32) (v2 : Int32) (v100 : Int32) (v101 : Int32) : Option (Int32 × Sg) := if v100 ≤ v101 then (f_X8_mostRounds_53 k9 σ v1 v2) else (f_X8_mostRounds_53 k9 σ v2 v2)
noncomputable def f_X8_mostRounds_9  : Nat → Sg → Int32 → Int32 → Option (Int32 × Sg)
  | 0, _, _, _ => none
  | n + 1, σ, v1, v2 => if (σ 30 0 2) ≤ v2 then (f_X8_mostRounds_59 σ v1) else (if (223 + v2) < 0 ∨ 2111 ≤ ((223 + v2)).toNatClampNeg then none else (if v1 = (-1) then (f_X8_mostRounds_48 (f_X8_mostRounds_9 n) σ v1 v2 (σ 30 0 ((223 + v2)).toNatClampNeg) 0) else (if (223 + v1) < 0 ∨ 2111 ≤ ((223 + v1)).toNatClampNeg then none else (f_X8_mostRounds_48 (f_X8_mostRounds_9 n) σ v1 v2 (σ 30 0 ((223 + v2)).toNatClampNeg) (σ 30 0 ((223 + v1)).toNatClampNeg)))))
theorem f_X8_mostRounds_9_s  (n : Nat) (σ : Sg) (v1 : Int32) (v2 : Int32) : f_X8_mostRounds_9  (n + 1) σ v1 v2 = (if (σ 30 0 2) ≤ v2 then (f_X8_mostRounds_59 σ v1) else (if (223 + v2) < 0 ∨ 2111 ≤ ((223 + v2)).toNatClampNeg then none else (if v1 = (-1) then (f_X8_mostRounds_48 (f_X8_mostRounds_9 n) σ v1 v2 (σ 30 0 ((223 + v2)).toNatClampNeg) 0) else (if (223 + v1) < 0 ∨ 2111 ≤ ((223 + v1)).toNatClampNeg then none else (f_X8_mostRounds_48 (f_X8_mostRounds_9 n) σ v1 v2 (σ 30 0 ((223 + v2)).toNatClampNeg) (σ 30 0 ((223 + v1)).toNatClampNeg)))))) := rfl
noncomputable def f_X8_mostRounds  (σ : Sg)  : Option (Int32 × Sg) := st (sup σ 8 0 8 0) fun σ1 => (f_X8_mostRounds_9 FU σ1 (-1) 0)
set_option maxHeartbeats 4000000 in
set_option maxRecDepth 100000 in
theorem w_X8_mostRounds_59 {p : Program} {l : Launch} {e : Env} {s : State} {m : MethodId} {args : Array Value} {below : List Frame} {meth : Method} {c : Code} {G : Gx} {ad : Ad} {res : Int32 × Sg} (C : Cx p s m args meth c yX8_mostRounds.cls cX8_mostRounds 3 (Option.some FieldType.int) G)  : ∀ (σ : Sg) (v1 : Int32) (H : Heap) (locs : List Loc) (ls : Array Slot), z_S 1 G ad σ (z_A 1 ad s.heap.size) s.heap H locs → lv_has ls 3 [(1, .int v1)] → f_X8_mostRounds_59  σ v1 = some res → W p l e { frames := 0, cells := 0, slots := 0, locals := 0 } s m args below meth c H locs 0 0 (MQ below (va_Qi (S := Unit) (fun r1 _ => r1 = res.1) (fun _ t => z_W 1 G ad res.2 t.heap) (z_A 1 ad s.heap.size)) args s 0 0 (z_A 1 ad s.heap.size)) (F0 m 59 ls []) := by
  intro σ v1 H locs ls S hl  hf
  unfold f_X8_mostRounds_59 at hf
  refine lv_iload_n C.1 C.2.1 dX8_mostRounds_59 rfl (lv_at hl 0 rfl) ?_
  exact z_iret C S hf dX8_mostRounds_60
set_option maxHeartbeats 4000000 in
set_option maxRecDepth 100000 in
theorem w_X8_mostRounds_53 {p : Program} {l : Launch} {e : Env} {s : State} {m : MethodId} {args : Array Value} {below : List Frame} {meth : Method} {c : Code} {G : Gx} {ad : Ad} {res : Int32 × Sg} (C : Cx p s m args meth c yX8_mostRounds.cls cX8_mostRounds 3 (Option.some FieldType.int) G) (k9 : Sg → Int32 → Int32 → Option (Int32 × Sg)) (hk9 : ∀ (σ : Sg) (v1 : Int32) (v2 : Int32) (H : Heap) (locs : List Loc) (ls : Array Slot), z_S 1 G ad σ (z_A 1 ad s.heap.size) s.heap H locs → lv_has ls 3 [(0, .ref (ad 8 0)), (1, .int v1), (2, .int v2)] → k9 σ v1 v2 = some res → W p l e { frames := 0, cells := 0, slots := 0, locals := 0 } s m args below meth c H locs 0 0 (MQ below (va_Qi (S := Unit) (fun r1 _ => r1 = res.1) (fun _ t => z_W 1 G ad res.2 t.heap) (z_A 1 ad s.heap.size)) args s 0 0 (z_A 1 ad s.heap.size)) (F0 m 9 ls [])) : ∀ (σ : Sg) (v1 : Int32) (v2 : Int32) (H : Heap) (locs : List Loc) (ls : Array Slot), z_S 1 G ad σ (z_A 1 ad s.heap.size) s.heap H locs → lv_has ls 3 [(0, .ref (ad 8 0)), (1, .int v1), (2, .int v2)] → f_X8_mostRounds_53 k9 σ v1 v2 = some res → W p l e { frames := 0, cells := 0, slots := 0, locals := 0 } s m args below meth c H locs 0 0 (MQ below (va_Qi (S := Unit) (fun r1 _ => r1 = res.1) (fun _ t => z_W 1 G ad res.2 t.heap) (z_A 1 ad s.heap.size)) args s 0 0 (z_A 1 ad s.heap.size)) (F0 m 53 ls []) := by
  intro σ v1 v2 H locs ls S hl  hf
  unfold f_X8_mostRounds_53 at hf
  refine lv_iinc (v := (v2 + 1)) (lv' := [(2, .int (v2 + 1)), (0, .ref (ad 8 0)), (1, .int v1)]) C.1 C.2.1 dX8_mostRounds_53 hl (k := 2) rfl rfl (by decide) rfl (fun ls hl => ?_)
  refine lv_goto (tgt := 9) C.1 C.2.1 dX8_mostRounds_56 (by decide) ?_
  exact hk9 _ v1 (v2 + 1) _ _ _ S (lv_sub hl [1, 2, 0] rfl)  hf
set_option maxHeartbeats 4000000 in
set_option maxRecDepth 100000 in
theorem w_X8_mostRounds_48 {p : Program} {l : Launch} {e : Env} {s : State} {m : MethodId} {args : Array Value} {below : List Frame} {meth : Method} {c : Code} {G : Gx} {ad : Ad} {res : Int32 × Sg} (C : Cx p s m args meth c yX8_mostRounds.cls cX8_mostRounds 3 (Option.some FieldType.int) G) (k9 : Sg → Int32 → Int32 → Option (Int32 × Sg)) (hk9 : ∀ (σ : Sg) (v1 : Int32) (v2 : Int32) (H : Heap) (locs : List Loc) (ls : Array Slot), z_S 1 G ad σ (z_A 1 ad s.heap.size) s.heap H locs → lv_has ls 3 [(0, .ref (ad 8 0)), (1, .int v1), (2, .int v2)] → k9 σ v1 v2 = some res → W p l e { frames := 0, cells := 0, slots := 0, locals := 0 } s m args below meth c H locs 0 0 (MQ below (va_Qi (S := Unit) (fun r1 _ => r1 = res.1) (fun _ t => z_W 1 G ad res.2 t.heap) (z_A 1 ad s.heap.size)) args s 0 0 (z_A 1 ad s.heap.size)) (F0 m 9 ls [])) : ∀ (σ : Sg) (v1 : Int32) (v2 : Int32) (v100 : Int32) (v101 : Int32) (H : Heap) (locs : List Loc) (ls : Array Slot), z_S 1 G ad σ (z_A 1 ad s.heap.size) s.heap H locs → lv_has ls 3 [(0, .ref (ad 8 0)), (1, .int v1), (2, .int v2)] → f_X8_mostRounds_48 k9 σ v1 v2 v100 v101 = some res → W p l e { frames := 0, cells := 0, slots := 0, locals := 0 } s m args below meth c H locs 0 0 (MQ below (va_Qi (S := Unit) (fun r1 _ => r1 = res.1) (fun _ t => z_W 1 G ad res.2 t.heap) (z_A 1 ad s.heap.size)) args s 0 0 (z_A 1 ad s.heap.size)) (F0 m 48 ls [.int v101, .int v100]) := by
  intro σ v1 v2 v100 v101 H locs ls S hl  hf
  unfold f_X8_mostRounds_48 at hf
  refine lv_icmp_le (tgt := 53) C.1 C.2.1 dX8_mostRounds_48 (by decide) (fun c_48 => ?_) (fun c_48 => ?_)
  · rw [if_pos c_48] at hf
    exact w_X8_mostRounds_53 C k9 hk9 _ v1 v2 _ _ _ S (lv_sub hl [0, 1, 2] rfl) hf
  · rw [if_neg c_48] at hf
    refine lv_iload_n C.1 C.2.1 dX8_mostRounds_51 rfl (lv_at hl 2 rfl) ?_
    refine lv_istore_n (lv' := [(1, .int v2), (0, .ref (ad 8 0)), (2, .int v2)]) C.1 C.2.1 dX8_mostRounds_52 rfl hl (by decide) rfl (fun ls hl => ?_)
    exact w_X8_mostRounds_53 C k9 hk9 _ v2 v2 _ _ _ S (lv_sub hl [1, 0, 2] rfl) hf
set_option maxHeartbeats 4000000 in
set_option maxRecDepth 100000 in
theorem w_X8_mostRounds_9 {p : Program} {l : Launch} {e : Env} {s : State} {m : MethodId} {args : Array Value} {below : List Frame} {meth : Method} {c : Code} {G : Gx} {ad : Ad} {res : Int32 × Sg} (C : Cx p s m args meth c yX8_mostRounds.cls cX8_mostRounds 3 (Option.some FieldType.int) G)  : ∀ n : Nat, ∀ (σ : Sg) (v1 : Int32) (v2 : Int32) (H : Heap) (locs : List Loc) (ls : Array Slot), z_S 1 G ad σ (z_A 1 ad s.heap.size) s.heap H locs → lv_has ls 3 [(0, .ref (ad 8 0)), (1, .int v1), (2, .int v2)] → f_X8_mostRounds_9  n σ v1 v2 = some res → W p l e { frames := 0, cells := 0, slots := 0, locals := 0 } s m args below meth c H locs 0 0 (MQ below (va_Qi (S := Unit) (fun r1 _ => r1 = res.1) (fun _ t => z_W 1 G ad res.2 t.heap) (z_A 1 ad s.heap.size)) args s 0 0 (z_A 1 ad s.heap.size)) (F0 m 9 ls []) := by
  intro n
  induction n with
  | zero => intro σ v1 v2 H locs ls S hl  hf; cases hf
  | succ n ih =>
    intro σ v1 v2 H locs ls S hl  hf
    rw [f_X8_mostRounds_9_s] at hf
    refine lv_iload_n C.1 C.2.1 dX8_mostRounds_9 rfl (lv_at hl 2 rfl) ?_
    refine lv_aload_n C.1 C.2.1 dX8_mostRounds_10 rfl (lv_at hl 0 rfl) ?_
    refine z_getR C S 8 0 rfl (by decide) cf_8 0 (by decide) _ (gr_8_0 G ad 0) tw_6_118 dX8_mostRounds_11 ?_
    refine lv_iconst (v := 2) C.1 C.2.1 dX8_mostRounds_14 (by decide) ?_
    refine z_ialdL C S 30 0 rfl (by decide) 2111 (fun _ => rfl) 2 (by decide) (by decide) (by decide) dX8_mostRounds_15 ?_
    refine lv_icmp_ge (tgt := 59) C.1 C.2.1 dX8_mostRounds_16 (by decide) (fun c_16 => ?_) (fun c_16 => ?_)
    · rw [if_pos c_16] at hf
      exact w_X8_mostRounds_59 C _ v1 _ _ _ S (lv_sub hl [1] rfl) hf
    · rw [if_neg c_16] at hf
      refine lv_aload_n C.1 C.2.1 dX8_mostRounds_19 rfl (lv_at hl 0 rfl) ?_
      refine z_getR C S 8 0 rfl (by decide) cf_8 0 (by decide) _ (gr_8_0 G ad 0) tw_6_118 dX8_mostRounds_20 ?_
      refine lv_sipush (v := 223) C.1 C.2.1 dX8_mostRounds_23 (by decide) ?_
      refine lv_iload_n C.1 C.2.1 dX8_mostRounds_26 rfl (lv_at hl 2 rfl) ?_
      refine lv_iadd C.1 C.2.1 dX8_mostRounds_27 ?_
      obtain ⟨g_28, hf⟩ := gd hf
      refine z_iald C S 30 0 rfl (by decide) 2111 (fun _ => rfl) g_28 dX8_mostRounds_28 ?_
      refine lv_iload_n C.1 C.2.1 dX8_mostRounds_29 rfl (lv_at hl 1 rfl) ?_
      refine lv_iconst (v := (-1)) C.1 C.2.1 dX8_mostRounds_30 (by decide) ?_
      refine lv_icmp_ne (tgt := 38) C.1 C.2.1 dX8_mostRounds_31 (by decide) (fun c_31 => ?_) (fun c_31 => ?_)
      · rw [if_neg c_31] at hf
        refine lv_aload_n C.1 C.2.1 dX8_mostRounds_38 rfl (lv_at hl 0 rfl) ?_
        refine z_getR C S 8 0 rfl (by decide) cf_8 0 (by decide) _ (gr_8_0 G ad 0) tw_6_118 dX8_mostRounds_39 ?_
        refine lv_sipush (v := 223) C.1 C.2.1 dX8_mostRounds_42 (by decide) ?_
        refine lv_iload_n C.1 C.2.1 dX8_mostRounds_45 rfl (lv_at hl 1 rfl) ?_
        refine lv_iadd C.1 C.2.1 dX8_mostRounds_46 ?_
        obtain ⟨g_47, hf⟩ := gd hf
        refine z_iald C S 30 0 rfl (by decide) 2111 (fun _ => rfl) g_47 dX8_mostRounds_47 ?_
        exact w_X8_mostRounds_48 C (f_X8_mostRounds_9 n) ih _ v1 v2 (σ 30 0 ((223 + v2)).toNatClampNeg) (σ 30 0 ((223 + v1)).toNatClampNeg) _ _ _ S (lv_sub hl [0, 1, 2] rfl) hf
      · rw [if_pos c_31] at hf
        refine lv_iconst (v := 0) C.1 C.2.1 dX8_mostRounds_34 (by decide) ?_
        refine lv_goto (tgt := 48) C.1 C.2.1 dX8_mostRounds_35 (by decide) ?_
        exact w_X8_mostRounds_48 C (f_X8_mostRounds_9 n) ih _ v1 v2 (σ 30 0 ((223 + v2)).toNatClampNeg) 0 _ _ _ S (lv_sub hl [0, 1, 2] rfl) hf
set_option maxHeartbeats 4000000 in
set_option maxRecDepth 100000 in
theorem w_X8_mostRounds_0 {p : Program} {l : Launch} {e : Env} {s : State} {m : MethodId} {args : Array Value} {below : List Frame} {meth : Method} {c : Code} {G : Gx} {ad : Ad} {res : Int32 × Sg} (C : Cx p s m args meth c yX8_mostRounds.cls cX8_mostRounds 3 (Option.some FieldType.int) G)  : ∀ (σ : Sg)  (H : Heap) (locs : List Loc) (ls : Array Slot), z_S 1 G ad σ (z_A 1 ad s.heap.size) s.heap H locs → lv_has ls 3 [(0, .ref (ad 8 0))] → f_X8_mostRounds  σ  = some res → W p l e { frames := 0, cells := 0, slots := 0, locals := 0 } s m args below meth c H locs 0 0 (MQ below (va_Qi (S := Unit) (fun r1 _ => r1 = res.1) (fun _ t => z_W 1 G ad res.2 t.heap) (z_A 1 ad s.heap.size)) args s 0 0 (z_A 1 ad s.heap.size)) (F0 m 0 ls []) := by
  intro σ  H locs ls S hl  hf
  unfold f_X8_mostRounds at hf
  refine lv_aload_n C.1 C.2.1 dX8_mostRounds_0 rfl (lv_at hl 0 rfl) ?_
  refine lv_iconst (v := 0) C.1 C.2.1 dX8_mostRounds_1 (by decide) ?_
  obtain ⟨σ1, e_2, hf⟩ := stb hf
  refine z_putI C S 8 0 rfl (by decide) cf_8 8 (by decide) (pi_8_8 G ad 0) rfl rfl rfl tw_6_126 dX8_mostRounds_2 (fun H locs S => ?_)
  rw [← e_2] at S
  refine lv_iconst (v := (-1)) C.1 C.2.1 dX8_mostRounds_5 (by decide) ?_
  refine lv_istore_n (lv' := [(1, .int (-1)), (0, .ref (ad 8 0))]) C.1 C.2.1 dX8_mostRounds_6 rfl hl (by decide) rfl (fun ls hl => ?_)
  refine lv_iconst (v := 0) C.1 C.2.1 dX8_mostRounds_7 (by decide) ?_
  refine lv_istore_n (lv' := [(2, .int 0), (1, .int (-1)), (0, .ref (ad 8 0))]) C.1 C.2.1 dX8_mostRounds_8 rfl hl (by decide) rfl (fun ls hl => ?_)
  exact w_X8_mostRounds_9 C FU _ (-1) 0 _ _ _ S (lv_sub hl [2, 1, 0] rfl) hf
theorem kv_X8_mostRounds : KV yX8_mostRounds cX8_mostRounds 3 (Option.some FieldType.int) 0 := ⟨tw_8_108, tw_8_106, tw_8_107, tw_1_10, by decide, by decide, by decide +kernel⟩
theorem m_X8_mostRounds (l : Launch) (G : Gx) (ad : Ad) (σ : Sg)  (r : Int32) (σ' : Sg)  (hf : f_X8_mostRounds σ  = some (r, σ')) (sz : Nat) : z_MI l yX8_mostRounds cX8_mostRounds 3 (Option.some FieldType.int) 0 0 1 G ad σ sz [.ref (ad 8 0)] r σ' := by
  refine z_begin (by decide +kernel) (Nat.le_of_ble_eq_true rfl) [(0, .ref (ad 8 0))] rfl (fun p e s m args below meth c ls C hz S hl => ?_)
  subst hz
  exact w_X8_mostRounds_0 (res := (r, σ')) C σ  _ _ _ S hl  hf

theorem dX8_riders_0 : decode cX8_riders 0 = .ok (.aload_n 0, 1) := by decide +kernel
theorem dX8_riders_1 : decode cX8_riders 1 = .ok (.iload_n 1, 1) := by decide +kernel
theorem dX8_riders_2 : decode cX8_riders 2 = .ok (.invokevirtual 271, 3) := by decide +kernel
theorem dX8_riders_5 : decode cX8_riders 5 = .ok (.ifCond .eq 5, 3) := by decide +kernel
theorem dX8_riders_8 : decode cX8_riders 8 = .ok (.iconst 0, 1) := by decide +kernel
theorem dX8_riders_9 : decode cX8_riders 9 = .ok (.ireturn, 1) := by decide +kernel
theorem dX8_riders_10 : decode cX8_riders 10 = .ok (.iconst 0, 1) := by decide +kernel
theorem dX8_riders_11 : decode cX8_riders 11 = .ok (.istore_n 2, 1) := by decide +kernel
theorem dX8_riders_12 : decode cX8_riders 12 = .ok (.iconst 0, 1) := by decide +kernel
theorem dX8_riders_13 : decode cX8_riders 13 = .ok (.istore_n 3, 1) := by decide +kernel
theorem dX8_riders_14 : decode cX8_riders 14 = .ok (.iload_n 3, 1) := by decide +kernel
theorem dX8_riders_15 : decode cX8_riders 15 = .ok (.aload_n 0, 1) := by decide +kernel
theorem dX8_riders_16 : decode cX8_riders 16 = .ok (.getfield 7, 3) := by decide +kernel
theorem dX8_riders_19 : decode cX8_riders 19 = .ok (.iconst 2, 1) := by decide +kernel
theorem dX8_riders_20 : decode cX8_riders 20 = .ok (.iaload, 1) := by decide +kernel
theorem dX8_riders_21 : decode cX8_riders 21 = .ok (.if_icmp .ge 28, 3) := by decide +kernel
theorem dX8_riders_24 : decode cX8_riders 24 = .ok (.iload_n 2, 1) := by decide +kernel
theorem dX8_riders_25 : decode cX8_riders 25 = .ok (.aload_n 0, 1) := by decide +kernel
theorem dX8_riders_26 : decode cX8_riders 26 = .ok (.iload_n 1, 1) := by decide +kernel
theorem dX8_riders_27 : decode cX8_riders 27 = .ok (.iload_n 3, 1) := by decide +kernel
theorem dX8_riders_28 : decode cX8_riders 28 = .ok (.invokevirtual 68, 3) := by decide +kernel
theorem dX8_riders_31 : decode cX8_riders 31 = .ok (.ifCond .eq 9, 3) := by decide +kernel
theorem dX8_riders_34 : decode cX8_riders 34 = .ok (.iconst 1, 1) := by decide +kernel
theorem dX8_riders_35 : decode cX8_riders 35 = .ok (.iload_n 3, 1) := by decide +kernel
theorem dX8_riders_36 : decode cX8_riders 36 = .ok (.ishl, 1) := by decide +kernel
theorem dX8_riders_37 : decode cX8_riders 37 = .ok (.goto 4, 3) := by decide +kernel
theorem dX8_riders_40 : decode cX8_riders 40 = .ok (.iconst 0, 1) := by decide +kernel
theorem dX8_riders_41 : decode cX8_riders 41 = .ok (.ior, 1) := by decide +kernel
theorem dX8_riders_42 : decode cX8_riders 42 = .ok (.istore_n 2, 1) := by decide +kernel
theorem dX8_riders_43 : decode cX8_riders 43 = .ok (.iinc 3 1, 3) := by decide +kernel
theorem dX8_riders_46 : decode cX8_riders 46 = .ok (.goto (-32), 3) := by decide +kernel
theorem dX8_riders_49 : decode cX8_riders 49 = .ok (.iload_n 2, 1) := by decide +kernel
theorem dX8_riders_50 : decode cX8_riders 50 = .ok (.ireturn, 1) := by decide +kernel
/-! BusLiftsModel.riders(I)I -/
noncomputable def f_X8_riders_49  (σ : Sg) (v2 : Int32) : Option (Int32 × Sg) := some (v2, σ)
noncomputable def f_X8_riders_41 (k14 : Sg → Int32 → Int32 → Int32 → Option (Int32 × Sg)) (σ : Sg) (v1 : Int32) (v3 : Int32) (v100 : Int32) (v101 : Int32) : Option (Int32 × Sg) := k14 σ v1 (v100 ||| v101) (v3 + 1)
noncomputable def f_X8_riders_14  : Nat → Sg → Int32 → Int32 → Int32 → Option (Int32 × Sg)
  | 0, _, _, _, _ => none
  | n + 1, σ, v1, v2, v3 => if (σ 30 0 2) ≤ v3 then (f_X8_riders_49 σ v2) else (bi (f_X8_isAboard σ v1 v3) fun r2 σ1 => (if r2 = 0 then (f_X8_riders_41 (f_X8_riders_14 n) σ1 v1 v3 v2 0) else (f_X8_riders_41 (f_X8_riders_14 n) σ1 v1 v3 v2 (1 <<< (v3 &&& 31)))))
theorem f_X8_riders_14_s  (n : Nat) (σ : Sg) (v1 : Int32) (v2 : Int32) (v3 : Int32) : f_X8_riders_14  (n + 1) σ v1 v2 v3 = (if (σ 30 0 2) ≤ v3 then (f_X8_riders_49 σ v2) else (bi (f_X8_isAboard σ v1 v3) fun r2 σ1 => (if r2 = 0 then (f_X8_riders_41 (f_X8_riders_14 n) σ1 v1 v3 v2 0) else (f_X8_riders_41 (f_X8_riders_14 n) σ1 v1 v3 v2 (1 <<< (v3 &&& 31)))))) := rfl
noncomputable def f_X8_riders  (σ : Sg) (v1 : Int32) : Option (Int32 × Sg) := bi (f_X8_noCar σ v1) fun r2 σ1 => (if r2 = 0 then (f_X8_riders_14 FU σ1 v1 0 0) else (some (0, σ1)))
set_option maxHeartbeats 4000000 in
set_option maxRecDepth 100000 in
theorem w_X8_riders_49 {p : Program} {l : Launch} {e : Env} {s : State} {m : MethodId} {args : Array Value} {below : List Frame} {meth : Method} {c : Code} {G : Gx} {ad : Ad} {res : Int32 × Sg} (C : Cx p s m args meth c yX8_riders.cls cX8_riders 4 (Option.some FieldType.int) G)  : ∀ (σ : Sg) (v2 : Int32) (H : Heap) (locs : List Loc) (ls : Array Slot), z_S 1 G ad σ (z_A 1 ad s.heap.size) s.heap H locs → lv_has ls 4 [(2, .int v2)] → f_X8_riders_49  σ v2 = some res → W p l e { frames := 2, cells := 0, slots := 0, locals := 43 } s m args below meth c H locs 0 0 (MQ below (va_Qi (S := Unit) (fun r1 _ => r1 = res.1) (fun _ t => z_W 1 G ad res.2 t.heap) (z_A 1 ad s.heap.size)) args s 0 0 (z_A 1 ad s.heap.size)) (F0 m 49 ls []) := by
  intro σ v2 H locs ls S hl  hf
  unfold f_X8_riders_49 at hf
  refine lv_iload_n C.1 C.2.1 dX8_riders_49 rfl (lv_at hl 0 rfl) ?_
  exact z_iret C S hf dX8_riders_50
set_option maxHeartbeats 4000000 in
set_option maxRecDepth 100000 in
theorem w_X8_riders_41 {p : Program} {l : Launch} {e : Env} {s : State} {m : MethodId} {args : Array Value} {below : List Frame} {meth : Method} {c : Code} {G : Gx} {ad : Ad} {res : Int32 × Sg} (C : Cx p s m args meth c yX8_riders.cls cX8_riders 4 (Option.some FieldType.int) G) (k14 : Sg → Int32 → Int32 → Int32 → Option (Int32 × Sg)) (hk14 : ∀ (σ : Sg) (v1 : Int32) (v2 : Int32) (v3 : Int32) (H : Heap) (locs : List Loc) (ls : Array Slot), z_S 1 G ad σ (z_A 1 ad s.heap.size) s.heap H locs → lv_has ls 4 [(0, .ref (ad 8 0)), (1, .int v1), (2, .int v2), (3, .int v3)] → k14 σ v1 v2 v3 = some res → W p l e { frames := 2, cells := 0, slots := 0, locals := 43 } s m args below meth c H locs 0 0 (MQ below (va_Qi (S := Unit) (fun r1 _ => r1 = res.1) (fun _ t => z_W 1 G ad res.2 t.heap) (z_A 1 ad s.heap.size)) args s 0 0 (z_A 1 ad s.heap.size)) (F0 m 14 ls [])) : ∀ (σ : Sg) (v1 : Int32) (v3 : Int32) (v100 : Int32) (v101 : Int32) (H : Heap) (locs : List Loc) (ls : Array Slot), z_S 1 G ad σ (z_A 1 ad s.heap.size) s.heap H locs → lv_has ls 4 [(0, .ref (ad 8 0)), (1, .int v1), (3, .int v3)] → f_X8_riders_41 k14 σ v1 v3 v100 v101 = some res → W p l e { frames := 2, cells := 0, slots := 0, locals := 43 } s m args below meth c H locs 0 0 (MQ below (va_Qi (S := Unit) (fun r1 _ => r1 = res.1) (fun _ t => z_W 1 G ad res.2 t.heap) (z_A 1 ad s.heap.size)) args s 0 0 (z_A 1 ad s.heap.size)) (F0 m 41 ls [.int v101, .int v100]) := by
  intro σ v1 v3 v100 v101 H locs ls S hl  hf
  unfold f_X8_riders_41 at hf
  refine lv_ior C.1 C.2.1 dX8_riders_41 ?_
  refine lv_istore_n (lv' := [(2, .int (v100 ||| v101)), (0, .ref (ad 8 0)), (1, .int v1), (3, .int v3)]) C.1 C.2.1 dX8_riders_42 rfl hl (by decide) rfl (fun ls hl => ?_)
  refine lv_iinc (v := (v3 + 1)) (lv' := [(3, .int (v3 + 1)), (2, .int (v100 ||| v101)), (0, .ref (ad 8 0)), (1, .int v1)]) C.1 C.2.1 dX8_riders_43 hl (k := 3) rfl rfl (by decide) rfl (fun ls hl => ?_)
  refine lv_goto (tgt := 14) C.1 C.2.1 dX8_riders_46 (by decide) ?_
  exact hk14 _ v1 (v100 ||| v101) (v3 + 1) _ _ _ S (lv_sub hl [2, 3, 1, 0] rfl)  hf
set_option maxHeartbeats 4000000 in
set_option maxRecDepth 100000 in
theorem w_X8_riders_14 {p : Program} {l : Launch} {e : Env} {s : State} {m : MethodId} {args : Array Value} {below : List Frame} {meth : Method} {c : Code} {G : Gx} {ad : Ad} {res : Int32 × Sg} (C : Cx p s m args meth c yX8_riders.cls cX8_riders 4 (Option.some FieldType.int) G)  : ∀ n : Nat, ∀ (σ : Sg) (v1 : Int32) (v2 : Int32) (v3 : Int32) (H : Heap) (locs : List Loc) (ls : Array Slot), z_S 1 G ad σ (z_A 1 ad s.heap.size) s.heap H locs → lv_has ls 4 [(0, .ref (ad 8 0)), (1, .int v1), (2, .int v2), (3, .int v3)] → f_X8_riders_14  n σ v1 v2 v3 = some res → W p l e { frames := 2, cells := 0, slots := 0, locals := 43 } s m args below meth c H locs 0 0 (MQ below (va_Qi (S := Unit) (fun r1 _ => r1 = res.1) (fun _ t => z_W 1 G ad res.2 t.heap) (z_A 1 ad s.heap.size)) args s 0 0 (z_A 1 ad s.heap.size)) (F0 m 14 ls []) := by
  intro n
  induction n with
  | zero => intro σ v1 v2 v3 H locs ls S hl  hf; cases hf
  | succ n ih =>
    intro σ v1 v2 v3 H locs ls S hl  hf
    rw [f_X8_riders_14_s] at hf
    refine lv_iload_n C.1 C.2.1 dX8_riders_14 rfl (lv_at hl 3 rfl) ?_
    refine lv_aload_n C.1 C.2.1 dX8_riders_15 rfl (lv_at hl 0 rfl) ?_
    refine z_getR C S 8 0 rfl (by decide) cf_8 0 (by decide) _ (gr_8_0 G ad 0) tw_6_118 dX8_riders_16 ?_
    refine lv_iconst (v := 2) C.1 C.2.1 dX8_riders_19 (by decide) ?_
    refine z_ialdL C S 30 0 rfl (by decide) 2111 (fun _ => rfl) 2 (by decide) (by decide) (by decide) dX8_riders_20 ?_
    refine lv_icmp_ge (tgt := 49) C.1 C.2.1 dX8_riders_21 (by decide) (fun c_21 => ?_) (fun c_21 => ?_)
    · rw [if_pos c_21] at hf
      exact w_X8_riders_49 C _ v2 _ _ _ S (lv_sub hl [2] rfl) hf
    · rw [if_neg c_21] at hf
      refine lv_iload_n C.1 C.2.1 dX8_riders_24 rfl (lv_at hl 2 rfl) ?_
      refine lv_aload_n C.1 C.2.1 dX8_riders_25 rfl (lv_at hl 0 rfl) ?_
      refine lv_iload_n C.1 C.2.1 dX8_riders_26 rfl (lv_at hl 1 rfl) ?_
      refine lv_iload_n C.1 C.2.1 dX8_riders_27 rfl (lv_at hl 3 rfl) ?_
      obtain ⟨r2, σ1, q_28, hf⟩ := bib hf
      refine z_callI C S 8 0 rfl (by decide) cf_8 ⟨_, rfl⟩ [.int v1, .int v3] (m_X8_isAboard l G ad σ v1 v3 r2 σ1 q_28 _) kv_X8_isAboard tw_7_83 ⟨Nat.le_of_ble_eq_true rfl, Nat.le_of_ble_eq_true rfl⟩ rfl rfl (Nat.le_of_ble_eq_true rfl) hl.1 ⟨Nat.le_of_ble_eq_true rfl, Nat.le_of_ble_eq_true rfl⟩ dX8_riders_28 (fun H locs S => ?_)
      refine lv_if_eq (tgt := 40) C.1 C.2.1 dX8_riders_31 (by decide) (fun c_31 => ?_) (fun c_31 => ?_)
      · rw [if_pos c_31] at hf
        refine lv_iconst (v := 0) C.1 C.2.1 dX8_riders_40 (by decide) ?_
        exact w_X8_riders_41 C (f_X8_riders_14 n) ih _ v1 v3 v2 0 _ _ _ S (lv_sub hl [0, 1, 3] rfl) hf
      · rw [if_neg c_31] at hf
        refine lv_iconst (v := 1) C.1 C.2.1 dX8_riders_34 (by decide) ?_
        refine lv_iload_n C.1 C.2.1 dX8_riders_35 rfl (lv_at hl 3 rfl) ?_
        refine lv_ishl C.1 C.2.1 dX8_riders_36 ?_
        refine lv_goto (tgt := 41) C.1 C.2.1 dX8_riders_37 (by decide) ?_
        exact w_X8_riders_41 C (f_X8_riders_14 n) ih _ v1 v3 v2 (1 <<< (v3 &&& 31)) _ _ _ S (lv_sub hl [0, 1, 3] rfl) hf
set_option maxHeartbeats 4000000 in
set_option maxRecDepth 100000 in
theorem w_X8_riders_0 {p : Program} {l : Launch} {e : Env} {s : State} {m : MethodId} {args : Array Value} {below : List Frame} {meth : Method} {c : Code} {G : Gx} {ad : Ad} {res : Int32 × Sg} (C : Cx p s m args meth c yX8_riders.cls cX8_riders 4 (Option.some FieldType.int) G)  : ∀ (σ : Sg) (v1 : Int32) (H : Heap) (locs : List Loc) (ls : Array Slot), z_S 1 G ad σ (z_A 1 ad s.heap.size) s.heap H locs → lv_has ls 4 [(0, .ref (ad 8 0)), (1, .int v1)] → f_X8_riders  σ v1 = some res → W p l e { frames := 2, cells := 0, slots := 0, locals := 43 } s m args below meth c H locs 0 0 (MQ below (va_Qi (S := Unit) (fun r1 _ => r1 = res.1) (fun _ t => z_W 1 G ad res.2 t.heap) (z_A 1 ad s.heap.size)) args s 0 0 (z_A 1 ad s.heap.size)) (F0 m 0 ls []) := by
  intro σ v1 H locs ls S hl  hf
  unfold f_X8_riders at hf
  refine lv_aload_n C.1 C.2.1 dX8_riders_0 rfl (lv_at hl 0 rfl) ?_
  refine lv_iload_n C.1 C.2.1 dX8_riders_1 rfl (lv_at hl 1 rfl) ?_
  obtain ⟨r2, σ1, q_2, hf⟩ := bib hf
  refine z_callI C S 8 0 rfl (by decide) cf_8 ⟨_, rfl⟩ [.int v1] (m_X8_noCar l G ad σ v1 r2 σ1 q_2 _) kv_X8_noCar tw_7_68 ⟨Nat.le_of_ble_eq_true rfl, Nat.le_of_ble_eq_true rfl⟩ rfl rfl (Nat.le_of_ble_eq_true rfl) hl.1 ⟨Nat.le_of_ble_eq_true rfl, Nat.le_of_ble_eq_true rfl⟩ dX8_riders_2 (fun H locs S => ?_)
  refine lv_if_eq (tgt := 10) C.1 C.2.1 dX8_riders_5 (by decide) (fun c_5 => ?_) (fun c_5 => ?_)
  · rw [if_pos c_5] at hf
    refine lv_iconst (v := 0) C.1 C.2.1 dX8_riders_10 (by decide) ?_
    refine lv_istore_n (lv' := [(2, .int 0), (0, .ref (ad 8 0)), (1, .int v1)]) C.1 C.2.1 dX8_riders_11 rfl hl (by decide) rfl (fun ls hl => ?_)
    refine lv_iconst (v := 0) C.1 C.2.1 dX8_riders_12 (by decide) ?_
    refine lv_istore_n (lv' := [(3, .int 0), (2, .int 0), (0, .ref (ad 8 0)), (1, .int v1)]) C.1 C.2.1 dX8_riders_13 rfl hl (by decide) rfl (fun ls hl => ?_)
    exact w_X8_riders_14 C FU _ v1 0 0 _ _ _ S (lv_sub hl [2, 3, 1, 0] rfl) hf
  · rw [if_neg c_5] at hf
    refine lv_iconst (v := 0) C.1 C.2.1 dX8_riders_8 (by decide) ?_
    exact z_iret C S hf dX8_riders_9
theorem kv_X8_riders : KV yX8_riders cX8_riders 4 (Option.some FieldType.int) 1 := ⟨tw_8_112, tw_8_110, tw_8_111, tw_1_10, by decide, by decide, by decide +kernel⟩
theorem m_X8_riders (l : Launch) (G : Gx) (ad : Ad) (σ : Sg) (v1 : Int32) (r : Int32) (σ' : Sg)  (hf : f_X8_riders σ v1 = some (r, σ')) (sz : Nat) : z_MI l yX8_riders cX8_riders 4 (Option.some FieldType.int) 2 43 1 G ad σ sz [.ref (ad 8 0), .int v1] r σ' := by
  refine z_begin (by decide +kernel) (Nat.le_of_ble_eq_true rfl) [(0, .ref (ad 8 0)), (1, .int v1)] rfl (fun p e s m args below meth c ls C hz S hl => ?_)
  subst hz
  exact w_X8_riders_0 (res := (r, σ')) C σ v1 _ _ _ S hl  hf

theorem dX8_served_0 : decode cX8_served 0 = .ok (.aload_n 0, 1) := by decide +kernel
theorem dX8_served_1 : decode cX8_served 1 = .ok (.iload_n 1, 1) := by decide +kernel
theorem dX8_served_2 : decode cX8_served 2 = .ok (.invokevirtual 271, 3) := by decide +kernel
theorem dX8_served_5 : decode cX8_served 5 = .ok (.ifCond .eq 5, 3) := by decide +kernel
theorem dX8_served_8 : decode cX8_served 8 = .ok (.iconst 0, 1) := by decide +kernel
theorem dX8_served_9 : decode cX8_served 9 = .ok (.ireturn, 1) := by decide +kernel
theorem dX8_served_10 : decode cX8_served 10 = .ok (.iconst 0, 1) := by decide +kernel
theorem dX8_served_11 : decode cX8_served 11 = .ok (.istore_n 2, 1) := by decide +kernel
theorem dX8_served_12 : decode cX8_served 12 = .ok (.iconst 0, 1) := by decide +kernel
theorem dX8_served_13 : decode cX8_served 13 = .ok (.istore_n 3, 1) := by decide +kernel
theorem dX8_served_14 : decode cX8_served 14 = .ok (.iload_n 3, 1) := by decide +kernel
theorem dX8_served_15 : decode cX8_served 15 = .ok (.aload_n 0, 1) := by decide +kernel
theorem dX8_served_16 : decode cX8_served 16 = .ok (.getfield 7, 3) := by decide +kernel
theorem dX8_served_19 : decode cX8_served 19 = .ok (.iconst 2, 1) := by decide +kernel
theorem dX8_served_20 : decode cX8_served 20 = .ok (.iaload, 1) := by decide +kernel
theorem dX8_served_21 : decode cX8_served 21 = .ok (.if_icmp .ge 31, 3) := by decide +kernel
theorem dX8_served_24 : decode cX8_served 24 = .ok (.iload_n 2, 1) := by decide +kernel
theorem dX8_served_25 : decode cX8_served 25 = .ok (.aload_n 0, 1) := by decide +kernel
theorem dX8_served_26 : decode cX8_served 26 = .ok (.getfield 7, 3) := by decide +kernel
theorem dX8_served_29 : decode cX8_served 29 = .ok (.sipush 151, 3) := by decide +kernel
theorem dX8_served_32 : decode cX8_served 32 = .ok (.iload_n 3, 1) := by decide +kernel
theorem dX8_served_33 : decode cX8_served 33 = .ok (.iadd, 1) := by decide +kernel
theorem dX8_served_34 : decode cX8_served 34 = .ok (.iaload, 1) := by decide +kernel
theorem dX8_served_35 : decode cX8_served 35 = .ok (.iload_n 1, 1) := by decide +kernel
theorem dX8_served_36 : decode cX8_served 36 = .ok (.if_icmp .ne 7, 3) := by decide +kernel
theorem dX8_served_39 : decode cX8_served 39 = .ok (.iconst 1, 1) := by decide +kernel
theorem dX8_served_40 : decode cX8_served 40 = .ok (.goto 4, 3) := by decide +kernel
theorem dX8_served_43 : decode cX8_served 43 = .ok (.iconst 0, 1) := by decide +kernel
theorem dX8_served_44 : decode cX8_served 44 = .ok (.iadd, 1) := by decide +kernel
theorem dX8_served_45 : decode cX8_served 45 = .ok (.istore_n 2, 1) := by decide +kernel
theorem dX8_served_46 : decode cX8_served 46 = .ok (.iinc 3 1, 3) := by decide +kernel
theorem dX8_served_49 : decode cX8_served 49 = .ok (.goto (-35), 3) := by decide +kernel
theorem dX8_served_52 : decode cX8_served 52 = .ok (.iload_n 2, 1) := by decide +kernel
theorem dX8_served_53 : decode cX8_served 53 = .ok (.ireturn, 1) := by decide +kernel
/-! BusLiftsModel.served(I)I -/
noncomputable def f_X8_served_52  (σ : Sg) (v2 : Int32) : Option (Int32 × Sg) := some (v2, σ)
noncomputable def f_X8_served_44 (k14 : Sg → Int32 → Int32 → Int32 → Option (Int32 × Sg)) (σ : Sg) (v1 : Int32) (v3 : Int32) (v100 : Int32) (v101 : Int32) : Option (Int32 × Sg) := k14 σ v1 (v100 + v101) (v3 + 1)
noncomputable def f_X8_served_14  : Nat → Sg → Int32 → Int32 → Int32 → Option (Int32 × Sg)
  | 0, _, _, _, _ => none
  | n + 1, σ, v1, v2, v3 => if (σ 30 0 2) ≤ v3 then (f_X8_served_52 σ v2) else (if (151 + v3) < 0 ∨ 2111 ≤ ((151 + v3)).toNatClampNeg then none else (if (σ 30 0 ((151 + v3)).toNatClampNeg) = v1 then (f_X8_served_44 (f_X8_served_14 n) σ v1 v3 v2 1) else (f_X8_served_44 (f_X8_served_14 n) σ v1 v3 v2 0)))
theorem f_X8_served_14_s  (n : Nat) (σ : Sg) (v1 : Int32) (v2 : Int32) (v3 : Int32) : f_X8_served_14  (n + 1) σ v1 v2 v3 = (if (σ 30 0 2) ≤ v3 then (f_X8_served_52 σ v2) else (if (151 + v3) < 0 ∨ 2111 ≤ ((151 + v3)).toNatClampNeg then none else (if (σ 30 0 ((151 + v3)).toNatClampNeg) = v1 then (f_X8_served_44 (f_X8_served_14 n) σ v1 v3 v2 1) else (f_X8_served_44 (f_X8_served_14 n) σ v1 v3 v2 0)))) := rfl
noncomputable def f_X8_served  (σ : Sg) (v1 : Int32) : Option (Int32 × Sg) := bi (f_X8_noCar σ v1) fun r2 σ1 => (if r2 = 0 then (f_X8_served_14 FU σ1 v1 0 0) else (some (0, σ1)))
set_option maxHeartbeats 4000000 in
set_option maxRecDepth 100000 in
theorem w_X8_served_52 {p : Program} {l : Launch} {e : Env} {s : State} {m : MethodId} {args : Array Value} {below : List Frame} {meth : Method} {c : Code} {G : Gx} {ad : Ad} {res : Int32 × Sg} (C : Cx p s m args meth c yX8_served.cls cX8_served 4 (Option.some FieldType.int) G)  : ∀ (σ : Sg) (v2 : Int32) (H : Heap) (locs : List Loc) (ls : Array Slot), z_S 1 G ad σ (z_A 1 ad s.heap.size) s.heap H locs → lv_has ls 4 [(2, .int v2)] → f_X8_served_52  σ v2 = some res → W p l e { frames := 2, cells := 0, slots := 0, locals := 43 } s m args below meth c H locs 0 0 (MQ below (va_Qi (S := Unit) (fun r1 _ => r1 = res.1) (fun _ t => z_W 1 G ad res.2 t.heap) (z_A 1 ad s.heap.size)) args s 0 0 (z_A 1 ad s.heap.size)) (F0 m 52 ls []) := by
  intro σ v2 H locs ls S hl  hf
  unfold f_X8_served_52 at hf
  refine lv_iload_n C.1 C.2.1 dX8_served_52 rfl (lv_at hl 0 rfl) ?_
  exact z_iret C S hf dX8_served_53
set_option maxHeartbeats 4000000 in
set_option maxRecDepth 100000 in
theorem w_X8_served_44 {p : Program} {l : Launch} {e : Env} {s : State} {m : MethodId} {args : Array Value} {below : List Frame} {meth : Method} {c : Code} {G : Gx} {ad : Ad} {res : Int32 × Sg} (C : Cx p s m args meth c yX8_served.cls cX8_served 4 (Option.some FieldType.int) G) (k14 : Sg → Int32 → Int32 → Int32 → Option (Int32 × Sg)) (hk14 : ∀ (σ : Sg) (v1 : Int32) (v2 : Int32) (v3 : Int32) (H : Heap) (locs : List Loc) (ls : Array Slot), z_S 1 G ad σ (z_A 1 ad s.heap.size) s.heap H locs → lv_has ls 4 [(0, .ref (ad 8 0)), (1, .int v1), (2, .int v2), (3, .int v3)] → k14 σ v1 v2 v3 = some res → W p l e { frames := 2, cells := 0, slots := 0, locals := 43 } s m args below meth c H locs 0 0 (MQ below (va_Qi (S := Unit) (fun r1 _ => r1 = res.1) (fun _ t => z_W 1 G ad res.2 t.heap) (z_A 1 ad s.heap.size)) args s 0 0 (z_A 1 ad s.heap.size)) (F0 m 14 ls [])) : ∀ (σ : Sg) (v1 : Int32) (v3 : Int32) (v100 : Int32) (v101 : Int32) (H : Heap) (locs : List Loc) (ls : Array Slot), z_S 1 G ad σ (z_A 1 ad s.heap.size) s.heap H locs → lv_has ls 4 [(0, .ref (ad 8 0)), (1, .int v1), (3, .int v3)] → f_X8_served_44 k14 σ v1 v3 v100 v101 = some res → W p l e { frames := 2, cells := 0, slots := 0, locals := 43 } s m args below meth c H locs 0 0 (MQ below (va_Qi (S := Unit) (fun r1 _ => r1 = res.1) (fun _ t => z_W 1 G ad res.2 t.heap) (z_A 1 ad s.heap.size)) args s 0 0 (z_A 1 ad s.heap.size)) (F0 m 44 ls [.int v101, .int v100]) := by
  intro σ v1 v3 v100 v101 H locs ls S hl  hf
  unfold f_X8_served_44 at hf
  refine lv_iadd C.1 C.2.1 dX8_served_44 ?_
  refine lv_istore_n (lv' := [(2, .int (v100 + v101)), (0, .ref (ad 8 0)), (1, .int v1), (3, .int v3)]) C.1 C.2.1 dX8_served_45 rfl hl (by decide) rfl (fun ls hl => ?_)
  refine lv_iinc (v := (v3 + 1)) (lv' := [(3, .int (v3 + 1)), (2, .int (v100 + v101)), (0, .ref (ad 8 0)), (1, .int v1)]) C.1 C.2.1 dX8_served_46 hl (k := 3) rfl rfl (by decide) rfl (fun ls hl => ?_)
  refine lv_goto (tgt := 14) C.1 C.2.1 dX8_served_49 (by decide) ?_
  exact hk14 _ v1 (v100 + v101) (v3 + 1) _ _ _ S (lv_sub hl [2, 3, 1, 0] rfl)  hf
set_option maxHeartbeats 4000000 in
set_option maxRecDepth 100000 in
theorem w_X8_served_14 {p : Program} {l : Launch} {e : Env} {s : State} {m : MethodId} {args : Array Value} {below : List Frame} {meth : Method} {c : Code} {G : Gx} {ad : Ad} {res : Int32 × Sg} (C : Cx p s m args meth c yX8_served.cls cX8_served 4 (Option.some FieldType.int) G)  : ∀ n : Nat, ∀ (σ : Sg) (v1 : Int32) (v2 : Int32) (v3 : Int32) (H : Heap) (locs : List Loc) (ls : Array Slot), z_S 1 G ad σ (z_A 1 ad s.heap.size) s.heap H locs → lv_has ls 4 [(0, .ref (ad 8 0)), (1, .int v1), (2, .int v2), (3, .int v3)] → f_X8_served_14  n σ v1 v2 v3 = some res → W p l e { frames := 2, cells := 0, slots := 0, locals := 43 } s m args below meth c H locs 0 0 (MQ below (va_Qi (S := Unit) (fun r1 _ => r1 = res.1) (fun _ t => z_W 1 G ad res.2 t.heap) (z_A 1 ad s.heap.size)) args s 0 0 (z_A 1 ad s.heap.size)) (F0 m 14 ls []) := by
  intro n
  induction n with
  | zero => intro σ v1 v2 v3 H locs ls S hl  hf; cases hf
  | succ n ih =>
    intro σ v1 v2 v3 H locs ls S hl  hf
    rw [f_X8_served_14_s] at hf
    refine lv_iload_n C.1 C.2.1 dX8_served_14 rfl (lv_at hl 3 rfl) ?_
    refine lv_aload_n C.1 C.2.1 dX8_served_15 rfl (lv_at hl 0 rfl) ?_
    refine z_getR C S 8 0 rfl (by decide) cf_8 0 (by decide) _ (gr_8_0 G ad 0) tw_6_118 dX8_served_16 ?_
    refine lv_iconst (v := 2) C.1 C.2.1 dX8_served_19 (by decide) ?_
    refine z_ialdL C S 30 0 rfl (by decide) 2111 (fun _ => rfl) 2 (by decide) (by decide) (by decide) dX8_served_20 ?_
    refine lv_icmp_ge (tgt := 52) C.1 C.2.1 dX8_served_21 (by decide) (fun c_21 => ?_) (fun c_21 => ?_)
    · rw [if_pos c_21] at hf
      exact w_X8_served_52 C _ v2 _ _ _ S (lv_sub hl [2] rfl) hf
    · rw [if_neg c_21] at hf
      refine lv_iload_n C.1 C.2.1 dX8_served_24 rfl (lv_at hl 2 rfl) ?_
      refine lv_aload_n C.1 C.2.1 dX8_served_25 rfl (lv_at hl 0 rfl) ?_
      refine z_getR C S 8 0 rfl (by decide) cf_8 0 (by decide) _ (gr_8_0 G ad 0) tw_6_118 dX8_served_26 ?_
      refine lv_sipush (v := 151) C.1 C.2.1 dX8_served_29 (by decide) ?_
      refine lv_iload_n C.1 C.2.1 dX8_served_32 rfl (lv_at hl 3 rfl) ?_
      refine lv_iadd C.1 C.2.1 dX8_served_33 ?_
      obtain ⟨g_34, hf⟩ := gd hf
      refine z_iald C S 30 0 rfl (by decide) 2111 (fun _ => rfl) g_34 dX8_served_34 ?_
      refine lv_iload_n C.1 C.2.1 dX8_served_35 rfl (lv_at hl 1 rfl) ?_
      refine lv_icmp_ne (tgt := 43) C.1 C.2.1 dX8_served_36 (by decide) (fun c_36 => ?_) (fun c_36 => ?_)
      · rw [if_neg c_36] at hf
        refine lv_iconst (v := 0) C.1 C.2.1 dX8_served_43 (by decide) ?_
        exact w_X8_served_44 C (f_X8_served_14 n) ih _ v1 v3 v2 0 _ _ _ S (lv_sub hl [0, 1, 3] rfl) hf
      · rw [if_pos c_36] at hf
        refine lv_iconst (v := 1) C.1 C.2.1 dX8_served_39 (by decide) ?_
        refine lv_goto (tgt := 44) C.1 C.2.1 dX8_served_40 (by decide) ?_
        exact w_X8_served_44 C (f_X8_served_14 n) ih _ v1 v3 v2 1 _ _ _ S (lv_sub hl [0, 1, 3] rfl) hf
set_option maxHeartbeats 4000000 in
set_option maxRecDepth 100000 in
theorem w_X8_served_0 {p : Program} {l : Launch} {e : Env} {s : State} {m : MethodId} {args : Array Value} {below : List Frame} {meth : Method} {c : Code} {G : Gx} {ad : Ad} {res : Int32 × Sg} (C : Cx p s m args meth c yX8_served.cls cX8_served 4 (Option.some FieldType.int) G)  : ∀ (σ : Sg) (v1 : Int32) (H : Heap) (locs : List Loc) (ls : Array Slot), z_S 1 G ad σ (z_A 1 ad s.heap.size) s.heap H locs → lv_has ls 4 [(0, .ref (ad 8 0)), (1, .int v1)] → f_X8_served  σ v1 = some res → W p l e { frames := 2, cells := 0, slots := 0, locals := 43 } s m args below meth c H locs 0 0 (MQ below (va_Qi (S := Unit) (fun r1 _ => r1 = res.1) (fun _ t => z_W 1 G ad res.2 t.heap) (z_A 1 ad s.heap.size)) args s 0 0 (z_A 1 ad s.heap.size)) (F0 m 0 ls []) := by
  intro σ v1 H locs ls S hl  hf
  unfold f_X8_served at hf
  refine lv_aload_n C.1 C.2.1 dX8_served_0 rfl (lv_at hl 0 rfl) ?_
  refine lv_iload_n C.1 C.2.1 dX8_served_1 rfl (lv_at hl 1 rfl) ?_
  obtain ⟨r2, σ1, q_2, hf⟩ := bib hf
  refine z_callI C S 8 0 rfl (by decide) cf_8 ⟨_, rfl⟩ [.int v1] (m_X8_noCar l G ad σ v1 r2 σ1 q_2 _) kv_X8_noCar tw_7_68 ⟨Nat.le_of_ble_eq_true rfl, Nat.le_of_ble_eq_true rfl⟩ rfl rfl (Nat.le_of_ble_eq_true rfl) hl.1 ⟨Nat.le_of_ble_eq_true rfl, Nat.le_of_ble_eq_true rfl⟩ dX8_served_2 (fun H locs S => ?_)
  refine lv_if_eq (tgt := 10) C.1 C.2.1 dX8_served_5 (by decide) (fun c_5 => ?_) (fun c_5 => ?_)
  · rw [if_pos c_5] at hf
    refine lv_iconst (v := 0) C.1 C.2.1 dX8_served_10 (by decide) ?_
    refine lv_istore_n (lv' := [(2, .int 0), (0, .ref (ad 8 0)), (1, .int v1)]) C.1 C.2.1 dX8_served_11 rfl hl (by decide) rfl (fun ls hl => ?_)
    refine lv_iconst (v := 0) C.1 C.2.1 dX8_served_12 (by decide) ?_
    refine lv_istore_n (lv' := [(3, .int 0), (2, .int 0), (0, .ref (ad 8 0)), (1, .int v1)]) C.1 C.2.1 dX8_served_13 rfl hl (by decide) rfl (fun ls hl => ?_)
    exact w_X8_served_14 C FU _ v1 0 0 _ _ _ S (lv_sub hl [2, 3, 1, 0] rfl) hf
  · rw [if_neg c_5] at hf
    refine lv_iconst (v := 0) C.1 C.2.1 dX8_served_8 (by decide) ?_
    exact z_iret C S hf dX8_served_9
theorem kv_X8_served : KV yX8_served cX8_served 4 (Option.some FieldType.int) 1 := ⟨tw_8_116, tw_8_114, tw_8_115, tw_1_10, by decide, by decide, by decide +kernel⟩
theorem m_X8_served (l : Launch) (G : Gx) (ad : Ad) (σ : Sg) (v1 : Int32) (r : Int32) (σ' : Sg)  (hf : f_X8_served σ v1 = some (r, σ')) (sz : Nat) : z_MI l yX8_served cX8_served 4 (Option.some FieldType.int) 2 43 1 G ad σ sz [.ref (ad 8 0), .int v1] r σ' := by
  refine z_begin (by decide +kernel) (Nat.le_of_ble_eq_true rfl) [(0, .ref (ad 8 0)), (1, .int v1)] rfl (fun p e s m args below meth c ls C hz S hl => ?_)
  subst hz
  exact w_X8_served_0 (res := (r, σ')) C σ v1 _ _ _ S hl  hf

theorem dX8_knownBest_0 : decode cX8_knownBest 0 = .ok (.aload_n 0, 1) := by decide +kernel
theorem dX8_knownBest_1 : decode cX8_knownBest 1 = .ok (.iload_n 1, 1) := by decide +kernel
theorem dX8_knownBest_2 : decode cX8_knownBest 2 = .ok (.iload_n 2, 1) := by decide +kernel
theorem dX8_knownBest_3 : decode cX8_knownBest 3 = .ok (.invokevirtual 283, 3) := by decide +kernel
theorem dX8_knownBest_6 : decode cX8_knownBest 6 = .ok (.ifCond .eq 5, 3) := by decide +kernel
theorem dX8_knownBest_9 : decode cX8_knownBest 9 = .ok (.iconst 0, 1) := by decide +kernel
theorem dX8_knownBest_10 : decode cX8_knownBest 10 = .ok (.ireturn, 1) := by decide +kernel
theorem dX8_knownBest_11 : decode cX8_knownBest 11 = .ok (.iconst (-1), 1) := by decide +kernel
theorem dX8_knownBest_12 : decode cX8_knownBest 12 = .ok (.istore_n 3, 1) := by decide +kernel
theorem dX8_knownBest_13 : decode cX8_knownBest 13 = .ok (.iconst 0, 1) := by decide +kernel
theorem dX8_knownBest_14 : decode cX8_knownBest 14 = .ok (.istore 4, 2) := by decide +kernel
theorem dX8_knownBest_16 : decode cX8_knownBest 16 = .ok (.iconst 0, 1) := by decide +kernel
theorem dX8_knownBest_17 : decode cX8_knownBest 17 = .ok (.istore 5, 2) := by decide +kernel
theorem dX8_knownBest_19 : decode cX8_knownBest 19 = .ok (.iload 5, 2) := by decide +kernel
theorem dX8_knownBest_21 : decode cX8_knownBest 21 = .ok (.aload_n 0, 1) := by decide +kernel
theorem dX8_knownBest_22 : decode cX8_knownBest 22 = .ok (.getfield 7, 3) := by decide +kernel
theorem dX8_knownBest_25 : decode cX8_knownBest 25 = .ok (.iconst 1, 1) := by decide +kernel
theorem dX8_knownBest_26 : decode cX8_knownBest 26 = .ok (.iaload, 1) := by decide +kernel
theorem dX8_knownBest_27 : decode cX8_knownBest 27 = .ok (.if_icmp .ge 85, 3) := by decide +kernel
theorem dX8_knownBest_30 : decode cX8_knownBest 30 = .ok (.aload_n 0, 1) := by decide +kernel
theorem dX8_knownBest_31 : decode cX8_knownBest 31 = .ok (.getfield 7, 3) := by decide +kernel
theorem dX8_knownBest_34 : decode cX8_knownBest 34 = .ok (.iload_n 1, 1) := by decide +kernel
theorem dX8_knownBest_35 : decode cX8_knownBest 35 = .ok (.iload_n 2, 1) := by decide +kernel
theorem dX8_knownBest_36 : decode cX8_knownBest 36 = .ok (.iload 5, 2) := by decide +kernel
theorem dX8_knownBest_38 : decode cX8_knownBest 38 = .ok (.invokestatic 61, 3) := by decide +kernel
theorem dX8_knownBest_41 : decode cX8_knownBest 41 = .ok (.iaload, 1) := by decide +kernel
theorem dX8_knownBest_42 : decode cX8_knownBest 42 = .ok (.istore 6, 2) := by decide +kernel
theorem dX8_knownBest_44 : decode cX8_knownBest 44 = .ok (.iload 5, 2) := by decide +kernel
theorem dX8_knownBest_46 : decode cX8_knownBest 46 = .ok (.iload_n 1, 1) := by decide +kernel
theorem dX8_knownBest_47 : decode cX8_knownBest 47 = .ok (.if_icmp .ne 31, 3) := by decide +kernel
theorem dX8_knownBest_50 : decode cX8_knownBest 50 = .ok (.aload_n 0, 1) := by decide +kernel
theorem dX8_knownBest_51 : decode cX8_knownBest 51 = .ok (.iload_n 1, 1) := by decide +kernel
theorem dX8_knownBest_52 : decode cX8_knownBest 52 = .ok (.iload_n 2, 1) := by decide +kernel
theorem dX8_knownBest_53 : decode cX8_knownBest 53 = .ok (.invokevirtual 286, 3) := by decide +kernel
theorem dX8_knownBest_56 : decode cX8_knownBest 56 = .ok (.ifCond .eq 19, 3) := by decide +kernel
theorem dX8_knownBest_59 : decode cX8_knownBest 59 = .ok (.aload_n 0, 1) := by decide +kernel
theorem dX8_knownBest_60 : decode cX8_knownBest 60 = .ok (.getfield 7, 3) := by decide +kernel
theorem dX8_knownBest_63 : decode cX8_knownBest 63 = .ok (.sipush 415, 3) := by decide +kernel
theorem dX8_knownBest_66 : decode cX8_knownBest 66 = .ok (.iload_n 1, 1) := by decide +kernel
theorem dX8_knownBest_67 : decode cX8_knownBest 67 = .ok (.iload_n 2, 1) := by decide +kernel
theorem dX8_knownBest_68 : decode cX8_knownBest 68 = .ok (.invokestatic 65, 3) := by decide +kernel
theorem dX8_knownBest_71 : decode cX8_knownBest 71 = .ok (.iaload, 1) := by decide +kernel
theorem dX8_knownBest_72 : decode cX8_knownBest 72 = .ok (.goto 4, 3) := by decide +kernel
theorem dX8_knownBest_75 : decode cX8_knownBest 75 = .ok (.iconst (-1), 1) := by decide +kernel
theorem dX8_knownBest_76 : decode cX8_knownBest 76 = .ok (.istore 6, 2) := by decide +kernel
theorem dX8_knownBest_78 : decode cX8_knownBest 78 = .ok (.iload 6, 2) := by decide +kernel
theorem dX8_knownBest_80 : decode cX8_knownBest 80 = .ok (.iconst (-1), 1) := by decide +kernel
theorem dX8_knownBest_81 : decode cX8_knownBest 81 = .ok (.if_icmp .eq 25, 3) := by decide +kernel
theorem dX8_knownBest_84 : decode cX8_knownBest 84 = .ok (.iload_n 3, 1) := by decide +kernel
theorem dX8_knownBest_85 : decode cX8_knownBest 85 = .ok (.iconst (-1), 1) := by decide +kernel
theorem dX8_knownBest_86 : decode cX8_knownBest 86 = .ok (.if_icmp .eq 13, 3) := by decide +kernel
theorem dX8_knownBest_89 : decode cX8_knownBest 89 = .ok (.iload 6, 2) := by decide +kernel
theorem dX8_knownBest_91 : decode cX8_knownBest 91 = .ok (.iload 4, 2) := by decide +kernel
theorem dX8_knownBest_93 : decode cX8_knownBest 93 = .ok (.if_icmp .lt 6, 3) := by decide +kernel
theorem dX8_knownBest_96 : decode cX8_knownBest 96 = .ok (.goto 10, 3) := by decide +kernel
theorem dX8_knownBest_99 : decode cX8_knownBest 99 = .ok (.iload 5, 2) := by decide +kernel
theorem dX8_knownBest_101 : decode cX8_knownBest 101 = .ok (.istore_n 3, 1) := by decide +kernel
theorem dX8_knownBest_102 : decode cX8_knownBest 102 = .ok (.iload 6, 2) := by decide +kernel
theorem dX8_knownBest_104 : decode cX8_knownBest 104 = .ok (.istore 4, 2) := by decide +kernel
theorem dX8_knownBest_106 : decode cX8_knownBest 106 = .ok (.iinc 5 1, 3) := by decide +kernel
theorem dX8_knownBest_109 : decode cX8_knownBest 109 = .ok (.goto (-90), 3) := by decide +kernel
theorem dX8_knownBest_112 : decode cX8_knownBest 112 = .ok (.iload_n 3, 1) := by decide +kernel
theorem dX8_knownBest_113 : decode cX8_knownBest 113 = .ok (.ireturn, 1) := by decide +kernel
/-! BusLiftsModel.knownBest(II)I -/
noncomputable def f_X8_knownBest_112  (σ : Sg) (v3 : Int32) : Option (Int32 × Sg) := some (v3, σ)
noncomputable def f_X8_knownBest_106 (k19 : Sg → Int32 → Int32 → Int32 → Int32 → Int32 → Option (Int32 × Sg)) (σ : Sg) (v1 : Int32) (v2 : Int32) (v3 : Int32) (v4 : Int32) (v5 : Int32) : Option (Int32 × Sg) := k19 σ v1 v2 v3 v4 (v5 + 1)
noncomputable def f_X8_knownBest_99 (k19 : Sg → Int32 → Int32 → Int32 → Int32 → Int32 → Option (Int32 × Sg)) (σ : Sg) (v1 : Int32) (v2 : Int32) (v5 : Int32) (v6 : Int32) : Option (Int32 × Sg) := f_X8_knownBest_106 k19 σ v1 v2 v5 v6 v5
noncomputable def f_X8_knownBest_78 (k19 : Sg → Int32 → Int32 → Int32 → Int32 → Int32 → Option (Int32 × Sg)) (σ : Sg) (v1 : Int32) (v2 : Int32) (v3 : Int32) (v4 : Int32) (v5 : Int32) (v6 : Int32) : Option (Int32 × Sg) := if v6 = (-1) then (f_X8_knownBest_106 k19 σ v1 v2 v3 v4 v5) else (if v3 = (-1) then (f_X8_knownBest_99 k19 σ v1 v2 v5 v6) else (if v6 < v4 then (f_X8_knownBest_99 k19 σ v1 v2 v5 v6) else (f_X8_knownBest_106 k19 σ v1 v2 v3 v4 v5)))
noncomputable def f_X8_knownBest_76 (k19 : Sg → Int32 → Int32 → Int32 → Int32 → Int32 → Option (Int32 × Sg)) (σ : Sg) (v1 : Int32) (v2 : Int32) (v3 : Int32) (v4 : Int32) (v5 : Int32) (v100 : Int32) : Option (Int32 × Sg) := f_X8_knownBest_78 k19 σ v1 v2 v3 v4 v5 v100
noncomputable def f_X8_knownBest_19  : Nat → Sg → Int32 → Int32 → Int32 → Int32 → Int32 → Option (Int32 × Sg)
  | 0, _, _, _, _, _, _ => none
  | n + 1, σ, v1, v2, v3, v4, v5 => if (σ 30 0 1) ≤ v5 then (f_X8_knownBest_112 σ v3) else (bi (f_X8_notedAt σ v1 v2 v5) fun r2 σ1 => (if r2 < 0 ∨ 2111 ≤ (r2).toNatClampNeg then none else (if v5 = v1 then (bi (f_X8_knowsOwn σ1 v1 v2) fun r4 σ3 => (if r4 = 0 then (f_X8_knownBest_76 (f_X8_knownBest_19 n) σ3 v1 v2 v3 v4 v5 (-1)) else (bi (f_X8_of σ3 415 v1 v2) fun r6 σ5 => (if r6 < 0 ∨ 2111 ≤ (r6).toNatClampNeg then none else (f_X8_knownBest_76 (f_X8_knownBest_19 n) σ5 v1 v2 v3 v4 v5 (σ5 30 0 (r6).toNatClampNeg)))))) else (f_X8_knownBest_78 (f_X8_knownBest_19 n) σ1 v1 v2 v3 v4 v5 (σ1 30 0 (r2).toNatClampNeg)))))
theorem f_X8_knownBest_19_s  (n : Nat) (σ : Sg) (v1 : Int32) (v2 : Int32) (v3 : Int32) (v4 : Int32) (v5 : Int32) : f_X8_knownBest_19  (n + 1) σ v1 v2 v3 v4 v5 = (if (σ 30 0 1) ≤ v5 then (f_X8_knownBest_112 σ v3) else (bi (f_X8_notedAt σ v1 v2 v5) fun r2 σ1 => (if r2 < 0 ∨ 2111 ≤ (r2).toNatClampNeg then none else (if v5 = v1 then (bi (f_X8_knowsOwn σ1 v1 v2) fun r4 σ3 => (if r4 = 0 then (f_X8_knownBest_76 (f_X8_knownBest_19 n) σ3 v1 v2 v3 v4 v5 (-1)) else (bi (f_X8_of σ3 415 v1 v2) fun r6 σ5 => (if r6 < 0 ∨ 2111 ≤ (r6).toNatClampNeg then none else (f_X8_knownBest_76 (f_X8_knownBest_19 n) σ5 v1 v2 v3 v4 v5 (σ5 30 0 (r6).toNatClampNeg)))))) else (f_X8_knownBest_78 (f_X8_knownBest_19 n) σ1 v1 v2 v3 v4 v5 (σ1 30 0 (r2).toNatClampNeg)))))) := rfl
noncomputable def f_X8_knownBest  (σ : Sg) (v1 : Int32) (v2 : Int32) : Option (Int32 × Sg) := bi (f_X8_noPair σ v1 v2) fun r2 σ1 => (if r2 = 0 then (f_X8_knownBest_19 FU σ1 v1 v2 (-1) 0 0) else (some (0, σ1)))
set_option maxHeartbeats 4000000 in
set_option maxRecDepth 100000 in
theorem w_X8_knownBest_112 {p : Program} {l : Launch} {e : Env} {s : State} {m : MethodId} {args : Array Value} {below : List Frame} {meth : Method} {c : Code} {G : Gx} {ad : Ad} {res : Int32 × Sg} (C : Cx p s m args meth c yX8_knownBest.cls cX8_knownBest 7 (Option.some FieldType.int) G)  : ∀ (σ : Sg) (v3 : Int32) (H : Heap) (locs : List Loc) (ls : Array Slot), z_S 1 G ad σ (z_A 1 ad s.heap.size) s.heap H locs → lv_has ls 7 [(3, .int v3)] → f_X8_knownBest_112  σ v3 = some res → W p l e { frames := 3, cells := 0, slots := 0, locals := 66 } s m args below meth c H locs 0 0 (MQ below (va_Qi (S := Unit) (fun r1 _ => r1 = res.1) (fun _ t => z_W 1 G ad res.2 t.heap) (z_A 1 ad s.heap.size)) args s 0 0 (z_A 1 ad s.heap.size)) (F0 m 112 ls []) := by
  intro σ v3 H locs ls S hl  hf
  unfold f_X8_knownBest_112 at hf
  refine lv_iload_n C.1 C.2.1 dX8_knownBest_112 rfl (lv_at hl 0 rfl) ?_
  exact z_iret C S hf dX8_knownBest_113
set_option maxHeartbeats 4000000 in
set_option maxRecDepth 100000 in
theorem w_X8_knownBest_106 {p : Program} {l : Launch} {e : Env} {s : State} {m : MethodId} {args : Array Value} {below : List Frame} {meth : Method} {c : Code} {G : Gx} {ad : Ad} {res : Int32 × Sg} (C : Cx p s m args meth c yX8_knownBest.cls cX8_knownBest 7 (Option.some FieldType.int) G) (k19 : Sg → Int32 → Int32 → Int32 → Int32 → Int32 → Option (Int32 × Sg)) (hk19 : ∀ (σ : Sg) (v1 : Int32) (v2 : Int32) (v3 : Int32) (v4 : Int32) (v5 : Int32) (H : Heap) (locs : List Loc) (ls : Array Slot), z_S 1 G ad σ (z_A 1 ad s.heap.size) s.heap H locs → lv_has ls 7 [(0, .ref (ad 8 0)), (1, .int v1), (2, .int v2), (3, .int v3), (4, .int v4), (5, .int v5)] → k19 σ v1 v2 v3 v4 v5 = some res → W p l e { frames := 3, cells := 0, slots := 0, locals := 66 } s m args below meth c H locs 0 0 (MQ below (va_Qi (S := Unit) (fun r1 _ => r1 = res.1) (fun _ t => z_W 1 G ad res.2 t.heap) (z_A 1 ad s.heap.size)) args s 0 0 (z_A 1 ad s.heap.size)) (F0 m 19 ls [])) : ∀ (σ : Sg) (v1 : Int32) (v2 : Int32) (v3 : Int32) (v4 : Int32) (v5 : Int32) (H : Heap) (locs : List Loc) (ls : Array Slot), z_S 1 G ad σ (z_A 1 ad s.heap.size) s.heap H locs → lv_has ls 7 [(0, .ref (ad 8 0)), (1, .int v1), (2, .int v2), (3, .int v3), (4, .int v4), (5, .int v5)] → f_X8_knownBest_106 k19 σ v1 v2 v3 v4 v5 = some res → W p l e { frames := 3, cells := 0, slots := 0, locals := 66 } s m args below meth c H locs 0 0 (MQ below (va_Qi (S := Unit) (fun r1 _ => r1 = res.1) (fun _ t => z_W 1 G ad res.2 t.heap) (z_A 1 ad s.heap.size)) args s 0 0 (z_A 1 ad s.heap.size)) (F0 m 106 ls []) := by
  intro σ v1 v2 v3 v4 v5 H locs ls S hl  hf
  unfold f_X8_knownBest_106 at hf
  refine lv_iinc (v := (v5 + 1)) (lv' := [(5, .int (v5 + 1)), (0, .ref (ad 8 0)), (1, .int v1), (2, .int v2), (3, .int v3), (4, .int v4)]) C.1 C.2.1 dX8_knownBest_106 hl (k := 5) rfl rfl (by decide) rfl (fun ls hl => ?_)
  refine lv_goto (tgt := 19) C.1 C.2.1 dX8_knownBest_109 (by decide) ?_
  exact hk19 _ v1 v2 v3 v4 (v5 + 1) _ _ _ S (lv_sub hl [1, 2, 3, 4, 5, 0] rfl)  hf
set_option maxHeartbeats 4000000 in
set_option maxRecDepth 100000 in
theorem w_X8_knownBest_99 {p : Program} {l : Launch} {e : Env} {s : State} {m : MethodId} {args : Array Value} {below : List Frame} {meth : Method} {c : Code} {G : Gx} {ad : Ad} {res : Int32 × Sg} (C : Cx p s m args meth c yX8_knownBest.cls cX8_knownBest 7 (Option.some FieldType.int) G) (k19 : Sg → Int32 → Int32 → Int32 → Int32 → Int32 → Option (Int32 × Sg)) (hk19 : ∀ (σ : Sg) (v1 : Int32) (v2 : Int32) (v3 : Int32) (v4 : Int32) (v5 : Int32) (H : Heap) (locs : List Loc) (ls : Array Slot), z_S 1 G ad σ (z_A 1 ad s.heap.size) s.heap H locs → lv_has ls 7 [(0, .ref (ad 8 0)), (1, .int v1), (2, .int v2), (3, .int v3), (4, .int v4), (5, .int v5)] → k19 σ v1 v2 v3 v4 v5 = some res → W p l e { frames := 3, cells := 0, slots := 0, locals := 66 } s m args below meth c H locs 0 0 (MQ below (va_Qi (S := Unit) (fun r1 _ => r1 = res.1) (fun _ t => z_W 1 G ad res.2 t.heap) (z_A 1 ad s.heap.size)) args s 0 0 (z_A 1 ad s.heap.size)) (F0 m 19 ls [])) : ∀ (σ : Sg) (v1 : Int32) (v2 : Int32) (v5 : Int32) (v6 : Int32) (H : Heap) (locs : List Loc) (ls : Array Slot), z_S 1 G ad σ (z_A 1 ad s.heap.size) s.heap H locs → lv_has ls 7 [(0, .ref (ad 8 0)), (1, .int v1), (2, .int v2), (5, .int v5), (6, .int v6)] → f_X8_knownBest_99 k19 σ v1 v2 v5 v6 = some res → W p l e { frames := 3, cells := 0, slots := 0, locals := 66 } s m args below meth c H locs 0 0 (MQ below (va_Qi (S := Unit) (fun r1 _ => r1 = res.1) (fun _ t => z_W 1 G ad res.2 t.heap) (z_A 1 ad s.heap.size)) args s 0 0 (z_A 1 ad s.heap.size)) (F0 m 99 ls []) := by
  intro σ v1 v2 v5 v6 H locs ls S hl  hf
  unfold f_X8_knownBest_99 at hf
  refine lv_iload C.1 C.2.1 dX8_knownBest_99 (lv_at hl 3 rfl) ?_
  refine lv_istore_n (lv' := [(3, .int v5), (0, .ref (ad 8 0)), (1, .int v1), (2, .int v2), (5, .int v5), (6, .int v6)]) C.1 C.2.1 dX8_knownBest_101 rfl hl (by decide) rfl (fun ls hl => ?_)
  refine lv_iload C.1 C.2.1 dX8_knownBest_102 (lv_at hl 5 rfl) ?_
  refine lv_istore (lv' := [(4, .int v6), (3, .int v5), (0, .ref (ad 8 0)), (1, .int v1), (2, .int v2), (5, .int v5), (6, .int v6)]) C.1 C.2.1 dX8_knownBest_104 hl (by decide) rfl (fun ls hl => ?_)
  exact w_X8_knownBest_106 C k19 hk19 _ v1 v2 v5 v6 v5 _ _ _ S (lv_sub hl [2, 3, 4, 1, 0, 5] rfl) hf
set_option maxHeartbeats 4000000 in
set_option maxRecDepth 100000 in
theorem w_X8_knownBest_78 {p : Program} {l : Launch} {e : Env} {s : State} {m : MethodId} {args : Array Value} {below : List Frame} {meth : Method} {c : Code} {G : Gx} {ad : Ad} {res : Int32 × Sg} (C : Cx p s m args meth c yX8_knownBest.cls cX8_knownBest 7 (Option.some FieldType.int) G) (k19 : Sg → Int32 → Int32 → Int32 → Int32 → Int32 → Option (Int32 × Sg)) (hk19 : ∀ (σ : Sg) (v1 : Int32) (v2 : Int32) (v3 : Int32) (v4 : Int32) (v5 : Int32) (H : Heap) (locs : List Loc) (ls : Array Slot), z_S 1 G ad σ (z_A 1 ad s.heap.size) s.heap H locs → lv_has ls 7 [(0, .ref (ad 8 0)), (1, .int v1), (2, .int v2), (3, .int v3), (4, .int v4), (5, .int v5)] → k19 σ v1 v2 v3 v4 v5 = some res → W p l e { frames := 3, cells := 0, slots := 0, locals := 66 } s m args below meth c H locs 0 0 (MQ below (va_Qi (S := Unit) (fun r1 _ => r1 = res.1) (fun _ t => z_W 1 G ad res.2 t.heap) (z_A 1 ad s.heap.size)) args s 0 0 (z_A 1 ad s.heap.size)) (F0 m 19 ls [])) : ∀ (σ : Sg) (v1 : Int32) (v2 : Int32) (v3 : Int32) (v4 : Int32) (v5 : Int32) (v6 : Int32) (H : Heap) (locs : List Loc) (ls : Array Slot), z_S 1 G ad σ (z_A 1 ad s.heap.size) s.heap H locs → lv_has ls 7 [(0, .ref (ad 8 0)), (1, .int v1), (2, .int v2), (3, .int v3), (4, .int v4), (5, .int v5), (6, .int v6)] → f_X8_knownBest_78 k19 σ v1 v2 v3 v4 v5 v6 = some res → W p l e { frames := 3, cells := 0, slots := 0, locals := 66 } s m args below meth c H locs 0 0 (MQ below (va_Qi (S := Unit) (fun r1 _ => r1 = res.1) (fun _ t => z_W 1 G ad res.2 t.heap) (z_A 1 ad s.heap.size)) args s 0 0 (z_A 1 ad s.heap.size)) (F0 m 78 ls []) := by
  intro σ v1 v2 v3 v4 v5 v6 H locs ls S hl  hf
  unfold f_X8_knownBest_78 at hf
  refine lv_iload C.1 C.2.1 dX8_knownBest_78 (lv_at hl 6 rfl) ?_
  refine lv_iconst (v := (-1)) C.1 C.2.1 dX8_knownBest_80 (by decide) ?_
  refine lv_icmp_eq (tgt := 106) C.1 C.2.1 dX8_knownBest_81 (by decide) (fun c_81 => ?_) (fun c_81 => ?_)
  · rw [if_pos c_81] at hf
    exact w_X8_knownBest_106 C k19 hk19 _ v1 v2 v3 v4 v5 _ _ _ S (lv_sub hl [0, 1, 2, 3, 4, 5] rfl) hf
  · rw [if_neg c_81] at hf
    refine lv_iload_n C.1 C.2.1 dX8_knownBest_84 rfl (lv_at hl 3 rfl) ?_
    refine lv_iconst (v := (-1)) C.1 C.2.1 dX8_knownBest_85 (by decide) ?_
    refine lv_icmp_eq (tgt := 99) C.1 C.2.1 dX8_knownBest_86 (by decide) (fun c_86 => ?_) (fun c_86 => ?_)
    · rw [if_pos c_86] at hf
      exact w_X8_knownBest_99 C k19 hk19 _ v1 v2 v5 v6 _ _ _ S (lv_sub hl [0, 1, 2, 5, 6] rfl) hf
    · rw [if_neg c_86] at hf
      refine lv_iload C.1 C.2.1 dX8_knownBest_89 (lv_at hl 6 rfl) ?_
      refine lv_iload C.1 C.2.1 dX8_knownBest_91 (lv_at hl 4 rfl) ?_
      refine lv_icmp_lt (tgt := 99) C.1 C.2.1 dX8_knownBest_93 (by decide) (fun c_93 => ?_) (fun c_93 => ?_)
      · rw [if_pos c_93] at hf
        exact w_X8_knownBest_99 C k19 hk19 _ v1 v2 v5 v6 _ _ _ S (lv_sub hl [0, 1, 2, 5, 6] rfl) hf
      · rw [if_neg c_93] at hf
        refine lv_goto (tgt := 106) C.1 C.2.1 dX8_knownBest_96 (by decide) ?_
        exact w_X8_knownBest_106 C k19 hk19 _ v1 v2 v3 v4 v5 _ _ _ S (lv_sub hl [0, 1, 2, 3, 4, 5] rfl) hf
set_option maxHeartbeats 4000000 in
set_option maxRecDepth 100000 in
theorem w_X8_knownBest_76 {p : Program} {l : Launch} {e : Env} {s : State} {m : MethodId} {args : Array Value} {below : List Frame} {meth : Method} {c : Code} {G : Gx} {ad : Ad} {res : Int32 × Sg} (C : Cx p s m args meth c yX8_knownBest.cls cX8_knownBest 7 (Option.some FieldType.int) G) (k19 : Sg → Int32 → Int32 → Int32 → Int32 → Int32 → Option (Int32 × Sg)) (hk19 : ∀ (σ : Sg) (v1 : Int32) (v2 : Int32) (v3 : Int32) (v4 : Int32) (v5 : Int32) (H : Heap) (locs : List Loc) (ls : Array Slot), z_S 1 G ad σ (z_A 1 ad s.heap.size) s.heap H locs → lv_has ls 7 [(0, .ref (ad 8 0)), (1, .int v1), (2, .int v2), (3, .int v3), (4, .int v4), (5, .int v5)] → k19 σ v1 v2 v3 v4 v5 = some res → W p l e { frames := 3, cells := 0, slots := 0, locals := 66 } s m args below meth c H locs 0 0 (MQ below (va_Qi (S := Unit) (fun r1 _ => r1 = res.1) (fun _ t => z_W 1 G ad res.2 t.heap) (z_A 1 ad s.heap.size)) args s 0 0 (z_A 1 ad s.heap.size)) (F0 m 19 ls [])) : ∀ (σ : Sg) (v1 : Int32) (v2 : Int32) (v3 : Int32) (v4 : Int32) (v5 : Int32) (v100 : Int32) (H : Heap) (locs : List Loc) (ls : Array Slot), z_S 1 G ad σ (z_A 1 ad s.heap.size) s.heap H locs → lv_has ls 7 [(0, .ref (ad 8 0)), (1, .int v1), (2, .int v2), (3, .int v3), (4, .int v4), (5, .int v5)] → f_X8_knownBest_76 k19 σ v1 v2 v3 v4 v5 v100 = some res → W p l e { frames := 3, cells := 0, slots := 0, locals := 66 } s m args below meth c H locs 0 0 (MQ below (va_Qi (S := Unit) (fun r1 _ => r1 = res.1) (fun _ t => z_W 1 G ad res.2 t.heap) (z_A 1 ad s.heap.size)) args s 0 0 (z_A 1 ad s.heap.size)) (F0 m 76 ls [.int v100]) := by
  intro σ v1 v2 v3 v4 v5 v100 H locs ls S hl  hf
  unfold f_X8_knownBest_76 at hf
  refine lv_istore (lv' := [(6, .int v100), (0, .ref (ad 8 0)), (1, .int v1), (2, .int v2), (3, .int v3), (4, .int v4), (5, .int v5)]) C.1 C.2.1 dX8_knownBest_76 hl (by decide) rfl (fun ls hl => ?_)
  exact w_X8_knownBest_78 C k19 hk19 _ v1 v2 v3 v4 v5 v100 _ _ _ S (lv_sub hl [1, 2, 3, 4, 5, 6, 0] rfl) hf
set_option maxHeartbeats 4000000 in
set_option maxRecDepth 100000 in
theorem w_X8_knownBest_19 {p : Program} {l : Launch} {e : Env} {s : State} {m : MethodId} {args : Array Value} {below : List Frame} {meth : Method} {c : Code} {G : Gx} {ad : Ad} {res : Int32 × Sg} (C : Cx p s m args meth c yX8_knownBest.cls cX8_knownBest 7 (Option.some FieldType.int) G)  : ∀ n : Nat, ∀ (σ : Sg) (v1 : Int32) (v2 : Int32) (v3 : Int32) (v4 : Int32) (v5 : Int32) (H : Heap) (locs : List Loc) (ls : Array Slot), z_S 1 G ad σ (z_A 1 ad s.heap.size) s.heap H locs → lv_has ls 7 [(0, .ref (ad 8 0)), (1, .int v1), (2, .int v2), (3, .int v3), (4, .int v4), (5, .int v5)] → f_X8_knownBest_19  n σ v1 v2 v3 v4 v5 = some res → W p l e { frames := 3, cells := 0, slots := 0, locals := 66 } s m args below meth c H locs 0 0 (MQ below (va_Qi (S := Unit) (fun r1 _ => r1 = res.1) (fun _ t => z_W 1 G ad res.2 t.heap) (z_A 1 ad s.heap.size)) args s 0 0 (z_A 1 ad s.heap.size)) (F0 m 19 ls []) := by
  intro n
  induction n with
  | zero => intro σ v1 v2 v3 v4 v5 H locs ls S hl  hf; cases hf
  | succ n ih =>
    intro σ v1 v2 v3 v4 v5 H locs ls S hl  hf
    rw [f_X8_knownBest_19_s] at hf
    refine lv_iload C.1 C.2.1 dX8_knownBest_19 (lv_at hl 5 rfl) ?_
    refine lv_aload_n C.1 C.2.1 dX8_knownBest_21 rfl (lv_at hl 0 rfl) ?_
    refine z_getR C S 8 0 rfl (by decide) cf_8 0 (by decide) _ (gr_8_0 G ad 0) tw_6_118 dX8_knownBest_22 ?_
    refine lv_iconst (v := 1) C.1 C.2.1 dX8_knownBest_25 (by decide) ?_
    refine z_ialdL C S 30 0 rfl (by decide) 2111 (fun _ => rfl) 1 (by decide) (by decide) (by decide) dX8_knownBest_26 ?_
    refine lv_icmp_ge (tgt := 112) C.1 C.2.1 dX8_knownBest_27 (by decide) (fun c_27 => ?_) (fun c_27 => ?_)
    · rw [if_pos c_27] at hf
      exact w_X8_knownBest_112 C _ v3 _ _ _ S (lv_sub hl [3] rfl) hf
    · rw [if_neg c_27] at hf
      refine lv_aload_n C.1 C.2.1 dX8_knownBest_30 rfl (lv_at hl 0 rfl) ?_
      refine z_getR C S 8 0 rfl (by decide) cf_8 0 (by decide) _ (gr_8_0 G ad 0) tw_6_118 dX8_knownBest_31 ?_
      refine lv_iload_n C.1 C.2.1 dX8_knownBest_34 rfl (lv_at hl 1 rfl) ?_
      refine lv_iload_n C.1 C.2.1 dX8_knownBest_35 rfl (lv_at hl 2 rfl) ?_
      refine lv_iload C.1 C.2.1 dX8_knownBest_36 (lv_at hl 5 rfl) ?_
      obtain ⟨r2, σ1, q_38, hf⟩ := bib hf
      refine z_callSI C S [.int v1, .int v2, .int v5] (m_X8_notedAt l G ad σ v1 v2 v5 r2 σ1 q_38 _) kv_X8_notedAt tw_7_31 ⟨Nat.le_of_ble_eq_true rfl, Nat.le_of_ble_eq_true rfl⟩ rfl rfl (Nat.le_of_ble_eq_true rfl) hl.1 ⟨Nat.le_of_ble_eq_true rfl, Nat.le_of_ble_eq_true rfl⟩ dX8_knownBest_38 (fun H locs S => ?_)
      obtain ⟨g_41, hf⟩ := gd hf
      refine z_iald C S 30 0 rfl (by decide) 2111 (fun _ => rfl) g_41 dX8_knownBest_41 ?_
      refine lv_istore (lv' := [(6, .int (σ1 30 0 (r2).toNatClampNeg)), (0, .ref (ad 8 0)), (1, .int v1), (2, .int v2), (3, .int v3), (4, .int v4), (5, .int v5)]) C.1 C.2.1 dX8_knownBest_42 hl (by decide) rfl (fun ls hl => ?_)
      refine lv_iload C.1 C.2.1 dX8_knownBest_44 (lv_at hl 6 rfl) ?_
      refine lv_iload_n C.1 C.2.1 dX8_knownBest_46 rfl (lv_at hl 2 rfl) ?_
      refine lv_icmp_ne (tgt := 78) C.1 C.2.1 dX8_knownBest_47 (by decide) (fun c_47 => ?_) (fun c_47 => ?_)
      · rw [if_neg c_47] at hf
        exact w_X8_knownBest_78 C (f_X8_knownBest_19 n) ih _ v1 v2 v3 v4 v5 (σ1 30 0 (r2).toNatClampNeg) _ _ _ S (lv_sub hl [1, 2, 3, 4, 5, 6, 0] rfl) hf
      · rw [if_pos c_47] at hf
        refine lv_aload_n C.1 C.2.1 dX8_knownBest_50 rfl (lv_at hl 1 rfl) ?_
        refine lv_iload_n C.1 C.2.1 dX8_knownBest_51 rfl (lv_at hl 2 rfl) ?_
        refine lv_iload_n C.1 C.2.1 dX8_knownBest_52 rfl (lv_at hl 3 rfl) ?_
        obtain ⟨r4, σ3, q_53, hf⟩ := bib hf
        refine z_callI C S 8 0 rfl (by decide) cf_8 ⟨_, rfl⟩ [.int v1, .int v2] (m_X8_knowsOwn l G ad σ1 v1 v2 r4 σ3 q_53 _) kv_X8_knowsOwn tw_7_123 ⟨Nat.le_of_ble_eq_true rfl, Nat.le_of_ble_eq_true rfl⟩ rfl rfl (Nat.le_of_ble_eq_true rfl) hl.1 ⟨Nat.le_of_ble_eq_true rfl, Nat.le_of_ble_eq_true rfl⟩ dX8_knownBest_53 (fun H locs S => ?_)
        refine lv_if_eq (tgt := 75) C.1 C.2.1 dX8_knownBest_56 (by decide) (fun c_56 => ?_) (fun c_56 => ?_)
        · rw [if_pos c_56] at hf
          refine lv_iconst (v := (-1)) C.1 C.2.1 dX8_knownBest_75 (by decide) ?_
          exact w_X8_knownBest_76 C (f_X8_knownBest_19 n) ih _ v1 v2 v3 v4 v5 (-1) _ _ _ S (lv_sub hl [1, 2, 3, 4, 5, 6] rfl) hf
        · rw [if_neg c_56] at hf
          refine lv_aload_n C.1 C.2.1 dX8_knownBest_59 rfl (lv_at hl 1 rfl) ?_
          refine z_getR C S 8 0 rfl (by decide) cf_8 0 (by decide) _ (gr_8_0 G ad 0) tw_6_118 dX8_knownBest_60 ?_
          refine lv_sipush (v := 415) C.1 C.2.1 dX8_knownBest_63 (by decide) ?_
          refine lv_iload_n C.1 C.2.1 dX8_knownBest_66 rfl (lv_at hl 2 rfl) ?_
          refine lv_iload_n C.1 C.2.1 dX8_knownBest_67 rfl (lv_at hl 3 rfl) ?_
          obtain ⟨r6, σ5, q_68, hf⟩ := bib hf
          refine z_callSI C S [.int 415, .int v1, .int v2] (m_X8_of l G ad σ3 415 v1 v2 r6 σ5 q_68 _) kv_X8_of tw_7_76 ⟨Nat.le_of_ble_eq_true rfl, Nat.le_of_ble_eq_true rfl⟩ rfl rfl (Nat.le_of_ble_eq_true rfl) hl.1 ⟨Nat.le_of_ble_eq_true rfl, Nat.le_of_ble_eq_true rfl⟩ dX8_knownBest_68 (fun H locs S => ?_)
          obtain ⟨g_71, hf⟩ := gd hf
          refine z_iald C S 30 0 rfl (by decide) 2111 (fun _ => rfl) g_71 dX8_knownBest_71 ?_
          refine lv_goto (tgt := 76) C.1 C.2.1 dX8_knownBest_72 (by decide) ?_
          exact w_X8_knownBest_76 C (f_X8_knownBest_19 n) ih _ v1 v2 v3 v4 v5 (σ5 30 0 (r6).toNatClampNeg) _ _ _ S (lv_sub hl [1, 2, 3, 4, 5, 6] rfl) hf
set_option maxHeartbeats 4000000 in
set_option maxRecDepth 100000 in
theorem w_X8_knownBest_0 {p : Program} {l : Launch} {e : Env} {s : State} {m : MethodId} {args : Array Value} {below : List Frame} {meth : Method} {c : Code} {G : Gx} {ad : Ad} {res : Int32 × Sg} (C : Cx p s m args meth c yX8_knownBest.cls cX8_knownBest 7 (Option.some FieldType.int) G)  : ∀ (σ : Sg) (v1 : Int32) (v2 : Int32) (H : Heap) (locs : List Loc) (ls : Array Slot), z_S 1 G ad σ (z_A 1 ad s.heap.size) s.heap H locs → lv_has ls 7 [(0, .ref (ad 8 0)), (1, .int v1), (2, .int v2)] → f_X8_knownBest  σ v1 v2 = some res → W p l e { frames := 3, cells := 0, slots := 0, locals := 66 } s m args below meth c H locs 0 0 (MQ below (va_Qi (S := Unit) (fun r1 _ => r1 = res.1) (fun _ t => z_W 1 G ad res.2 t.heap) (z_A 1 ad s.heap.size)) args s 0 0 (z_A 1 ad s.heap.size)) (F0 m 0 ls []) := by
  intro σ v1 v2 H locs ls S hl  hf
  unfold f_X8_knownBest at hf
  refine lv_aload_n C.1 C.2.1 dX8_knownBest_0 rfl (lv_at hl 0 rfl) ?_
  refine lv_iload_n C.1 C.2.1 dX8_knownBest_1 rfl (lv_at hl 1 rfl) ?_
  refine lv_iload_n C.1 C.2.1 dX8_knownBest_2 rfl (lv_at hl 2 rfl) ?_
  obtain ⟨r2, σ1, q_3, hf⟩ := bib hf
  refine z_callI C S 8 0 rfl (by decide) cf_8 ⟨_, rfl⟩ [.int v1, .int v2] (m_X8_noPair l G ad σ v1 v2 r2 σ1 q_3 _) kv_X8_noPair tw_7_111 ⟨Nat.le_of_ble_eq_true rfl, Nat.le_of_ble_eq_true rfl⟩ rfl rfl (Nat.le_of_ble_eq_true rfl) hl.1 ⟨Nat.le_of_ble_eq_true rfl, Nat.le_of_ble_eq_true rfl⟩ dX8_knownBest_3 (fun H locs S => ?_)
  refine lv_if_eq (tgt := 11) C.1 C.2.1 dX8_knownBest_6 (by decide) (fun c_6 => ?_) (fun c_6 => ?_)
  · rw [if_pos c_6] at hf
    refine lv_iconst (v := (-1)) C.1 C.2.1 dX8_knownBest_11 (by decide) ?_
    refine lv_istore_n (lv' := [(3, .int (-1)), (0, .ref (ad 8 0)), (1, .int v1), (2, .int v2)]) C.1 C.2.1 dX8_knownBest_12 rfl hl (by decide) rfl (fun ls hl => ?_)
    refine lv_iconst (v := 0) C.1 C.2.1 dX8_knownBest_13 (by decide) ?_
    refine lv_istore (lv' := [(4, .int 0), (3, .int (-1)), (0, .ref (ad 8 0)), (1, .int v1), (2, .int v2)]) C.1 C.2.1 dX8_knownBest_14 hl (by decide) rfl (fun ls hl => ?_)
    refine lv_iconst (v := 0) C.1 C.2.1 dX8_knownBest_16 (by decide) ?_
    refine lv_istore (lv' := [(5, .int 0), (4, .int 0), (3, .int (-1)), (0, .ref (ad 8 0)), (1, .int v1), (2, .int v2)]) C.1 C.2.1 dX8_knownBest_17 hl (by decide) rfl (fun ls hl => ?_)
    exact w_X8_knownBest_19 C FU _ v1 v2 (-1) 0 0 _ _ _ S (lv_sub hl [3, 4, 5, 2, 1, 0] rfl) hf
  · rw [if_neg c_6] at hf
    refine lv_iconst (v := 0) C.1 C.2.1 dX8_knownBest_9 (by decide) ?_
    exact z_iret C S hf dX8_knownBest_10
theorem kv_X8_knownBest : KV yX8_knownBest cX8_knownBest 7 (Option.some FieldType.int) 2 := ⟨tw_8_124, tw_8_122, tw_8_123, tw_1_10, by decide, by decide, by decide +kernel⟩
theorem m_X8_knownBest (l : Launch) (G : Gx) (ad : Ad) (σ : Sg) (v1 : Int32) (v2 : Int32) (r : Int32) (σ' : Sg)  (hf : f_X8_knownBest σ v1 v2 = some (r, σ')) (sz : Nat) : z_MI l yX8_knownBest cX8_knownBest 7 (Option.some FieldType.int) 3 66 1 G ad σ sz [.ref (ad 8 0), .int v1, .int v2] r σ' := by
  refine z_begin (by decide +kernel) (Nat.le_of_ble_eq_true rfl) [(0, .ref (ad 8 0)), (1, .int v1), (2, .int v2)] rfl (fun p e s m args below meth c ls C hz S hl => ?_)
  subst hz
  exact w_X8_knownBest_0 (res := (r, σ')) C σ v1 v2 _ _ _ S hl  hf

theorem dX8_cheapest_0 : decode cX8_cheapest 0 = .ok (.aload_n 0, 1) := by decide +kernel
theorem dX8_cheapest_1 : decode cX8_cheapest 1 = .ok (.iconst 0, 1) := by decide +kernel
theorem dX8_cheapest_2 : decode cX8_cheapest 2 = .ok (.putfield 48, 3) := by decide +kernel
theorem dX8_cheapest_5 : decode cX8_cheapest 5 = .ok (.aload_n 0, 1) := by decide +kernel
theorem dX8_cheapest_6 : decode cX8_cheapest 6 = .ok (.iload_n 1, 1) := by decide +kernel
theorem dX8_cheapest_7 : decode cX8_cheapest 7 = .ok (.iconst 0, 1) := by decide +kernel
theorem dX8_cheapest_8 : decode cX8_cheapest 8 = .ok (.aload_n 0, 1) := by decide +kernel
theorem dX8_cheapest_9 : decode cX8_cheapest 9 = .ok (.getfield 7, 3) := by decide +kernel
theorem dX8_cheapest_12 : decode cX8_cheapest 12 = .ok (.iconst 0, 1) := by decide +kernel
theorem dX8_cheapest_13 : decode cX8_cheapest 13 = .ok (.iaload, 1) := by decide +kernel
theorem dX8_cheapest_14 : decode cX8_cheapest 14 = .ok (.iconst 1, 1) := by decide +kernel
theorem dX8_cheapest_15 : decode cX8_cheapest 15 = .ok (.isub, 1) := by decide +kernel
theorem dX8_cheapest_16 : decode cX8_cheapest 16 = .ok (.invokestatic 165, 3) := by decide +kernel
theorem dX8_cheapest_19 : decode cX8_cheapest 19 = .ok (.ifCond .ne 7, 3) := by decide +kernel
theorem dX8_cheapest_22 : decode cX8_cheapest 22 = .ok (.iconst 1, 1) := by decide +kernel
theorem dX8_cheapest_23 : decode cX8_cheapest 23 = .ok (.goto 4, 3) := by decide +kernel
theorem dX8_cheapest_26 : decode cX8_cheapest 26 = .ok (.iconst 0, 1) := by decide +kernel
theorem dX8_cheapest_27 : decode cX8_cheapest 27 = .ok (.iconst 1, 1) := by decide +kernel
theorem dX8_cheapest_28 : decode cX8_cheapest 28 = .ok (.invokevirtual 267, 3) := by decide +kernel
theorem dX8_cheapest_31 : decode cX8_cheapest 31 = .ok (.ifCond .eq 5, 3) := by decide +kernel
theorem dX8_cheapest_34 : decode cX8_cheapest 34 = .ok (.iconst 0, 1) := by decide +kernel
theorem dX8_cheapest_35 : decode cX8_cheapest 35 = .ok (.ireturn, 1) := by decide +kernel
theorem dX8_cheapest_36 : decode cX8_cheapest 36 = .ok (.iconst (-1), 1) := by decide +kernel
theorem dX8_cheapest_37 : decode cX8_cheapest 37 = .ok (.istore_n 2, 1) := by decide +kernel
theorem dX8_cheapest_38 : decode cX8_cheapest 38 = .ok (.iconst 0, 1) := by decide +kernel
theorem dX8_cheapest_39 : decode cX8_cheapest 39 = .ok (.istore_n 3, 1) := by decide +kernel
theorem dX8_cheapest_40 : decode cX8_cheapest 40 = .ok (.iload_n 3, 1) := by decide +kernel
theorem dX8_cheapest_41 : decode cX8_cheapest 41 = .ok (.aload_n 0, 1) := by decide +kernel
theorem dX8_cheapest_42 : decode cX8_cheapest 42 = .ok (.getfield 7, 3) := by decide +kernel
theorem dX8_cheapest_45 : decode cX8_cheapest 45 = .ok (.iconst 1, 1) := by decide +kernel
theorem dX8_cheapest_46 : decode cX8_cheapest 46 = .ok (.iaload, 1) := by decide +kernel
theorem dX8_cheapest_47 : decode cX8_cheapest 47 = .ok (.if_icmp .ge 47, 3) := by decide +kernel
theorem dX8_cheapest_50 : decode cX8_cheapest 50 = .ok (.aload_n 0, 1) := by decide +kernel
theorem dX8_cheapest_51 : decode cX8_cheapest 51 = .ok (.getfield 7, 3) := by decide +kernel
theorem dX8_cheapest_54 : decode cX8_cheapest 54 = .ok (.bipush 35, 2) := by decide +kernel
theorem dX8_cheapest_56 : decode cX8_cheapest 56 = .ok (.iload_n 3, 1) := by decide +kernel
theorem dX8_cheapest_57 : decode cX8_cheapest 57 = .ok (.iadd, 1) := by decide +kernel
theorem dX8_cheapest_58 : decode cX8_cheapest 58 = .ok (.iaload, 1) := by decide +kernel
theorem dX8_cheapest_59 : decode cX8_cheapest 59 = .ok (.iconst 1, 1) := by decide +kernel
theorem dX8_cheapest_60 : decode cX8_cheapest 60 = .ok (.if_icmp .ne 6, 3) := by decide +kernel
theorem dX8_cheapest_63 : decode cX8_cheapest 63 = .ok (.goto 25, 3) := by decide +kernel
theorem dX8_cheapest_66 : decode cX8_cheapest 66 = .ok (.iload_n 2, 1) := by decide +kernel
theorem dX8_cheapest_67 : decode cX8_cheapest 67 = .ok (.iconst (-1), 1) := by decide +kernel
theorem dX8_cheapest_68 : decode cX8_cheapest 68 = .ok (.if_icmp .eq 18, 3) := by decide +kernel
theorem dX8_cheapest_71 : decode cX8_cheapest 71 = .ok (.aload_n 0, 1) := by decide +kernel
theorem dX8_cheapest_72 : decode cX8_cheapest 72 = .ok (.iload_n 3, 1) := by decide +kernel
theorem dX8_cheapest_73 : decode cX8_cheapest 73 = .ok (.iload_n 1, 1) := by decide +kernel
theorem dX8_cheapest_74 : decode cX8_cheapest 74 = .ok (.invokevirtual 99, 3) := by decide +kernel
theorem dX8_cheapest_77 : decode cX8_cheapest 77 = .ok (.aload_n 0, 1) := by decide +kernel
theorem dX8_cheapest_78 : decode cX8_cheapest 78 = .ok (.iload_n 2, 1) := by decide +kernel
theorem dX8_cheapest_79 : decode cX8_cheapest 79 = .ok (.iload_n 1, 1) := by decide +kernel
theorem dX8_cheapest_80 : decode cX8_cheapest 80 = .ok (.invokevirtual 99, 3) := by decide +kernel
theorem dX8_cheapest_83 : decode cX8_cheapest 83 = .ok (.if_icmp .ge 5, 3) := by decide +kernel
theorem dX8_cheapest_86 : decode cX8_cheapest 86 = .ok (.iload_n 3, 1) := by decide +kernel
theorem dX8_cheapest_87 : decode cX8_cheapest 87 = .ok (.istore_n 2, 1) := by decide +kernel
theorem dX8_cheapest_88 : decode cX8_cheapest 88 = .ok (.iinc 3 1, 3) := by decide +kernel
theorem dX8_cheapest_91 : decode cX8_cheapest 91 = .ok (.goto (-51), 3) := by decide +kernel
theorem dX8_cheapest_94 : decode cX8_cheapest 94 = .ok (.iload_n 2, 1) := by decide +kernel
theorem dX8_cheapest_95 : decode cX8_cheapest 95 = .ok (.ireturn, 1) := by decide +kernel
/-! BusLiftsModel.cheapest(I)I -/
noncomputable def f_X8_cheapest_94  (σ : Sg) (v2 : Int32) : Option (Int32 × Sg) := some (v2, σ)
noncomputable def f_X8_cheapest_88 (k40 : Sg → Int32 → Int32 → Int32 → Option (Int32 × Sg)) (σ : Sg) (v1 : Int32) (v2 : Int32) (v3 : Int32) : Option (Int32 × Sg) := k40 σ v1 v2 (v3 + 1)
noncomputable def f_X8_cheapest_86 (k40 : Sg → Int32 → Int32 → Int32 → Option (Int32 × Sg)) (σ : Sg) (v1 : Int32) (v3 : Int32) : Option (Int32 × Sg) := f_X8_cheapest_88 k40 σ v1 v3 v3
noncomputable def f_X8_cheapest_40  : Nat → Sg → Int32 → Int32 → Int32 → Option (Int32 × Sg)
  | 0, _, _, _, _ => none
  | n + 1, σ, v1, v2, v3 => if (σ 30 0 1) ≤ v3 then (f_X8_cheapest_94 σ v2) else (if (35 + v3) < 0 ∨ 2111 ≤ ((35 + v3)).toNatClampNeg then none else (if (σ 30 0 ((35 + v3)).toNatClampNeg) = 1 then (f_X8_cheapest_88 (f_X8_cheapest_40 n) σ v1 v2 v3) else (if v2 = (-1) then (f_X8_cheapest_86 (f_X8_cheapest_40 n) σ v1 v3) else (bi (f_X8_costFrom σ v3 v1) fun r2 σ1 => (bi (f_X8_costFrom σ1 v2 v1) fun r4 σ3 => (if r4 ≤ r2 then (f_X8_cheapest_88 (f_X8_cheapest_40 n) σ3 v1 v2 v3) else (f_X8_cheapest_86 (f_X8_cheapest_40 n) σ3 v1 v3)))))))
theorem f_X8_cheapest_40_s  (n : Nat) (σ : Sg) (v1 : Int32) (v2 : Int32) (v3 : Int32) : f_X8_cheapest_40  (n + 1) σ v1 v2 v3 = (if (σ 30 0 1) ≤ v3 then (f_X8_cheapest_94 σ v2) else (if (35 + v3) < 0 ∨ 2111 ≤ ((35 + v3)).toNatClampNeg then none else (if (σ 30 0 ((35 + v3)).toNatClampNeg) = 1 then (f_X8_cheapest_88 (f_X8_cheapest_40 n) σ v1 v2 v3) else (if v2 = (-1) then (f_X8_cheapest_86 (f_X8_cheapest_40 n) σ v1 v3) else (bi (f_X8_costFrom σ v3 v1) fun r2 σ1 => (bi (f_X8_costFrom σ1 v2 v1) fun r4 σ3 => (if r4 ≤ r2 then (f_X8_cheapest_88 (f_X8_cheapest_40 n) σ3 v1 v2 v3) else (f_X8_cheapest_86 (f_X8_cheapest_40 n) σ3 v1 v3)))))))) := rfl
noncomputable def f_X8_cheapest_27  (σ : Sg) (v1 : Int32) (v101 : Int32) : Option (Int32 × Sg) := bi (f_X8_fails σ v101 1) fun r2 σ1 => (if r2 = 0 then (f_X8_cheapest_40 FU σ1 v1 (-1) 0) else (some (0, σ1)))
noncomputable def f_X8_cheapest  (σ : Sg) (v1 : Int32) : Option (Int32 × Sg) := st (sup σ 8 0 8 0) fun σ1 => (bi (f_X8_inRange σ1 v1 0 ((σ1 30 0 0) - 1)) fun r3 σ2 => (if r3 = 0 then (f_X8_cheapest_27 σ2 v1 1) else (f_X8_cheapest_27 σ2 v1 0)))
set_option maxHeartbeats 4000000 in
set_option maxRecDepth 100000 in
theorem w_X8_cheapest_94 {p : Program} {l : Launch} {e : Env} {s : State} {m : MethodId} {args : Array Value} {below : List Frame} {meth : Method} {c : Code} {G : Gx} {ad : Ad} {res : Int32 × Sg} (C : Cx p s m args meth c yX8_cheapest.cls cX8_cheapest 4 (Option.some FieldType.int) G)  : ∀ (σ : Sg) (v2 : Int32) (H : Heap) (locs : List Loc) (ls : Array Slot), z_S 1 G ad σ (z_A 1 ad s.heap.size) s.heap H locs → lv_has ls 4 [(2, .int v2)] → f_X8_cheapest_94  σ v2 = some res → W p l e { frames := 3, cells := 0, slots := 0, locals := 67 } s m args below meth c H locs 0 0 (MQ below (va_Qi (S := Unit) (fun r1 _ => r1 = res.1) (fun _ t => z_W 1 G ad res.2 t.heap) (z_A 1 ad s.heap.size)) args s 0 0 (z_A 1 ad s.heap.size)) (F0 m 94 ls []) := by
  intro σ v2 H locs ls S hl  hf
  unfold f_X8_cheapest_94 at hf
  refine lv_iload_n C.1 C.2.1 dX8_cheapest_94 rfl (lv_at hl 0 rfl) ?_
  exact z_iret C S hf dX8_cheapest_95
set_option maxHeartbeats 4000000 in
set_option maxRecDepth 100000 in
theorem w_X8_cheapest_88 {p : Program} {l : Launch} {e : Env} {s : State} {m : MethodId} {args : Array Value} {below : List Frame} {meth : Method} {c : Code} {G : Gx} {ad : Ad} {res : Int32 × Sg} (C : Cx p s m args meth c yX8_cheapest.cls cX8_cheapest 4 (Option.some FieldType.int) G) (k40 : Sg → Int32 → Int32 → Int32 → Option (Int32 × Sg)) (hk40 : ∀ (σ : Sg) (v1 : Int32) (v2 : Int32) (v3 : Int32) (H : Heap) (locs : List Loc) (ls : Array Slot), z_S 1 G ad σ (z_A 1 ad s.heap.size) s.heap H locs → lv_has ls 4 [(0, .ref (ad 8 0)), (1, .int v1), (2, .int v2), (3, .int v3)] → k40 σ v1 v2 v3 = some res → W p l e { frames := 3, cells := 0, slots := 0, locals := 67 } s m args below meth c H locs 0 0 (MQ below (va_Qi (S := Unit) (fun r1 _ => r1 = res.1) (fun _ t => z_W 1 G ad res.2 t.heap) (z_A 1 ad s.heap.size)) args s 0 0 (z_A 1 ad s.heap.size)) (F0 m 40 ls [])) : ∀ (σ : Sg) (v1 : Int32) (v2 : Int32) (v3 : Int32) (H : Heap) (locs : List Loc) (ls : Array Slot), z_S 1 G ad σ (z_A 1 ad s.heap.size) s.heap H locs → lv_has ls 4 [(0, .ref (ad 8 0)), (1, .int v1), (2, .int v2), (3, .int v3)] → f_X8_cheapest_88 k40 σ v1 v2 v3 = some res → W p l e { frames := 3, cells := 0, slots := 0, locals := 67 } s m args below meth c H locs 0 0 (MQ below (va_Qi (S := Unit) (fun r1 _ => r1 = res.1) (fun _ t => z_W 1 G ad res.2 t.heap) (z_A 1 ad s.heap.size)) args s 0 0 (z_A 1 ad s.heap.size)) (F0 m 88 ls []) := by
  intro σ v1 v2 v3 H locs ls S hl  hf
  unfold f_X8_cheapest_88 at hf
  refine lv_iinc (v := (v3 + 1)) (lv' := [(3, .int (v3 + 1)), (0, .ref (ad 8 0)), (1, .int v1), (2, .int v2)]) C.1 C.2.1 dX8_cheapest_88 hl (k := 3) rfl rfl (by decide) rfl (fun ls hl => ?_)
  refine lv_goto (tgt := 40) C.1 C.2.1 dX8_cheapest_91 (by decide) ?_
  exact hk40 _ v1 v2 (v3 + 1) _ _ _ S (lv_sub hl [1, 2, 3, 0] rfl)  hf
set_option maxHeartbeats 4000000 in
set_option maxRecDepth 100000 in
theorem w_X8_cheapest_86 {p : Program} {l : Launch} {e : Env} {s : State} {m : MethodId} {args : Array Value} {below : List Frame} {meth : Method} {c : Code} {G : Gx} {ad : Ad} {res : Int32 × Sg} (C : Cx p s m args meth c yX8_cheapest.cls cX8_cheapest 4 (Option.some FieldType.int) G) (k40 : Sg → Int32 → Int32 → Int32 → Option (Int32 × Sg)) (hk40 : ∀ (σ : Sg) (v1 : Int32) (v2 : Int32) (v3 : Int32) (H : Heap) (locs : List Loc) (ls : Array Slot), z_S 1 G ad σ (z_A 1 ad s.heap.size) s.heap H locs → lv_has ls 4 [(0, .ref (ad 8 0)), (1, .int v1), (2, .int v2), (3, .int v3)] → k40 σ v1 v2 v3 = some res → W p l e { frames := 3, cells := 0, slots := 0, locals := 67 } s m args below meth c H locs 0 0 (MQ below (va_Qi (S := Unit) (fun r1 _ => r1 = res.1) (fun _ t => z_W 1 G ad res.2 t.heap) (z_A 1 ad s.heap.size)) args s 0 0 (z_A 1 ad s.heap.size)) (F0 m 40 ls [])) : ∀ (σ : Sg) (v1 : Int32) (v3 : Int32) (H : Heap) (locs : List Loc) (ls : Array Slot), z_S 1 G ad σ (z_A 1 ad s.heap.size) s.heap H locs → lv_has ls 4 [(0, .ref (ad 8 0)), (1, .int v1), (3, .int v3)] → f_X8_cheapest_86 k40 σ v1 v3 = some res → W p l e { frames := 3, cells := 0, slots := 0, locals := 67 } s m args below meth c H locs 0 0 (MQ below (va_Qi (S := Unit) (fun r1 _ => r1 = res.1) (fun _ t => z_W 1 G ad res.2 t.heap) (z_A 1 ad s.heap.size)) args s 0 0 (z_A 1 ad s.heap.size)) (F0 m 86 ls []) := by
  intro σ v1 v3 H locs ls S hl  hf
  unfold f_X8_cheapest_86 at hf
  refine lv_iload_n C.1 C.2.1 dX8_cheapest_86 rfl (lv_at hl 2 rfl) ?_
  refine lv_istore_n (lv' := [(2, .int v3), (0, .ref (ad 8 0)), (1, .int v1), (3, .int v3)]) C.1 C.2.1 dX8_cheapest_87 rfl hl (by decide) rfl (fun ls hl => ?_)
  exact w_X8_cheapest_88 C k40 hk40 _ v1 v3 v3 _ _ _ S (lv_sub hl [1, 2, 0, 3] rfl) hf
set_option maxHeartbeats 4000000 in
set_option maxRecDepth 100000 in
theorem w_X8_cheapest_40 {p : Program} {l : Launch} {e : Env} {s : State} {m : MethodId} {args : Array Value} {below : List Frame} {meth : Method} {c : Code} {G : Gx} {ad : Ad} {res : Int32 × Sg} (C : Cx p s m args meth c yX8_cheapest.cls cX8_cheapest 4 (Option.some FieldType.int) G)  : ∀ n : Nat, ∀ (σ : Sg) (v1 : Int32) (v2 : Int32) (v3 : Int32) (H : Heap) (locs : List Loc) (ls : Array Slot), z_S 1 G ad σ (z_A 1 ad s.heap.size) s.heap H locs → lv_has ls 4 [(0, .ref (ad 8 0)), (1, .int v1), (2, .int v2), (3, .int v3)] → f_X8_cheapest_40  n σ v1 v2 v3 = some res → W p l e { frames := 3, cells := 0, slots := 0, locals := 67 } s m args below meth c H locs 0 0 (MQ below (va_Qi (S := Unit) (fun r1 _ => r1 = res.1) (fun _ t => z_W 1 G ad res.2 t.heap) (z_A 1 ad s.heap.size)) args s 0 0 (z_A 1 ad s.heap.size)) (F0 m 40 ls []) := by
  intro n
  induction n with
  | zero => intro σ v1 v2 v3 H locs ls S hl  hf; cases hf
  | succ n ih =>
    intro σ v1 v2 v3 H locs ls S hl  hf
    rw [f_X8_cheapest_40_s] at hf
    refine lv_iload_n C.1 C.2.1 dX8_cheapest_40 rfl (lv_at hl 3 rfl) ?_
    refine lv_aload_n C.1 C.2.1 dX8_cheapest_41 rfl (lv_at hl 0 rfl) ?_
    refine z_getR C S 8 0 rfl (by decide) cf_8 0 (by decide) _ (gr_8_0 G ad 0) tw_6_118 dX8_cheapest_42 ?_
    refine lv_iconst (v := 1) C.1 C.2.1 dX8_cheapest_45 (by decide) ?_
    refine z_ialdL C S 30 0 rfl (by decide) 2111 (fun _ => rfl) 1 (by decide) (by decide) (by decide) dX8_cheapest_46 ?_
    refine lv_icmp_ge (tgt := 94) C.1 C.2.1 dX8_cheapest_47 (by decide) (fun c_47 => ?_) (fun c_47 => ?_)
    · rw [if_pos c_47] at hf
      exact w_X8_cheapest_94 C _ v2 _ _ _ S (lv_sub hl [2] rfl) hf
    · rw [if_neg c_47] at hf
      refine lv_aload_n C.1 C.2.1 dX8_cheapest_50 rfl (lv_at hl 0 rfl) ?_
      refine z_getR C S 8 0 rfl (by decide) cf_8 0 (by decide) _ (gr_8_0 G ad 0) tw_6_118 dX8_cheapest_51 ?_
      refine lv_bipush (v := 35) C.1 C.2.1 dX8_cheapest_54 (by decide) ?_
      refine lv_iload_n C.1 C.2.1 dX8_cheapest_56 rfl (lv_at hl 3 rfl) ?_
      refine lv_iadd C.1 C.2.1 dX8_cheapest_57 ?_
      obtain ⟨g_58, hf⟩ := gd hf
      refine z_iald C S 30 0 rfl (by decide) 2111 (fun _ => rfl) g_58 dX8_cheapest_58 ?_
      refine lv_iconst (v := 1) C.1 C.2.1 dX8_cheapest_59 (by decide) ?_
      refine lv_icmp_ne (tgt := 66) C.1 C.2.1 dX8_cheapest_60 (by decide) (fun c_60 => ?_) (fun c_60 => ?_)
      · rw [if_neg c_60] at hf
        refine lv_iload_n C.1 C.2.1 dX8_cheapest_66 rfl (lv_at hl 2 rfl) ?_
        refine lv_iconst (v := (-1)) C.1 C.2.1 dX8_cheapest_67 (by decide) ?_
        refine lv_icmp_eq (tgt := 86) C.1 C.2.1 dX8_cheapest_68 (by decide) (fun c_68 => ?_) (fun c_68 => ?_)
        · rw [if_pos c_68] at hf
          exact w_X8_cheapest_86 C (f_X8_cheapest_40 n) ih _ v1 v3 _ _ _ S (lv_sub hl [0, 1, 3] rfl) hf
        · rw [if_neg c_68] at hf
          refine lv_aload_n C.1 C.2.1 dX8_cheapest_71 rfl (lv_at hl 0 rfl) ?_
          refine lv_iload_n C.1 C.2.1 dX8_cheapest_72 rfl (lv_at hl 3 rfl) ?_
          refine lv_iload_n C.1 C.2.1 dX8_cheapest_73 rfl (lv_at hl 1 rfl) ?_
          obtain ⟨r2, σ1, q_74, hf⟩ := bib hf
          refine z_callI C S 8 0 rfl (by decide) cf_8 ⟨_, rfl⟩ [.int v3, .int v1] (m_X8_costFrom l G ad σ v3 v1 r2 σ1 q_74 _) kv_X8_costFrom tw_7_139 ⟨Nat.le_of_ble_eq_true rfl, Nat.le_of_ble_eq_true rfl⟩ rfl rfl (Nat.le_of_ble_eq_true rfl) hl.1 ⟨Nat.le_of_ble_eq_true rfl, Nat.le_of_ble_eq_true rfl⟩ dX8_cheapest_74 (fun H locs S => ?_)
          refine lv_aload_n C.1 C.2.1 dX8_cheapest_77 rfl (lv_at hl 0 rfl) ?_
          refine lv_iload_n C.1 C.2.1 dX8_cheapest_78 rfl (lv_at hl 2 rfl) ?_
          refine lv_iload_n C.1 C.2.1 dX8_cheapest_79 rfl (lv_at hl 1 rfl) ?_
          obtain ⟨r4, σ3, q_80, hf⟩ := bib hf
          refine z_callI C S 8 0 rfl (by decide) cf_8 ⟨_, rfl⟩ [.int v2, .int v1] (m_X8_costFrom l G ad σ1 v2 v1 r4 σ3 q_80 _) kv_X8_costFrom tw_7_139 ⟨Nat.le_of_ble_eq_true rfl, Nat.le_of_ble_eq_true rfl⟩ rfl rfl (Nat.le_of_ble_eq_true rfl) hl.1 ⟨Nat.le_of_ble_eq_true rfl, Nat.le_of_ble_eq_true rfl⟩ dX8_cheapest_80 (fun H locs S => ?_)
          refine lv_icmp_ge (tgt := 88) C.1 C.2.1 dX8_cheapest_83 (by decide) (fun c_83 => ?_) (fun c_83 => ?_)
          · rw [if_pos c_83] at hf
            exact w_X8_cheapest_88 C (f_X8_cheapest_40 n) ih _ v1 v2 v3 _ _ _ S (lv_sub hl [0, 1, 2, 3] rfl) hf
          · rw [if_neg c_83] at hf
            exact w_X8_cheapest_86 C (f_X8_cheapest_40 n) ih _ v1 v3 _ _ _ S (lv_sub hl [0, 1, 3] rfl) hf
      · rw [if_pos c_60] at hf
        refine lv_goto (tgt := 88) C.1 C.2.1 dX8_cheapest_63 (by decide) ?_
        exact w_X8_cheapest_88 C (f_X8_cheapest_40 n) ih _ v1 v2 v3 _ _ _ S (lv_sub hl [0, 1, 2, 3] rfl) hf
set_option maxHeartbeats 4000000 in
set_option maxRecDepth 100000 in
theorem w_X8_cheapest_27 {p : Program} {l : Launch} {e : Env} {s : State} {m : MethodId} {args : Array Value} {below : List Frame} {meth : Method} {c : Code} {G : Gx} {ad : Ad} {res : Int32 × Sg} (C : Cx p s m args meth c yX8_cheapest.cls cX8_cheapest 4 (Option.some FieldType.int) G)  : ∀ (σ : Sg) (v1 : Int32) (v101 : Int32) (H : Heap) (locs : List Loc) (ls : Array Slot), z_S 1 G ad σ (z_A 1 ad s.heap.size) s.heap H locs → lv_has ls 4 [(0, .ref (ad 8 0)), (1, .int v1)] → f_X8_cheapest_27  σ v1 v101 = some res → W p l e { frames := 3, cells := 0, slots := 0, locals := 67 } s m args below meth c H locs 0 0 (MQ below (va_Qi (S := Unit) (fun r1 _ => r1 = res.1) (fun _ t => z_W 1 G ad res.2 t.heap) (z_A 1 ad s.heap.size)) args s 0 0 (z_A 1 ad s.heap.size)) (F0 m 27 ls [.int v101, .ref (ad 8 0)]) := by
  intro σ v1 v101 H locs ls S hl  hf
  unfold f_X8_cheapest_27 at hf
  refine lv_iconst (v := 1) C.1 C.2.1 dX8_cheapest_27 (by decide) ?_
  obtain ⟨r2, σ1, q_28, hf⟩ := bib hf
  refine z_callI C S 8 0 rfl (by decide) cf_8 ⟨_, rfl⟩ [.int v101, .int 1] (m_X8_fails l G ad σ v101 1 r2 σ1 q_28 _) kv_X8_fails tw_7_56 ⟨Nat.le_of_ble_eq_true rfl, Nat.le_of_ble_eq_true rfl⟩ rfl rfl (Nat.le_of_ble_eq_true rfl) hl.1 ⟨Nat.le_of_ble_eq_true rfl, Nat.le_of_ble_eq_true rfl⟩ dX8_cheapest_28 (fun H locs S => ?_)
  refine lv_if_eq (tgt := 36) C.1 C.2.1 dX8_cheapest_31 (by decide) (fun c_31 => ?_) (fun c_31 => ?_)
  · rw [if_pos c_31] at hf
    refine lv_iconst (v := (-1)) C.1 C.2.1 dX8_cheapest_36 (by decide) ?_
    refine lv_istore_n (lv' := [(2, .int (-1)), (0, .ref (ad 8 0)), (1, .int v1)]) C.1 C.2.1 dX8_cheapest_37 rfl hl (by decide) rfl (fun ls hl => ?_)
    refine lv_iconst (v := 0) C.1 C.2.1 dX8_cheapest_38 (by decide) ?_
    refine lv_istore_n (lv' := [(3, .int 0), (2, .int (-1)), (0, .ref (ad 8 0)), (1, .int v1)]) C.1 C.2.1 dX8_cheapest_39 rfl hl (by decide) rfl (fun ls hl => ?_)
    exact w_X8_cheapest_40 C FU _ v1 (-1) 0 _ _ _ S (lv_sub hl [2, 3, 1, 0] rfl) hf
  · rw [if_neg c_31] at hf
    refine lv_iconst (v := 0) C.1 C.2.1 dX8_cheapest_34 (by decide) ?_
    exact z_iret C S hf dX8_cheapest_35
set_option maxHeartbeats 4000000 in
set_option maxRecDepth 100000 in
theorem w_X8_cheapest_0 {p : Program} {l : Launch} {e : Env} {s : State} {m : MethodId} {args : Array Value} {below : List Frame} {meth : Method} {c : Code} {G : Gx} {ad : Ad} {res : Int32 × Sg} (C : Cx p s m args meth c yX8_cheapest.cls cX8_cheapest 4 (Option.some FieldType.int) G)  : ∀ (σ : Sg) (v1 : Int32) (H : Heap) (locs : List Loc) (ls : Array Slot), z_S 1 G ad σ (z_A 1 ad s.heap.size) s.heap H locs → lv_has ls 4 [(0, .ref (ad 8 0)), (1, .int v1)] → f_X8_cheapest  σ v1 = some res → W p l e { frames := 3, cells := 0, slots := 0, locals := 67 } s m args below meth c H locs 0 0 (MQ below (va_Qi (S := Unit) (fun r1 _ => r1 = res.1) (fun _ t => z_W 1 G ad res.2 t.heap) (z_A 1 ad s.heap.size)) args s 0 0 (z_A 1 ad s.heap.size)) (F0 m 0 ls []) := by
  intro σ v1 H locs ls S hl  hf
  unfold f_X8_cheapest at hf
  refine lv_aload_n C.1 C.2.1 dX8_cheapest_0 rfl (lv_at hl 0 rfl) ?_
  refine lv_iconst (v := 0) C.1 C.2.1 dX8_cheapest_1 (by decide) ?_
  obtain ⟨σ1, e_2, hf⟩ := stb hf
  refine z_putI C S 8 0 rfl (by decide) cf_8 8 (by decide) (pi_8_8 G ad 0) rfl rfl rfl tw_6_126 dX8_cheapest_2 (fun H locs S => ?_)
  rw [← e_2] at S
  refine lv_aload_n C.1 C.2.1 dX8_cheapest_5 rfl (lv_at hl 0 rfl) ?_
  refine lv_iload_n C.1 C.2.1 dX8_cheapest_6 rfl (lv_at hl 1 rfl) ?_
  refine lv_iconst (v := 0) C.1 C.2.1 dX8_cheapest_7 (by decide) ?_
  refine lv_aload_n C.1 C.2.1 dX8_cheapest_8 rfl (lv_at hl 0 rfl) ?_
  refine z_getR C S 8 0 rfl (by decide) cf_8 0 (by decide) _ (gr_8_0 G ad 0) tw_6_118 dX8_cheapest_9 ?_
  refine lv_iconst (v := 0) C.1 C.2.1 dX8_cheapest_12 (by decide) ?_
  refine z_ialdL C S 30 0 rfl (by decide) 2111 (fun _ => rfl) 0 (by decide) (by decide) (by decide) dX8_cheapest_13 ?_
  refine lv_iconst (v := 1) C.1 C.2.1 dX8_cheapest_14 (by decide) ?_
  refine lv_isub C.1 C.2.1 dX8_cheapest_15 ?_
  obtain ⟨r3, σ2, q_16, hf⟩ := bib hf
  refine z_callSI C S [.int v1, .int 0, .int ((σ1 30 0 0) - 1)] (m_X8_inRange l G ad σ1 v1 0 ((σ1 30 0 0) - 1) r3 σ2 q_16 _) kv_X8_inRange tw_6_204 ⟨Nat.le_of_ble_eq_true rfl, Nat.le_of_ble_eq_true rfl⟩ rfl rfl (Nat.le_of_ble_eq_true rfl) hl.1 ⟨Nat.le_of_ble_eq_true rfl, Nat.le_of_ble_eq_true rfl⟩ dX8_cheapest_16 (fun H locs S => ?_)
  refine lv_if_ne (tgt := 26) C.1 C.2.1 dX8_cheapest_19 (by decide) (fun c_19 => ?_) (fun c_19 => ?_)
  · rw [if_neg c_19] at hf
    refine lv_iconst (v := 0) C.1 C.2.1 dX8_cheapest_26 (by decide) ?_
    exact w_X8_cheapest_27 C _ v1 0 _ _ _ S (lv_sub hl [0, 1] rfl) hf
  · rw [if_pos c_19] at hf
    refine lv_iconst (v := 1) C.1 C.2.1 dX8_cheapest_22 (by decide) ?_
    refine lv_goto (tgt := 27) C.1 C.2.1 dX8_cheapest_23 (by decide) ?_
    exact w_X8_cheapest_27 C _ v1 1 _ _ _ S (lv_sub hl [0, 1] rfl) hf
theorem kv_X8_cheapest : KV yX8_cheapest cX8_cheapest 4 (Option.some FieldType.int) 1 := ⟨tw_8_128, tw_8_126, tw_8_127, tw_1_10, by decide, by decide, by decide +kernel⟩
theorem m_X8_cheapest (l : Launch) (G : Gx) (ad : Ad) (σ : Sg) (v1 : Int32) (r : Int32) (σ' : Sg)  (hf : f_X8_cheapest σ v1 = some (r, σ')) (sz : Nat) : z_MI l yX8_cheapest cX8_cheapest 4 (Option.some FieldType.int) 3 67 1 G ad σ sz [.ref (ad 8 0), .int v1] r σ' := by
  refine z_begin (by decide +kernel) (Nat.le_of_ble_eq_true rfl) [(0, .ref (ad 8 0)), (1, .int v1)] rfl (fun p e s m args below meth c ls C hz S hl => ?_)
  subst hz
  exact w_X8_cheapest_0 (res := (r, σ')) C σ v1 _ _ _ S hl  hf

theorem dX8_allRounds_0 : decode cX8_allRounds 0 = .ok (.aload_n 0, 1) := by decide +kernel
theorem dX8_allRounds_1 : decode cX8_allRounds 1 = .ok (.iconst 0, 1) := by decide +kernel
theorem dX8_allRounds_2 : decode cX8_allRounds 2 = .ok (.putfield 48, 3) := by decide +kernel
theorem dX8_allRounds_5 : decode cX8_allRounds 5 = .ok (.iconst 0, 1) := by decide +kernel
theorem dX8_allRounds_6 : decode cX8_allRounds 6 = .ok (.istore_n 1, 1) := by decide +kernel
theorem dX8_allRounds_7 : decode cX8_allRounds 7 = .ok (.iconst 0, 1) := by decide +kernel
theorem dX8_allRounds_8 : decode cX8_allRounds 8 = .ok (.istore_n 2, 1) := by decide +kernel
theorem dX8_allRounds_9 : decode cX8_allRounds 9 = .ok (.iload_n 2, 1) := by decide +kernel
theorem dX8_allRounds_10 : decode cX8_allRounds 10 = .ok (.aload_n 0, 1) := by decide +kernel
theorem dX8_allRounds_11 : decode cX8_allRounds 11 = .ok (.getfield 7, 3) := by decide +kernel
theorem dX8_allRounds_14 : decode cX8_allRounds 14 = .ok (.iconst 2, 1) := by decide +kernel
theorem dX8_allRounds_15 : decode cX8_allRounds 15 = .ok (.iaload, 1) := by decide +kernel
theorem dX8_allRounds_16 : decode cX8_allRounds 16 = .ok (.if_icmp .ge 22, 3) := by decide +kernel
theorem dX8_allRounds_19 : decode cX8_allRounds 19 = .ok (.iload_n 1, 1) := by decide +kernel
theorem dX8_allRounds_20 : decode cX8_allRounds 20 = .ok (.aload_n 0, 1) := by decide +kernel
theorem dX8_allRounds_21 : decode cX8_allRounds 21 = .ok (.getfield 7, 3) := by decide +kernel
theorem dX8_allRounds_24 : decode cX8_allRounds 24 = .ok (.sipush 223, 3) := by decide +kernel
theorem dX8_allRounds_27 : decode cX8_allRounds 27 = .ok (.iload_n 2, 1) := by decide +kernel
theorem dX8_allRounds_28 : decode cX8_allRounds 28 = .ok (.iadd, 1) := by decide +kernel
theorem dX8_allRounds_29 : decode cX8_allRounds 29 = .ok (.iaload, 1) := by decide +kernel
theorem dX8_allRounds_30 : decode cX8_allRounds 30 = .ok (.iadd, 1) := by decide +kernel
theorem dX8_allRounds_31 : decode cX8_allRounds 31 = .ok (.istore_n 1, 1) := by decide +kernel
theorem dX8_allRounds_32 : decode cX8_allRounds 32 = .ok (.iinc 2 1, 3) := by decide +kernel
theorem dX8_allRounds_35 : decode cX8_allRounds 35 = .ok (.goto (-26), 3) := by decide +kernel
theorem dX8_allRounds_38 : decode cX8_allRounds 38 = .ok (.iload_n 1, 1) := by decide +kernel
theorem dX8_allRounds_39 : decode cX8_allRounds 39 = .ok (.ireturn, 1) := by decide +kernel
/-! BusLiftsModel.allRounds()I -/
noncomputable def f_X8_allRounds_38  (σ : Sg) (v1 : Int32) : Option (Int32 × Sg) := some (v1, σ)
noncomputable def f_X8_allRounds_9  : Nat → Sg → Int32 → Int32 → Option (Int32 × Sg)
  | 0, _, _, _ => none
  | n + 1, σ, v1, v2 => if (σ 30 0 2) ≤ v2 then (f_X8_allRounds_38 σ v1) else (if (223 + v2) < 0 ∨ 2111 ≤ ((223 + v2)).toNatClampNeg then none else (f_X8_allRounds_9  n σ (v1 + (σ 30 0 ((223 + v2)).toNatClampNeg)) (v2 + 1)))
theorem f_X8_allRounds_9_s  (n : Nat) (σ : Sg) (v1 : Int32) (v2 : Int32) : f_X8_allRounds_9  (n + 1) σ v1 v2 = (if (σ 30 0 2) ≤ v2 then (f_X8_allRounds_38 σ v1) else (if (223 + v2) < 0 ∨ 2111 ≤ ((223 + v2)).toNatClampNeg then none else (f_X8_allRounds_9  n σ (v1 + (σ 30 0 ((223 + v2)).toNatClampNeg)) (v2 + 1)))) := rfl
noncomputable def f_X8_allRounds  (σ : Sg)  : Option (Int32 × Sg) := st (sup σ 8 0 8 0) fun σ1 => (f_X8_allRounds_9 FU σ1 0 0)
set_option maxHeartbeats 4000000 in
set_option maxRecDepth 100000 in
theorem w_X8_allRounds_38 {p : Program} {l : Launch} {e : Env} {s : State} {m : MethodId} {args : Array Value} {below : List Frame} {meth : Method} {c : Code} {G : Gx} {ad : Ad} {res : Int32 × Sg} (C : Cx p s m args meth c yX8_allRounds.cls cX8_allRounds 3 (Option.some FieldType.int) G)  : ∀ (σ : Sg) (v1 : Int32) (H : Heap) (locs : List Loc) (ls : Array Slot), z_S 1 G ad σ (z_A 1 ad s.heap.size) s.heap H locs → lv_has ls 3 [(1, .int v1)] → f_X8_allRounds_38  σ v1 = some res → W p l e { frames := 0, cells := 0, slots := 0, locals := 0 } s m args below meth c H locs 0 0 (MQ below (va_Qi (S := Unit) (fun r1 _ => r1 = res.1) (fun _ t => z_W 1 G ad res.2 t.heap) (z_A 1 ad s.heap.size)) args s 0 0 (z_A 1 ad s.heap.size)) (F0 m 38 ls []) := by
  intro σ v1 H locs ls S hl  hf
  unfold f_X8_allRounds_38 at hf
  refine lv_iload_n C.1 C.2.1 dX8_allRounds_38 rfl (lv_at hl 0 rfl) ?_
  exact z_iret C S hf dX8_allRounds_39
set_option maxHeartbeats 4000000 in
set_option maxRecDepth 100000 in
theorem w_X8_allRounds_9 {p : Program} {l : Launch} {e : Env} {s : State} {m : MethodId} {args : Array Value} {below : List Frame} {meth : Method} {c : Code} {G : Gx} {ad : Ad} {res : Int32 × Sg} (C : Cx p s m args meth c yX8_allRounds.cls cX8_allRounds 3 (Option.some FieldType.int) G)  : ∀ n : Nat, ∀ (σ : Sg) (v1 : Int32) (v2 : Int32) (H : Heap) (locs : List Loc) (ls : Array Slot), z_S 1 G ad σ (z_A 1 ad s.heap.size) s.heap H locs → lv_has ls 3 [(0, .ref (ad 8 0)), (1, .int v1), (2, .int v2)] → f_X8_allRounds_9  n σ v1 v2 = some res → W p l e { frames := 0, cells := 0, slots := 0, locals := 0 } s m args below meth c H locs 0 0 (MQ below (va_Qi (S := Unit) (fun r1 _ => r1 = res.1) (fun _ t => z_W 1 G ad res.2 t.heap) (z_A 1 ad s.heap.size)) args s 0 0 (z_A 1 ad s.heap.size)) (F0 m 9 ls []) := by
  intro n
  induction n with
  | zero => intro σ v1 v2 H locs ls S hl  hf; cases hf
  | succ n ih =>
    intro σ v1 v2 H locs ls S hl  hf
    rw [f_X8_allRounds_9_s] at hf
    refine lv_iload_n C.1 C.2.1 dX8_allRounds_9 rfl (lv_at hl 2 rfl) ?_
    refine lv_aload_n C.1 C.2.1 dX8_allRounds_10 rfl (lv_at hl 0 rfl) ?_
    refine z_getR C S 8 0 rfl (by decide) cf_8 0 (by decide) _ (gr_8_0 G ad 0) tw_6_118 dX8_allRounds_11 ?_
    refine lv_iconst (v := 2) C.1 C.2.1 dX8_allRounds_14 (by decide) ?_
    refine z_ialdL C S 30 0 rfl (by decide) 2111 (fun _ => rfl) 2 (by decide) (by decide) (by decide) dX8_allRounds_15 ?_
    refine lv_icmp_ge (tgt := 38) C.1 C.2.1 dX8_allRounds_16 (by decide) (fun c_16 => ?_) (fun c_16 => ?_)
    · rw [if_pos c_16] at hf
      exact w_X8_allRounds_38 C _ v1 _ _ _ S (lv_sub hl [1] rfl) hf
    · rw [if_neg c_16] at hf
      refine lv_iload_n C.1 C.2.1 dX8_allRounds_19 rfl (lv_at hl 1 rfl) ?_
      refine lv_aload_n C.1 C.2.1 dX8_allRounds_20 rfl (lv_at hl 0 rfl) ?_
      refine z_getR C S 8 0 rfl (by decide) cf_8 0 (by decide) _ (gr_8_0 G ad 0) tw_6_118 dX8_allRounds_21 ?_
      refine lv_sipush (v := 223) C.1 C.2.1 dX8_allRounds_24 (by decide) ?_
      refine lv_iload_n C.1 C.2.1 dX8_allRounds_27 rfl (lv_at hl 2 rfl) ?_
      refine lv_iadd C.1 C.2.1 dX8_allRounds_28 ?_
      obtain ⟨g_29, hf⟩ := gd hf
      refine z_iald C S 30 0 rfl (by decide) 2111 (fun _ => rfl) g_29 dX8_allRounds_29 ?_
      refine lv_iadd C.1 C.2.1 dX8_allRounds_30 ?_
      refine lv_istore_n (lv' := [(1, .int (v1 + (σ 30 0 ((223 + v2)).toNatClampNeg))), (0, .ref (ad 8 0)), (2, .int v2)]) C.1 C.2.1 dX8_allRounds_31 rfl hl (by decide) rfl (fun ls hl => ?_)
      refine lv_iinc (v := (v2 + 1)) (lv' := [(2, .int (v2 + 1)), (1, .int (v1 + (σ 30 0 ((223 + v2)).toNatClampNeg))), (0, .ref (ad 8 0))]) C.1 C.2.1 dX8_allRounds_32 hl (k := 2) rfl rfl (by decide) rfl (fun ls hl => ?_)
      refine lv_goto (tgt := 9) C.1 C.2.1 dX8_allRounds_35 (by decide) ?_
      exact ih _ (v1 + (σ 30 0 ((223 + v2)).toNatClampNeg)) (v2 + 1) _ _ _ S (lv_sub hl [2, 1, 0] rfl)  hf
set_option maxHeartbeats 4000000 in
set_option maxRecDepth 100000 in
theorem w_X8_allRounds_0 {p : Program} {l : Launch} {e : Env} {s : State} {m : MethodId} {args : Array Value} {below : List Frame} {meth : Method} {c : Code} {G : Gx} {ad : Ad} {res : Int32 × Sg} (C : Cx p s m args meth c yX8_allRounds.cls cX8_allRounds 3 (Option.some FieldType.int) G)  : ∀ (σ : Sg)  (H : Heap) (locs : List Loc) (ls : Array Slot), z_S 1 G ad σ (z_A 1 ad s.heap.size) s.heap H locs → lv_has ls 3 [(0, .ref (ad 8 0))] → f_X8_allRounds  σ  = some res → W p l e { frames := 0, cells := 0, slots := 0, locals := 0 } s m args below meth c H locs 0 0 (MQ below (va_Qi (S := Unit) (fun r1 _ => r1 = res.1) (fun _ t => z_W 1 G ad res.2 t.heap) (z_A 1 ad s.heap.size)) args s 0 0 (z_A 1 ad s.heap.size)) (F0 m 0 ls []) := by
  intro σ  H locs ls S hl  hf
  unfold f_X8_allRounds at hf
  refine lv_aload_n C.1 C.2.1 dX8_allRounds_0 rfl (lv_at hl 0 rfl) ?_
  refine lv_iconst (v := 0) C.1 C.2.1 dX8_allRounds_1 (by decide) ?_
  obtain ⟨σ1, e_2, hf⟩ := stb hf
  refine z_putI C S 8 0 rfl (by decide) cf_8 8 (by decide) (pi_8_8 G ad 0) rfl rfl rfl tw_6_126 dX8_allRounds_2 (fun H locs S => ?_)
  rw [← e_2] at S
  refine lv_iconst (v := 0) C.1 C.2.1 dX8_allRounds_5 (by decide) ?_
  refine lv_istore_n (lv' := [(1, .int 0), (0, .ref (ad 8 0))]) C.1 C.2.1 dX8_allRounds_6 rfl hl (by decide) rfl (fun ls hl => ?_)
  refine lv_iconst (v := 0) C.1 C.2.1 dX8_allRounds_7 (by decide) ?_
  refine lv_istore_n (lv' := [(2, .int 0), (1, .int 0), (0, .ref (ad 8 0))]) C.1 C.2.1 dX8_allRounds_8 rfl hl (by decide) rfl (fun ls hl => ?_)
  exact w_X8_allRounds_9 C FU _ 0 0 _ _ _ S (lv_sub hl [2, 1, 0] rfl) hf
theorem kv_X8_allRounds : KV yX8_allRounds cX8_allRounds 3 (Option.some FieldType.int) 0 := ⟨tw_8_132, tw_8_130, tw_8_131, tw_1_10, by decide, by decide, by decide +kernel⟩
theorem m_X8_allRounds (l : Launch) (G : Gx) (ad : Ad) (σ : Sg)  (r : Int32) (σ' : Sg)  (hf : f_X8_allRounds σ  = some (r, σ')) (sz : Nat) : z_MI l yX8_allRounds cX8_allRounds 3 (Option.some FieldType.int) 0 0 1 G ad σ sz [.ref (ad 8 0)] r σ' := by
  refine z_begin (by decide +kernel) (Nat.le_of_ble_eq_true rfl) [(0, .ref (ad 8 0))] rfl (fun p e s m args below meth c ls C hz S hl => ?_)
  subst hz
  exact w_X8_allRounds_0 (res := (r, σ')) C σ  _ _ _ S hl  hf

theorem dX8_claimLeft_0 : decode cX8_claimLeft 0 = .ok (.aload_n 0, 1) := by decide +kernel
theorem dX8_claimLeft_1 : decode cX8_claimLeft 1 = .ok (.iload_n 1, 1) := by decide +kernel
theorem dX8_claimLeft_2 : decode cX8_claimLeft 2 = .ok (.invokevirtual 274, 3) := by decide +kernel
theorem dX8_claimLeft_5 : decode cX8_claimLeft 5 = .ok (.ifCond .eq 5, 3) := by decide +kernel
theorem dX8_claimLeft_8 : decode cX8_claimLeft 8 = .ok (.iconst 0, 1) := by decide +kernel
theorem dX8_claimLeft_9 : decode cX8_claimLeft 9 = .ok (.ireturn, 1) := by decide +kernel
theorem dX8_claimLeft_10 : decode cX8_claimLeft 10 = .ok (.aload_n 0, 1) := by decide +kernel
theorem dX8_claimLeft_11 : decode cX8_claimLeft 11 = .ok (.getfield 7, 3) := by decide +kernel
theorem dX8_claimLeft_14 : decode cX8_claimLeft 14 = .ok (.bipush 127, 2) := by decide +kernel
theorem dX8_claimLeft_16 : decode cX8_claimLeft 16 = .ok (.iload_n 1, 1) := by decide +kernel
theorem dX8_claimLeft_17 : decode cX8_claimLeft 17 = .ok (.iadd, 1) := by decide +kernel
theorem dX8_claimLeft_18 : decode cX8_claimLeft 18 = .ok (.iaload, 1) := by decide +kernel
theorem dX8_claimLeft_19 : decode cX8_claimLeft 19 = .ok (.iconst 1, 1) := by decide +kernel
theorem dX8_claimLeft_20 : decode cX8_claimLeft 20 = .ok (.if_icmp .ne 17, 3) := by decide +kernel
theorem dX8_claimLeft_23 : decode cX8_claimLeft 23 = .ok (.aload_n 0, 1) := by decide +kernel
theorem dX8_claimLeft_24 : decode cX8_claimLeft 24 = .ok (.getfield 7, 3) := by decide +kernel
theorem dX8_claimLeft_27 : decode cX8_claimLeft 27 = .ok (.sipush 247, 3) := by decide +kernel
theorem dX8_claimLeft_30 : decode cX8_claimLeft 30 = .ok (.iload_n 1, 1) := by decide +kernel
theorem dX8_claimLeft_31 : decode cX8_claimLeft 31 = .ok (.iadd, 1) := by decide +kernel
theorem dX8_claimLeft_32 : decode cX8_claimLeft 32 = .ok (.iaload, 1) := by decide +kernel
theorem dX8_claimLeft_33 : decode cX8_claimLeft 33 = .ok (.iconst (-1), 1) := by decide +kernel
theorem dX8_claimLeft_34 : decode cX8_claimLeft 34 = .ok (.if_icmp .ne 5, 3) := by decide +kernel
theorem dX8_claimLeft_37 : decode cX8_claimLeft 37 = .ok (.iconst (-1), 1) := by decide +kernel
theorem dX8_claimLeft_38 : decode cX8_claimLeft 38 = .ok (.ireturn, 1) := by decide +kernel
theorem dX8_claimLeft_39 : decode cX8_claimLeft 39 = .ok (.iconst 0, 1) := by decide +kernel
theorem dX8_claimLeft_40 : decode cX8_claimLeft 40 = .ok (.aload_n 0, 1) := by decide +kernel
theorem dX8_claimLeft_41 : decode cX8_claimLeft 41 = .ok (.getfield 7, 3) := by decide +kernel
theorem dX8_claimLeft_44 : decode cX8_claimLeft 44 = .ok (.sipush 271, 3) := by decide +kernel
theorem dX8_claimLeft_47 : decode cX8_claimLeft 47 = .ok (.iload_n 1, 1) := by decide +kernel
theorem dX8_claimLeft_48 : decode cX8_claimLeft 48 = .ok (.iadd, 1) := by decide +kernel
theorem dX8_claimLeft_49 : decode cX8_claimLeft 49 = .ok (.iaload, 1) := by decide +kernel
theorem dX8_claimLeft_50 : decode cX8_claimLeft 50 = .ok (.bipush 10, 2) := by decide +kernel
theorem dX8_claimLeft_52 : decode cX8_claimLeft 52 = .ok (.aload_n 0, 1) := by decide +kernel
theorem dX8_claimLeft_53 : decode cX8_claimLeft 53 = .ok (.getfield 7, 3) := by decide +kernel
theorem dX8_claimLeft_56 : decode cX8_claimLeft 56 = .ok (.iconst 5, 1) := by decide +kernel
theorem dX8_claimLeft_57 : decode cX8_claimLeft 57 = .ok (.iaload, 1) := by decide +kernel
theorem dX8_claimLeft_58 : decode cX8_claimLeft 58 = .ok (.imul, 1) := by decide +kernel
theorem dX8_claimLeft_59 : decode cX8_claimLeft 59 = .ok (.iadd, 1) := by decide +kernel
theorem dX8_claimLeft_60 : decode cX8_claimLeft 60 = .ok (.aload_n 0, 1) := by decide +kernel
theorem dX8_claimLeft_61 : decode cX8_claimLeft 61 = .ok (.getfield 7, 3) := by decide +kernel
theorem dX8_claimLeft_64 : decode cX8_claimLeft 64 = .ok (.iconst 3, 1) := by decide +kernel
theorem dX8_claimLeft_65 : decode cX8_claimLeft 65 = .ok (.iaload, 1) := by decide +kernel
theorem dX8_claimLeft_66 : decode cX8_claimLeft 66 = .ok (.isub, 1) := by decide +kernel
theorem dX8_claimLeft_67 : decode cX8_claimLeft 67 = .ok (.invokestatic 307, 3) := by decide +kernel
theorem dX8_claimLeft_70 : decode cX8_claimLeft 70 = .ok (.ireturn, 1) := by decide +kernel
/-! BusLiftsModel.claimLeft(I)I -/
noncomputable def f_X8_claimLeft_37  (σ : Sg)  : Option (Int32 × Sg) := some ((-1), σ)
noncomputable def f_X8_claimLeft  (σ : Sg) (v1 : Int32) : Option (Int32 × Sg) := bi (f_X8_noCall σ v1) fun r2 σ1 => (if r2 = 0 then (if (127 + v1) < 0 ∨ 2111 ≤ ((127 + v1)).toNatClampNeg then none else (if (σ1 30 0 ((127 + v1)).toNatClampNeg) = 1 then (if (247 + v1) < 0 ∨ 2111 ≤ ((247 + v1)).toNatClampNeg then none else (if (σ1 30 0 ((247 + v1)).toNatClampNeg) = (-1) then (f_X8_claimLeft_37 σ1) else (if (271 + v1) < 0 ∨ 2111 ≤ ((271 + v1)).toNatClampNeg then none else (some ((jmax 0 (((σ1 30 0 ((271 + v1)).toNatClampNeg) + (10 * (σ1 30 0 5))) - (σ1 30 0 3))), σ1))))) else (f_X8_claimLeft_37 σ1))) else (some (0, σ1)))
set_option maxHeartbeats 4000000 in
set_option maxRecDepth 100000 in
theorem w_X8_claimLeft_37 {p : Program} {l : Launch} {e : Env} {s : State} {m : MethodId} {args : Array Value} {below : List Frame} {meth : Method} {c : Code} {G : Gx} {ad : Ad} {res : Int32 × Sg} (C : Cx p s m args meth c yX8_claimLeft.cls cX8_claimLeft 2 (Option.some FieldType.int) G)  : ∀ (σ : Sg)  (H : Heap) (locs : List Loc) (ls : Array Slot), z_S 1 G ad σ (z_A 1 ad s.heap.size) s.heap H locs → lv_has ls 2 [] → f_X8_claimLeft_37  σ  = some res → W p l e { frames := 2, cells := 0, slots := 0, locals := 43 } s m args below meth c H locs 0 0 (MQ below (va_Qi (S := Unit) (fun r1 _ => r1 = res.1) (fun _ t => z_W 1 G ad res.2 t.heap) (z_A 1 ad s.heap.size)) args s 0 0 (z_A 1 ad s.heap.size)) (F0 m 37 ls []) := by
  intro σ  H locs ls S hl  hf
  unfold f_X8_claimLeft_37 at hf
  refine lv_iconst (v := (-1)) C.1 C.2.1 dX8_claimLeft_37 (by decide) ?_
  exact z_iret C S hf dX8_claimLeft_38
set_option maxHeartbeats 4000000 in
set_option maxRecDepth 100000 in
theorem w_X8_claimLeft_0 {p : Program} {l : Launch} {e : Env} {s : State} {m : MethodId} {args : Array Value} {below : List Frame} {meth : Method} {c : Code} {G : Gx} {ad : Ad} {res : Int32 × Sg} (C : Cx p s m args meth c yX8_claimLeft.cls cX8_claimLeft 2 (Option.some FieldType.int) G)  : ∀ (σ : Sg) (v1 : Int32) (H : Heap) (locs : List Loc) (ls : Array Slot), z_S 1 G ad σ (z_A 1 ad s.heap.size) s.heap H locs → lv_has ls 2 [(0, .ref (ad 8 0)), (1, .int v1)] → f_X8_claimLeft  σ v1 = some res → W p l e { frames := 2, cells := 0, slots := 0, locals := 43 } s m args below meth c H locs 0 0 (MQ below (va_Qi (S := Unit) (fun r1 _ => r1 = res.1) (fun _ t => z_W 1 G ad res.2 t.heap) (z_A 1 ad s.heap.size)) args s 0 0 (z_A 1 ad s.heap.size)) (F0 m 0 ls []) := by
  intro σ v1 H locs ls S hl  hf
  unfold f_X8_claimLeft at hf
  refine lv_aload_n C.1 C.2.1 dX8_claimLeft_0 rfl (lv_at hl 0 rfl) ?_
  refine lv_iload_n C.1 C.2.1 dX8_claimLeft_1 rfl (lv_at hl 1 rfl) ?_
  obtain ⟨r2, σ1, q_2, hf⟩ := bib hf
  refine z_callI C S 8 0 rfl (by decide) cf_8 ⟨_, rfl⟩ [.int v1] (m_X8_noCall l G ad σ v1 r2 σ1 q_2 _) kv_X8_noCall tw_7_91 ⟨Nat.le_of_ble_eq_true rfl, Nat.le_of_ble_eq_true rfl⟩ rfl rfl (Nat.le_of_ble_eq_true rfl) hl.1 ⟨Nat.le_of_ble_eq_true rfl, Nat.le_of_ble_eq_true rfl⟩ dX8_claimLeft_2 (fun H locs S => ?_)
  refine lv_if_eq (tgt := 10) C.1 C.2.1 dX8_claimLeft_5 (by decide) (fun c_5 => ?_) (fun c_5 => ?_)
  · rw [if_pos c_5] at hf
    refine lv_aload_n C.1 C.2.1 dX8_claimLeft_10 rfl (lv_at hl 0 rfl) ?_
    refine z_getR C S 8 0 rfl (by decide) cf_8 0 (by decide) _ (gr_8_0 G ad 0) tw_6_118 dX8_claimLeft_11 ?_
    refine lv_bipush (v := 127) C.1 C.2.1 dX8_claimLeft_14 (by decide) ?_
    refine lv_iload_n C.1 C.2.1 dX8_claimLeft_16 rfl (lv_at hl 1 rfl) ?_
    refine lv_iadd C.1 C.2.1 dX8_claimLeft_17 ?_
    obtain ⟨g_18, hf⟩ := gd hf
    refine z_iald C S 30 0 rfl (by decide) 2111 (fun _ => rfl) g_18 dX8_claimLeft_18 ?_
    refine lv_iconst (v := 1) C.1 C.2.1 dX8_claimLeft_19 (by decide) ?_
    refine lv_icmp_ne (tgt := 37) C.1 C.2.1 dX8_claimLeft_20 (by decide) (fun c_20 => ?_) (fun c_20 => ?_)
    · rw [if_neg c_20] at hf
      exact w_X8_claimLeft_37 C _ _ _ _ S (lv_sub hl [] rfl) hf
    · rw [if_pos c_20] at hf
      refine lv_aload_n C.1 C.2.1 dX8_claimLeft_23 rfl (lv_at hl 0 rfl) ?_
      refine z_getR C S 8 0 rfl (by decide) cf_8 0 (by decide) _ (gr_8_0 G ad 0) tw_6_118 dX8_claimLeft_24 ?_
      refine lv_sipush (v := 247) C.1 C.2.1 dX8_claimLeft_27 (by decide) ?_
      refine lv_iload_n C.1 C.2.1 dX8_claimLeft_30 rfl (lv_at hl 1 rfl) ?_
      refine lv_iadd C.1 C.2.1 dX8_claimLeft_31 ?_
      obtain ⟨g_32, hf⟩ := gd hf
      refine z_iald C S 30 0 rfl (by decide) 2111 (fun _ => rfl) g_32 dX8_claimLeft_32 ?_
      refine lv_iconst (v := (-1)) C.1 C.2.1 dX8_claimLeft_33 (by decide) ?_
      refine lv_icmp_ne (tgt := 39) C.1 C.2.1 dX8_claimLeft_34 (by decide) (fun c_34 => ?_) (fun c_34 => ?_)
      · rw [if_neg c_34] at hf
        refine lv_iconst (v := 0) C.1 C.2.1 dX8_claimLeft_39 (by decide) ?_
        refine lv_aload_n C.1 C.2.1 dX8_claimLeft_40 rfl (lv_at hl 0 rfl) ?_
        refine z_getR C S 8 0 rfl (by decide) cf_8 0 (by decide) _ (gr_8_0 G ad 0) tw_6_118 dX8_claimLeft_41 ?_
        refine lv_sipush (v := 271) C.1 C.2.1 dX8_claimLeft_44 (by decide) ?_
        refine lv_iload_n C.1 C.2.1 dX8_claimLeft_47 rfl (lv_at hl 1 rfl) ?_
        refine lv_iadd C.1 C.2.1 dX8_claimLeft_48 ?_
        obtain ⟨g_49, hf⟩ := gd hf
        refine z_iald C S 30 0 rfl (by decide) 2111 (fun _ => rfl) g_49 dX8_claimLeft_49 ?_
        refine lv_bipush (v := 10) C.1 C.2.1 dX8_claimLeft_50 (by decide) ?_
        refine lv_aload_n C.1 C.2.1 dX8_claimLeft_52 rfl (lv_at hl 0 rfl) ?_
        refine z_getR C S 8 0 rfl (by decide) cf_8 0 (by decide) _ (gr_8_0 G ad 0) tw_6_118 dX8_claimLeft_53 ?_
        refine lv_iconst (v := 5) C.1 C.2.1 dX8_claimLeft_56 (by decide) ?_
        refine z_ialdL C S 30 0 rfl (by decide) 2111 (fun _ => rfl) 5 (by decide) (by decide) (by decide) dX8_claimLeft_57 ?_
        refine lv_imul C.1 C.2.1 dX8_claimLeft_58 ?_
        refine lv_iadd C.1 C.2.1 dX8_claimLeft_59 ?_
        refine lv_aload_n C.1 C.2.1 dX8_claimLeft_60 rfl (lv_at hl 0 rfl) ?_
        refine z_getR C S 8 0 rfl (by decide) cf_8 0 (by decide) _ (gr_8_0 G ad 0) tw_6_118 dX8_claimLeft_61 ?_
        refine lv_iconst (v := 3) C.1 C.2.1 dX8_claimLeft_64 (by decide) ?_
        refine z_ialdL C S 30 0 rfl (by decide) 2111 (fun _ => rfl) 3 (by decide) (by decide) (by decide) dX8_claimLeft_65 ?_
        refine lv_isub C.1 C.2.1 dX8_claimLeft_66 ?_
        refine z_max C hl.1 tw_8_60 (Nat.le_of_ble_eq_true rfl) (Nat.le_of_ble_eq_true rfl) ⟨Nat.le_of_ble_eq_true rfl, Nat.le_of_ble_eq_true rfl⟩ dX8_claimLeft_67 ?_
        exact z_iret C S hf dX8_claimLeft_70
      · rw [if_pos c_34] at hf
        exact w_X8_claimLeft_37 C _ _ _ _ S (lv_sub hl [] rfl) hf
  · rw [if_neg c_5] at hf
    refine lv_iconst (v := 0) C.1 C.2.1 dX8_claimLeft_8 (by decide) ?_
    exact z_iret C S hf dX8_claimLeft_9
theorem kv_X8_claimLeft : KV yX8_claimLeft cX8_claimLeft 2 (Option.some FieldType.int) 1 := ⟨tw_8_136, tw_8_134, tw_8_135, tw_1_10, by decide, by decide, by decide +kernel⟩
theorem m_X8_claimLeft (l : Launch) (G : Gx) (ad : Ad) (σ : Sg) (v1 : Int32) (r : Int32) (σ' : Sg)  (hf : f_X8_claimLeft σ v1 = some (r, σ')) (sz : Nat) : z_MI l yX8_claimLeft cX8_claimLeft 2 (Option.some FieldType.int) 2 43 1 G ad σ sz [.ref (ad 8 0), .int v1] r σ' := by
  refine z_begin (by decide +kernel) (Nat.le_of_ble_eq_true rfl) [(0, .ref (ad 8 0)), (1, .int v1)] rfl (fun p e s m args below meth c ls C hz S hl => ?_)
  subst hz
  exact w_X8_claimLeft_0 (res := (r, σ')) C σ v1 _ _ _ S hl  hf

theorem dX8_begins_0 : decode cX8_begins 0 = .ok (.aload_n 0, 1) := by decide +kernel
theorem dX8_begins_1 : decode cX8_begins 1 = .ok (.getfield 7, 3) := by decide +kernel
theorem dX8_begins_4 : decode cX8_begins 4 = .ok (.iconst 0, 1) := by decide +kernel
theorem dX8_begins_5 : decode cX8_begins 5 = .ok (.aload_n 0, 1) := by decide +kernel
theorem dX8_begins_6 : decode cX8_begins 6 = .ok (.getfield 16, 3) := by decide +kernel
theorem dX8_begins_9 : decode cX8_begins 9 = .ok (.iconst 0, 1) := by decide +kernel
theorem dX8_begins_10 : decode cX8_begins 10 = .ok (.sipush 2111, 3) := by decide +kernel
theorem dX8_begins_13 : decode cX8_begins 13 = .ok (.invokestatic 57, 3) := by decide +kernel
theorem dX8_begins_16 : decode cX8_begins 16 = .ok (.return_, 1) := by decide +kernel
/-! BusLiftsModel.begins()V -/
noncomputable def f_X8_begins  (σ : Sg)  : Option Sg := bv (f_X8_copies σ 30 0 2111 0 32 0 2111 0 2111) fun σ1 => (some σ1)
set_option maxHeartbeats 4000000 in
set_option maxRecDepth 100000 in
theorem w_X8_begins_0 {p : Program} {l : Launch} {e : Env} {s : State} {m : MethodId} {args : Array Value} {below : List Frame} {meth : Method} {c : Code} {G : Gx} {ad : Ad} {res : Sg} (C : Cx p s m args meth c yX8_begins.cls cX8_begins 1 none G)  : ∀ (σ : Sg)  (H : Heap) (locs : List Loc) (ls : Array Slot), z_S 1 G ad σ (z_A 1 ad s.heap.size) s.heap H locs → lv_has ls 1 [(0, .ref (ad 8 0))] → f_X8_begins  σ  = some res → W p l e { frames := 1, cells := 0, slots := 0, locals := 25 } s m args below meth c H locs 0 0 (MQ below (va_Qv (S := Unit) (fun _ => True) (fun _ t => z_W 1 G ad res t.heap) (z_A 1 ad s.heap.size)) args s 0 0 (z_A 1 ad s.heap.size)) (F0 m 0 ls []) := by
  intro σ  H locs ls S hl  hf
  unfold f_X8_begins at hf
  refine lv_aload_n C.1 C.2.1 dX8_begins_0 rfl (lv_at hl 0 rfl) ?_
  refine z_getR C S 8 0 rfl (by decide) cf_8 0 (by decide) _ (gr_8_0 G ad 0) tw_6_118 dX8_begins_1 ?_
  refine lv_iconst (v := 0) C.1 C.2.1 dX8_begins_4 (by decide) ?_
  refine lv_aload_n C.1 C.2.1 dX8_begins_5 rfl (lv_at hl 0 rfl) ?_
  refine z_getR C S 8 0 rfl (by decide) cf_8 2 (by decide) _ (gr_8_2 G ad 0) tw_6_120 dX8_begins_6 ?_
  refine lv_iconst (v := 0) C.1 C.2.1 dX8_begins_9 (by decide) ?_
  refine lv_sipush (v := 2111) C.1 C.2.1 dX8_begins_10 (by decide) ?_
  obtain ⟨σ1, q_13, hf⟩ := bvb hf
  refine z_callSV C S [.ref (ad 30 0), .int 0, .ref (ad 32 0), .int 0, .int 2111] (m_X8_copies l G ad σ 30 0 2111 0 32 0 2111 0 2111 σ1 rfl (by decide) (fun _ _ _ _ => rfl) rfl (by decide) (fun _ _ _ _ => rfl) q_13 _) kv_X8_copies tw_6_211 ⟨Nat.le_of_ble_eq_true rfl, Nat.le_of_ble_eq_true rfl⟩ rfl rfl (Nat.le_of_ble_eq_true rfl) hl.1 ⟨Nat.le_of_ble_eq_true rfl, Nat.le_of_ble_eq_true rfl⟩ dX8_begins_13 (fun H locs S => ?_)
  exact z_vret C S hf dX8_begins_16
theorem kv_X8_begins : KV yX8_begins cX8_begins 1 none 0 := ⟨tw_8_144, tw_8_143, tw_p_96, tw_1_10, by decide, by decide, by decide +kernel⟩
theorem m_X8_begins (l : Launch) (G : Gx) (ad : Ad) (σ : Sg)  (σ' : Sg)  (hf : f_X8_begins σ  = some σ') (sz : Nat) : z_MV l yX8_begins cX8_begins 1 none 1 25 1 G ad σ sz [.ref (ad 8 0)] σ' := by
  refine z_begin (by decide +kernel) (Nat.le_of_ble_eq_true rfl) [(0, .ref (ad 8 0))] rfl (fun p e s m args below meth c ls C hz S hl => ?_)
  subst hz
  exact w_X8_begins_0 (res := σ') C σ  _ _ _ S hl  hf

theorem dX8_ends_0 : decode cX8_ends 0 = .ok (.aload_n 0, 1) := by decide +kernel
theorem dX8_ends_1 : decode cX8_ends 1 = .ok (.getfield 16, 3) := by decide +kernel
theorem dX8_ends_4 : decode cX8_ends 4 = .ok (.iconst 0, 1) := by decide +kernel
theorem dX8_ends_5 : decode cX8_ends 5 = .ok (.aload_n 0, 1) := by decide +kernel
theorem dX8_ends_6 : decode cX8_ends 6 = .ok (.getfield 7, 3) := by decide +kernel
theorem dX8_ends_9 : decode cX8_ends 9 = .ok (.iconst 0, 1) := by decide +kernel
theorem dX8_ends_10 : decode cX8_ends 10 = .ok (.sipush 2111, 3) := by decide +kernel
theorem dX8_ends_13 : decode cX8_ends 13 = .ok (.invokestatic 57, 3) := by decide +kernel
theorem dX8_ends_16 : decode cX8_ends 16 = .ok (.return_, 1) := by decide +kernel
/-! BusLiftsModel.ends()V -/
noncomputable def f_X8_ends  (σ : Sg)  : Option Sg := bv (f_X8_copies σ 32 0 2111 0 30 0 2111 0 2111) fun σ1 => (some σ1)
set_option maxHeartbeats 4000000 in
set_option maxRecDepth 100000 in
theorem w_X8_ends_0 {p : Program} {l : Launch} {e : Env} {s : State} {m : MethodId} {args : Array Value} {below : List Frame} {meth : Method} {c : Code} {G : Gx} {ad : Ad} {res : Sg} (C : Cx p s m args meth c yX8_ends.cls cX8_ends 1 none G)  : ∀ (σ : Sg)  (H : Heap) (locs : List Loc) (ls : Array Slot), z_S 1 G ad σ (z_A 1 ad s.heap.size) s.heap H locs → lv_has ls 1 [(0, .ref (ad 8 0))] → f_X8_ends  σ  = some res → W p l e { frames := 1, cells := 0, slots := 0, locals := 25 } s m args below meth c H locs 0 0 (MQ below (va_Qv (S := Unit) (fun _ => True) (fun _ t => z_W 1 G ad res t.heap) (z_A 1 ad s.heap.size)) args s 0 0 (z_A 1 ad s.heap.size)) (F0 m 0 ls []) := by
  intro σ  H locs ls S hl  hf
  unfold f_X8_ends at hf
  refine lv_aload_n C.1 C.2.1 dX8_ends_0 rfl (lv_at hl 0 rfl) ?_
  refine z_getR C S 8 0 rfl (by decide) cf_8 2 (by decide) _ (gr_8_2 G ad 0) tw_6_120 dX8_ends_1 ?_
  refine lv_iconst (v := 0) C.1 C.2.1 dX8_ends_4 (by decide) ?_
  refine lv_aload_n C.1 C.2.1 dX8_ends_5 rfl (lv_at hl 0 rfl) ?_
  refine z_getR C S 8 0 rfl (by decide) cf_8 0 (by decide) _ (gr_8_0 G ad 0) tw_6_118 dX8_ends_6 ?_
  refine lv_iconst (v := 0) C.1 C.2.1 dX8_ends_9 (by decide) ?_
  refine lv_sipush (v := 2111) C.1 C.2.1 dX8_ends_10 (by decide) ?_
  obtain ⟨σ1, q_13, hf⟩ := bvb hf
  refine z_callSV C S [.ref (ad 32 0), .int 0, .ref (ad 30 0), .int 0, .int 2111] (m_X8_copies l G ad σ 32 0 2111 0 30 0 2111 0 2111 σ1 rfl (by decide) (fun _ _ _ _ => rfl) rfl (by decide) (fun _ _ _ _ => rfl) q_13 _) kv_X8_copies tw_6_211 ⟨Nat.le_of_ble_eq_true rfl, Nat.le_of_ble_eq_true rfl⟩ rfl rfl (Nat.le_of_ble_eq_true rfl) hl.1 ⟨Nat.le_of_ble_eq_true rfl, Nat.le_of_ble_eq_true rfl⟩ dX8_ends_13 (fun H locs S => ?_)
  exact z_vret C S hf dX8_ends_16
theorem kv_X8_ends : KV yX8_ends cX8_ends 1 none 0 := ⟨tw_8_148, tw_8_147, tw_p_97, tw_1_10, by decide, by decide, by decide +kernel⟩
theorem m_X8_ends (l : Launch) (G : Gx) (ad : Ad) (σ : Sg)  (σ' : Sg)  (hf : f_X8_ends σ  = some σ') (sz : Nat) : z_MV l yX8_ends cX8_ends 1 none 1 25 1 G ad σ sz [.ref (ad 8 0)] σ' := by
  refine z_begin (by decide +kernel) (Nat.le_of_ble_eq_true rfl) [(0, .ref (ad 8 0))] rfl (fun p e s m args below meth c ls C hz S hl => ?_)
  subst hz
  exact w_X8_ends_0 (res := σ') C σ  _ _ _ S hl  hf

theorem dX8_lateIn_0 : decode cX8_lateIn 0 = .ok (.aload_n 0, 1) := by decide +kernel
theorem dX8_lateIn_1 : decode cX8_lateIn 1 = .ok (.iload_n 1, 1) := by decide +kernel
theorem dX8_lateIn_2 : decode cX8_lateIn 2 = .ok (.invokevirtual 295, 3) := by decide +kernel
theorem dX8_lateIn_5 : decode cX8_lateIn 5 = .ok (.ifCond .eq 5, 3) := by decide +kernel
theorem dX8_lateIn_8 : decode cX8_lateIn 8 = .ok (.iconst 0, 1) := by decide +kernel
theorem dX8_lateIn_9 : decode cX8_lateIn 9 = .ok (.ireturn, 1) := by decide +kernel
theorem dX8_lateIn_10 : decode cX8_lateIn 10 = .ok (.aload_n 0, 1) := by decide +kernel
theorem dX8_lateIn_11 : decode cX8_lateIn 11 = .ok (.invokevirtual 318, 3) := by decide +kernel
theorem dX8_lateIn_14 : decode cX8_lateIn 14 = .ok (.aload_n 0, 1) := by decide +kernel
theorem dX8_lateIn_15 : decode cX8_lateIn 15 = .ok (.iload_n 1, 1) := by decide +kernel
theorem dX8_lateIn_16 : decode cX8_lateIn 16 = .ok (.invokevirtual 298, 3) := by decide +kernel
theorem dX8_lateIn_19 : decode cX8_lateIn 19 = .ok (.istore_n 2, 1) := by decide +kernel
theorem dX8_lateIn_20 : decode cX8_lateIn 20 = .ok (.iload_n 2, 1) := by decide +kernel
theorem dX8_lateIn_21 : decode cX8_lateIn 21 = .ok (.ifCond .ge 7, 3) := by decide +kernel
theorem dX8_lateIn_24 : decode cX8_lateIn 24 = .ok (.iconst (-1), 1) := by decide +kernel
theorem dX8_lateIn_25 : decode cX8_lateIn 25 = .ok (.goto 7, 3) := by decide +kernel
theorem dX8_lateIn_28 : decode cX8_lateIn 28 = .ok (.aload_n 0, 1) := by decide +kernel
theorem dX8_lateIn_29 : decode cX8_lateIn 29 = .ok (.invokevirtual 315, 3) := by decide +kernel
theorem dX8_lateIn_32 : decode cX8_lateIn 32 = .ok (.istore_n 3, 1) := by decide +kernel
theorem dX8_lateIn_33 : decode cX8_lateIn 33 = .ok (.aload_n 0, 1) := by decide +kernel
theorem dX8_lateIn_34 : decode cX8_lateIn 34 = .ok (.invokevirtual 321, 3) := by decide +kernel
theorem dX8_lateIn_37 : decode cX8_lateIn 37 = .ok (.iload_n 3, 1) := by decide +kernel
theorem dX8_lateIn_38 : decode cX8_lateIn 38 = .ok (.ireturn, 1) := by decide +kernel
/-! BusLiftsModel.lateIn(I)I -/
noncomputable def f_X8_lateIn_32  (σ : Sg) (v100 : Int32) : Option (Int32 × Sg) := bv (f_X8_ends σ) fun σ1 => (some (v100, σ1))
noncomputable def f_X8_lateIn  (σ : Sg) (v1 : Int32) : Option (Int32 × Sg) := bi (f_X8_badTicks σ v1) fun r2 σ1 => (if r2 = 0 then (bv (f_X8_begins σ1) fun σ3 => (bi (f_X8_passes σ3 v1) fun r5 σ4 => (if 0 ≤ r5 then (bi (f_X8_lateMany σ4) fun r7 σ6 => (f_X8_lateIn_32 σ6 r7)) else (f_X8_lateIn_32 σ4 (-1))))) else (some (0, σ1)))
set_option maxHeartbeats 4000000 in
set_option maxRecDepth 100000 in
theorem w_X8_lateIn_32 {p : Program} {l : Launch} {e : Env} {s : State} {m : MethodId} {args : Array Value} {below : List Frame} {meth : Method} {c : Code} {G : Gx} {ad : Ad} {res : Int32 × Sg} (C : Cx p s m args meth c yX8_lateIn.cls cX8_lateIn 4 (Option.some FieldType.int) G)  : ∀ (σ : Sg) (v100 : Int32) (H : Heap) (locs : List Loc) (ls : Array Slot), z_S 1 G ad σ (z_A 1 ad s.heap.size) s.heap H locs → lv_has ls 4 [(0, .ref (ad 8 0))] → f_X8_lateIn_32  σ v100 = some res → W p l e { frames := 8, cells := 0, slots := 0, locals := 184 } s m args below meth c H locs 0 0 (MQ below (va_Qi (S := Unit) (fun r1 _ => r1 = res.1) (fun _ t => z_W 1 G ad res.2 t.heap) (z_A 1 ad s.heap.size)) args s 0 0 (z_A 1 ad s.heap.size)) (F0 m 32 ls [.int v100]) := by
  intro σ v100 H locs ls S hl  hf
  unfold f_X8_lateIn_32 at hf
  refine lv_istore_n (lv' := [(3, .int v100), (0, .ref (ad 8 0))]) C.1 C.2.1 dX8_lateIn_32 rfl hl (by decide) rfl (fun ls hl => ?_)
  refine lv_aload_n C.1 C.2.1 dX8_lateIn_33 rfl (lv_at hl 1 rfl) ?_
  obtain ⟨σ1, q_34, hf⟩ := bvb hf
  refine z_callV C S 8 0 rfl (by decide) cf_8 ⟨_, rfl⟩ [] (m_X8_ends l G ad σ σ1 q_34 _) kv_X8_ends tw_8_145 ⟨Nat.le_of_ble_eq_true rfl, Nat.le_of_ble_eq_true rfl⟩ rfl rfl (Nat.le_of_ble_eq_true rfl) hl.1 ⟨Nat.le_of_ble_eq_true rfl, Nat.le_of_ble_eq_true rfl⟩ dX8_lateIn_34 (fun H locs S => ?_)
  refine lv_iload_n C.1 C.2.1 dX8_lateIn_37 rfl (lv_at hl 0 rfl) ?_
  exact z_iret C S hf dX8_lateIn_38
set_option maxHeartbeats 4000000 in
set_option maxRecDepth 100000 in
theorem w_X8_lateIn_0 {p : Program} {l : Launch} {e : Env} {s : State} {m : MethodId} {args : Array Value} {below : List Frame} {meth : Method} {c : Code} {G : Gx} {ad : Ad} {res : Int32 × Sg} (C : Cx p s m args meth c yX8_lateIn.cls cX8_lateIn 4 (Option.some FieldType.int) G)  : ∀ (σ : Sg) (v1 : Int32) (H : Heap) (locs : List Loc) (ls : Array Slot), z_S 1 G ad σ (z_A 1 ad s.heap.size) s.heap H locs → lv_has ls 4 [(0, .ref (ad 8 0)), (1, .int v1)] → f_X8_lateIn  σ v1 = some res → W p l e { frames := 8, cells := 0, slots := 0, locals := 184 } s m args below meth c H locs 0 0 (MQ below (va_Qi (S := Unit) (fun r1 _ => r1 = res.1) (fun _ t => z_W 1 G ad res.2 t.heap) (z_A 1 ad s.heap.size)) args s 0 0 (z_A 1 ad s.heap.size)) (F0 m 0 ls []) := by
  intro σ v1 H locs ls S hl  hf
  unfold f_X8_lateIn at hf
  refine lv_aload_n C.1 C.2.1 dX8_lateIn_0 rfl (lv_at hl 0 rfl) ?_
  refine lv_iload_n C.1 C.2.1 dX8_lateIn_1 rfl (lv_at hl 1 rfl) ?_
  obtain ⟨r2, σ1, q_2, hf⟩ := bib hf
  refine z_callI C S 8 0 rfl (by decide) cf_8 ⟨_, rfl⟩ [.int v1] (m_X8_badTicks l G ad σ v1 r2 σ1 q_2 _) kv_X8_badTicks tw_7_186 ⟨Nat.le_of_ble_eq_true rfl, Nat.le_of_ble_eq_true rfl⟩ rfl rfl (Nat.le_of_ble_eq_true rfl) hl.1 ⟨Nat.le_of_ble_eq_true rfl, Nat.le_of_ble_eq_true rfl⟩ dX8_lateIn_2 (fun H locs S => ?_)
  refine lv_if_eq (tgt := 10) C.1 C.2.1 dX8_lateIn_5 (by decide) (fun c_5 => ?_) (fun c_5 => ?_)
  · rw [if_pos c_5] at hf
    refine lv_aload_n C.1 C.2.1 dX8_lateIn_10 rfl (lv_at hl 0 rfl) ?_
    obtain ⟨σ3, q_11, hf⟩ := bvb hf
    refine z_callV C S 8 0 rfl (by decide) cf_8 ⟨_, rfl⟩ [] (m_X8_begins l G ad σ1 σ3 q_11 _) kv_X8_begins tw_8_141 ⟨Nat.le_of_ble_eq_true rfl, Nat.le_of_ble_eq_true rfl⟩ rfl rfl (Nat.le_of_ble_eq_true rfl) hl.1 ⟨Nat.le_of_ble_eq_true rfl, Nat.le_of_ble_eq_true rfl⟩ dX8_lateIn_11 (fun H locs S => ?_)
    refine lv_aload_n C.1 C.2.1 dX8_lateIn_14 rfl (lv_at hl 0 rfl) ?_
    refine lv_iload_n C.1 C.2.1 dX8_lateIn_15 rfl (lv_at hl 1 rfl) ?_
    obtain ⟨r5, σ4, q_16, hf⟩ := bib hf
    refine z_callI C S 8 0 rfl (by decide) cf_8 ⟨_, rfl⟩ [.int v1] (m_X8_passes l G ad σ3 v1 r5 σ4 q_16 _) kv_X8_passes tw_7_190 ⟨Nat.le_of_ble_eq_true rfl, Nat.le_of_ble_eq_true rfl⟩ rfl rfl (Nat.le_of_ble_eq_true rfl) hl.1 ⟨Nat.le_of_ble_eq_true rfl, Nat.le_of_ble_eq_true rfl⟩ dX8_lateIn_16 (fun H locs S => ?_)
    refine lv_istore_n (lv' := [(2, .int r5), (0, .ref (ad 8 0)), (1, .int v1)]) C.1 C.2.1 dX8_lateIn_19 rfl hl (by decide) rfl (fun ls hl => ?_)
    refine lv_iload_n C.1 C.2.1 dX8_lateIn_20 rfl (lv_at hl 0 rfl) ?_
    refine lv_if_ge (tgt := 28) C.1 C.2.1 dX8_lateIn_21 (by decide) (fun c_21 => ?_) (fun c_21 => ?_)
    · rw [if_pos c_21] at hf
      refine lv_aload_n C.1 C.2.1 dX8_lateIn_28 rfl (lv_at hl 1 rfl) ?_
      obtain ⟨r7, σ6, q_29, hf⟩ := bib hf
      refine z_callI C S 8 0 rfl (by decide) cf_8 ⟨_, rfl⟩ [] (m_X8_lateMany l G ad σ4 r7 σ6 q_29 _) kv_X8_lateMany tw_8_69 ⟨Nat.le_of_ble_eq_true rfl, Nat.le_of_ble_eq_true rfl⟩ rfl rfl (Nat.le_of_ble_eq_true rfl) hl.1 ⟨Nat.le_of_ble_eq_true rfl, Nat.le_of_ble_eq_true rfl⟩ dX8_lateIn_29 (fun H locs S => ?_)
      exact w_X8_lateIn_32 C _ r7 _ _ _ S (lv_sub hl [1] rfl) hf
    · rw [if_neg c_21] at hf
      refine lv_iconst (v := (-1)) C.1 C.2.1 dX8_lateIn_24 (by decide) ?_
      refine lv_goto (tgt := 32) C.1 C.2.1 dX8_lateIn_25 (by decide) ?_
      exact w_X8_lateIn_32 C _ (-1) _ _ _ S (lv_sub hl [1] rfl) hf
  · rw [if_neg c_5] at hf
    refine lv_iconst (v := 0) C.1 C.2.1 dX8_lateIn_8 (by decide) ?_
    exact z_iret C S hf dX8_lateIn_9
theorem kv_X8_lateIn : KV yX8_lateIn cX8_lateIn 4 (Option.some FieldType.int) 1 := ⟨tw_8_140, tw_8_138, tw_8_139, tw_1_10, by decide, by decide, by decide +kernel⟩
theorem m_X8_lateIn (l : Launch) (G : Gx) (ad : Ad) (σ : Sg) (v1 : Int32) (r : Int32) (σ' : Sg)  (hf : f_X8_lateIn σ v1 = some (r, σ')) (sz : Nat) : z_MI l yX8_lateIn cX8_lateIn 4 (Option.some FieldType.int) 8 184 1 G ad σ sz [.ref (ad 8 0), .int v1] r σ' := by
  refine z_begin (by decide +kernel) (Nat.le_of_ble_eq_true rfl) [(0, .ref (ad 8 0)), (1, .int v1)] rfl (fun p e s m args below meth c ls C hz S hl => ?_)
  subst hz
  exact w_X8_lateIn_0 (res := (r, σ')) C σ v1 _ _ _ S hl  hf

theorem dX8_thoughtUntil_0 : decode cX8_thoughtUntil 0 = .ok (.iconst 0, 1) := by decide +kernel
theorem dX8_thoughtUntil_1 : decode cX8_thoughtUntil 1 = .ok (.istore_n 3, 1) := by decide +kernel
theorem dX8_thoughtUntil_2 : decode cX8_thoughtUntil 2 = .ok (.iload_n 3, 1) := by decide +kernel
theorem dX8_thoughtUntil_3 : decode cX8_thoughtUntil 3 = .ok (.iload_n 2, 1) := by decide +kernel
theorem dX8_thoughtUntil_4 : decode cX8_thoughtUntil 4 = .ok (.if_icmp .gt 72, 3) := by decide +kernel
theorem dX8_thoughtUntil_7 : decode cX8_thoughtUntil 7 = .ok (.iload_n 1, 1) := by decide +kernel
theorem dX8_thoughtUntil_8 : decode cX8_thoughtUntil 8 = .ok (.iconst (-1), 1) := by decide +kernel
theorem dX8_thoughtUntil_9 : decode cX8_thoughtUntil 9 = .ok (.if_icmp .ne 25, 3) := by decide +kernel
theorem dX8_thoughtUntil_12 : decode cX8_thoughtUntil 12 = .ok (.aload_n 0, 1) := by decide +kernel
theorem dX8_thoughtUntil_13 : decode cX8_thoughtUntil 13 = .ok (.iconst 3, 1) := by decide +kernel
theorem dX8_thoughtUntil_14 : decode cX8_thoughtUntil 14 = .ok (.invokevirtual 153, 3) := by decide +kernel
theorem dX8_thoughtUntil_17 : decode cX8_thoughtUntil 17 = .ok (.aload_n 0, 1) := by decide +kernel
theorem dX8_thoughtUntil_18 : decode cX8_thoughtUntil 18 = .ok (.getfield 7, 3) := by decide +kernel
theorem dX8_thoughtUntil_21 : decode cX8_thoughtUntil 21 = .ok (.iconst 2, 1) := by decide +kernel
theorem dX8_thoughtUntil_22 : decode cX8_thoughtUntil 22 = .ok (.iaload, 1) := by decide +kernel
theorem dX8_thoughtUntil_23 : decode cX8_thoughtUntil 23 = .ok (.if_icmp .ne 7, 3) := by decide +kernel
theorem dX8_thoughtUntil_26 : decode cX8_thoughtUntil 26 = .ok (.iconst 1, 1) := by decide +kernel
theorem dX8_thoughtUntil_27 : decode cX8_thoughtUntil 27 = .ok (.goto 25, 3) := by decide +kernel
theorem dX8_thoughtUntil_30 : decode cX8_thoughtUntil 30 = .ok (.iconst 0, 1) := by decide +kernel
theorem dX8_thoughtUntil_31 : decode cX8_thoughtUntil 31 = .ok (.goto 21, 3) := by decide +kernel
theorem dX8_thoughtUntil_34 : decode cX8_thoughtUntil 34 = .ok (.aload_n 0, 1) := by decide +kernel
theorem dX8_thoughtUntil_35 : decode cX8_thoughtUntil 35 = .ok (.getfield 7, 3) := by decide +kernel
theorem dX8_thoughtUntil_38 : decode cX8_thoughtUntil 38 = .ok (.bipush 127, 2) := by decide +kernel
theorem dX8_thoughtUntil_40 : decode cX8_thoughtUntil 40 = .ok (.iload_n 1, 1) := by decide +kernel
theorem dX8_thoughtUntil_41 : decode cX8_thoughtUntil 41 = .ok (.iadd, 1) := by decide +kernel
theorem dX8_thoughtUntil_42 : decode cX8_thoughtUntil 42 = .ok (.iaload, 1) := by decide +kernel
theorem dX8_thoughtUntil_43 : decode cX8_thoughtUntil 43 = .ok (.iconst 2, 1) := by decide +kernel
theorem dX8_thoughtUntil_44 : decode cX8_thoughtUntil 44 = .ok (.if_icmp .lt 7, 3) := by decide +kernel
theorem dX8_thoughtUntil_47 : decode cX8_thoughtUntil 47 = .ok (.iconst 1, 1) := by decide +kernel
theorem dX8_thoughtUntil_48 : decode cX8_thoughtUntil 48 = .ok (.goto 4, 3) := by decide +kernel
theorem dX8_thoughtUntil_51 : decode cX8_thoughtUntil 51 = .ok (.iconst 0, 1) := by decide +kernel
theorem dX8_thoughtUntil_52 : decode cX8_thoughtUntil 52 = .ok (.istore 4, 2) := by decide +kernel
theorem dX8_thoughtUntil_54 : decode cX8_thoughtUntil 54 = .ok (.iload 4, 2) := by decide +kernel
theorem dX8_thoughtUntil_56 : decode cX8_thoughtUntil 56 = .ok (.ifCond .eq 5, 3) := by decide +kernel
theorem dX8_thoughtUntil_59 : decode cX8_thoughtUntil 59 = .ok (.iload_n 3, 1) := by decide +kernel
theorem dX8_thoughtUntil_60 : decode cX8_thoughtUntil 60 = .ok (.ireturn, 1) := by decide +kernel
theorem dX8_thoughtUntil_61 : decode cX8_thoughtUntil 61 = .ok (.iload_n 3, 1) := by decide +kernel
theorem dX8_thoughtUntil_62 : decode cX8_thoughtUntil 62 = .ok (.iload_n 2, 1) := by decide +kernel
theorem dX8_thoughtUntil_63 : decode cX8_thoughtUntil 63 = .ok (.if_icmp .ge 7, 3) := by decide +kernel
theorem dX8_thoughtUntil_66 : decode cX8_thoughtUntil 66 = .ok (.aload_n 0, 1) := by decide +kernel
theorem dX8_thoughtUntil_67 : decode cX8_thoughtUntil 67 = .ok (.invokevirtual 156, 3) := by decide +kernel
theorem dX8_thoughtUntil_70 : decode cX8_thoughtUntil 70 = .ok (.iinc 3 1, 3) := by decide +kernel
theorem dX8_thoughtUntil_73 : decode cX8_thoughtUntil 73 = .ok (.goto (-71), 3) := by decide +kernel
theorem dX8_thoughtUntil_76 : decode cX8_thoughtUntil 76 = .ok (.iconst (-1), 1) := by decide +kernel
theorem dX8_thoughtUntil_77 : decode cX8_thoughtUntil 77 = .ok (.ireturn, 1) := by decide +kernel
/-! BusLiftsModel.thoughtUntil(II)I -/
noncomputable def f_X8_thoughtUntil_76  (σ : Sg)  : Option (Int32 × Sg) := some ((-1), σ)
noncomputable def f_X8_thoughtUntil_70 (k2 : Sg → Int32 → Int32 → Int32 → Option (Int32 × Sg)) (σ : Sg) (v1 : Int32) (v2 : Int32) (v3 : Int32) : Option (Int32 × Sg) := k2 σ v1 v2 (v3 + 1)
noncomputable def f_X8_thoughtUntil_59  (σ : Sg) (v3 : Int32) : Option (Int32 × Sg) := some (v3, σ)
noncomputable def f_X8_thoughtUntil_52 (k2 : Sg → Int32 → Int32 → Int32 → Option (Int32 × Sg)) (σ : Sg) (v1 : Int32) (v2 : Int32) (v3 : Int32) (v100 : Int32) : Option (Int32 × Sg) := if v100 = 0 then (if v2 ≤ v3 then (f_X8_thoughtUntil_70 k2 σ v1 v2 v3) else (bv (f_X8_ticks σ) fun σ1 => (f_X8_thoughtUntil_70 k2 σ1 v1 v2 v3))) else (f_X8_thoughtUntil_59 σ v3)
noncomputable def f_X8_thoughtUntil_2  : Nat → Sg → Int32 → Int32 → Int32 → Option (Int32 × Sg)
  | 0, _, _, _, _ => none
  | n + 1, σ, v1, v2, v3 => if v2 < v3 then (f_X8_thoughtUntil_76 σ) else (if v1 = (-1) then (bi (f_X8_inState σ 3) fun r2 σ1 => (if r2 = (σ1 30 0 2) then (f_X8_thoughtUntil_52 (f_X8_thoughtUntil_2 n) σ1 v1 v2 v3 1) else (f_X8_thoughtUntil_52 (f_X8_thoughtUntil_2 n) σ1 v1 v2 v3 0))) else (if (127 + v1) < 0 ∨ 2111 ≤ ((127 + v1)).toNatClampNeg then none else (if (σ 30 0 ((127 + v1)).toNatClampNeg) < 2 then (f_X8_thoughtUntil_52 (f_X8_thoughtUntil_2 n) σ v1 v2 v3 0) else (f_X8_thoughtUntil_52 (f_X8_thoughtUntil_2 n) σ v1 v2 v3 1))))
theorem f_X8_thoughtUntil_2_s  (n : Nat) (σ : Sg) (v1 : Int32) (v2 : Int32) (v3 : Int32) : f_X8_thoughtUntil_2  (n + 1) σ v1 v2 v3 = (if v2 < v3 then (f_X8_thoughtUntil_76 σ) else (if v1 = (-1) then (bi (f_X8_inState σ 3) fun r2 σ1 => (if r2 = (σ1 30 0 2) then (f_X8_thoughtUntil_52 (f_X8_thoughtUntil_2 n) σ1 v1 v2 v3 1) else (f_X8_thoughtUntil_52 (f_X8_thoughtUntil_2 n) σ1 v1 v2 v3 0))) else (if (127 + v1) < 0 ∨ 2111 ≤ ((127 + v1)).toNatClampNeg then none else (if (σ 30 0 ((127 + v1)).toNatClampNeg) < 2 then (f_X8_thoughtUntil_52 (f_X8_thoughtUntil_2 n) σ v1 v2 v3 0) else (f_X8_thoughtUntil_52 (f_X8_thoughtUntil_2 n) σ v1 v2 v3 1))))) := rfl
noncomputable def f_X8_thoughtUntil  (σ : Sg) (v1 : Int32) (v2 : Int32) : Option (Int32 × Sg) := f_X8_thoughtUntil_2 FU σ v1 v2 0
set_option maxHeartbeats 4000000 in
set_option maxRecDepth 100000 in
theorem w_X8_thoughtUntil_76 {p : Program} {l : Launch} {e : Env} {s : State} {m : MethodId} {args : Array Value} {below : List Frame} {meth : Method} {c : Code} {G : Gx} {ad : Ad} {res : Int32 × Sg} (C : Cx p s m args meth c yX8_thoughtUntil.cls cX8_thoughtUntil 5 (Option.some FieldType.int) G)  : ∀ (σ : Sg)  (H : Heap) (locs : List Loc) (ls : Array Slot), z_S 1 G ad σ (z_A 1 ad s.heap.size) s.heap H locs → lv_has ls 5 [] → f_X8_thoughtUntil_76  σ  = some res → W p l e { frames := 7, cells := 0, slots := 0, locals := 161 } s m args below meth c H locs 0 0 (MQ below (va_Qi (S := Unit) (fun r1 _ => r1 = res.1) (fun _ t => z_W 1 G ad res.2 t.heap) (z_A 1 ad s.heap.size)) args s 0 0 (z_A 1 ad s.heap.size)) (F0 m 76 ls []) := by
  intro σ  H locs ls S hl  hf
  unfold f_X8_thoughtUntil_76 at hf
  refine lv_iconst (v := (-1)) C.1 C.2.1 dX8_thoughtUntil_76 (by decide) ?_
  exact z_iret C S hf dX8_thoughtUntil_77
set_option maxHeartbeats 4000000 in
set_option maxRecDepth 100000 in
theorem w_X8_thoughtUntil_70 {p : Program} {l : Launch} {e : Env} {s : State} {m : MethodId} {args : Array Value} {below : List Frame} {meth : Method} {c : Code} {G : Gx} {ad : Ad} {res : Int32 × Sg} (C : Cx p s m args meth c yX8_thoughtUntil.cls cX8_thoughtUntil 5 (Option.some FieldType.int) G) (k2 : Sg → Int32 → Int32 → Int32 → Option (Int32 × Sg)) (hk2 : ∀ (σ : Sg) (v1 : Int32) (v2 : Int32) (v3 : Int32) (H : Heap) (locs : List Loc) (ls : Array Slot), z_S 1 G ad σ (z_A 1 ad s.heap.size) s.heap H locs → lv_has ls 5 [(0, .ref (ad 8 0)), (1, .int v1), (2, .int v2), (3, .int v3)] → k2 σ v1 v2 v3 = some res → W p l e { frames := 7, cells := 0, slots := 0, locals := 161 } s m args below meth c H locs 0 0 (MQ below (va_Qi (S := Unit) (fun r1 _ => r1 = res.1) (fun _ t => z_W 1 G ad res.2 t.heap) (z_A 1 ad s.heap.size)) args s 0 0 (z_A 1 ad s.heap.size)) (F0 m 2 ls [])) : ∀ (σ : Sg) (v1 : Int32) (v2 : Int32) (v3 : Int32) (H : Heap) (locs : List Loc) (ls : Array Slot), z_S 1 G ad σ (z_A 1 ad s.heap.size) s.heap H locs → lv_has ls 5 [(0, .ref (ad 8 0)), (1, .int v1), (2, .int v2), (3, .int v3)] → f_X8_thoughtUntil_70 k2 σ v1 v2 v3 = some res → W p l e { frames := 7, cells := 0, slots := 0, locals := 161 } s m args below meth c H locs 0 0 (MQ below (va_Qi (S := Unit) (fun r1 _ => r1 = res.1) (fun _ t => z_W 1 G ad res.2 t.heap) (z_A 1 ad s.heap.size)) args s 0 0 (z_A 1 ad s.heap.size)) (F0 m 70 ls []) := by
  intro σ v1 v2 v3 H locs ls S hl  hf
  unfold f_X8_thoughtUntil_70 at hf
  refine lv_iinc (v := (v3 + 1)) (lv' := [(3, .int (v3 + 1)), (0, .ref (ad 8 0)), (1, .int v1), (2, .int v2)]) C.1 C.2.1 dX8_thoughtUntil_70 hl (k := 3) rfl rfl (by decide) rfl (fun ls hl => ?_)
  refine lv_goto (tgt := 2) C.1 C.2.1 dX8_thoughtUntil_73 (by decide) ?_
  exact hk2 _ v1 v2 (v3 + 1) _ _ _ S (lv_sub hl [1, 2, 3, 0] rfl)  hf
set_option maxHeartbeats 4000000 in
set_option maxRecDepth 100000 in
theorem w_X8_thoughtUntil_59 {p : Program} {l : Launch} {e : Env} {s : State} {m : MethodId} {args : Array Value} {below : List Frame} {meth : Method} {c : Code} {G : Gx} {ad : Ad} {res : Int32 × Sg} (C : Cx p s m args meth c yX8_thoughtUntil.cls cX8_thoughtUntil 5 (Option.some FieldType.int) G)  : ∀ (σ : Sg) (v3 : Int32) (H : Heap) (locs : List Loc) (ls : Array Slot), z_S 1 G ad σ (z_A 1 ad s.heap.size) s.heap H locs → lv_has ls 5 [(3, .int v3)] → f_X8_thoughtUntil_59  σ v3 = some res → W p l e { frames := 7, cells := 0, slots := 0, locals := 161 } s m args below meth c H locs 0 0 (MQ below (va_Qi (S := Unit) (fun r1 _ => r1 = res.1) (fun _ t => z_W 1 G ad res.2 t.heap) (z_A 1 ad s.heap.size)) args s 0 0 (z_A 1 ad s.heap.size)) (F0 m 59 ls []) := by
  intro σ v3 H locs ls S hl  hf
  unfold f_X8_thoughtUntil_59 at hf
  refine lv_iload_n C.1 C.2.1 dX8_thoughtUntil_59 rfl (lv_at hl 0 rfl) ?_
  exact z_iret C S hf dX8_thoughtUntil_60
set_option maxHeartbeats 4000000 in
set_option maxRecDepth 100000 in
theorem w_X8_thoughtUntil_52 {p : Program} {l : Launch} {e : Env} {s : State} {m : MethodId} {args : Array Value} {below : List Frame} {meth : Method} {c : Code} {G : Gx} {ad : Ad} {res : Int32 × Sg} (C : Cx p s m args meth c yX8_thoughtUntil.cls cX8_thoughtUntil 5 (Option.some FieldType.int) G) (k2 : Sg → Int32 → Int32 → Int32 → Option (Int32 × Sg)) (hk2 : ∀ (σ : Sg) (v1 : Int32) (v2 : Int32) (v3 : Int32) (H : Heap) (locs : List Loc) (ls : Array Slot), z_S 1 G ad σ (z_A 1 ad s.heap.size) s.heap H locs → lv_has ls 5 [(0, .ref (ad 8 0)), (1, .int v1), (2, .int v2), (3, .int v3)] → k2 σ v1 v2 v3 = some res → W p l e { frames := 7, cells := 0, slots := 0, locals := 161 } s m args below meth c H locs 0 0 (MQ below (va_Qi (S := Unit) (fun r1 _ => r1 = res.1) (fun _ t => z_W 1 G ad res.2 t.heap) (z_A 1 ad s.heap.size)) args s 0 0 (z_A 1 ad s.heap.size)) (F0 m 2 ls [])) : ∀ (σ : Sg) (v1 : Int32) (v2 : Int32) (v3 : Int32) (v100 : Int32) (H : Heap) (locs : List Loc) (ls : Array Slot), z_S 1 G ad σ (z_A 1 ad s.heap.size) s.heap H locs → lv_has ls 5 [(0, .ref (ad 8 0)), (1, .int v1), (2, .int v2), (3, .int v3)] → f_X8_thoughtUntil_52 k2 σ v1 v2 v3 v100 = some res → W p l e { frames := 7, cells := 0, slots := 0, locals := 161 } s m args below meth c H locs 0 0 (MQ below (va_Qi (S := Unit) (fun r1 _ => r1 = res.1) (fun _ t => z_W 1 G ad res.2 t.heap) (z_A 1 ad s.heap.size)) args s 0 0 (z_A 1 ad s.heap.size)) (F0 m 52 ls [.int v100]) := by
  intro σ v1 v2 v3 v100 H locs ls S hl  hf
  unfold f_X8_thoughtUntil_52 at hf
  refine lv_istore (lv' := [(4, .int v100), (0, .ref (ad 8 0)), (1, .int v1), (2, .int v2), (3, .int v3)]) C.1 C.2.1 dX8_thoughtUntil_52 hl (by decide) rfl (fun ls hl => ?_)
  refine lv_iload C.1 C.2.1 dX8_thoughtUntil_54 (lv_at hl 0 rfl) ?_
  refine lv_if_eq (tgt := 61) C.1 C.2.1 dX8_thoughtUntil_56 (by decide) (fun c_56 => ?_) (fun c_56 => ?_)
  · rw [if_pos c_56] at hf
    refine lv_iload_n C.1 C.2.1 dX8_thoughtUntil_61 rfl (lv_at hl 4 rfl) ?_
    refine lv_iload_n C.1 C.2.1 dX8_thoughtUntil_62 rfl (lv_at hl 3 rfl) ?_
    refine lv_icmp_ge (tgt := 70) C.1 C.2.1 dX8_thoughtUntil_63 (by decide) (fun c_63 => ?_) (fun c_63 => ?_)
    · rw [if_pos c_63] at hf
      exact w_X8_thoughtUntil_70 C k2 hk2 _ v1 v2 v3 _ _ _ S (lv_sub hl [1, 2, 3, 4] rfl) hf
    · rw [if_neg c_63] at hf
      refine lv_aload_n C.1 C.2.1 dX8_thoughtUntil_66 rfl (lv_at hl 1 rfl) ?_
      obtain ⟨σ1, q_67, hf⟩ := bvb hf
      refine z_callV C S 8 0 rfl (by decide) cf_8 ⟨_, rfl⟩ [] (m_X8_ticks l G ad σ σ1 q_67 _) kv_X8_ticks tw_7_194 ⟨Nat.le_of_ble_eq_true rfl, Nat.le_of_ble_eq_true rfl⟩ rfl rfl (Nat.le_of_ble_eq_true rfl) hl.1 ⟨Nat.le_of_ble_eq_true rfl, Nat.le_of_ble_eq_true rfl⟩ dX8_thoughtUntil_67 (fun H locs S => ?_)
      exact w_X8_thoughtUntil_70 C k2 hk2 _ v1 v2 v3 _ _ _ S (lv_sub hl [1, 2, 3, 4] rfl) hf
  · rw [if_neg c_56] at hf
    exact w_X8_thoughtUntil_59 C _ v3 _ _ _ S (lv_sub hl [4] rfl) hf
set_option maxHeartbeats 4000000 in
set_option maxRecDepth 100000 in
theorem w_X8_thoughtUntil_2 {p : Program} {l : Launch} {e : Env} {s : State} {m : MethodId} {args : Array Value} {below : List Frame} {meth : Method} {c : Code} {G : Gx} {ad : Ad} {res : Int32 × Sg} (C : Cx p s m args meth c yX8_thoughtUntil.cls cX8_thoughtUntil 5 (Option.some FieldType.int) G)  : ∀ n : Nat, ∀ (σ : Sg) (v1 : Int32) (v2 : Int32) (v3 : Int32) (H : Heap) (locs : List Loc) (ls : Array Slot), z_S 1 G ad σ (z_A 1 ad s.heap.size) s.heap H locs → lv_has ls 5 [(0, .ref (ad 8 0)), (1, .int v1), (2, .int v2), (3, .int v3)] → f_X8_thoughtUntil_2  n σ v1 v2 v3 = some res → W p l e { frames := 7, cells := 0, slots := 0, locals := 161 } s m args below meth c H locs 0 0 (MQ below (va_Qi (S := Unit) (fun r1 _ => r1 = res.1) (fun _ t => z_W 1 G ad res.2 t.heap) (z_A 1 ad s.heap.size)) args s 0 0 (z_A 1 ad s.heap.size)) (F0 m 2 ls []) := by
  intro n
  induction n with
  | zero => intro σ v1 v2 v3 H locs ls S hl  hf; cases hf
  | succ n ih =>
    intro σ v1 v2 v3 H locs ls S hl  hf
    rw [f_X8_thoughtUntil_2_s] at hf
    refine lv_iload_n C.1 C.2.1 dX8_thoughtUntil_2 rfl (lv_at hl 3 rfl) ?_
    refine lv_iload_n C.1 C.2.1 dX8_thoughtUntil_3 rfl (lv_at hl 2 rfl) ?_
    refine lv_icmp_gt (tgt := 76) C.1 C.2.1 dX8_thoughtUntil_4 (by decide) (fun c_4 => ?_) (fun c_4 => ?_)
    · rw [if_pos c_4] at hf
      exact w_X8_thoughtUntil_76 C _ _ _ _ S (lv_sub hl [] rfl) hf
    · rw [if_neg c_4] at hf
      refine lv_iload_n C.1 C.2.1 dX8_thoughtUntil_7 rfl (lv_at hl 1 rfl) ?_
      refine lv_iconst (v := (-1)) C.1 C.2.1 dX8_thoughtUntil_8 (by decide) ?_
      refine lv_icmp_ne (tgt := 34) C.1 C.2.1 dX8_thoughtUntil_9 (by decide) (fun c_9 => ?_) (fun c_9 => ?_)
      · rw [if_neg c_9] at hf
        refine lv_aload_n C.1 C.2.1 dX8_thoughtUntil_34 rfl (lv_at hl 0 rfl) ?_
        refine z_getR C S 8 0 rfl (by decide) cf_8 0 (by decide) _ (gr_8_0 G ad 0) tw_6_118 dX8_thoughtUntil_35 ?_
        refine lv_bipush (v := 127) C.1 C.2.1 dX8_thoughtUntil_38 (by decide) ?_
        refine lv_iload_n C.1 C.2.1 dX8_thoughtUntil_40 rfl (lv_at hl 1 rfl) ?_
        refine lv_iadd C.1 C.2.1 dX8_thoughtUntil_41 ?_
        obtain ⟨g_42, hf⟩ := gd hf
        refine z_iald C S 30 0 rfl (by decide) 2111 (fun _ => rfl) g_42 dX8_thoughtUntil_42 ?_
        refine lv_iconst (v := 2) C.1 C.2.1 dX8_thoughtUntil_43 (by decide) ?_
        refine lv_icmp_lt (tgt := 51) C.1 C.2.1 dX8_thoughtUntil_44 (by decide) (fun c_44 => ?_) (fun c_44 => ?_)
        · rw [if_pos c_44] at hf
          refine lv_iconst (v := 0) C.1 C.2.1 dX8_thoughtUntil_51 (by decide) ?_
          exact w_X8_thoughtUntil_52 C (f_X8_thoughtUntil_2 n) ih _ v1 v2 v3 0 _ _ _ S (lv_sub hl [0, 1, 2, 3] rfl) hf
        · rw [if_neg c_44] at hf
          refine lv_iconst (v := 1) C.1 C.2.1 dX8_thoughtUntil_47 (by decide) ?_
          refine lv_goto (tgt := 52) C.1 C.2.1 dX8_thoughtUntil_48 (by decide) ?_
          exact w_X8_thoughtUntil_52 C (f_X8_thoughtUntil_2 n) ih _ v1 v2 v3 1 _ _ _ S (lv_sub hl [0, 1, 2, 3] rfl) hf
      · rw [if_pos c_9] at hf
        refine lv_aload_n C.1 C.2.1 dX8_thoughtUntil_12 rfl (lv_at hl 0 rfl) ?_
        refine lv_iconst (v := 3) C.1 C.2.1 dX8_thoughtUntil_13 (by decide) ?_
        obtain ⟨r2, σ1, q_14, hf⟩ := bib hf
        refine z_callI C S 8 0 rfl (by decide) cf_8 ⟨_, rfl⟩ [.int 3] (m_X8_inState l G ad σ 3 r2 σ1 q_14 _) kv_X8_inState tw_7_60 ⟨Nat.le_of_ble_eq_true rfl, Nat.le_of_ble_eq_true rfl⟩ rfl rfl (Nat.le_of_ble_eq_true rfl) hl.1 ⟨Nat.le_of_ble_eq_true rfl, Nat.le_of_ble_eq_true rfl⟩ dX8_thoughtUntil_14 (fun H locs S => ?_)
        refine lv_aload_n C.1 C.2.1 dX8_thoughtUntil_17 rfl (lv_at hl 0 rfl) ?_
        refine z_getR C S 8 0 rfl (by decide) cf_8 0 (by decide) _ (gr_8_0 G ad 0) tw_6_118 dX8_thoughtUntil_18 ?_
        refine lv_iconst (v := 2) C.1 C.2.1 dX8_thoughtUntil_21 (by decide) ?_
        refine z_ialdL C S 30 0 rfl (by decide) 2111 (fun _ => rfl) 2 (by decide) (by decide) (by decide) dX8_thoughtUntil_22 ?_
        refine lv_icmp_ne (tgt := 30) C.1 C.2.1 dX8_thoughtUntil_23 (by decide) (fun c_23 => ?_) (fun c_23 => ?_)
        · rw [if_neg c_23] at hf
          refine lv_iconst (v := 0) C.1 C.2.1 dX8_thoughtUntil_30 (by decide) ?_
          refine lv_goto (tgt := 52) C.1 C.2.1 dX8_thoughtUntil_31 (by decide) ?_
          exact w_X8_thoughtUntil_52 C (f_X8_thoughtUntil_2 n) ih _ v1 v2 v3 0 _ _ _ S (lv_sub hl [0, 1, 2, 3] rfl) hf
        · rw [if_pos c_23] at hf
          refine lv_iconst (v := 1) C.1 C.2.1 dX8_thoughtUntil_26 (by decide) ?_
          refine lv_goto (tgt := 52) C.1 C.2.1 dX8_thoughtUntil_27 (by decide) ?_
          exact w_X8_thoughtUntil_52 C (f_X8_thoughtUntil_2 n) ih _ v1 v2 v3 1 _ _ _ S (lv_sub hl [0, 1, 2, 3] rfl) hf
set_option maxHeartbeats 4000000 in
set_option maxRecDepth 100000 in
theorem w_X8_thoughtUntil_0 {p : Program} {l : Launch} {e : Env} {s : State} {m : MethodId} {args : Array Value} {below : List Frame} {meth : Method} {c : Code} {G : Gx} {ad : Ad} {res : Int32 × Sg} (C : Cx p s m args meth c yX8_thoughtUntil.cls cX8_thoughtUntil 5 (Option.some FieldType.int) G)  : ∀ (σ : Sg) (v1 : Int32) (v2 : Int32) (H : Heap) (locs : List Loc) (ls : Array Slot), z_S 1 G ad σ (z_A 1 ad s.heap.size) s.heap H locs → lv_has ls 5 [(0, .ref (ad 8 0)), (1, .int v1), (2, .int v2)] → f_X8_thoughtUntil  σ v1 v2 = some res → W p l e { frames := 7, cells := 0, slots := 0, locals := 161 } s m args below meth c H locs 0 0 (MQ below (va_Qi (S := Unit) (fun r1 _ => r1 = res.1) (fun _ t => z_W 1 G ad res.2 t.heap) (z_A 1 ad s.heap.size)) args s 0 0 (z_A 1 ad s.heap.size)) (F0 m 0 ls []) := by
  intro σ v1 v2 H locs ls S hl  hf
  unfold f_X8_thoughtUntil at hf
  refine lv_iconst (v := 0) C.1 C.2.1 dX8_thoughtUntil_0 (by decide) ?_
  refine lv_istore_n (lv' := [(3, .int 0), (0, .ref (ad 8 0)), (1, .int v1), (2, .int v2)]) C.1 C.2.1 dX8_thoughtUntil_1 rfl hl (by decide) rfl (fun ls hl => ?_)
  exact w_X8_thoughtUntil_2 C FU _ v1 v2 0 _ _ _ S (lv_sub hl [1, 2, 3, 0] rfl) hf
theorem kv_X8_thoughtUntil : KV yX8_thoughtUntil cX8_thoughtUntil 5 (Option.some FieldType.int) 2 := ⟨tw_8_160, tw_8_159, tw_p_99, tw_1_10, by decide, by decide, by decide +kernel⟩
theorem m_X8_thoughtUntil (l : Launch) (G : Gx) (ad : Ad) (σ : Sg) (v1 : Int32) (v2 : Int32) (r : Int32) (σ' : Sg)  (hf : f_X8_thoughtUntil σ v1 v2 = some (r, σ')) (sz : Nat) : z_MI l yX8_thoughtUntil cX8_thoughtUntil 5 (Option.some FieldType.int) 7 161 1 G ad σ sz [.ref (ad 8 0), .int v1, .int v2] r σ' := by
  refine z_begin (by decide +kernel) (Nat.le_of_ble_eq_true rfl) [(0, .ref (ad 8 0)), (1, .int v1), (2, .int v2)] rfl (fun p e s m args below meth c ls C hz S hl => ?_)
  subst hz
  exact w_X8_thoughtUntil_0 (res := (r, σ')) C σ v1 v2 _ _ _ S hl  hf

theorem dX8_until_0 : decode cX8_until 0 = .ok (.aload_n 0, 1) := by decide +kernel
theorem dX8_until_1 : decode cX8_until 1 = .ok (.invokevirtual 318, 3) := by decide +kernel
theorem dX8_until_4 : decode cX8_until 4 = .ok (.aload_n 0, 1) := by decide +kernel
theorem dX8_until_5 : decode cX8_until 5 = .ok (.iload_n 1, 1) := by decide +kernel
theorem dX8_until_6 : decode cX8_until 6 = .ok (.iload_n 2, 1) := by decide +kernel
theorem dX8_until_7 : decode cX8_until 7 = .ok (.invokevirtual 324, 3) := by decide +kernel
theorem dX8_until_10 : decode cX8_until 10 = .ok (.istore_n 3, 1) := by decide +kernel
theorem dX8_until_11 : decode cX8_until 11 = .ok (.aload_n 0, 1) := by decide +kernel
theorem dX8_until_12 : decode cX8_until 12 = .ok (.invokevirtual 321, 3) := by decide +kernel
theorem dX8_until_15 : decode cX8_until 15 = .ok (.iload_n 3, 1) := by decide +kernel
theorem dX8_until_16 : decode cX8_until 16 = .ok (.ireturn, 1) := by decide +kernel
/-! BusLiftsModel.until(II)I -/
noncomputable def f_X8_until  (σ : Sg) (v1 : Int32) (v2 : Int32) : Option (Int32 × Sg) := bv (f_X8_begins σ) fun σ1 => (bi (f_X8_thoughtUntil σ1 v1 v2) fun r3 σ2 => (bv (f_X8_ends σ2) fun σ4 => (some (r3, σ4))))
set_option maxHeartbeats 4000000 in
set_option maxRecDepth 100000 in
theorem w_X8_until_0 {p : Program} {l : Launch} {e : Env} {s : State} {m : MethodId} {args : Array Value} {below : List Frame} {meth : Method} {c : Code} {G : Gx} {ad : Ad} {res : Int32 × Sg} (C : Cx p s m args meth c yX8_until.cls cX8_until 4 (Option.some FieldType.int) G)  : ∀ (σ : Sg) (v1 : Int32) (v2 : Int32) (H : Heap) (locs : List Loc) (ls : Array Slot), z_S 1 G ad σ (z_A 1 ad s.heap.size) s.heap H locs → lv_has ls 4 [(0, .ref (ad 8 0)), (1, .int v1), (2, .int v2)] → f_X8_until  σ v1 v2 = some res → W p l e { frames := 8, cells := 0, slots := 0, locals := 185 } s m args below meth c H locs 0 0 (MQ below (va_Qi (S := Unit) (fun r1 _ => r1 = res.1) (fun _ t => z_W 1 G ad res.2 t.heap) (z_A 1 ad s.heap.size)) args s 0 0 (z_A 1 ad s.heap.size)) (F0 m 0 ls []) := by
  intro σ v1 v2 H locs ls S hl  hf
  unfold f_X8_until at hf
  refine lv_aload_n C.1 C.2.1 dX8_until_0 rfl (lv_at hl 0 rfl) ?_
  obtain ⟨σ1, q_1, hf⟩ := bvb hf
  refine z_callV C S 8 0 rfl (by decide) cf_8 ⟨_, rfl⟩ [] (m_X8_begins l G ad σ σ1 q_1 _) kv_X8_begins tw_8_141 ⟨Nat.le_of_ble_eq_true rfl, Nat.le_of_ble_eq_true rfl⟩ rfl rfl (Nat.le_of_ble_eq_true rfl) hl.1 ⟨Nat.le_of_ble_eq_true rfl, Nat.le_of_ble_eq_true rfl⟩ dX8_until_1 (fun H locs S => ?_)
  refine lv_aload_n C.1 C.2.1 dX8_until_4 rfl (lv_at hl 0 rfl) ?_
  refine lv_iload_n C.1 C.2.1 dX8_until_5 rfl (lv_at hl 1 rfl) ?_
  refine lv_iload_n C.1 C.2.1 dX8_until_6 rfl (lv_at hl 2 rfl) ?_
  obtain ⟨r3, σ2, q_7, hf⟩ := bib hf
  refine z_callI C S 8 0 rfl (by decide) cf_8 ⟨_, rfl⟩ [.int v1, .int v2] (m_X8_thoughtUntil l G ad σ1 v1 v2 r3 σ2 q_7 _) kv_X8_thoughtUntil tw_8_157 ⟨Nat.le_of_ble_eq_true rfl, Nat.le_of_ble_eq_true rfl⟩ rfl rfl (Nat.le_of_ble_eq_true rfl) hl.1 ⟨Nat.le_of_ble_eq_true rfl, Nat.le_of_ble_eq_true rfl⟩ dX8_until_7 (fun H locs S => ?_)
  refine lv_istore_n (lv' := [(3, .int r3), (0, .ref (ad 8 0)), (1, .int v1), (2, .int v2)]) C.1 C.2.1 dX8_until_10 rfl hl (by decide) rfl (fun ls hl => ?_)
  refine lv_aload_n C.1 C.2.1 dX8_until_11 rfl (lv_at hl 1 rfl) ?_
  obtain ⟨σ4, q_12, hf⟩ := bvb hf
  refine z_callV C S 8 0 rfl (by decide) cf_8 ⟨_, rfl⟩ [] (m_X8_ends l G ad σ2 σ4 q_12 _) kv_X8_ends tw_8_145 ⟨Nat.le_of_ble_eq_true rfl, Nat.le_of_ble_eq_true rfl⟩ rfl rfl (Nat.le_of_ble_eq_true rfl) hl.1 ⟨Nat.le_of_ble_eq_true rfl, Nat.le_of_ble_eq_true rfl⟩ dX8_until_12 (fun H locs S => ?_)
  refine lv_iload_n C.1 C.2.1 dX8_until_15 rfl (lv_at hl 0 rfl) ?_
  exact z_iret C S hf dX8_until_16
theorem kv_X8_until : KV yX8_until cX8_until 4 (Option.some FieldType.int) 2 := ⟨tw_8_156, tw_8_155, tw_p_98, tw_1_10, by decide, by decide, by decide +kernel⟩
theorem m_X8_until (l : Launch) (G : Gx) (ad : Ad) (σ : Sg) (v1 : Int32) (v2 : Int32) (r : Int32) (σ' : Sg)  (hf : f_X8_until σ v1 v2 = some (r, σ')) (sz : Nat) : z_MI l yX8_until cX8_until 4 (Option.some FieldType.int) 8 185 1 G ad σ sz [.ref (ad 8 0), .int v1, .int v2] r σ' := by
  refine z_begin (by decide +kernel) (Nat.le_of_ble_eq_true rfl) [(0, .ref (ad 8 0)), (1, .int v1), (2, .int v2)] rfl (fun p e s m args below meth c ls C hz S hl => ?_)
  subst hz
  exact w_X8_until_0 (res := (r, σ')) C σ v1 v2 _ _ _ S hl  hf

theorem dX8_aboardIn_0 : decode cX8_aboardIn 0 = .ok (.aload_n 0, 1) := by decide +kernel
theorem dX8_aboardIn_1 : decode cX8_aboardIn 1 = .ok (.iload_n 1, 1) := by decide +kernel
theorem dX8_aboardIn_2 : decode cX8_aboardIn 2 = .ok (.invokevirtual 274, 3) := by decide +kernel
theorem dX8_aboardIn_5 : decode cX8_aboardIn 5 = .ok (.ifCond .ne 27, 3) := by decide +kernel
theorem dX8_aboardIn_8 : decode cX8_aboardIn 8 = .ok (.aload_n 0, 1) := by decide +kernel
theorem dX8_aboardIn_9 : decode cX8_aboardIn 9 = .ok (.iload_n 2, 1) := by decide +kernel
theorem dX8_aboardIn_10 : decode cX8_aboardIn 10 = .ok (.iconst 1, 1) := by decide +kernel
theorem dX8_aboardIn_11 : decode cX8_aboardIn 11 = .ok (.sipush 500, 3) := by decide +kernel
theorem dX8_aboardIn_14 : decode cX8_aboardIn 14 = .ok (.invokestatic 165, 3) := by decide +kernel
theorem dX8_aboardIn_17 : decode cX8_aboardIn 17 = .ok (.ifCond .ne 7, 3) := by decide +kernel
theorem dX8_aboardIn_20 : decode cX8_aboardIn 20 = .ok (.iconst 1, 1) := by decide +kernel
theorem dX8_aboardIn_21 : decode cX8_aboardIn 21 = .ok (.goto 4, 3) := by decide +kernel
theorem dX8_aboardIn_24 : decode cX8_aboardIn 24 = .ok (.iconst 0, 1) := by decide +kernel
theorem dX8_aboardIn_25 : decode cX8_aboardIn 25 = .ok (.iconst 2, 1) := by decide +kernel
theorem dX8_aboardIn_26 : decode cX8_aboardIn 26 = .ok (.invokevirtual 267, 3) := by decide +kernel
theorem dX8_aboardIn_29 : decode cX8_aboardIn 29 = .ok (.ifCond .eq 5, 3) := by decide +kernel
theorem dX8_aboardIn_32 : decode cX8_aboardIn 32 = .ok (.iconst 0, 1) := by decide +kernel
theorem dX8_aboardIn_33 : decode cX8_aboardIn 33 = .ok (.ireturn, 1) := by decide +kernel
theorem dX8_aboardIn_34 : decode cX8_aboardIn 34 = .ok (.aload_n 0, 1) := by decide +kernel
theorem dX8_aboardIn_35 : decode cX8_aboardIn 35 = .ok (.iload_n 1, 1) := by decide +kernel
theorem dX8_aboardIn_36 : decode cX8_aboardIn 36 = .ok (.iload_n 2, 1) := by decide +kernel
theorem dX8_aboardIn_37 : decode cX8_aboardIn 37 = .ok (.invokevirtual 327, 3) := by decide +kernel
theorem dX8_aboardIn_40 : decode cX8_aboardIn 40 = .ok (.ireturn, 1) := by decide +kernel
/-! BusLiftsModel.aboardIn(II)I -/
noncomputable def f_X8_aboardIn_32  (σ : Sg)  : Option (Int32 × Sg) := some (0, σ)
noncomputable def f_X8_aboardIn_25  (σ : Sg) (v1 : Int32) (v2 : Int32) (v101 : Int32) : Option (Int32 × Sg) := bi (f_X8_fails σ v101 2) fun r2 σ1 => (if r2 = 0 then (bi (f_X8_until σ1 v1 v2) fun r4 σ3 => (some (r4, σ3))) else (f_X8_aboardIn_32 σ1))
noncomputable def f_X8_aboardIn  (σ : Sg) (v1 : Int32) (v2 : Int32) : Option (Int32 × Sg) := bi (f_X8_noCall σ v1) fun r2 σ1 => (if r2 = 0 then (bi (f_X8_inRange σ1 v2 1 500) fun r4 σ3 => (if r4 = 0 then (f_X8_aboardIn_25 σ3 v1 v2 1) else (f_X8_aboardIn_25 σ3 v1 v2 0))) else (f_X8_aboardIn_32 σ1))
set_option maxHeartbeats 4000000 in
set_option maxRecDepth 100000 in
theorem w_X8_aboardIn_32 {p : Program} {l : Launch} {e : Env} {s : State} {m : MethodId} {args : Array Value} {below : List Frame} {meth : Method} {c : Code} {G : Gx} {ad : Ad} {res : Int32 × Sg} (C : Cx p s m args meth c yX8_aboardIn.cls cX8_aboardIn 3 (Option.some FieldType.int) G)  : ∀ (σ : Sg)  (H : Heap) (locs : List Loc) (ls : Array Slot), z_S 1 G ad σ (z_A 1 ad s.heap.size) s.heap H locs → lv_has ls 3 [] → f_X8_aboardIn_32  σ  = some res → W p l e { frames := 9, cells := 0, slots := 0, locals := 208 } s m args below meth c H locs 0 0 (MQ below (va_Qi (S := Unit) (fun r1 _ => r1 = res.1) (fun _ t => z_W 1 G ad res.2 t.heap) (z_A 1 ad s.heap.size)) args s 0 0 (z_A 1 ad s.heap.size)) (F0 m 32 ls []) := by
  intro σ  H locs ls S hl  hf
  unfold f_X8_aboardIn_32 at hf
  refine lv_iconst (v := 0) C.1 C.2.1 dX8_aboardIn_32 (by decide) ?_
  exact z_iret C S hf dX8_aboardIn_33
set_option maxHeartbeats 4000000 in
set_option maxRecDepth 100000 in
theorem w_X8_aboardIn_25 {p : Program} {l : Launch} {e : Env} {s : State} {m : MethodId} {args : Array Value} {below : List Frame} {meth : Method} {c : Code} {G : Gx} {ad : Ad} {res : Int32 × Sg} (C : Cx p s m args meth c yX8_aboardIn.cls cX8_aboardIn 3 (Option.some FieldType.int) G)  : ∀ (σ : Sg) (v1 : Int32) (v2 : Int32) (v101 : Int32) (H : Heap) (locs : List Loc) (ls : Array Slot), z_S 1 G ad σ (z_A 1 ad s.heap.size) s.heap H locs → lv_has ls 3 [(0, .ref (ad 8 0)), (1, .int v1), (2, .int v2)] → f_X8_aboardIn_25  σ v1 v2 v101 = some res → W p l e { frames := 9, cells := 0, slots := 0, locals := 208 } s m args below meth c H locs 0 0 (MQ below (va_Qi (S := Unit) (fun r1 _ => r1 = res.1) (fun _ t => z_W 1 G ad res.2 t.heap) (z_A 1 ad s.heap.size)) args s 0 0 (z_A 1 ad s.heap.size)) (F0 m 25 ls [.int v101, .ref (ad 8 0)]) := by
  intro σ v1 v2 v101 H locs ls S hl  hf
  unfold f_X8_aboardIn_25 at hf
  refine lv_iconst (v := 2) C.1 C.2.1 dX8_aboardIn_25 (by decide) ?_
  obtain ⟨r2, σ1, q_26, hf⟩ := bib hf
  refine z_callI C S 8 0 rfl (by decide) cf_8 ⟨_, rfl⟩ [.int v101, .int 2] (m_X8_fails l G ad σ v101 2 r2 σ1 q_26 _) kv_X8_fails tw_7_56 ⟨Nat.le_of_ble_eq_true rfl, Nat.le_of_ble_eq_true rfl⟩ rfl rfl (Nat.le_of_ble_eq_true rfl) hl.1 ⟨Nat.le_of_ble_eq_true rfl, Nat.le_of_ble_eq_true rfl⟩ dX8_aboardIn_26 (fun H locs S => ?_)
  refine lv_if_eq (tgt := 34) C.1 C.2.1 dX8_aboardIn_29 (by decide) (fun c_29 => ?_) (fun c_29 => ?_)
  · rw [if_pos c_29] at hf
    refine lv_aload_n C.1 C.2.1 dX8_aboardIn_34 rfl (lv_at hl 0 rfl) ?_
    refine lv_iload_n C.1 C.2.1 dX8_aboardIn_35 rfl (lv_at hl 1 rfl) ?_
    refine lv_iload_n C.1 C.2.1 dX8_aboardIn_36 rfl (lv_at hl 2 rfl) ?_
    obtain ⟨r4, σ3, q_37, hf⟩ := bib hf
    refine z_callI C S 8 0 rfl (by decide) cf_8 ⟨_, rfl⟩ [.int v1, .int v2] (m_X8_until l G ad σ1 v1 v2 r4 σ3 q_37 _) kv_X8_until tw_8_153 ⟨Nat.le_of_ble_eq_true rfl, Nat.le_of_ble_eq_true rfl⟩ rfl rfl (Nat.le_of_ble_eq_true rfl) hl.1 ⟨Nat.le_of_ble_eq_true rfl, Nat.le_of_ble_eq_true rfl⟩ dX8_aboardIn_37 (fun H locs S => ?_)
    exact z_iret C S hf dX8_aboardIn_40
  · rw [if_neg c_29] at hf
    exact w_X8_aboardIn_32 C _ _ _ _ S (lv_sub hl [] rfl) hf
set_option maxHeartbeats 4000000 in
set_option maxRecDepth 100000 in
theorem w_X8_aboardIn_0 {p : Program} {l : Launch} {e : Env} {s : State} {m : MethodId} {args : Array Value} {below : List Frame} {meth : Method} {c : Code} {G : Gx} {ad : Ad} {res : Int32 × Sg} (C : Cx p s m args meth c yX8_aboardIn.cls cX8_aboardIn 3 (Option.some FieldType.int) G)  : ∀ (σ : Sg) (v1 : Int32) (v2 : Int32) (H : Heap) (locs : List Loc) (ls : Array Slot), z_S 1 G ad σ (z_A 1 ad s.heap.size) s.heap H locs → lv_has ls 3 [(0, .ref (ad 8 0)), (1, .int v1), (2, .int v2)] → f_X8_aboardIn  σ v1 v2 = some res → W p l e { frames := 9, cells := 0, slots := 0, locals := 208 } s m args below meth c H locs 0 0 (MQ below (va_Qi (S := Unit) (fun r1 _ => r1 = res.1) (fun _ t => z_W 1 G ad res.2 t.heap) (z_A 1 ad s.heap.size)) args s 0 0 (z_A 1 ad s.heap.size)) (F0 m 0 ls []) := by
  intro σ v1 v2 H locs ls S hl  hf
  unfold f_X8_aboardIn at hf
  refine lv_aload_n C.1 C.2.1 dX8_aboardIn_0 rfl (lv_at hl 0 rfl) ?_
  refine lv_iload_n C.1 C.2.1 dX8_aboardIn_1 rfl (lv_at hl 1 rfl) ?_
  obtain ⟨r2, σ1, q_2, hf⟩ := bib hf
  refine z_callI C S 8 0 rfl (by decide) cf_8 ⟨_, rfl⟩ [.int v1] (m_X8_noCall l G ad σ v1 r2 σ1 q_2 _) kv_X8_noCall tw_7_91 ⟨Nat.le_of_ble_eq_true rfl, Nat.le_of_ble_eq_true rfl⟩ rfl rfl (Nat.le_of_ble_eq_true rfl) hl.1 ⟨Nat.le_of_ble_eq_true rfl, Nat.le_of_ble_eq_true rfl⟩ dX8_aboardIn_2 (fun H locs S => ?_)
  refine lv_if_ne (tgt := 32) C.1 C.2.1 dX8_aboardIn_5 (by decide) (fun c_5 => ?_) (fun c_5 => ?_)
  · rw [if_neg c_5] at hf
    exact w_X8_aboardIn_32 C _ _ _ _ S (lv_sub hl [] rfl) hf
  · rw [if_pos c_5] at hf
    refine lv_aload_n C.1 C.2.1 dX8_aboardIn_8 rfl (lv_at hl 0 rfl) ?_
    refine lv_iload_n C.1 C.2.1 dX8_aboardIn_9 rfl (lv_at hl 2 rfl) ?_
    refine lv_iconst (v := 1) C.1 C.2.1 dX8_aboardIn_10 (by decide) ?_
    refine lv_sipush (v := 500) C.1 C.2.1 dX8_aboardIn_11 (by decide) ?_
    obtain ⟨r4, σ3, q_14, hf⟩ := bib hf
    refine z_callSI C S [.int v2, .int 1, .int 500] (m_X8_inRange l G ad σ1 v2 1 500 r4 σ3 q_14 _) kv_X8_inRange tw_6_204 ⟨Nat.le_of_ble_eq_true rfl, Nat.le_of_ble_eq_true rfl⟩ rfl rfl (Nat.le_of_ble_eq_true rfl) hl.1 ⟨Nat.le_of_ble_eq_true rfl, Nat.le_of_ble_eq_true rfl⟩ dX8_aboardIn_14 (fun H locs S => ?_)
    refine lv_if_ne (tgt := 24) C.1 C.2.1 dX8_aboardIn_17 (by decide) (fun c_17 => ?_) (fun c_17 => ?_)
    · rw [if_neg c_17] at hf
      refine lv_iconst (v := 0) C.1 C.2.1 dX8_aboardIn_24 (by decide) ?_
      exact w_X8_aboardIn_25 C _ v1 v2 0 _ _ _ S (lv_sub hl [0, 1, 2] rfl) hf
    · rw [if_pos c_17] at hf
      refine lv_iconst (v := 1) C.1 C.2.1 dX8_aboardIn_20 (by decide) ?_
      refine lv_goto (tgt := 25) C.1 C.2.1 dX8_aboardIn_21 (by decide) ?_
      exact w_X8_aboardIn_25 C _ v1 v2 1 _ _ _ S (lv_sub hl [0, 1, 2] rfl) hf
theorem kv_X8_aboardIn : KV yX8_aboardIn cX8_aboardIn 3 (Option.some FieldType.int) 2 := ⟨tw_8_152, tw_8_150, tw_8_151, tw_1_10, by decide, by decide, by decide +kernel⟩
theorem m_X8_aboardIn (l : Launch) (G : Gx) (ad : Ad) (σ : Sg) (v1 : Int32) (v2 : Int32) (r : Int32) (σ' : Sg)  (hf : f_X8_aboardIn σ v1 v2 = some (r, σ')) (sz : Nat) : z_MI l yX8_aboardIn cX8_aboardIn 3 (Option.some FieldType.int) 9 208 1 G ad σ sz [.ref (ad 8 0), .int v1, .int v2] r σ' := by
  refine z_begin (by decide +kernel) (Nat.le_of_ble_eq_true rfl) [(0, .ref (ad 8 0)), (1, .int v1), (2, .int v2)] rfl (fun p e s m args below meth c ls C hz S hl => ?_)
  subst hz
  exact w_X8_aboardIn_0 (res := (r, σ')) C σ v1 v2 _ _ _ S hl  hf

theorem dX8_doneIn_0 : decode cX8_doneIn 0 = .ok (.aload_n 0, 1) := by decide +kernel
theorem dX8_doneIn_1 : decode cX8_doneIn 1 = .ok (.iload_n 1, 1) := by decide +kernel
theorem dX8_doneIn_2 : decode cX8_doneIn 2 = .ok (.invokevirtual 295, 3) := by decide +kernel
theorem dX8_doneIn_5 : decode cX8_doneIn 5 = .ok (.ifCond .eq 7, 3) := by decide +kernel
theorem dX8_doneIn_8 : decode cX8_doneIn 8 = .ok (.iconst 0, 1) := by decide +kernel
theorem dX8_doneIn_9 : decode cX8_doneIn 9 = .ok (.goto 9, 3) := by decide +kernel
theorem dX8_doneIn_12 : decode cX8_doneIn 12 = .ok (.aload_n 0, 1) := by decide +kernel
theorem dX8_doneIn_13 : decode cX8_doneIn 13 = .ok (.iconst (-1), 1) := by decide +kernel
theorem dX8_doneIn_14 : decode cX8_doneIn 14 = .ok (.iload_n 1, 1) := by decide +kernel
theorem dX8_doneIn_15 : decode cX8_doneIn 15 = .ok (.invokevirtual 327, 3) := by decide +kernel
theorem dX8_doneIn_18 : decode cX8_doneIn 18 = .ok (.ireturn, 1) := by decide +kernel
/-! BusLiftsModel.doneIn(I)I -/
noncomputable def f_X8_doneIn_18  (σ : Sg) (v100 : Int32) : Option (Int32 × Sg) := some (v100, σ)
noncomputable def f_X8_doneIn  (σ : Sg) (v1 : Int32) : Option (Int32 × Sg) := bi (f_X8_badTicks σ v1) fun r2 σ1 => (if r2 = 0 then (bi (f_X8_until σ1 (-1) v1) fun r4 σ3 => (f_X8_doneIn_18 σ3 r4)) else (f_X8_doneIn_18 σ1 0))
set_option maxHeartbeats 4000000 in
set_option maxRecDepth 100000 in
theorem w_X8_doneIn_18 {p : Program} {l : Launch} {e : Env} {s : State} {m : MethodId} {args : Array Value} {below : List Frame} {meth : Method} {c : Code} {G : Gx} {ad : Ad} {res : Int32 × Sg} (C : Cx p s m args meth c yX8_doneIn.cls cX8_doneIn 2 (Option.some FieldType.int) G)  : ∀ (σ : Sg) (v100 : Int32) (H : Heap) (locs : List Loc) (ls : Array Slot), z_S 1 G ad σ (z_A 1 ad s.heap.size) s.heap H locs → lv_has ls 2 [] → f_X8_doneIn_18  σ v100 = some res → W p l e { frames := 9, cells := 0, slots := 0, locals := 208 } s m args below meth c H locs 0 0 (MQ below (va_Qi (S := Unit) (fun r1 _ => r1 = res.1) (fun _ t => z_W 1 G ad res.2 t.heap) (z_A 1 ad s.heap.size)) args s 0 0 (z_A 1 ad s.heap.size)) (F0 m 18 ls [.int v100]) := by
  intro σ v100 H locs ls S hl  hf
  unfold f_X8_doneIn_18 at hf
  exact z_iret C S hf dX8_doneIn_18
set_option maxHeartbeats 4000000 in
set_option maxRecDepth 100000 in
theorem w_X8_doneIn_0 {p : Program} {l : Launch} {e : Env} {s : State} {m : MethodId} {args : Array Value} {below : List Frame} {meth : Method} {c : Code} {G : Gx} {ad : Ad} {res : Int32 × Sg} (C : Cx p s m args meth c yX8_doneIn.cls cX8_doneIn 2 (Option.some FieldType.int) G)  : ∀ (σ : Sg) (v1 : Int32) (H : Heap) (locs : List Loc) (ls : Array Slot), z_S 1 G ad σ (z_A 1 ad s.heap.size) s.heap H locs → lv_has ls 2 [(0, .ref (ad 8 0)), (1, .int v1)] → f_X8_doneIn  σ v1 = some res → W p l e { frames := 9, cells := 0, slots := 0, locals := 208 } s m args below meth c H locs 0 0 (MQ below (va_Qi (S := Unit) (fun r1 _ => r1 = res.1) (fun _ t => z_W 1 G ad res.2 t.heap) (z_A 1 ad s.heap.size)) args s 0 0 (z_A 1 ad s.heap.size)) (F0 m 0 ls []) := by
  intro σ v1 H locs ls S hl  hf
  unfold f_X8_doneIn at hf
  refine lv_aload_n C.1 C.2.1 dX8_doneIn_0 rfl (lv_at hl 0 rfl) ?_
  refine lv_iload_n C.1 C.2.1 dX8_doneIn_1 rfl (lv_at hl 1 rfl) ?_
  obtain ⟨r2, σ1, q_2, hf⟩ := bib hf
  refine z_callI C S 8 0 rfl (by decide) cf_8 ⟨_, rfl⟩ [.int v1] (m_X8_badTicks l G ad σ v1 r2 σ1 q_2 _) kv_X8_badTicks tw_7_186 ⟨Nat.le_of_ble_eq_true rfl, Nat.le_of_ble_eq_true rfl⟩ rfl rfl (Nat.le_of_ble_eq_true rfl) hl.1 ⟨Nat.le_of_ble_eq_true rfl, Nat.le_of_ble_eq_true rfl⟩ dX8_doneIn_2 (fun H locs S => ?_)
  refine lv_if_eq (tgt := 12) C.1 C.2.1 dX8_doneIn_5 (by decide) (fun c_5 => ?_) (fun c_5 => ?_)
  · rw [if_pos c_5] at hf
    refine lv_aload_n C.1 C.2.1 dX8_doneIn_12 rfl (lv_at hl 0 rfl) ?_
    refine lv_iconst (v := (-1)) C.1 C.2.1 dX8_doneIn_13 (by decide) ?_
    refine lv_iload_n C.1 C.2.1 dX8_doneIn_14 rfl (lv_at hl 1 rfl) ?_
    obtain ⟨r4, σ3, q_15, hf⟩ := bib hf
    refine z_callI C S 8 0 rfl (by decide) cf_8 ⟨_, rfl⟩ [.int (-1), .int v1] (m_X8_until l G ad σ1 (-1) v1 r4 σ3 q_15 _) kv_X8_until tw_8_153 ⟨Nat.le_of_ble_eq_true rfl, Nat.le_of_ble_eq_true rfl⟩ rfl rfl (Nat.le_of_ble_eq_true rfl) hl.1 ⟨Nat.le_of_ble_eq_true rfl, Nat.le_of_ble_eq_true rfl⟩ dX8_doneIn_15 (fun H locs S => ?_)
    exact w_X8_doneIn_18 C _ r4 _ _ _ S (lv_sub hl [] rfl) hf
  · rw [if_neg c_5] at hf
    refine lv_iconst (v := 0) C.1 C.2.1 dX8_doneIn_8 (by decide) ?_
    refine lv_goto (tgt := 18) C.1 C.2.1 dX8_doneIn_9 (by decide) ?_
    exact w_X8_doneIn_18 C _ 0 _ _ _ S (lv_sub hl [] rfl) hf
theorem kv_X8_doneIn : KV yX8_doneIn cX8_doneIn 2 (Option.some FieldType.int) 1 := ⟨tw_8_164, tw_8_162, tw_8_163, tw_1_10, by decide, by decide, by decide +kernel⟩
theorem m_X8_doneIn (l : Launch) (G : Gx) (ad : Ad) (σ : Sg) (v1 : Int32) (r : Int32) (σ' : Sg)  (hf : f_X8_doneIn σ v1 = some (r, σ')) (sz : Nat) : z_MI l yX8_doneIn cX8_doneIn 2 (Option.some FieldType.int) 9 208 1 G ad σ sz [.ref (ad 8 0), .int v1] r σ' := by
  refine z_begin (by decide +kernel) (Nat.le_of_ble_eq_true rfl) [(0, .ref (ad 8 0)), (1, .int v1)] rfl (fun p e s m args below meth c ls C hz S hl => ?_)
  subst hz
  exact w_X8_doneIn_0 (res := (r, σ')) C σ v1 _ _ _ S hl  hf

theorem dX8_nobodyMany_0 : decode cX8_nobodyMany 0 = .ok (.aload_n 0, 1) := by decide +kernel
theorem dX8_nobodyMany_1 : decode cX8_nobodyMany 1 = .ok (.getfield 7, 3) := by decide +kernel
theorem dX8_nobodyMany_4 : decode cX8_nobodyMany 4 = .ok (.bipush 19, 2) := by decide +kernel
theorem dX8_nobodyMany_6 : decode cX8_nobodyMany 6 = .ok (.iaload, 1) := by decide +kernel
theorem dX8_nobodyMany_7 : decode cX8_nobodyMany 7 = .ok (.aload_n 0, 1) := by decide +kernel
theorem dX8_nobodyMany_8 : decode cX8_nobodyMany 8 = .ok (.getfield 7, 3) := by decide +kernel
theorem dX8_nobodyMany_11 : decode cX8_nobodyMany 11 = .ok (.bipush 20, 2) := by decide +kernel
theorem dX8_nobodyMany_13 : decode cX8_nobodyMany 13 = .ok (.iaload, 1) := by decide +kernel
theorem dX8_nobodyMany_14 : decode cX8_nobodyMany 14 = .ok (.iadd, 1) := by decide +kernel
theorem dX8_nobodyMany_15 : decode cX8_nobodyMany 15 = .ok (.aload_n 0, 1) := by decide +kernel
theorem dX8_nobodyMany_16 : decode cX8_nobodyMany 16 = .ok (.getfield 7, 3) := by decide +kernel
theorem dX8_nobodyMany_19 : decode cX8_nobodyMany 19 = .ok (.bipush 21, 2) := by decide +kernel
theorem dX8_nobodyMany_21 : decode cX8_nobodyMany 21 = .ok (.iaload, 1) := by decide +kernel
theorem dX8_nobodyMany_22 : decode cX8_nobodyMany 22 = .ok (.iadd, 1) := by decide +kernel
theorem dX8_nobodyMany_23 : decode cX8_nobodyMany 23 = .ok (.aload_n 0, 1) := by decide +kernel
theorem dX8_nobodyMany_24 : decode cX8_nobodyMany 24 = .ok (.getfield 7, 3) := by decide +kernel
theorem dX8_nobodyMany_27 : decode cX8_nobodyMany 27 = .ok (.bipush 22, 2) := by decide +kernel
theorem dX8_nobodyMany_29 : decode cX8_nobodyMany 29 = .ok (.iaload, 1) := by decide +kernel
theorem dX8_nobodyMany_30 : decode cX8_nobodyMany 30 = .ok (.iadd, 1) := by decide +kernel
theorem dX8_nobodyMany_31 : decode cX8_nobodyMany 31 = .ok (.ireturn, 1) := by decide +kernel
/-! BusLiftsModel.nobodyMany()I -/
noncomputable def f_X8_nobodyMany  (σ : Sg)  : Option (Int32 × Sg) := some (((((σ 30 0 19) + (σ 30 0 20)) + (σ 30 0 21)) + (σ 30 0 22)), σ)
set_option maxHeartbeats 4000000 in
set_option maxRecDepth 100000 in
theorem w_X8_nobodyMany_0 {p : Program} {l : Launch} {e : Env} {s : State} {m : MethodId} {args : Array Value} {below : List Frame} {meth : Method} {c : Code} {G : Gx} {ad : Ad} {res : Int32 × Sg} (C : Cx p s m args meth c yX8_nobodyMany.cls cX8_nobodyMany 1 (Option.some FieldType.int) G)  : ∀ (σ : Sg)  (H : Heap) (locs : List Loc) (ls : Array Slot), z_S 1 G ad σ (z_A 1 ad s.heap.size) s.heap H locs → lv_has ls 1 [(0, .ref (ad 8 0))] → f_X8_nobodyMany  σ  = some res → W p l e { frames := 0, cells := 0, slots := 0, locals := 0 } s m args below meth c H locs 0 0 (MQ below (va_Qi (S := Unit) (fun r1 _ => r1 = res.1) (fun _ t => z_W 1 G ad res.2 t.heap) (z_A 1 ad s.heap.size)) args s 0 0 (z_A 1 ad s.heap.size)) (F0 m 0 ls []) := by
  intro σ  H locs ls S hl  hf
  unfold f_X8_nobodyMany at hf
  refine lv_aload_n C.1 C.2.1 dX8_nobodyMany_0 rfl (lv_at hl 0 rfl) ?_
  refine z_getR C S 8 0 rfl (by decide) cf_8 0 (by decide) _ (gr_8_0 G ad 0) tw_6_118 dX8_nobodyMany_1 ?_
  refine lv_bipush (v := 19) C.1 C.2.1 dX8_nobodyMany_4 (by decide) ?_
  refine z_ialdL C S 30 0 rfl (by decide) 2111 (fun _ => rfl) 19 (by decide) (by decide) (by decide) dX8_nobodyMany_6 ?_
  refine lv_aload_n C.1 C.2.1 dX8_nobodyMany_7 rfl (lv_at hl 0 rfl) ?_
  refine z_getR C S 8 0 rfl (by decide) cf_8 0 (by decide) _ (gr_8_0 G ad 0) tw_6_118 dX8_nobodyMany_8 ?_
  refine lv_bipush (v := 20) C.1 C.2.1 dX8_nobodyMany_11 (by decide) ?_
  refine z_ialdL C S 30 0 rfl (by decide) 2111 (fun _ => rfl) 20 (by decide) (by decide) (by decide) dX8_nobodyMany_13 ?_
  refine lv_iadd C.1 C.2.1 dX8_nobodyMany_14 ?_
  refine lv_aload_n C.1 C.2.1 dX8_nobodyMany_15 rfl (lv_at hl 0 rfl) ?_
  refine z_getR C S 8 0 rfl (by decide) cf_8 0 (by decide) _ (gr_8_0 G ad 0) tw_6_118 dX8_nobodyMany_16 ?_
  refine lv_bipush (v := 21) C.1 C.2.1 dX8_nobodyMany_19 (by decide) ?_
  refine z_ialdL C S 30 0 rfl (by decide) 2111 (fun _ => rfl) 21 (by decide) (by decide) (by decide) dX8_nobodyMany_21 ?_
  refine lv_iadd C.1 C.2.1 dX8_nobodyMany_22 ?_
  refine lv_aload_n C.1 C.2.1 dX8_nobodyMany_23 rfl (lv_at hl 0 rfl) ?_
  refine z_getR C S 8 0 rfl (by decide) cf_8 0 (by decide) _ (gr_8_0 G ad 0) tw_6_118 dX8_nobodyMany_24 ?_
  refine lv_bipush (v := 22) C.1 C.2.1 dX8_nobodyMany_27 (by decide) ?_
  refine z_ialdL C S 30 0 rfl (by decide) 2111 (fun _ => rfl) 22 (by decide) (by decide) (by decide) dX8_nobodyMany_29 ?_
  refine lv_iadd C.1 C.2.1 dX8_nobodyMany_30 ?_
  exact z_iret C S hf dX8_nobodyMany_31
theorem kv_X8_nobodyMany : KV yX8_nobodyMany cX8_nobodyMany 1 (Option.some FieldType.int) 0 := ⟨tw_8_172, tw_8_171, tw_p_100, tw_1_10, by decide, by decide, by decide +kernel⟩
theorem m_X8_nobodyMany (l : Launch) (G : Gx) (ad : Ad) (σ : Sg)  (r : Int32) (σ' : Sg)  (hf : f_X8_nobodyMany σ  = some (r, σ')) (sz : Nat) : z_MI l yX8_nobodyMany cX8_nobodyMany 1 (Option.some FieldType.int) 0 0 1 G ad σ sz [.ref (ad 8 0)] r σ' := by
  refine z_begin (by decide +kernel) (Nat.le_of_ble_eq_true rfl) [(0, .ref (ad 8 0))] rfl (fun p e s m args below meth c ls C hz S hl => ?_)
  subst hz
  exact w_X8_nobodyMany_0 (res := (r, σ')) C σ  _ _ _ S hl  hf

theorem dX8_nobodyIn_0 : decode cX8_nobodyIn 0 = .ok (.aload_n 0, 1) := by decide +kernel
theorem dX8_nobodyIn_1 : decode cX8_nobodyIn 1 = .ok (.iload_n 1, 1) := by decide +kernel
theorem dX8_nobodyIn_2 : decode cX8_nobodyIn 2 = .ok (.invokevirtual 295, 3) := by decide +kernel
theorem dX8_nobodyIn_5 : decode cX8_nobodyIn 5 = .ok (.ifCond .eq 5, 3) := by decide +kernel
theorem dX8_nobodyIn_8 : decode cX8_nobodyIn 8 = .ok (.iconst 0, 1) := by decide +kernel
theorem dX8_nobodyIn_9 : decode cX8_nobodyIn 9 = .ok (.ireturn, 1) := by decide +kernel
theorem dX8_nobodyIn_10 : decode cX8_nobodyIn 10 = .ok (.aload_n 0, 1) := by decide +kernel
theorem dX8_nobodyIn_11 : decode cX8_nobodyIn 11 = .ok (.invokevirtual 330, 3) := by decide +kernel
theorem dX8_nobodyIn_14 : decode cX8_nobodyIn 14 = .ok (.istore_n 2, 1) := by decide +kernel
theorem dX8_nobodyIn_15 : decode cX8_nobodyIn 15 = .ok (.aload_n 0, 1) := by decide +kernel
theorem dX8_nobodyIn_16 : decode cX8_nobodyIn 16 = .ok (.invokevirtual 318, 3) := by decide +kernel
theorem dX8_nobodyIn_19 : decode cX8_nobodyIn 19 = .ok (.aload_n 0, 1) := by decide +kernel
theorem dX8_nobodyIn_20 : decode cX8_nobodyIn 20 = .ok (.iload_n 1, 1) := by decide +kernel
theorem dX8_nobodyIn_21 : decode cX8_nobodyIn 21 = .ok (.invokevirtual 298, 3) := by decide +kernel
theorem dX8_nobodyIn_24 : decode cX8_nobodyIn 24 = .ok (.istore_n 3, 1) := by decide +kernel
theorem dX8_nobodyIn_25 : decode cX8_nobodyIn 25 = .ok (.iload_n 3, 1) := by decide +kernel
theorem dX8_nobodyIn_26 : decode cX8_nobodyIn 26 = .ok (.ifCond .ge 7, 3) := by decide +kernel
theorem dX8_nobodyIn_29 : decode cX8_nobodyIn 29 = .ok (.iconst (-1), 1) := by decide +kernel
theorem dX8_nobodyIn_30 : decode cX8_nobodyIn 30 = .ok (.goto 9, 3) := by decide +kernel
theorem dX8_nobodyIn_33 : decode cX8_nobodyIn 33 = .ok (.aload_n 0, 1) := by decide +kernel
theorem dX8_nobodyIn_34 : decode cX8_nobodyIn 34 = .ok (.invokevirtual 330, 3) := by decide +kernel
theorem dX8_nobodyIn_37 : decode cX8_nobodyIn 37 = .ok (.iload_n 2, 1) := by decide +kernel
theorem dX8_nobodyIn_38 : decode cX8_nobodyIn 38 = .ok (.isub, 1) := by decide +kernel
theorem dX8_nobodyIn_39 : decode cX8_nobodyIn 39 = .ok (.istore 4, 2) := by decide +kernel
theorem dX8_nobodyIn_41 : decode cX8_nobodyIn 41 = .ok (.aload_n 0, 1) := by decide +kernel
theorem dX8_nobodyIn_42 : decode cX8_nobodyIn 42 = .ok (.invokevirtual 321, 3) := by decide +kernel
theorem dX8_nobodyIn_45 : decode cX8_nobodyIn 45 = .ok (.iload 4, 2) := by decide +kernel
theorem dX8_nobodyIn_47 : decode cX8_nobodyIn 47 = .ok (.ireturn, 1) := by decide +kernel
/-! BusLiftsModel.nobodyIn(I)I -/
noncomputable def f_X8_nobodyIn_39  (σ : Sg) (v100 : Int32) : Option (Int32 × Sg) := bv (f_X8_ends σ) fun σ1 => (some (v100, σ1))
noncomputable def f_X8_nobodyIn  (σ : Sg) (v1 : Int32) : Option (Int32 × Sg) := bi (f_X8_badTicks σ v1) fun r2 σ1 => (if r2 = 0 then (bi (f_X8_nobodyMany σ1) fun r4 σ3 => (bv (f_X8_begins σ3) fun σ5 => (bi (f_X8_passes σ5 v1) fun r7 σ6 => (if 0 ≤ r7 then (bi (f_X8_nobodyMany σ6) fun r9 σ8 => (f_X8_nobodyIn_39 σ8 (r9 - r4))) else (f_X8_nobodyIn_39 σ6 (-1)))))) else (some (0, σ1)))
set_option maxHeartbeats 4000000 in
set_option maxRecDepth 100000 in
theorem w_X8_nobodyIn_39 {p : Program} {l : Launch} {e : Env} {s : State} {m : MethodId} {args : Array Value} {below : List Frame} {meth : Method} {c : Code} {G : Gx} {ad : Ad} {res : Int32 × Sg} (C : Cx p s m args meth c yX8_nobodyIn.cls cX8_nobodyIn 5 (Option.some FieldType.int) G)  : ∀ (σ : Sg) (v100 : Int32) (H : Heap) (locs : List Loc) (ls : Array Slot), z_S 1 G ad σ (z_A 1 ad s.heap.size) s.heap H locs → lv_has ls 5 [(0, .ref (ad 8 0))] → f_X8_nobodyIn_39  σ v100 = some res → W p l e { frames := 8, cells := 0, slots := 0, locals := 184 } s m args below meth c H locs 0 0 (MQ below (va_Qi (S := Unit) (fun r1 _ => r1 = res.1) (fun _ t => z_W 1 G ad res.2 t.heap) (z_A 1 ad s.heap.size)) args s 0 0 (z_A 1 ad s.heap.size)) (F0 m 39 ls [.int v100]) := by
  intro σ v100 H locs ls S hl  hf
  unfold f_X8_nobodyIn_39 at hf
  refine lv_istore (lv' := [(4, .int v100), (0, .ref (ad 8 0))]) C.1 C.2.1 dX8_nobodyIn_39 hl (by decide) rfl (fun ls hl => ?_)
  refine lv_aload_n C.1 C.2.1 dX8_nobodyIn_41 rfl (lv_at hl 1 rfl) ?_
  obtain ⟨σ1, q_42, hf⟩ := bvb hf
  refine z_callV C S 8 0 rfl (by decide) cf_8 ⟨_, rfl⟩ [] (m_X8_ends l G ad σ σ1 q_42 _) kv_X8_ends tw_8_145 ⟨Nat.le_of_ble_eq_true rfl, Nat.le_of_ble_eq_true rfl⟩ rfl rfl (Nat.le_of_ble_eq_true rfl) hl.1 ⟨Nat.le_of_ble_eq_true rfl, Nat.le_of_ble_eq_true rfl⟩ dX8_nobodyIn_42 (fun H locs S => ?_)
  refine lv_iload C.1 C.2.1 dX8_nobodyIn_45 (lv_at hl 0 rfl) ?_
  exact z_iret C S hf dX8_nobodyIn_47
set_option maxHeartbeats 4000000 in
set_option maxRecDepth 100000 in
theorem w_X8_nobodyIn_0 {p : Program} {l : Launch} {e : Env} {s : State} {m : MethodId} {args : Array Value} {below : List Frame} {meth : Method} {c : Code} {G : Gx} {ad : Ad} {res : Int32 × Sg} (C : Cx p s m args meth c yX8_nobodyIn.cls cX8_nobodyIn 5 (Option.some FieldType.int) G)  : ∀ (σ : Sg) (v1 : Int32) (H : Heap) (locs : List Loc) (ls : Array Slot), z_S 1 G ad σ (z_A 1 ad s.heap.size) s.heap H locs → lv_has ls 5 [(0, .ref (ad 8 0)), (1, .int v1)] → f_X8_nobodyIn  σ v1 = some res → W p l e { frames := 8, cells := 0, slots := 0, locals := 184 } s m args below meth c H locs 0 0 (MQ below (va_Qi (S := Unit) (fun r1 _ => r1 = res.1) (fun _ t => z_W 1 G ad res.2 t.heap) (z_A 1 ad s.heap.size)) args s 0 0 (z_A 1 ad s.heap.size)) (F0 m 0 ls []) := by
  intro σ v1 H locs ls S hl  hf
  unfold f_X8_nobodyIn at hf
  refine lv_aload_n C.1 C.2.1 dX8_nobodyIn_0 rfl (lv_at hl 0 rfl) ?_
  refine lv_iload_n C.1 C.2.1 dX8_nobodyIn_1 rfl (lv_at hl 1 rfl) ?_
  obtain ⟨r2, σ1, q_2, hf⟩ := bib hf
  refine z_callI C S 8 0 rfl (by decide) cf_8 ⟨_, rfl⟩ [.int v1] (m_X8_badTicks l G ad σ v1 r2 σ1 q_2 _) kv_X8_badTicks tw_7_186 ⟨Nat.le_of_ble_eq_true rfl, Nat.le_of_ble_eq_true rfl⟩ rfl rfl (Nat.le_of_ble_eq_true rfl) hl.1 ⟨Nat.le_of_ble_eq_true rfl, Nat.le_of_ble_eq_true rfl⟩ dX8_nobodyIn_2 (fun H locs S => ?_)
  refine lv_if_eq (tgt := 10) C.1 C.2.1 dX8_nobodyIn_5 (by decide) (fun c_5 => ?_) (fun c_5 => ?_)
  · rw [if_pos c_5] at hf
    refine lv_aload_n C.1 C.2.1 dX8_nobodyIn_10 rfl (lv_at hl 0 rfl) ?_
    obtain ⟨r4, σ3, q_11, hf⟩ := bib hf
    refine z_callI C S 8 0 rfl (by decide) cf_8 ⟨_, rfl⟩ [] (m_X8_nobodyMany l G ad σ1 r4 σ3 q_11 _) kv_X8_nobodyMany tw_8_169 ⟨Nat.le_of_ble_eq_true rfl, Nat.le_of_ble_eq_true rfl⟩ rfl rfl (Nat.le_of_ble_eq_true rfl) hl.1 ⟨Nat.le_of_ble_eq_true rfl, Nat.le_of_ble_eq_true rfl⟩ dX8_nobodyIn_11 (fun H locs S => ?_)
    refine lv_istore_n (lv' := [(2, .int r4), (0, .ref (ad 8 0)), (1, .int v1)]) C.1 C.2.1 dX8_nobodyIn_14 rfl hl (by decide) rfl (fun ls hl => ?_)
    refine lv_aload_n C.1 C.2.1 dX8_nobodyIn_15 rfl (lv_at hl 1 rfl) ?_
    obtain ⟨σ5, q_16, hf⟩ := bvb hf
    refine z_callV C S 8 0 rfl (by decide) cf_8 ⟨_, rfl⟩ [] (m_X8_begins l G ad σ3 σ5 q_16 _) kv_X8_begins tw_8_141 ⟨Nat.le_of_ble_eq_true rfl, Nat.le_of_ble_eq_true rfl⟩ rfl rfl (Nat.le_of_ble_eq_true rfl) hl.1 ⟨Nat.le_of_ble_eq_true rfl, Nat.le_of_ble_eq_true rfl⟩ dX8_nobodyIn_16 (fun H locs S => ?_)
    refine lv_aload_n C.1 C.2.1 dX8_nobodyIn_19 rfl (lv_at hl 1 rfl) ?_
    refine lv_iload_n C.1 C.2.1 dX8_nobodyIn_20 rfl (lv_at hl 2 rfl) ?_
    obtain ⟨r7, σ6, q_21, hf⟩ := bib hf
    refine z_callI C S 8 0 rfl (by decide) cf_8 ⟨_, rfl⟩ [.int v1] (m_X8_passes l G ad σ5 v1 r7 σ6 q_21 _) kv_X8_passes tw_7_190 ⟨Nat.le_of_ble_eq_true rfl, Nat.le_of_ble_eq_true rfl⟩ rfl rfl (Nat.le_of_ble_eq_true rfl) hl.1 ⟨Nat.le_of_ble_eq_true rfl, Nat.le_of_ble_eq_true rfl⟩ dX8_nobodyIn_21 (fun H locs S => ?_)
    refine lv_istore_n (lv' := [(3, .int r7), (2, .int r4), (0, .ref (ad 8 0)), (1, .int v1)]) C.1 C.2.1 dX8_nobodyIn_24 rfl hl (by decide) rfl (fun ls hl => ?_)
    refine lv_iload_n C.1 C.2.1 dX8_nobodyIn_25 rfl (lv_at hl 0 rfl) ?_
    refine lv_if_ge (tgt := 33) C.1 C.2.1 dX8_nobodyIn_26 (by decide) (fun c_26 => ?_) (fun c_26 => ?_)
    · rw [if_pos c_26] at hf
      refine lv_aload_n C.1 C.2.1 dX8_nobodyIn_33 rfl (lv_at hl 2 rfl) ?_
      obtain ⟨r9, σ8, q_34, hf⟩ := bib hf
      refine z_callI C S 8 0 rfl (by decide) cf_8 ⟨_, rfl⟩ [] (m_X8_nobodyMany l G ad σ6 r9 σ8 q_34 _) kv_X8_nobodyMany tw_8_169 ⟨Nat.le_of_ble_eq_true rfl, Nat.le_of_ble_eq_true rfl⟩ rfl rfl (Nat.le_of_ble_eq_true rfl) hl.1 ⟨Nat.le_of_ble_eq_true rfl, Nat.le_of_ble_eq_true rfl⟩ dX8_nobodyIn_34 (fun H locs S => ?_)
      refine lv_iload_n C.1 C.2.1 dX8_nobodyIn_37 rfl (lv_at hl 1 rfl) ?_
      refine lv_isub C.1 C.2.1 dX8_nobodyIn_38 ?_
      exact w_X8_nobodyIn_39 C _ (r9 - r4) _ _ _ S (lv_sub hl [2] rfl) hf
    · rw [if_neg c_26] at hf
      refine lv_iconst (v := (-1)) C.1 C.2.1 dX8_nobodyIn_29 (by decide) ?_
      refine lv_goto (tgt := 39) C.1 C.2.1 dX8_nobodyIn_30 (by decide) ?_
      exact w_X8_nobodyIn_39 C _ (-1) _ _ _ S (lv_sub hl [2] rfl) hf
  · rw [if_neg c_5] at hf
    refine lv_iconst (v := 0) C.1 C.2.1 dX8_nobodyIn_8 (by decide) ?_
    exact z_iret C S hf dX8_nobodyIn_9
theorem kv_X8_nobodyIn : KV yX8_nobodyIn cX8_nobodyIn 5 (Option.some FieldType.int) 1 := ⟨tw_8_168, tw_8_166, tw_8_167, tw_1_10, by decide, by decide, by decide +kernel⟩
theorem m_X8_nobodyIn (l : Launch) (G : Gx) (ad : Ad) (σ : Sg) (v1 : Int32) (r : Int32) (σ' : Sg)  (hf : f_X8_nobodyIn σ v1 = some (r, σ')) (sz : Nat) : z_MI l yX8_nobodyIn cX8_nobodyIn 5 (Option.some FieldType.int) 8 184 1 G ad σ sz [.ref (ad 8 0), .int v1] r σ' := by
  refine z_begin (by decide +kernel) (Nat.le_of_ble_eq_true rfl) [(0, .ref (ad 8 0)), (1, .int v1)] rfl (fun p e s m args below meth c ls C hz S hl => ?_)
  subst hz
  exact w_X8_nobodyIn_0 (res := (r, σ')) C σ v1 _ _ _ S hl  hf

theorem dX8_bestNoise_0 : decode cX8_bestNoise 0 = .ok (.aload_n 0, 1) := by decide +kernel
theorem dX8_bestNoise_1 : decode cX8_bestNoise 1 = .ok (.iload_n 1, 1) := by decide +kernel
theorem dX8_bestNoise_2 : decode cX8_bestNoise 2 = .ok (.invokevirtual 295, 3) := by decide +kernel
theorem dX8_bestNoise_5 : decode cX8_bestNoise 5 = .ok (.ifCond .eq 5, 3) := by decide +kernel
theorem dX8_bestNoise_8 : decode cX8_bestNoise 8 = .ok (.iconst 0, 1) := by decide +kernel
theorem dX8_bestNoise_9 : decode cX8_bestNoise 9 = .ok (.ireturn, 1) := by decide +kernel
theorem dX8_bestNoise_10 : decode cX8_bestNoise 10 = .ok (.iconst (-1), 1) := by decide +kernel
theorem dX8_bestNoise_11 : decode cX8_bestNoise 11 = .ok (.istore_n 2, 1) := by decide +kernel
theorem dX8_bestNoise_12 : decode cX8_bestNoise 12 = .ok (.iconst 0, 1) := by decide +kernel
theorem dX8_bestNoise_13 : decode cX8_bestNoise 13 = .ok (.istore_n 3, 1) := by decide +kernel
theorem dX8_bestNoise_14 : decode cX8_bestNoise 14 = .ok (.iconst 0, 1) := by decide +kernel
theorem dX8_bestNoise_15 : decode cX8_bestNoise 15 = .ok (.istore 4, 2) := by decide +kernel
theorem dX8_bestNoise_17 : decode cX8_bestNoise 17 = .ok (.iload 4, 2) := by decide +kernel
theorem dX8_bestNoise_19 : decode cX8_bestNoise 19 = .ok (.bipush 90, 2) := by decide +kernel
theorem dX8_bestNoise_21 : decode cX8_bestNoise 21 = .ok (.if_icmp .gt 59, 3) := by decide +kernel
theorem dX8_bestNoise_24 : decode cX8_bestNoise 24 = .ok (.aload_n 0, 1) := by decide +kernel
theorem dX8_bestNoise_25 : decode cX8_bestNoise 25 = .ok (.invokevirtual 318, 3) := by decide +kernel
theorem dX8_bestNoise_28 : decode cX8_bestNoise 28 = .ok (.aload_n 0, 1) := by decide +kernel
theorem dX8_bestNoise_29 : decode cX8_bestNoise 29 = .ok (.getfield 7, 3) := by decide +kernel
theorem dX8_bestNoise_32 : decode cX8_bestNoise 32 = .ok (.iconst 4, 1) := by decide +kernel
theorem dX8_bestNoise_33 : decode cX8_bestNoise 33 = .ok (.iload 4, 2) := by decide +kernel
theorem dX8_bestNoise_35 : decode cX8_bestNoise 35 = .ok (.iastore, 1) := by decide +kernel
theorem dX8_bestNoise_36 : decode cX8_bestNoise 36 = .ok (.aload_n 0, 1) := by decide +kernel
theorem dX8_bestNoise_37 : decode cX8_bestNoise 37 = .ok (.iconst (-1), 1) := by decide +kernel
theorem dX8_bestNoise_38 : decode cX8_bestNoise 38 = .ok (.iload_n 1, 1) := by decide +kernel
theorem dX8_bestNoise_39 : decode cX8_bestNoise 39 = .ok (.invokevirtual 324, 3) := by decide +kernel
theorem dX8_bestNoise_42 : decode cX8_bestNoise 42 = .ok (.istore 5, 2) := by decide +kernel
theorem dX8_bestNoise_44 : decode cX8_bestNoise 44 = .ok (.aload_n 0, 1) := by decide +kernel
theorem dX8_bestNoise_45 : decode cX8_bestNoise 45 = .ok (.invokevirtual 321, 3) := by decide +kernel
theorem dX8_bestNoise_48 : decode cX8_bestNoise 48 = .ok (.iload 5, 2) := by decide +kernel
theorem dX8_bestNoise_50 : decode cX8_bestNoise 50 = .ok (.iconst (-1), 1) := by decide +kernel
theorem dX8_bestNoise_51 : decode cX8_bestNoise 51 = .ok (.if_icmp .eq 23, 3) := by decide +kernel
theorem dX8_bestNoise_54 : decode cX8_bestNoise 54 = .ok (.iload_n 2, 1) := by decide +kernel
theorem dX8_bestNoise_55 : decode cX8_bestNoise 55 = .ok (.iconst (-1), 1) := by decide +kernel
theorem dX8_bestNoise_56 : decode cX8_bestNoise 56 = .ok (.if_icmp .eq 12, 3) := by decide +kernel
theorem dX8_bestNoise_59 : decode cX8_bestNoise 59 = .ok (.iload 5, 2) := by decide +kernel
theorem dX8_bestNoise_61 : decode cX8_bestNoise 61 = .ok (.iload_n 3, 1) := by decide +kernel
theorem dX8_bestNoise_62 : decode cX8_bestNoise 62 = .ok (.if_icmp .lt 6, 3) := by decide +kernel
theorem dX8_bestNoise_65 : decode cX8_bestNoise 65 = .ok (.goto 9, 3) := by decide +kernel
theorem dX8_bestNoise_68 : decode cX8_bestNoise 68 = .ok (.iload 4, 2) := by decide +kernel
theorem dX8_bestNoise_70 : decode cX8_bestNoise 70 = .ok (.istore_n 2, 1) := by decide +kernel
theorem dX8_bestNoise_71 : decode cX8_bestNoise 71 = .ok (.iload 5, 2) := by decide +kernel
theorem dX8_bestNoise_73 : decode cX8_bestNoise 73 = .ok (.istore_n 3, 1) := by decide +kernel
theorem dX8_bestNoise_74 : decode cX8_bestNoise 74 = .ok (.iinc 4 10, 3) := by decide +kernel
theorem dX8_bestNoise_77 : decode cX8_bestNoise 77 = .ok (.goto (-60), 3) := by decide +kernel
theorem dX8_bestNoise_80 : decode cX8_bestNoise 80 = .ok (.iload_n 2, 1) := by decide +kernel
theorem dX8_bestNoise_81 : decode cX8_bestNoise 81 = .ok (.ireturn, 1) := by decide +kernel
/-! BusLiftsModel.bestNoise(I)I -/
noncomputable def f_X8_bestNoise_80  (σ : Sg) (v2 : Int32) : Option (Int32 × Sg) := some (v2, σ)
noncomputable def f_X8_bestNoise_74 (k17 : Sg → Int32 → Int32 → Int32 → Int32 → Option (Int32 × Sg)) (σ : Sg) (v1 : Int32) (v2 : Int32) (v3 : Int32) (v4 : Int32) : Option (Int32 × Sg) := k17 σ v1 v2 v3 (v4 + 10)
noncomputable def f_X8_bestNoise_68 (k17 : Sg → Int32 → Int32 → Int32 → Int32 → Option (Int32 × Sg)) (σ : Sg) (v1 : Int32) (v4 : Int32) (v5 : Int32) : Option (Int32 × Sg) := f_X8_bestNoise_74 k17 σ v1 v4 v5 v4
noncomputable def f_X8_bestNoise_17  : Nat → Sg → Int32 → Int32 → Int32 → Int32 → Option (Int32 × Sg)
  | 0, _, _, _, _, _ => none
  | n + 1, σ, v1, v2, v3, v4 => if 90 < v4 then (f_X8_bestNoise_80 σ v2) else (bv (f_X8_begins σ) fun σ1 => (st (sup σ1 30 0 4 v4) fun σ2 => (bi (f_X8_thoughtUntil σ2 (-1) v1) fun r4 σ3 => (bv (f_X8_ends σ3) fun σ5 => (if r4 = (-1) then (f_X8_bestNoise_74 (f_X8_bestNoise_17 n) σ5 v1 v2 v3 v4) else (if v2 = (-1) then (f_X8_bestNoise_68 (f_X8_bestNoise_17 n) σ5 v1 v4 r4) else (if r4 < v3 then (f_X8_bestNoise_68 (f_X8_bestNoise_17 n) σ5 v1 v4 r4) else (f_X8_bestNoise_74 (f_X8_bestNoise_17 n) σ5 v1 v2 v3 v4))))))))
theorem f_X8_bestNoise_17_s  (n : Nat) (σ : Sg) (v1 : Int32) (v2 : Int32) (v3 : Int32) (v4 : Int32) : f_X8_bestNoise_17  (n + 1) σ v1 v2 v3 v4 = (if 90 < v4 then (f_X8_bestNoise_80 σ v2) else (bv (f_X8_begins σ) fun σ1 => (st (sup σ1 30 0 4 v4) fun σ2 => (bi (f_X8_thoughtUntil σ2 (-1) v1) fun r4 σ3 => (bv (f_X8_ends σ3) fun σ5 => (if r4 = (-1) then (f_X8_bestNoise_74 (f_X8_bestNoise_17 n) σ5 v1 v2 v3 v4) else (if v2 = (-1) then (f_X8_bestNoise_68 (f_X8_bestNoise_17 n) σ5 v1 v4 r4) else (if r4 < v3 then (f_X8_bestNoise_68 (f_X8_bestNoise_17 n) σ5 v1 v4 r4) else (f_X8_bestNoise_74 (f_X8_bestNoise_17 n) σ5 v1 v2 v3 v4))))))))) := rfl
noncomputable def f_X8_bestNoise  (σ : Sg) (v1 : Int32) : Option (Int32 × Sg) := bi (f_X8_badTicks σ v1) fun r2 σ1 => (if r2 = 0 then (f_X8_bestNoise_17 FU σ1 v1 (-1) 0 0) else (some (0, σ1)))
set_option maxHeartbeats 4000000 in
set_option maxRecDepth 100000 in
theorem w_X8_bestNoise_80 {p : Program} {l : Launch} {e : Env} {s : State} {m : MethodId} {args : Array Value} {below : List Frame} {meth : Method} {c : Code} {G : Gx} {ad : Ad} {res : Int32 × Sg} (C : Cx p s m args meth c yX8_bestNoise.cls cX8_bestNoise 6 (Option.some FieldType.int) G)  : ∀ (σ : Sg) (v2 : Int32) (H : Heap) (locs : List Loc) (ls : Array Slot), z_S 1 G ad σ (z_A 1 ad s.heap.size) s.heap H locs → lv_has ls 6 [(2, .int v2)] → f_X8_bestNoise_80  σ v2 = some res → W p l e { frames := 8, cells := 0, slots := 0, locals := 185 } s m args below meth c H locs 0 0 (MQ below (va_Qi (S := Unit) (fun r1 _ => r1 = res.1) (fun _ t => z_W 1 G ad res.2 t.heap) (z_A 1 ad s.heap.size)) args s 0 0 (z_A 1 ad s.heap.size)) (F0 m 80 ls []) := by
  intro σ v2 H locs ls S hl  hf
  unfold f_X8_bestNoise_80 at hf
  refine lv_iload_n C.1 C.2.1 dX8_bestNoise_80 rfl (lv_at hl 0 rfl) ?_
  exact z_iret C S hf dX8_bestNoise_81
set_option maxHeartbeats 4000000 in
set_option maxRecDepth 100000 in
theorem w_X8_bestNoise_74 {p : Program} {l : Launch} {e : Env} {s : State} {m : MethodId} {args : Array Value} {below : List Frame} {meth : Method} {c : Code} {G : Gx} {ad : Ad} {res : Int32 × Sg} (C : Cx p s m args meth c yX8_bestNoise.cls cX8_bestNoise 6 (Option.some FieldType.int) G) (k17 : Sg → Int32 → Int32 → Int32 → Int32 → Option (Int32 × Sg)) (hk17 : ∀ (σ : Sg) (v1 : Int32) (v2 : Int32) (v3 : Int32) (v4 : Int32) (H : Heap) (locs : List Loc) (ls : Array Slot), z_S 1 G ad σ (z_A 1 ad s.heap.size) s.heap H locs → lv_has ls 6 [(0, .ref (ad 8 0)), (1, .int v1), (2, .int v2), (3, .int v3), (4, .int v4)] → k17 σ v1 v2 v3 v4 = some res → W p l e { frames := 8, cells := 0, slots := 0, locals := 185 } s m args below meth c H locs 0 0 (MQ below (va_Qi (S := Unit) (fun r1 _ => r1 = res.1) (fun _ t => z_W 1 G ad res.2 t.heap) (z_A 1 ad s.heap.size)) args s 0 0 (z_A 1 ad s.heap.size)) (F0 m 17 ls [])) : ∀ (σ : Sg) (v1 : Int32) (v2 : Int32) (v3 : Int32) (v4 : Int32) (H : Heap) (locs : List Loc) (ls : Array Slot), z_S 1 G ad σ (z_A 1 ad s.heap.size) s.heap H locs → lv_has ls 6 [(0, .ref (ad 8 0)), (1, .int v1), (2, .int v2), (3, .int v3), (4, .int v4)] → f_X8_bestNoise_74 k17 σ v1 v2 v3 v4 = some res → W p l e { frames := 8, cells := 0, slots := 0, locals := 185 } s m args below meth c H locs 0 0 (MQ below (va_Qi (S := Unit) (fun r1 _ => r1 = res.1) (fun _ t => z_W 1 G ad res.2 t.heap) (z_A 1 ad s.heap.size)) args s 0 0 (z_A 1 ad s.heap.size)) (F0 m 74 ls []) := by
  intro σ v1 v2 v3 v4 H locs ls S hl  hf
  unfold f_X8_bestNoise_74 at hf
  refine lv_iinc (v := (v4 + 10)) (lv' := [(4, .int (v4 + 10)), (0, .ref (ad 8 0)), (1, .int v1), (2, .int v2), (3, .int v3)]) C.1 C.2.1 dX8_bestNoise_74 hl (k := 4) rfl rfl (by decide) rfl (fun ls hl => ?_)
  refine lv_goto (tgt := 17) C.1 C.2.1 dX8_bestNoise_77 (by decide) ?_
  exact hk17 _ v1 v2 v3 (v4 + 10) _ _ _ S (lv_sub hl [1, 2, 3, 4, 0] rfl)  hf
set_option maxHeartbeats 4000000 in
set_option maxRecDepth 100000 in
theorem w_X8_bestNoise_68 {p : Program} {l : Launch} {e : Env} {s : State} {m : MethodId} {args : Array Value} {below : List Frame} {meth : Method} {c : Code} {G : Gx} {ad : Ad} {res : Int32 × Sg} (C : Cx p s m args meth c yX8_bestNoise.cls cX8_bestNoise 6 (Option.some FieldType.int) G) (k17 : Sg → Int32 → Int32 → Int32 → Int32 → Option (Int32 × Sg)) (hk17 : ∀ (σ : Sg) (v1 : Int32) (v2 : Int32) (v3 : Int32) (v4 : Int32) (H : Heap) (locs : List Loc) (ls : Array Slot), z_S 1 G ad σ (z_A 1 ad s.heap.size) s.heap H locs → lv_has ls 6 [(0, .ref (ad 8 0)), (1, .int v1), (2, .int v2), (3, .int v3), (4, .int v4)] → k17 σ v1 v2 v3 v4 = some res → W p l e { frames := 8, cells := 0, slots := 0, locals := 185 } s m args below meth c H locs 0 0 (MQ below (va_Qi (S := Unit) (fun r1 _ => r1 = res.1) (fun _ t => z_W 1 G ad res.2 t.heap) (z_A 1 ad s.heap.size)) args s 0 0 (z_A 1 ad s.heap.size)) (F0 m 17 ls [])) : ∀ (σ : Sg) (v1 : Int32) (v4 : Int32) (v5 : Int32) (H : Heap) (locs : List Loc) (ls : Array Slot), z_S 1 G ad σ (z_A 1 ad s.heap.size) s.heap H locs → lv_has ls 6 [(0, .ref (ad 8 0)), (1, .int v1), (4, .int v4), (5, .int v5)] → f_X8_bestNoise_68 k17 σ v1 v4 v5 = some res → W p l e { frames := 8, cells := 0, slots := 0, locals := 185 } s m args below meth c H locs 0 0 (MQ below (va_Qi (S := Unit) (fun r1 _ => r1 = res.1) (fun _ t => z_W 1 G ad res.2 t.heap) (z_A 1 ad s.heap.size)) args s 0 0 (z_A 1 ad s.heap.size)) (F0 m 68 ls []) := by
  intro σ v1 v4 v5 H locs ls S hl  hf
  unfold f_X8_bestNoise_68 at hf
  refine lv_iload C.1 C.2.1 dX8_bestNoise_68 (lv_at hl 2 rfl) ?_
  refine lv_istore_n (lv' := [(2, .int v4), (0, .ref (ad 8 0)), (1, .int v1), (4, .int v4), (5, .int v5)]) C.1 C.2.1 dX8_bestNoise_70 rfl hl (by decide) rfl (fun ls hl => ?_)
  refine lv_iload C.1 C.2.1 dX8_bestNoise_71 (lv_at hl 4 rfl) ?_
  refine lv_istore_n (lv' := [(3, .int v5), (2, .int v4), (0, .ref (ad 8 0)), (1, .int v1), (4, .int v4), (5, .int v5)]) C.1 C.2.1 dX8_bestNoise_73 rfl hl (by decide) rfl (fun ls hl => ?_)
  exact w_X8_bestNoise_74 C k17 hk17 _ v1 v4 v5 v4 _ _ _ S (lv_sub hl [2, 3, 1, 0, 4] rfl) hf
set_option maxHeartbeats 4000000 in
set_option maxRecDepth 100000 in
theorem w_X8_bestNoise_17 {p : Program} {l : Launch} {e : Env} {s : State} {m : MethodId} {args : Array Value} {below : List Frame} {meth : Method} {c : Code} {G : Gx} {ad : Ad} {res : Int32 × Sg} (C : Cx p s m args meth c yX8_bestNoise.cls cX8_bestNoise 6 (Option.some FieldType.int) G)  : ∀ n : Nat, ∀ (σ : Sg) (v1 : Int32) (v2 : Int32) (v3 : Int32) (v4 : Int32) (H : Heap) (locs : List Loc) (ls : Array Slot), z_S 1 G ad σ (z_A 1 ad s.heap.size) s.heap H locs → lv_has ls 6 [(0, .ref (ad 8 0)), (1, .int v1), (2, .int v2), (3, .int v3), (4, .int v4)] → f_X8_bestNoise_17  n σ v1 v2 v3 v4 = some res → W p l e { frames := 8, cells := 0, slots := 0, locals := 185 } s m args below meth c H locs 0 0 (MQ below (va_Qi (S := Unit) (fun r1 _ => r1 = res.1) (fun _ t => z_W 1 G ad res.2 t.heap) (z_A 1 ad s.heap.size)) args s 0 0 (z_A 1 ad s.heap.size)) (F0 m 17 ls []) := by
  intro n
  induction n with
  | zero => intro σ v1 v2 v3 v4 H locs ls S hl  hf; cases hf
  | succ n ih =>
    intro σ v1 v2 v3 v4 H locs ls S hl  hf
    rw [f_X8_bestNoise_17_s] at hf
    refine lv_iload C.1 C.2.1 dX8_bestNoise_17 (lv_at hl 4 rfl) ?_
    refine lv_bipush (v := 90) C.1 C.2.1 dX8_bestNoise_19 (by decide) ?_
    refine lv_icmp_gt (tgt := 80) C.1 C.2.1 dX8_bestNoise_21 (by decide) (fun c_21 => ?_) (fun c_21 => ?_)
    · rw [if_pos c_21] at hf
      exact w_X8_bestNoise_80 C _ v2 _ _ _ S (lv_sub hl [2] rfl) hf
    · rw [if_neg c_21] at hf
      refine lv_aload_n C.1 C.2.1 dX8_bestNoise_24 rfl (lv_at hl 0 rfl) ?_
      obtain ⟨σ1, q_25, hf⟩ := bvb hf
      refine z_callV C S 8 0 rfl (by decide) cf_8 ⟨_, rfl⟩ [] (m_X8_begins l G ad σ σ1 q_25 _) kv_X8_begins tw_8_141 ⟨Nat.le_of_ble_eq_true rfl, Nat.le_of_ble_eq_true rfl⟩ rfl rfl (Nat.le_of_ble_eq_true rfl) hl.1 ⟨Nat.le_of_ble_eq_true rfl, Nat.le_of_ble_eq_true rfl⟩ dX8_bestNoise_25 (fun H locs S => ?_)
      refine lv_aload_n C.1 C.2.1 dX8_bestNoise_28 rfl (lv_at hl 0 rfl) ?_
      refine z_getR C S 8 0 rfl (by decide) cf_8 0 (by decide) _ (gr_8_0 G ad 0) tw_6_118 dX8_bestNoise_29 ?_
      refine lv_iconst (v := 4) C.1 C.2.1 dX8_bestNoise_32 (by decide) ?_
      refine lv_iload C.1 C.2.1 dX8_bestNoise_33 (lv_at hl 4 rfl) ?_
      obtain ⟨σ2, e_35, hf⟩ := stb hf
      refine z_iastL C S 30 0 rfl (by decide) 2111 (fun _ => rfl) 4 (by decide) (by decide) (by decide) dX8_bestNoise_35 (fun H locs S => ?_)
      rw [← e_35] at S
      refine lv_aload_n C.1 C.2.1 dX8_bestNoise_36 rfl (lv_at hl 0 rfl) ?_
      refine lv_iconst (v := (-1)) C.1 C.2.1 dX8_bestNoise_37 (by decide) ?_
      refine lv_iload_n C.1 C.2.1 dX8_bestNoise_38 rfl (lv_at hl 1 rfl) ?_
      obtain ⟨r4, σ3, q_39, hf⟩ := bib hf
      refine z_callI C S 8 0 rfl (by decide) cf_8 ⟨_, rfl⟩ [.int (-1), .int v1] (m_X8_thoughtUntil l G ad σ2 (-1) v1 r4 σ3 q_39 _) kv_X8_thoughtUntil tw_8_157 ⟨Nat.le_of_ble_eq_true rfl, Nat.le_of_ble_eq_true rfl⟩ rfl rfl (Nat.le_of_ble_eq_true rfl) hl.1 ⟨Nat.le_of_ble_eq_true rfl, Nat.le_of_ble_eq_true rfl⟩ dX8_bestNoise_39 (fun H locs S => ?_)
      refine lv_istore (lv' := [(5, .int r4), (0, .ref (ad 8 0)), (1, .int v1), (2, .int v2), (3, .int v3), (4, .int v4)]) C.1 C.2.1 dX8_bestNoise_42 hl (by decide) rfl (fun ls hl => ?_)
      refine lv_aload_n C.1 C.2.1 dX8_bestNoise_44 rfl (lv_at hl 1 rfl) ?_
      obtain ⟨σ5, q_45, hf⟩ := bvb hf
      refine z_callV C S 8 0 rfl (by decide) cf_8 ⟨_, rfl⟩ [] (m_X8_ends l G ad σ3 σ5 q_45 _) kv_X8_ends tw_8_145 ⟨Nat.le_of_ble_eq_true rfl, Nat.le_of_ble_eq_true rfl⟩ rfl rfl (Nat.le_of_ble_eq_true rfl) hl.1 ⟨Nat.le_of_ble_eq_true rfl, Nat.le_of_ble_eq_true rfl⟩ dX8_bestNoise_45 (fun H locs S => ?_)
      refine lv_iload C.1 C.2.1 dX8_bestNoise_48 (lv_at hl 0 rfl) ?_
      refine lv_iconst (v := (-1)) C.1 C.2.1 dX8_bestNoise_50 (by decide) ?_
      refine lv_icmp_eq (tgt := 74) C.1 C.2.1 dX8_bestNoise_51 (by decide) (fun c_51 => ?_) (fun c_51 => ?_)
      · rw [if_pos c_51] at hf
        exact w_X8_bestNoise_74 C (f_X8_bestNoise_17 n) ih _ v1 v2 v3 v4 _ _ _ S (lv_sub hl [1, 2, 3, 4, 5] rfl) hf
      · rw [if_neg c_51] at hf
        refine lv_iload_n C.1 C.2.1 dX8_bestNoise_54 rfl (lv_at hl 3 rfl) ?_
        refine lv_iconst (v := (-1)) C.1 C.2.1 dX8_bestNoise_55 (by decide) ?_
        refine lv_icmp_eq (tgt := 68) C.1 C.2.1 dX8_bestNoise_56 (by decide) (fun c_56 => ?_) (fun c_56 => ?_)
        · rw [if_pos c_56] at hf
          exact w_X8_bestNoise_68 C (f_X8_bestNoise_17 n) ih _ v1 v4 r4 _ _ _ S (lv_sub hl [1, 2, 5, 0] rfl) hf
        · rw [if_neg c_56] at hf
          refine lv_iload C.1 C.2.1 dX8_bestNoise_59 (lv_at hl 0 rfl) ?_
          refine lv_iload_n C.1 C.2.1 dX8_bestNoise_61 rfl (lv_at hl 4 rfl) ?_
          refine lv_icmp_lt (tgt := 68) C.1 C.2.1 dX8_bestNoise_62 (by decide) (fun c_62 => ?_) (fun c_62 => ?_)
          · rw [if_pos c_62] at hf
            exact w_X8_bestNoise_68 C (f_X8_bestNoise_17 n) ih _ v1 v4 r4 _ _ _ S (lv_sub hl [1, 2, 5, 0] rfl) hf
          · rw [if_neg c_62] at hf
            refine lv_goto (tgt := 74) C.1 C.2.1 dX8_bestNoise_65 (by decide) ?_
            exact w_X8_bestNoise_74 C (f_X8_bestNoise_17 n) ih _ v1 v2 v3 v4 _ _ _ S (lv_sub hl [1, 2, 3, 4, 5] rfl) hf
set_option maxHeartbeats 4000000 in
set_option maxRecDepth 100000 in
theorem w_X8_bestNoise_0 {p : Program} {l : Launch} {e : Env} {s : State} {m : MethodId} {args : Array Value} {below : List Frame} {meth : Method} {c : Code} {G : Gx} {ad : Ad} {res : Int32 × Sg} (C : Cx p s m args meth c yX8_bestNoise.cls cX8_bestNoise 6 (Option.some FieldType.int) G)  : ∀ (σ : Sg) (v1 : Int32) (H : Heap) (locs : List Loc) (ls : Array Slot), z_S 1 G ad σ (z_A 1 ad s.heap.size) s.heap H locs → lv_has ls 6 [(0, .ref (ad 8 0)), (1, .int v1)] → f_X8_bestNoise  σ v1 = some res → W p l e { frames := 8, cells := 0, slots := 0, locals := 185 } s m args below meth c H locs 0 0 (MQ below (va_Qi (S := Unit) (fun r1 _ => r1 = res.1) (fun _ t => z_W 1 G ad res.2 t.heap) (z_A 1 ad s.heap.size)) args s 0 0 (z_A 1 ad s.heap.size)) (F0 m 0 ls []) := by
  intro σ v1 H locs ls S hl  hf
  unfold f_X8_bestNoise at hf
  refine lv_aload_n C.1 C.2.1 dX8_bestNoise_0 rfl (lv_at hl 0 rfl) ?_
  refine lv_iload_n C.1 C.2.1 dX8_bestNoise_1 rfl (lv_at hl 1 rfl) ?_
  obtain ⟨r2, σ1, q_2, hf⟩ := bib hf
  refine z_callI C S 8 0 rfl (by decide) cf_8 ⟨_, rfl⟩ [.int v1] (m_X8_badTicks l G ad σ v1 r2 σ1 q_2 _) kv_X8_badTicks tw_7_186 ⟨Nat.le_of_ble_eq_true rfl, Nat.le_of_ble_eq_true rfl⟩ rfl rfl (Nat.le_of_ble_eq_true rfl) hl.1 ⟨Nat.le_of_ble_eq_true rfl, Nat.le_of_ble_eq_true rfl⟩ dX8_bestNoise_2 (fun H locs S => ?_)
  refine lv_if_eq (tgt := 10) C.1 C.2.1 dX8_bestNoise_5 (by decide) (fun c_5 => ?_) (fun c_5 => ?_)
  · rw [if_pos c_5] at hf
    refine lv_iconst (v := (-1)) C.1 C.2.1 dX8_bestNoise_10 (by decide) ?_
    refine lv_istore_n (lv' := [(2, .int (-1)), (0, .ref (ad 8 0)), (1, .int v1)]) C.1 C.2.1 dX8_bestNoise_11 rfl hl (by decide) rfl (fun ls hl => ?_)
    refine lv_iconst (v := 0) C.1 C.2.1 dX8_bestNoise_12 (by decide) ?_
    refine lv_istore_n (lv' := [(3, .int 0), (2, .int (-1)), (0, .ref (ad 8 0)), (1, .int v1)]) C.1 C.2.1 dX8_bestNoise_13 rfl hl (by decide) rfl (fun ls hl => ?_)
    refine lv_iconst (v := 0) C.1 C.2.1 dX8_bestNoise_14 (by decide) ?_
    refine lv_istore (lv' := [(4, .int 0), (3, .int 0), (2, .int (-1)), (0, .ref (ad 8 0)), (1, .int v1)]) C.1 C.2.1 dX8_bestNoise_15 hl (by decide) rfl (fun ls hl => ?_)
    exact w_X8_bestNoise_17 C FU _ v1 (-1) 0 0 _ _ _ S (lv_sub hl [3, 4, 2, 1, 0] rfl) hf
  · rw [if_neg c_5] at hf
    refine lv_iconst (v := 0) C.1 C.2.1 dX8_bestNoise_8 (by decide) ?_
    exact z_iret C S hf dX8_bestNoise_9
theorem kv_X8_bestNoise : KV yX8_bestNoise cX8_bestNoise 6 (Option.some FieldType.int) 1 := ⟨tw_8_176, tw_8_174, tw_8_175, tw_1_10, by decide, by decide, by decide +kernel⟩
theorem m_X8_bestNoise (l : Launch) (G : Gx) (ad : Ad) (σ : Sg) (v1 : Int32) (r : Int32) (σ' : Sg)  (hf : f_X8_bestNoise σ v1 = some (r, σ')) (sz : Nat) : z_MI l yX8_bestNoise cX8_bestNoise 6 (Option.some FieldType.int) 8 185 1 G ad σ sz [.ref (ad 8 0), .int v1] r σ' := by
  refine z_begin (by decide +kernel) (Nat.le_of_ble_eq_true rfl) [(0, .ref (ad 8 0)), (1, .int v1)] rfl (fun p e s m args below meth c ls C hz S hl => ?_)
  subst hz
  exact w_X8_bestNoise_0 (res := (r, σ')) C σ v1 _ _ _ S hl  hf

theorem dX8_wouldWait_0 : decode cX8_wouldWait 0 = .ok (.aload_n 0, 1) := by decide +kernel
theorem dX8_wouldWait_1 : decode cX8_wouldWait 1 = .ok (.iload_n 1, 1) := by decide +kernel
theorem dX8_wouldWait_2 : decode cX8_wouldWait 2 = .ok (.iload_n 2, 1) := by decide +kernel
theorem dX8_wouldWait_3 : decode cX8_wouldWait 3 = .ok (.invokevirtual 289, 3) := by decide +kernel
theorem dX8_wouldWait_6 : decode cX8_wouldWait 6 = .ok (.ifCond .eq 5, 3) := by decide +kernel
theorem dX8_wouldWait_9 : decode cX8_wouldWait 9 = .ok (.iconst 0, 1) := by decide +kernel
theorem dX8_wouldWait_10 : decode cX8_wouldWait 10 = .ok (.ireturn, 1) := by decide +kernel
theorem dX8_wouldWait_11 : decode cX8_wouldWait 11 = .ok (.aload_n 0, 1) := by decide +kernel
theorem dX8_wouldWait_12 : decode cX8_wouldWait 12 = .ok (.getfield 7, 3) := by decide +kernel
theorem dX8_wouldWait_15 : decode cX8_wouldWait 15 = .ok (.iconst 2, 1) := by decide +kernel
theorem dX8_wouldWait_16 : decode cX8_wouldWait 16 = .ok (.iaload, 1) := by decide +kernel
theorem dX8_wouldWait_17 : decode cX8_wouldWait 17 = .ok (.bipush 24, 2) := by decide +kernel
theorem dX8_wouldWait_19 : decode cX8_wouldWait 19 = .ok (.if_icmp .ne 5, 3) := by decide +kernel
theorem dX8_wouldWait_22 : decode cX8_wouldWait 22 = .ok (.iconst (-1), 1) := by decide +kernel
theorem dX8_wouldWait_23 : decode cX8_wouldWait 23 = .ok (.ireturn, 1) := by decide +kernel
theorem dX8_wouldWait_24 : decode cX8_wouldWait 24 = .ok (.aload_n 0, 1) := by decide +kernel
theorem dX8_wouldWait_25 : decode cX8_wouldWait 25 = .ok (.invokevirtual 318, 3) := by decide +kernel
theorem dX8_wouldWait_28 : decode cX8_wouldWait 28 = .ok (.aload_n 0, 1) := by decide +kernel
theorem dX8_wouldWait_29 : decode cX8_wouldWait 29 = .ok (.aload_n 0, 1) := by decide +kernel
theorem dX8_wouldWait_30 : decode cX8_wouldWait 30 = .ok (.getfield 7, 3) := by decide +kernel
theorem dX8_wouldWait_33 : decode cX8_wouldWait 33 = .ok (.iconst 3, 1) := by decide +kernel
theorem dX8_wouldWait_34 : decode cX8_wouldWait 34 = .ok (.iaload, 1) := by decide +kernel
theorem dX8_wouldWait_35 : decode cX8_wouldWait 35 = .ok (.iload_n 1, 1) := by decide +kernel
theorem dX8_wouldWait_36 : decode cX8_wouldWait 36 = .ok (.iload_n 2, 1) := by decide +kernel
theorem dX8_wouldWait_37 : decode cX8_wouldWait 37 = .ok (.invokevirtual 218, 3) := by decide +kernel
theorem dX8_wouldWait_40 : decode cX8_wouldWait 40 = .ok (.aload_n 0, 1) := by decide +kernel
theorem dX8_wouldWait_41 : decode cX8_wouldWait 41 = .ok (.getfield 7, 3) := by decide +kernel
theorem dX8_wouldWait_44 : decode cX8_wouldWait 44 = .ok (.iconst 2, 1) := by decide +kernel
theorem dX8_wouldWait_45 : decode cX8_wouldWait 45 = .ok (.iaload, 1) := by decide +kernel
theorem dX8_wouldWait_46 : decode cX8_wouldWait 46 = .ok (.iconst 1, 1) := by decide +kernel
theorem dX8_wouldWait_47 : decode cX8_wouldWait 47 = .ok (.isub, 1) := by decide +kernel
theorem dX8_wouldWait_48 : decode cX8_wouldWait 48 = .ok (.istore_n 3, 1) := by decide +kernel
theorem dX8_wouldWait_49 : decode cX8_wouldWait 49 = .ok (.aload_n 0, 1) := by decide +kernel
theorem dX8_wouldWait_50 : decode cX8_wouldWait 50 = .ok (.iload_n 3, 1) := by decide +kernel
theorem dX8_wouldWait_51 : decode cX8_wouldWait 51 = .ok (.sipush 500, 3) := by decide +kernel
theorem dX8_wouldWait_54 : decode cX8_wouldWait 54 = .ok (.invokevirtual 324, 3) := by decide +kernel
theorem dX8_wouldWait_57 : decode cX8_wouldWait 57 = .ok (.iconst (-1), 1) := by decide +kernel
theorem dX8_wouldWait_58 : decode cX8_wouldWait 58 = .ok (.if_icmp .ne 7, 3) := by decide +kernel
theorem dX8_wouldWait_61 : decode cX8_wouldWait 61 = .ok (.iconst (-1), 1) := by decide +kernel
theorem dX8_wouldWait_62 : decode cX8_wouldWait 62 = .ok (.goto 8, 3) := by decide +kernel
theorem dX8_wouldWait_65 : decode cX8_wouldWait 65 = .ok (.aload_n 0, 1) := by decide +kernel
theorem dX8_wouldWait_66 : decode cX8_wouldWait 66 = .ok (.iload_n 3, 1) := by decide +kernel
theorem dX8_wouldWait_67 : decode cX8_wouldWait 67 = .ok (.invokevirtual 280, 3) := by decide +kernel
theorem dX8_wouldWait_70 : decode cX8_wouldWait 70 = .ok (.istore 4, 2) := by decide +kernel
theorem dX8_wouldWait_72 : decode cX8_wouldWait 72 = .ok (.aload_n 0, 1) := by decide +kernel
theorem dX8_wouldWait_73 : decode cX8_wouldWait 73 = .ok (.invokevirtual 321, 3) := by decide +kernel
theorem dX8_wouldWait_76 : decode cX8_wouldWait 76 = .ok (.iload 4, 2) := by decide +kernel
theorem dX8_wouldWait_78 : decode cX8_wouldWait 78 = .ok (.ireturn, 1) := by decide +kernel
/-! BusLiftsModel.wouldWait(II)I -/
noncomputable def f_X8_wouldWait_70  (σ : Sg) (v100 : Int32) : Option (Int32 × Sg) := bv (f_X8_ends σ) fun σ1 => (some (v100, σ1))
noncomputable def f_X8_wouldWait  (σ : Sg) (v1 : Int32) (v2 : Int32) : Option (Int32 × Sg) := bi (f_X8_badRide σ v1 v2) fun r2 σ1 => (if r2 = 0 then (if (σ1 30 0 2) = 24 then (some ((-1), σ1)) else (bv (f_X8_begins σ1) fun σ3 => (bv (f_X8_addCall σ3 (σ3 30 0 3) v1 v2) fun σ4 => (bi (f_X8_thoughtUntil σ4 ((σ4 30 0 2) - 1) 500) fun r6 σ5 => (if r6 = (-1) then (f_X8_wouldWait_70 σ5 (-1)) else (bi (f_X8_waitNow σ5 ((σ4 30 0 2) - 1)) fun r8 σ7 => (f_X8_wouldWait_70 σ7 r8))))))) else (some (0, σ1)))
set_option maxHeartbeats 4000000 in
set_option maxRecDepth 100000 in
theorem w_X8_wouldWait_70 {p : Program} {l : Launch} {e : Env} {s : State} {m : MethodId} {args : Array Value} {below : List Frame} {meth : Method} {c : Code} {G : Gx} {ad : Ad} {res : Int32 × Sg} (C : Cx p s m args meth c yX8_wouldWait.cls cX8_wouldWait 5 (Option.some FieldType.int) G)  : ∀ (σ : Sg) (v100 : Int32) (H : Heap) (locs : List Loc) (ls : Array Slot), z_S 1 G ad σ (z_A 1 ad s.heap.size) s.heap H locs → lv_has ls 5 [(0, .ref (ad 8 0))] → f_X8_wouldWait_70  σ v100 = some res → W p l e { frames := 8, cells := 0, slots := 0, locals := 185 } s m args below meth c H locs 0 0 (MQ below (va_Qi (S := Unit) (fun r1 _ => r1 = res.1) (fun _ t => z_W 1 G ad res.2 t.heap) (z_A 1 ad s.heap.size)) args s 0 0 (z_A 1 ad s.heap.size)) (F0 m 70 ls [.int v100]) := by
  intro σ v100 H locs ls S hl  hf
  unfold f_X8_wouldWait_70 at hf
  refine lv_istore (lv' := [(4, .int v100), (0, .ref (ad 8 0))]) C.1 C.2.1 dX8_wouldWait_70 hl (by decide) rfl (fun ls hl => ?_)
  refine lv_aload_n C.1 C.2.1 dX8_wouldWait_72 rfl (lv_at hl 1 rfl) ?_
  obtain ⟨σ1, q_73, hf⟩ := bvb hf
  refine z_callV C S 8 0 rfl (by decide) cf_8 ⟨_, rfl⟩ [] (m_X8_ends l G ad σ σ1 q_73 _) kv_X8_ends tw_8_145 ⟨Nat.le_of_ble_eq_true rfl, Nat.le_of_ble_eq_true rfl⟩ rfl rfl (Nat.le_of_ble_eq_true rfl) hl.1 ⟨Nat.le_of_ble_eq_true rfl, Nat.le_of_ble_eq_true rfl⟩ dX8_wouldWait_73 (fun H locs S => ?_)
  refine lv_iload C.1 C.2.1 dX8_wouldWait_76 (lv_at hl 0 rfl) ?_
  exact z_iret C S hf dX8_wouldWait_78
set_option maxHeartbeats 4000000 in
set_option maxRecDepth 100000 in
theorem w_X8_wouldWait_0 {p : Program} {l : Launch} {e : Env} {s : State} {m : MethodId} {args : Array Value} {below : List Frame} {meth : Method} {c : Code} {G : Gx} {ad : Ad} {res : Int32 × Sg} (C : Cx p s m args meth c yX8_wouldWait.cls cX8_wouldWait 5 (Option.some FieldType.int) G)  : ∀ (σ : Sg) (v1 : Int32) (v2 : Int32) (H : Heap) (locs : List Loc) (ls : Array Slot), z_S 1 G ad σ (z_A 1 ad s.heap.size) s.heap H locs → lv_has ls 5 [(0, .ref (ad 8 0)), (1, .int v1), (2, .int v2)] → f_X8_wouldWait  σ v1 v2 = some res → W p l e { frames := 8, cells := 0, slots := 0, locals := 185 } s m args below meth c H locs 0 0 (MQ below (va_Qi (S := Unit) (fun r1 _ => r1 = res.1) (fun _ t => z_W 1 G ad res.2 t.heap) (z_A 1 ad s.heap.size)) args s 0 0 (z_A 1 ad s.heap.size)) (F0 m 0 ls []) := by
  intro σ v1 v2 H locs ls S hl  hf
  unfold f_X8_wouldWait at hf
  refine lv_aload_n C.1 C.2.1 dX8_wouldWait_0 rfl (lv_at hl 0 rfl) ?_
  refine lv_iload_n C.1 C.2.1 dX8_wouldWait_1 rfl (lv_at hl 1 rfl) ?_
  refine lv_iload_n C.1 C.2.1 dX8_wouldWait_2 rfl (lv_at hl 2 rfl) ?_
  obtain ⟨r2, σ1, q_3, hf⟩ := bib hf
  refine z_callI C S 8 0 rfl (by decide) cf_8 ⟨_, rfl⟩ [.int v1, .int v2] (m_X8_badRide l G ad σ v1 v2 r2 σ1 q_3 _) kv_X8_badRide tw_7_174 ⟨Nat.le_of_ble_eq_true rfl, Nat.le_of_ble_eq_true rfl⟩ rfl rfl (Nat.le_of_ble_eq_true rfl) hl.1 ⟨Nat.le_of_ble_eq_true rfl, Nat.le_of_ble_eq_true rfl⟩ dX8_wouldWait_3 (fun H locs S => ?_)
  refine lv_if_eq (tgt := 11) C.1 C.2.1 dX8_wouldWait_6 (by decide) (fun c_6 => ?_) (fun c_6 => ?_)
  · rw [if_pos c_6] at hf
    refine lv_aload_n C.1 C.2.1 dX8_wouldWait_11 rfl (lv_at hl 0 rfl) ?_
    refine z_getR C S 8 0 rfl (by decide) cf_8 0 (by decide) _ (gr_8_0 G ad 0) tw_6_118 dX8_wouldWait_12 ?_
    refine lv_iconst (v := 2) C.1 C.2.1 dX8_wouldWait_15 (by decide) ?_
    refine z_ialdL C S 30 0 rfl (by decide) 2111 (fun _ => rfl) 2 (by decide) (by decide) (by decide) dX8_wouldWait_16 ?_
    refine lv_bipush (v := 24) C.1 C.2.1 dX8_wouldWait_17 (by decide) ?_
    refine lv_icmp_ne (tgt := 24) C.1 C.2.1 dX8_wouldWait_19 (by decide) (fun c_19 => ?_) (fun c_19 => ?_)
    · rw [if_neg c_19] at hf
      refine lv_aload_n C.1 C.2.1 dX8_wouldWait_24 rfl (lv_at hl 0 rfl) ?_
      obtain ⟨σ3, q_25, hf⟩ := bvb hf
      refine z_callV C S 8 0 rfl (by decide) cf_8 ⟨_, rfl⟩ [] (m_X8_begins l G ad σ1 σ3 q_25 _) kv_X8_begins tw_8_141 ⟨Nat.le_of_ble_eq_true rfl, Nat.le_of_ble_eq_true rfl⟩ rfl rfl (Nat.le_of_ble_eq_true rfl) hl.1 ⟨Nat.le_of_ble_eq_true rfl, Nat.le_of_ble_eq_true rfl⟩ dX8_wouldWait_25 (fun H locs S => ?_)
      refine lv_aload_n C.1 C.2.1 dX8_wouldWait_28 rfl (lv_at hl 0 rfl) ?_
      refine lv_aload_n C.1 C.2.1 dX8_wouldWait_29 rfl (lv_at hl 0 rfl) ?_
      refine z_getR C S 8 0 rfl (by decide) cf_8 0 (by decide) _ (gr_8_0 G ad 0) tw_6_118 dX8_wouldWait_30 ?_
      refine lv_iconst (v := 3) C.1 C.2.1 dX8_wouldWait_33 (by decide) ?_
      refine z_ialdL C S 30 0 rfl (by decide) 2111 (fun _ => rfl) 3 (by decide) (by decide) (by decide) dX8_wouldWait_34 ?_
      refine lv_iload_n C.1 C.2.1 dX8_wouldWait_35 rfl (lv_at hl 1 rfl) ?_
      refine lv_iload_n C.1 C.2.1 dX8_wouldWait_36 rfl (lv_at hl 2 rfl) ?_
      obtain ⟨σ4, q_37, hf⟩ := bvb hf
      refine z_callV C S 8 0 rfl (by decide) cf_8 ⟨_, rfl⟩ [.int (σ3 30 0 3), .int v1, .int v2] (m_X8_addCall l G ad σ3 (σ3 30 0 3) v1 v2 σ4 q_37 _) kv_X8_addCall tw_7_23 ⟨Nat.le_of_ble_eq_true rfl, Nat.le_of_ble_eq_true rfl⟩ rfl rfl (Nat.le_of_ble_eq_true rfl) hl.1 ⟨Nat.le_of_ble_eq_true rfl, Nat.le_of_ble_eq_true rfl⟩ dX8_wouldWait_37 (fun H locs S => ?_)
      refine lv_aload_n C.1 C.2.1 dX8_wouldWait_40 rfl (lv_at hl 0 rfl) ?_
      refine z_getR C S 8 0 rfl (by decide) cf_8 0 (by decide) _ (gr_8_0 G ad 0) tw_6_118 dX8_wouldWait_41 ?_
      refine lv_iconst (v := 2) C.1 C.2.1 dX8_wouldWait_44 (by decide) ?_
      refine z_ialdL C S 30 0 rfl (by decide) 2111 (fun _ => rfl) 2 (by decide) (by decide) (by decide) dX8_wouldWait_45 ?_
      refine lv_iconst (v := 1) C.1 C.2.1 dX8_wouldWait_46 (by decide) ?_
      refine lv_isub C.1 C.2.1 dX8_wouldWait_47 ?_
      refine lv_istore_n (lv' := [(3, .int ((σ4 30 0 2) - 1)), (0, .ref (ad 8 0)), (1, .int v1), (2, .int v2)]) C.1 C.2.1 dX8_wouldWait_48 rfl hl (by decide) rfl (fun ls hl => ?_)
      refine lv_aload_n C.1 C.2.1 dX8_wouldWait_49 rfl (lv_at hl 1 rfl) ?_
      refine lv_iload_n C.1 C.2.1 dX8_wouldWait_50 rfl (lv_at hl 0 rfl) ?_
      refine lv_sipush (v := 500) C.1 C.2.1 dX8_wouldWait_51 (by decide) ?_
      obtain ⟨r6, σ5, q_54, hf⟩ := bib hf
      refine z_callI C S 8 0 rfl (by decide) cf_8 ⟨_, rfl⟩ [.int ((σ4 30 0 2) - 1), .int 500] (m_X8_thoughtUntil l G ad σ4 ((σ4 30 0 2) - 1) 500 r6 σ5 q_54 _) kv_X8_thoughtUntil tw_8_157 ⟨Nat.le_of_ble_eq_true rfl, Nat.le_of_ble_eq_true rfl⟩ rfl rfl (Nat.le_of_ble_eq_true rfl) hl.1 ⟨Nat.le_of_ble_eq_true rfl, Nat.le_of_ble_eq_true rfl⟩ dX8_wouldWait_54 (fun H locs S => ?_)
      refine lv_iconst (v := (-1)) C.1 C.2.1 dX8_wouldWait_57 (by decide) ?_
      refine lv_icmp_ne (tgt := 65) C.1 C.2.1 dX8_wouldWait_58 (by decide) (fun c_58 => ?_) (fun c_58 => ?_)
      · rw [if_neg c_58] at hf
        refine lv_aload_n C.1 C.2.1 dX8_wouldWait_65 rfl (lv_at hl 1 rfl) ?_
        refine lv_iload_n C.1 C.2.1 dX8_wouldWait_66 rfl (lv_at hl 0 rfl) ?_
        obtain ⟨r8, σ7, q_67, hf⟩ := bib hf
        refine z_callI C S 8 0 rfl (by decide) cf_8 ⟨_, rfl⟩ [.int ((σ4 30 0 2) - 1)] (m_X8_waitNow l G ad σ5 ((σ4 30 0 2) - 1) r8 σ7 q_67 _) kv_X8_waitNow tw_7_103 ⟨Nat.le_of_ble_eq_true rfl, Nat.le_of_ble_eq_true rfl⟩ rfl rfl (Nat.le_of_ble_eq_true rfl) hl.1 ⟨Nat.le_of_ble_eq_true rfl, Nat.le_of_ble_eq_true rfl⟩ dX8_wouldWait_67 (fun H locs S => ?_)
        exact w_X8_wouldWait_70 C _ r8 _ _ _ S (lv_sub hl [1] rfl) hf
      · rw [if_pos c_58] at hf
        refine lv_iconst (v := (-1)) C.1 C.2.1 dX8_wouldWait_61 (by decide) ?_
        refine lv_goto (tgt := 70) C.1 C.2.1 dX8_wouldWait_62 (by decide) ?_
        exact w_X8_wouldWait_70 C _ (-1) _ _ _ S (lv_sub hl [1] rfl) hf
    · rw [if_pos c_19] at hf
      refine lv_iconst (v := (-1)) C.1 C.2.1 dX8_wouldWait_22 (by decide) ?_
      exact z_iret C S hf dX8_wouldWait_23
  · rw [if_neg c_6] at hf
    refine lv_iconst (v := 0) C.1 C.2.1 dX8_wouldWait_9 (by decide) ?_
    exact z_iret C S hf dX8_wouldWait_10
theorem kv_X8_wouldWait : KV yX8_wouldWait cX8_wouldWait 5 (Option.some FieldType.int) 2 := ⟨tw_8_180, tw_8_178, tw_8_179, tw_1_10, by decide, by decide, by decide +kernel⟩
theorem m_X8_wouldWait (l : Launch) (G : Gx) (ad : Ad) (σ : Sg) (v1 : Int32) (v2 : Int32) (r : Int32) (σ' : Sg)  (hf : f_X8_wouldWait σ v1 v2 = some (r, σ')) (sz : Nat) : z_MI l yX8_wouldWait cX8_wouldWait 5 (Option.some FieldType.int) 8 185 1 G ad σ sz [.ref (ad 8 0), .int v1, .int v2] r σ' := by
  refine z_begin (by decide +kernel) (Nat.le_of_ble_eq_true rfl) [(0, .ref (ad 8 0)), (1, .int v1), (2, .int v2)] rfl (fun p e s m args below meth c ls C hz S hl => ?_)
  subst hz
  exact w_X8_wouldWait_0 (res := (r, σ')) C σ v1 v2 _ _ _ S hl  hf

theorem dX8_bestPatience_0 : decode cX8_bestPatience 0 = .ok (.aload_n 0, 1) := by decide +kernel
theorem dX8_bestPatience_1 : decode cX8_bestPatience 1 = .ok (.iload_n 1, 1) := by decide +kernel
theorem dX8_bestPatience_2 : decode cX8_bestPatience 2 = .ok (.invokevirtual 295, 3) := by decide +kernel
theorem dX8_bestPatience_5 : decode cX8_bestPatience 5 = .ok (.ifCond .eq 5, 3) := by decide +kernel
theorem dX8_bestPatience_8 : decode cX8_bestPatience 8 = .ok (.iconst 0, 1) := by decide +kernel
theorem dX8_bestPatience_9 : decode cX8_bestPatience 9 = .ok (.ireturn, 1) := by decide +kernel
theorem dX8_bestPatience_10 : decode cX8_bestPatience 10 = .ok (.iconst (-1), 1) := by decide +kernel
theorem dX8_bestPatience_11 : decode cX8_bestPatience 11 = .ok (.istore_n 2, 1) := by decide +kernel
theorem dX8_bestPatience_12 : decode cX8_bestPatience 12 = .ok (.iconst 0, 1) := by decide +kernel
theorem dX8_bestPatience_13 : decode cX8_bestPatience 13 = .ok (.istore_n 3, 1) := by decide +kernel
theorem dX8_bestPatience_14 : decode cX8_bestPatience 14 = .ok (.iconst 3, 1) := by decide +kernel
theorem dX8_bestPatience_15 : decode cX8_bestPatience 15 = .ok (.istore 4, 2) := by decide +kernel
theorem dX8_bestPatience_17 : decode cX8_bestPatience 17 = .ok (.iload 4, 2) := by decide +kernel
theorem dX8_bestPatience_19 : decode cX8_bestPatience 19 = .ok (.bipush 50, 2) := by decide +kernel
theorem dX8_bestPatience_21 : decode cX8_bestPatience 21 = .ok (.if_icmp .gt 67, 3) := by decide +kernel
theorem dX8_bestPatience_24 : decode cX8_bestPatience 24 = .ok (.aload_n 0, 1) := by decide +kernel
theorem dX8_bestPatience_25 : decode cX8_bestPatience 25 = .ok (.invokevirtual 318, 3) := by decide +kernel
theorem dX8_bestPatience_28 : decode cX8_bestPatience 28 = .ok (.aload_n 0, 1) := by decide +kernel
theorem dX8_bestPatience_29 : decode cX8_bestPatience 29 = .ok (.getfield 7, 3) := by decide +kernel
theorem dX8_bestPatience_32 : decode cX8_bestPatience 32 = .ok (.iconst 5, 1) := by decide +kernel
theorem dX8_bestPatience_33 : decode cX8_bestPatience 33 = .ok (.iload 4, 2) := by decide +kernel
theorem dX8_bestPatience_35 : decode cX8_bestPatience 35 = .ok (.iastore, 1) := by decide +kernel
theorem dX8_bestPatience_36 : decode cX8_bestPatience 36 = .ok (.aload_n 0, 1) := by decide +kernel
theorem dX8_bestPatience_37 : decode cX8_bestPatience 37 = .ok (.iload_n 1, 1) := by decide +kernel
theorem dX8_bestPatience_38 : decode cX8_bestPatience 38 = .ok (.invokevirtual 298, 3) := by decide +kernel
theorem dX8_bestPatience_41 : decode cX8_bestPatience 41 = .ok (.istore 5, 2) := by decide +kernel
theorem dX8_bestPatience_43 : decode cX8_bestPatience 43 = .ok (.iload 5, 2) := by decide +kernel
theorem dX8_bestPatience_45 : decode cX8_bestPatience 45 = .ok (.ifCond .ge 7, 3) := by decide +kernel
theorem dX8_bestPatience_48 : decode cX8_bestPatience 48 = .ok (.iconst (-1), 1) := by decide +kernel
theorem dX8_bestPatience_49 : decode cX8_bestPatience 49 = .ok (.goto 7, 3) := by decide +kernel
theorem dX8_bestPatience_52 : decode cX8_bestPatience 52 = .ok (.aload_n 0, 1) := by decide +kernel
theorem dX8_bestPatience_53 : decode cX8_bestPatience 53 = .ok (.invokevirtual 312, 3) := by decide +kernel
theorem dX8_bestPatience_56 : decode cX8_bestPatience 56 = .ok (.istore 6, 2) := by decide +kernel
theorem dX8_bestPatience_58 : decode cX8_bestPatience 58 = .ok (.aload_n 0, 1) := by decide +kernel
theorem dX8_bestPatience_59 : decode cX8_bestPatience 59 = .ok (.invokevirtual 321, 3) := by decide +kernel
theorem dX8_bestPatience_62 : decode cX8_bestPatience 62 = .ok (.iload_n 2, 1) := by decide +kernel
theorem dX8_bestPatience_63 : decode cX8_bestPatience 63 = .ok (.iconst (-1), 1) := by decide +kernel
theorem dX8_bestPatience_64 : decode cX8_bestPatience 64 = .ok (.if_icmp .eq 12, 3) := by decide +kernel
theorem dX8_bestPatience_67 : decode cX8_bestPatience 67 = .ok (.iload 6, 2) := by decide +kernel
theorem dX8_bestPatience_69 : decode cX8_bestPatience 69 = .ok (.iload_n 3, 1) := by decide +kernel
theorem dX8_bestPatience_70 : decode cX8_bestPatience 70 = .ok (.if_icmp .lt 6, 3) := by decide +kernel
theorem dX8_bestPatience_73 : decode cX8_bestPatience 73 = .ok (.goto 9, 3) := by decide +kernel
theorem dX8_bestPatience_76 : decode cX8_bestPatience 76 = .ok (.iload 4, 2) := by decide +kernel
theorem dX8_bestPatience_78 : decode cX8_bestPatience 78 = .ok (.istore_n 2, 1) := by decide +kernel
theorem dX8_bestPatience_79 : decode cX8_bestPatience 79 = .ok (.iload 6, 2) := by decide +kernel
theorem dX8_bestPatience_81 : decode cX8_bestPatience 81 = .ok (.istore_n 3, 1) := by decide +kernel
theorem dX8_bestPatience_82 : decode cX8_bestPatience 82 = .ok (.iinc 4 1, 3) := by decide +kernel
theorem dX8_bestPatience_85 : decode cX8_bestPatience 85 = .ok (.goto (-68), 3) := by decide +kernel
theorem dX8_bestPatience_88 : decode cX8_bestPatience 88 = .ok (.iload_n 2, 1) := by decide +kernel
theorem dX8_bestPatience_89 : decode cX8_bestPatience 89 = .ok (.ireturn, 1) := by decide +kernel
/-! BusLiftsModel.bestPatience(I)I -/
noncomputable def f_X8_bestPatience_88  (σ : Sg) (v2 : Int32) : Option (Int32 × Sg) := some (v2, σ)
noncomputable def f_X8_bestPatience_82 (k17 : Sg → Int32 → Int32 → Int32 → Int32 → Option (Int32 × Sg)) (σ : Sg) (v1 : Int32) (v2 : Int32) (v3 : Int32) (v4 : Int32) : Option (Int32 × Sg) := k17 σ v1 v2 v3 (v4 + 1)
noncomputable def f_X8_bestPatience_76 (k17 : Sg → Int32 → Int32 → Int32 → Int32 → Option (Int32 × Sg)) (σ : Sg) (v1 : Int32) (v4 : Int32) (v6 : Int32) : Option (Int32 × Sg) := f_X8_bestPatience_82 k17 σ v1 v4 v6 v4
noncomputable def f_X8_bestPatience_56 (k17 : Sg → Int32 → Int32 → Int32 → Int32 → Option (Int32 × Sg)) (σ : Sg) (v1 : Int32) (v2 : Int32) (v3 : Int32) (v4 : Int32) (v100 : Int32) : Option (Int32 × Sg) := bv (f_X8_ends σ) fun σ1 => (if v2 = (-1) then (f_X8_bestPatience_76 k17 σ1 v1 v4 v100) else (if v100 < v3 then (f_X8_bestPatience_76 k17 σ1 v1 v4 v100) else (f_X8_bestPatience_82 k17 σ1 v1 v2 v3 v4)))
noncomputable def f_X8_bestPatience_17  : Nat → Sg → Int32 → Int32 → Int32 → Int32 → Option (Int32 × Sg)
  | 0, _, _, _, _, _ => none
  | n + 1, σ, v1, v2, v3, v4 => if 50 < v4 then (f_X8_bestPatience_88 σ v2) else (bv (f_X8_begins σ) fun σ1 => (st (sup σ1 30 0 5 v4) fun σ2 => (bi (f_X8_passes σ2 v1) fun r4 σ3 => (if 0 ≤ r4 then (bi (f_X8_longest σ3) fun r6 σ5 => (f_X8_bestPatience_56 (f_X8_bestPatience_17 n) σ5 v1 v2 v3 v4 r6)) else (f_X8_bestPatience_56 (f_X8_bestPatience_17 n) σ3 v1 v2 v3 v4 (-1))))))
theorem f_X8_bestPatience_17_s  (n : Nat) (σ : Sg) (v1 : Int32) (v2 : Int32) (v3 : Int32) (v4 : Int32) : f_X8_bestPatience_17  (n + 1) σ v1 v2 v3 v4 = (if 50 < v4 then (f_X8_bestPatience_88 σ v2) else (bv (f_X8_begins σ) fun σ1 => (st (sup σ1 30 0 5 v4) fun σ2 => (bi (f_X8_passes σ2 v1) fun r4 σ3 => (if 0 ≤ r4 then (bi (f_X8_longest σ3) fun r6 σ5 => (f_X8_bestPatience_56 (f_X8_bestPatience_17 n) σ5 v1 v2 v3 v4 r6)) else (f_X8_bestPatience_56 (f_X8_bestPatience_17 n) σ3 v1 v2 v3 v4 (-1))))))) := rfl
noncomputable def f_X8_bestPatience  (σ : Sg) (v1 : Int32) : Option (Int32 × Sg) := bi (f_X8_badTicks σ v1) fun r2 σ1 => (if r2 = 0 then (f_X8_bestPatience_17 FU σ1 v1 (-1) 0 3) else (some (0, σ1)))
set_option maxHeartbeats 4000000 in
set_option maxRecDepth 100000 in
theorem w_X8_bestPatience_88 {p : Program} {l : Launch} {e : Env} {s : State} {m : MethodId} {args : Array Value} {below : List Frame} {meth : Method} {c : Code} {G : Gx} {ad : Ad} {res : Int32 × Sg} (C : Cx p s m args meth c yX8_bestPatience.cls cX8_bestPatience 7 (Option.some FieldType.int) G)  : ∀ (σ : Sg) (v2 : Int32) (H : Heap) (locs : List Loc) (ls : Array Slot), z_S 1 G ad σ (z_A 1 ad s.heap.size) s.heap H locs → lv_has ls 7 [(2, .int v2)] → f_X8_bestPatience_88  σ v2 = some res → W p l e { frames := 8, cells := 0, slots := 0, locals := 184 } s m args below meth c H locs 0 0 (MQ below (va_Qi (S := Unit) (fun r1 _ => r1 = res.1) (fun _ t => z_W 1 G ad res.2 t.heap) (z_A 1 ad s.heap.size)) args s 0 0 (z_A 1 ad s.heap.size)) (F0 m 88 ls []) := by
  intro σ v2 H locs ls S hl  hf
  unfold f_X8_bestPatience_88 at hf
  refine lv_iload_n C.1 C.2.1 dX8_bestPatience_88 rfl (lv_at hl 0 rfl) ?_
  exact z_iret C S hf dX8_bestPatience_89
set_option maxHeartbeats 4000000 in
set_option maxRecDepth 100000 in
theorem w_X8_bestPatience_82 {p : Program} {l : Launch} {e : Env} {s : State} {m : MethodId} {args : Array Value} {below : List Frame} {meth : Method} {c : Code} {G : Gx} {ad : Ad} {res : Int32 × Sg} (C : Cx p s m args meth c yX8_bestPatience.cls cX8_bestPatience 7 (Option.some FieldType.int) G) (k17 : Sg → Int32 → Int32 → Int32 → Int32 → Option (Int32 × Sg)) (hk17 : ∀ (σ : Sg) (v1 : Int32) (v2 : Int32) (v3 : Int32) (v4 : Int32) (H : Heap) (locs : List Loc) (ls : Array Slot), z_S 1 G ad σ (z_A 1 ad s.heap.size) s.heap H locs → lv_has ls 7 [(0, .ref (ad 8 0)), (1, .int v1), (2, .int v2), (3, .int v3), (4, .int v4)] → k17 σ v1 v2 v3 v4 = some res → W p l e { frames := 8, cells := 0, slots := 0, locals := 184 } s m args below meth c H locs 0 0 (MQ below (va_Qi (S := Unit) (fun r1 _ => r1 = res.1) (fun _ t => z_W 1 G ad res.2 t.heap) (z_A 1 ad s.heap.size)) args s 0 0 (z_A 1 ad s.heap.size)) (F0 m 17 ls [])) : ∀ (σ : Sg) (v1 : Int32) (v2 : Int32) (v3 : Int32) (v4 : Int32) (H : Heap) (locs : List Loc) (ls : Array Slot), z_S 1 G ad σ (z_A 1 ad s.heap.size) s.heap H locs → lv_has ls 7 [(0, .ref (ad 8 0)), (1, .int v1), (2, .int v2), (3, .int v3), (4, .int v4)] → f_X8_bestPatience_82 k17 σ v1 v2 v3 v4 = some res → W p l e { frames := 8, cells := 0, slots := 0, locals := 184 } s m args below meth c H locs 0 0 (MQ below (va_Qi (S := Unit) (fun r1 _ => r1 = res.1) (fun _ t => z_W 1 G ad res.2 t.heap) (z_A 1 ad s.heap.size)) args s 0 0 (z_A 1 ad s.heap.size)) (F0 m 82 ls []) := by
  intro σ v1 v2 v3 v4 H locs ls S hl  hf
  unfold f_X8_bestPatience_82 at hf
  refine lv_iinc (v := (v4 + 1)) (lv' := [(4, .int (v4 + 1)), (0, .ref (ad 8 0)), (1, .int v1), (2, .int v2), (3, .int v3)]) C.1 C.2.1 dX8_bestPatience_82 hl (k := 4) rfl rfl (by decide) rfl (fun ls hl => ?_)
  refine lv_goto (tgt := 17) C.1 C.2.1 dX8_bestPatience_85 (by decide) ?_
  exact hk17 _ v1 v2 v3 (v4 + 1) _ _ _ S (lv_sub hl [1, 2, 3, 4, 0] rfl)  hf
set_option maxHeartbeats 4000000 in
set_option maxRecDepth 100000 in
theorem w_X8_bestPatience_76 {p : Program} {l : Launch} {e : Env} {s : State} {m : MethodId} {args : Array Value} {below : List Frame} {meth : Method} {c : Code} {G : Gx} {ad : Ad} {res : Int32 × Sg} (C : Cx p s m args meth c yX8_bestPatience.cls cX8_bestPatience 7 (Option.some FieldType.int) G) (k17 : Sg → Int32 → Int32 → Int32 → Int32 → Option (Int32 × Sg)) (hk17 : ∀ (σ : Sg) (v1 : Int32) (v2 : Int32) (v3 : Int32) (v4 : Int32) (H : Heap) (locs : List Loc) (ls : Array Slot), z_S 1 G ad σ (z_A 1 ad s.heap.size) s.heap H locs → lv_has ls 7 [(0, .ref (ad 8 0)), (1, .int v1), (2, .int v2), (3, .int v3), (4, .int v4)] → k17 σ v1 v2 v3 v4 = some res → W p l e { frames := 8, cells := 0, slots := 0, locals := 184 } s m args below meth c H locs 0 0 (MQ below (va_Qi (S := Unit) (fun r1 _ => r1 = res.1) (fun _ t => z_W 1 G ad res.2 t.heap) (z_A 1 ad s.heap.size)) args s 0 0 (z_A 1 ad s.heap.size)) (F0 m 17 ls [])) : ∀ (σ : Sg) (v1 : Int32) (v4 : Int32) (v6 : Int32) (H : Heap) (locs : List Loc) (ls : Array Slot), z_S 1 G ad σ (z_A 1 ad s.heap.size) s.heap H locs → lv_has ls 7 [(0, .ref (ad 8 0)), (1, .int v1), (4, .int v4), (6, .int v6)] → f_X8_bestPatience_76 k17 σ v1 v4 v6 = some res → W p l e { frames := 8, cells := 0, slots := 0, locals := 184 } s m args below meth c H locs 0 0 (MQ below (va_Qi (S := Unit) (fun r1 _ => r1 = res.1) (fun _ t => z_W 1 G ad res.2 t.heap) (z_A 1 ad s.heap.size)) args s 0 0 (z_A 1 ad s.heap.size)) (F0 m 76 ls []) := by
  intro σ v1 v4 v6 H locs ls S hl  hf
  unfold f_X8_bestPatience_76 at hf
  refine lv_iload C.1 C.2.1 dX8_bestPatience_76 (lv_at hl 2 rfl) ?_
  refine lv_istore_n (lv' := [(2, .int v4), (0, .ref (ad 8 0)), (1, .int v1), (4, .int v4), (6, .int v6)]) C.1 C.2.1 dX8_bestPatience_78 rfl hl (by decide) rfl (fun ls hl => ?_)
  refine lv_iload C.1 C.2.1 dX8_bestPatience_79 (lv_at hl 4 rfl) ?_
  refine lv_istore_n (lv' := [(3, .int v6), (2, .int v4), (0, .ref (ad 8 0)), (1, .int v1), (4, .int v4), (6, .int v6)]) C.1 C.2.1 dX8_bestPatience_81 rfl hl (by decide) rfl (fun ls hl => ?_)
  exact w_X8_bestPatience_82 C k17 hk17 _ v1 v4 v6 v4 _ _ _ S (lv_sub hl [2, 3, 1, 0, 4] rfl) hf
set_option maxHeartbeats 4000000 in
set_option maxRecDepth 100000 in
theorem w_X8_bestPatience_56 {p : Program} {l : Launch} {e : Env} {s : State} {m : MethodId} {args : Array Value} {below : List Frame} {meth : Method} {c : Code} {G : Gx} {ad : Ad} {res : Int32 × Sg} (C : Cx p s m args meth c yX8_bestPatience.cls cX8_bestPatience 7 (Option.some FieldType.int) G) (k17 : Sg → Int32 → Int32 → Int32 → Int32 → Option (Int32 × Sg)) (hk17 : ∀ (σ : Sg) (v1 : Int32) (v2 : Int32) (v3 : Int32) (v4 : Int32) (H : Heap) (locs : List Loc) (ls : Array Slot), z_S 1 G ad σ (z_A 1 ad s.heap.size) s.heap H locs → lv_has ls 7 [(0, .ref (ad 8 0)), (1, .int v1), (2, .int v2), (3, .int v3), (4, .int v4)] → k17 σ v1 v2 v3 v4 = some res → W p l e { frames := 8, cells := 0, slots := 0, locals := 184 } s m args below meth c H locs 0 0 (MQ below (va_Qi (S := Unit) (fun r1 _ => r1 = res.1) (fun _ t => z_W 1 G ad res.2 t.heap) (z_A 1 ad s.heap.size)) args s 0 0 (z_A 1 ad s.heap.size)) (F0 m 17 ls [])) : ∀ (σ : Sg) (v1 : Int32) (v2 : Int32) (v3 : Int32) (v4 : Int32) (v100 : Int32) (H : Heap) (locs : List Loc) (ls : Array Slot), z_S 1 G ad σ (z_A 1 ad s.heap.size) s.heap H locs → lv_has ls 7 [(0, .ref (ad 8 0)), (1, .int v1), (2, .int v2), (3, .int v3), (4, .int v4)] → f_X8_bestPatience_56 k17 σ v1 v2 v3 v4 v100 = some res → W p l e { frames := 8, cells := 0, slots := 0, locals := 184 } s m args below meth c H locs 0 0 (MQ below (va_Qi (S := Unit) (fun r1 _ => r1 = res.1) (fun _ t => z_W 1 G ad res.2 t.heap) (z_A 1 ad s.heap.size)) args s 0 0 (z_A 1 ad s.heap.size)) (F0 m 56 ls [.int v100]) := by
  intro σ v1 v2 v3 v4 v100 H locs ls S hl  hf
  unfold f_X8_bestPatience_56 at hf
  refine lv_istore (lv' := [(6, .int v100), (0, .ref (ad 8 0)), (1, .int v1), (2, .int v2), (3, .int v3), (4, .int v4)]) C.1 C.2.1 dX8_bestPatience_56 hl (by decide) rfl (fun ls hl => ?_)
  refine lv_aload_n C.1 C.2.1 dX8_bestPatience_58 rfl (lv_at hl 1 rfl) ?_
  obtain ⟨σ1, q_59, hf⟩ := bvb hf
  refine z_callV C S 8 0 rfl (by decide) cf_8 ⟨_, rfl⟩ [] (m_X8_ends l G ad σ σ1 q_59 _) kv_X8_ends tw_8_145 ⟨Nat.le_of_ble_eq_true rfl, Nat.le_of_ble_eq_true rfl⟩ rfl rfl (Nat.le_of_ble_eq_true rfl) hl.1 ⟨Nat.le_of_ble_eq_true rfl, Nat.le_of_ble_eq_true rfl⟩ dX8_bestPatience_59 (fun H locs S => ?_)
  refine lv_iload_n C.1 C.2.1 dX8_bestPatience_62 rfl (lv_at hl 3 rfl) ?_
  refine lv_iconst (v := (-1)) C.1 C.2.1 dX8_bestPatience_63 (by decide) ?_
  refine lv_icmp_eq (tgt := 76) C.1 C.2.1 dX8_bestPatience_64 (by decide) (fun c_64 => ?_) (fun c_64 => ?_)
  · rw [if_pos c_64] at hf
    exact w_X8_bestPatience_76 C k17 hk17 _ v1 v4 v100 _ _ _ S (lv_sub hl [1, 2, 5, 0] rfl) hf
  · rw [if_neg c_64] at hf
    refine lv_iload C.1 C.2.1 dX8_bestPatience_67 (lv_at hl 0 rfl) ?_
    refine lv_iload_n C.1 C.2.1 dX8_bestPatience_69 rfl (lv_at hl 4 rfl) ?_
    refine lv_icmp_lt (tgt := 76) C.1 C.2.1 dX8_bestPatience_70 (by decide) (fun c_70 => ?_) (fun c_70 => ?_)
    · rw [if_pos c_70] at hf
      exact w_X8_bestPatience_76 C k17 hk17 _ v1 v4 v100 _ _ _ S (lv_sub hl [1, 2, 5, 0] rfl) hf
    · rw [if_neg c_70] at hf
      refine lv_goto (tgt := 82) C.1 C.2.1 dX8_bestPatience_73 (by decide) ?_
      exact w_X8_bestPatience_82 C k17 hk17 _ v1 v2 v3 v4 _ _ _ S (lv_sub hl [1, 2, 3, 4, 5] rfl) hf
set_option maxHeartbeats 4000000 in
set_option maxRecDepth 100000 in
theorem w_X8_bestPatience_17 {p : Program} {l : Launch} {e : Env} {s : State} {m : MethodId} {args : Array Value} {below : List Frame} {meth : Method} {c : Code} {G : Gx} {ad : Ad} {res : Int32 × Sg} (C : Cx p s m args meth c yX8_bestPatience.cls cX8_bestPatience 7 (Option.some FieldType.int) G)  : ∀ n : Nat, ∀ (σ : Sg) (v1 : Int32) (v2 : Int32) (v3 : Int32) (v4 : Int32) (H : Heap) (locs : List Loc) (ls : Array Slot), z_S 1 G ad σ (z_A 1 ad s.heap.size) s.heap H locs → lv_has ls 7 [(0, .ref (ad 8 0)), (1, .int v1), (2, .int v2), (3, .int v3), (4, .int v4)] → f_X8_bestPatience_17  n σ v1 v2 v3 v4 = some res → W p l e { frames := 8, cells := 0, slots := 0, locals := 184 } s m args below meth c H locs 0 0 (MQ below (va_Qi (S := Unit) (fun r1 _ => r1 = res.1) (fun _ t => z_W 1 G ad res.2 t.heap) (z_A 1 ad s.heap.size)) args s 0 0 (z_A 1 ad s.heap.size)) (F0 m 17 ls []) := by
  intro n
  induction n with
  | zero => intro σ v1 v2 v3 v4 H locs ls S hl  hf; cases hf
  | succ n ih =>
    intro σ v1 v2 v3 v4 H locs ls S hl  hf
    rw [f_X8_bestPatience_17_s] at hf
    refine lv_iload C.1 C.2.1 dX8_bestPatience_17 (lv_at hl 4 rfl) ?_
    refine lv_bipush (v := 50) C.1 C.2.1 dX8_bestPatience_19 (by decide) ?_
    refine lv_icmp_gt (tgt := 88) C.1 C.2.1 dX8_bestPatience_21 (by decide) (fun c_21 => ?_) (fun c_21 => ?_)
    · rw [if_pos c_21] at hf
      exact w_X8_bestPatience_88 C _ v2 _ _ _ S (lv_sub hl [2] rfl) hf
    · rw [if_neg c_21] at hf
      refine lv_aload_n C.1 C.2.1 dX8_bestPatience_24 rfl (lv_at hl 0 rfl) ?_
      obtain ⟨σ1, q_25, hf⟩ := bvb hf
      refine z_callV C S 8 0 rfl (by decide) cf_8 ⟨_, rfl⟩ [] (m_X8_begins l G ad σ σ1 q_25 _) kv_X8_begins tw_8_141 ⟨Nat.le_of_ble_eq_true rfl, Nat.le_of_ble_eq_true rfl⟩ rfl rfl (Nat.le_of_ble_eq_true rfl) hl.1 ⟨Nat.le_of_ble_eq_true rfl, Nat.le_of_ble_eq_true rfl⟩ dX8_bestPatience_25 (fun H locs S => ?_)
      refine lv_aload_n C.1 C.2.1 dX8_bestPatience_28 rfl (lv_at hl 0 rfl) ?_
      refine z_getR C S 8 0 rfl (by decide) cf_8 0 (by decide) _ (gr_8_0 G ad 0) tw_6_118 dX8_bestPatience_29 ?_
      refine lv_iconst (v := 5) C.1 C.2.1 dX8_bestPatience_32 (by decide) ?_
      refine lv_iload C.1 C.2.1 dX8_bestPatience_33 (lv_at hl 4 rfl) ?_
      obtain ⟨σ2, e_35, hf⟩ := stb hf
      refine z_iastL C S 30 0 rfl (by decide) 2111 (fun _ => rfl) 5 (by decide) (by decide) (by decide) dX8_bestPatience_35 (fun H locs S => ?_)
      rw [← e_35] at S
      refine lv_aload_n C.1 C.2.1 dX8_bestPatience_36 rfl (lv_at hl 0 rfl) ?_
      refine lv_iload_n C.1 C.2.1 dX8_bestPatience_37 rfl (lv_at hl 1 rfl) ?_
      obtain ⟨r4, σ3, q_38, hf⟩ := bib hf
      refine z_callI C S 8 0 rfl (by decide) cf_8 ⟨_, rfl⟩ [.int v1] (m_X8_passes l G ad σ2 v1 r4 σ3 q_38 _) kv_X8_passes tw_7_190 ⟨Nat.le_of_ble_eq_true rfl, Nat.le_of_ble_eq_true rfl⟩ rfl rfl (Nat.le_of_ble_eq_true rfl) hl.1 ⟨Nat.le_of_ble_eq_true rfl, Nat.le_of_ble_eq_true rfl⟩ dX8_bestPatience_38 (fun H locs S => ?_)
      refine lv_istore (lv' := [(5, .int r4), (0, .ref (ad 8 0)), (1, .int v1), (2, .int v2), (3, .int v3), (4, .int v4)]) C.1 C.2.1 dX8_bestPatience_41 hl (by decide) rfl (fun ls hl => ?_)
      refine lv_iload C.1 C.2.1 dX8_bestPatience_43 (lv_at hl 0 rfl) ?_
      refine lv_if_ge (tgt := 52) C.1 C.2.1 dX8_bestPatience_45 (by decide) (fun c_45 => ?_) (fun c_45 => ?_)
      · rw [if_pos c_45] at hf
        refine lv_aload_n C.1 C.2.1 dX8_bestPatience_52 rfl (lv_at hl 1 rfl) ?_
        obtain ⟨r6, σ5, q_53, hf⟩ := bib hf
        refine z_callI C S 8 0 rfl (by decide) cf_8 ⟨_, rfl⟩ [] (m_X8_longest l G ad σ3 r6 σ5 q_53 _) kv_X8_longest tw_8_56 ⟨Nat.le_of_ble_eq_true rfl, Nat.le_of_ble_eq_true rfl⟩ rfl rfl (Nat.le_of_ble_eq_true rfl) hl.1 ⟨Nat.le_of_ble_eq_true rfl, Nat.le_of_ble_eq_true rfl⟩ dX8_bestPatience_53 (fun H locs S => ?_)
        exact w_X8_bestPatience_56 C (f_X8_bestPatience_17 n) ih _ v1 v2 v3 v4 r6 _ _ _ S (lv_sub hl [1, 2, 3, 4, 5] rfl) hf
      · rw [if_neg c_45] at hf
        refine lv_iconst (v := (-1)) C.1 C.2.1 dX8_bestPatience_48 (by decide) ?_
        refine lv_goto (tgt := 56) C.1 C.2.1 dX8_bestPatience_49 (by decide) ?_
        exact w_X8_bestPatience_56 C (f_X8_bestPatience_17 n) ih _ v1 v2 v3 v4 (-1) _ _ _ S (lv_sub hl [1, 2, 3, 4, 5] rfl) hf
set_option maxHeartbeats 4000000 in
set_option maxRecDepth 100000 in
theorem w_X8_bestPatience_0 {p : Program} {l : Launch} {e : Env} {s : State} {m : MethodId} {args : Array Value} {below : List Frame} {meth : Method} {c : Code} {G : Gx} {ad : Ad} {res : Int32 × Sg} (C : Cx p s m args meth c yX8_bestPatience.cls cX8_bestPatience 7 (Option.some FieldType.int) G)  : ∀ (σ : Sg) (v1 : Int32) (H : Heap) (locs : List Loc) (ls : Array Slot), z_S 1 G ad σ (z_A 1 ad s.heap.size) s.heap H locs → lv_has ls 7 [(0, .ref (ad 8 0)), (1, .int v1)] → f_X8_bestPatience  σ v1 = some res → W p l e { frames := 8, cells := 0, slots := 0, locals := 184 } s m args below meth c H locs 0 0 (MQ below (va_Qi (S := Unit) (fun r1 _ => r1 = res.1) (fun _ t => z_W 1 G ad res.2 t.heap) (z_A 1 ad s.heap.size)) args s 0 0 (z_A 1 ad s.heap.size)) (F0 m 0 ls []) := by
  intro σ v1 H locs ls S hl  hf
  unfold f_X8_bestPatience at hf
  refine lv_aload_n C.1 C.2.1 dX8_bestPatience_0 rfl (lv_at hl 0 rfl) ?_
  refine lv_iload_n C.1 C.2.1 dX8_bestPatience_1 rfl (lv_at hl 1 rfl) ?_
  obtain ⟨r2, σ1, q_2, hf⟩ := bib hf
  refine z_callI C S 8 0 rfl (by decide) cf_8 ⟨_, rfl⟩ [.int v1] (m_X8_badTicks l G ad σ v1 r2 σ1 q_2 _) kv_X8_badTicks tw_7_186 ⟨Nat.le_of_ble_eq_true rfl, Nat.le_of_ble_eq_true rfl⟩ rfl rfl (Nat.le_of_ble_eq_true rfl) hl.1 ⟨Nat.le_of_ble_eq_true rfl, Nat.le_of_ble_eq_true rfl⟩ dX8_bestPatience_2 (fun H locs S => ?_)
  refine lv_if_eq (tgt := 10) C.1 C.2.1 dX8_bestPatience_5 (by decide) (fun c_5 => ?_) (fun c_5 => ?_)
  · rw [if_pos c_5] at hf
    refine lv_iconst (v := (-1)) C.1 C.2.1 dX8_bestPatience_10 (by decide) ?_
    refine lv_istore_n (lv' := [(2, .int (-1)), (0, .ref (ad 8 0)), (1, .int v1)]) C.1 C.2.1 dX8_bestPatience_11 rfl hl (by decide) rfl (fun ls hl => ?_)
    refine lv_iconst (v := 0) C.1 C.2.1 dX8_bestPatience_12 (by decide) ?_
    refine lv_istore_n (lv' := [(3, .int 0), (2, .int (-1)), (0, .ref (ad 8 0)), (1, .int v1)]) C.1 C.2.1 dX8_bestPatience_13 rfl hl (by decide) rfl (fun ls hl => ?_)
    refine lv_iconst (v := 3) C.1 C.2.1 dX8_bestPatience_14 (by decide) ?_
    refine lv_istore (lv' := [(4, .int 3), (3, .int 0), (2, .int (-1)), (0, .ref (ad 8 0)), (1, .int v1)]) C.1 C.2.1 dX8_bestPatience_15 hl (by decide) rfl (fun ls hl => ?_)
    exact w_X8_bestPatience_17 C FU _ v1 (-1) 0 3 _ _ _ S (lv_sub hl [3, 4, 2, 1, 0] rfl) hf
  · rw [if_neg c_5] at hf
    refine lv_iconst (v := 0) C.1 C.2.1 dX8_bestPatience_8 (by decide) ?_
    exact z_iret C S hf dX8_bestPatience_9
theorem kv_X8_bestPatience : KV yX8_bestPatience cX8_bestPatience 7 (Option.some FieldType.int) 1 := ⟨tw_8_184, tw_8_182, tw_8_183, tw_1_10, by decide, by decide, by decide +kernel⟩
theorem m_X8_bestPatience (l : Launch) (G : Gx) (ad : Ad) (σ : Sg) (v1 : Int32) (r : Int32) (σ' : Sg)  (hf : f_X8_bestPatience σ v1 = some (r, σ')) (sz : Nat) : z_MI l yX8_bestPatience cX8_bestPatience 7 (Option.some FieldType.int) 8 184 1 G ad σ sz [.ref (ad 8 0), .int v1] r σ' := by
  refine z_begin (by decide +kernel) (Nat.le_of_ble_eq_true rfl) [(0, .ref (ad 8 0)), (1, .int v1)] rfl (fun p e s m args below meth c ls C hz S hl => ?_)
  subst hz
  exact w_X8_bestPatience_0 (res := (r, σ')) C σ v1 _ _ _ S hl  hf

theorem dX8_signAt_0 : decode cX8_signAt 0 = .ok (.aload_n 0, 1) := by decide +kernel
theorem dX8_signAt_1 : decode cX8_signAt 1 = .ok (.getfield 7, 3) := by decide +kernel
theorem dX8_signAt_4 : decode cX8_signAt 4 = .ok (.bipush 23, 2) := by decide +kernel
theorem dX8_signAt_6 : decode cX8_signAt 6 = .ok (.iload_n 1, 1) := by decide +kernel
theorem dX8_signAt_7 : decode cX8_signAt 7 = .ok (.iadd, 1) := by decide +kernel
theorem dX8_signAt_8 : decode cX8_signAt 8 = .ok (.iaload, 1) := by decide +kernel
theorem dX8_signAt_9 : decode cX8_signAt 9 = .ok (.iload_n 2, 1) := by decide +kernel
theorem dX8_signAt_10 : decode cX8_signAt 10 = .ok (.if_icmp .ne 6, 3) := by decide +kernel
theorem dX8_signAt_13 : decode cX8_signAt 13 = .ok (.bipush 79, 2) := by decide +kernel
theorem dX8_signAt_15 : decode cX8_signAt 15 = .ok (.ireturn, 1) := by decide +kernel
theorem dX8_signAt_16 : decode cX8_signAt 16 = .ok (.iconst 0, 1) := by decide +kernel
theorem dX8_signAt_17 : decode cX8_signAt 17 = .ok (.istore_n 3, 1) := by decide +kernel
theorem dX8_signAt_18 : decode cX8_signAt 18 = .ok (.iconst 0, 1) := by decide +kernel
theorem dX8_signAt_19 : decode cX8_signAt 19 = .ok (.istore 4, 2) := by decide +kernel
theorem dX8_signAt_21 : decode cX8_signAt 21 = .ok (.iconst 0, 1) := by decide +kernel
theorem dX8_signAt_22 : decode cX8_signAt 22 = .ok (.istore 5, 2) := by decide +kernel
theorem dX8_signAt_24 : decode cX8_signAt 24 = .ok (.iload 5, 2) := by decide +kernel
theorem dX8_signAt_26 : decode cX8_signAt 26 = .ok (.aload_n 0, 1) := by decide +kernel
theorem dX8_signAt_27 : decode cX8_signAt 27 = .ok (.getfield 7, 3) := by decide +kernel
theorem dX8_signAt_30 : decode cX8_signAt 30 = .ok (.iconst 2, 1) := by decide +kernel
theorem dX8_signAt_31 : decode cX8_signAt 31 = .ok (.iaload, 1) := by decide +kernel
theorem dX8_signAt_32 : decode cX8_signAt 32 = .ok (.if_icmp .ge 79, 3) := by decide +kernel
theorem dX8_signAt_35 : decode cX8_signAt 35 = .ok (.iload_n 3, 1) := by decide +kernel
theorem dX8_signAt_36 : decode cX8_signAt 36 = .ok (.ifCond .ne 27, 3) := by decide +kernel
theorem dX8_signAt_39 : decode cX8_signAt 39 = .ok (.aload_n 0, 1) := by decide +kernel
theorem dX8_signAt_40 : decode cX8_signAt 40 = .ok (.iload_n 1, 1) := by decide +kernel
theorem dX8_signAt_41 : decode cX8_signAt 41 = .ok (.iload 5, 2) := by decide +kernel
theorem dX8_signAt_43 : decode cX8_signAt 43 = .ok (.invokevirtual 68, 3) := by decide +kernel
theorem dX8_signAt_46 : decode cX8_signAt 46 = .ok (.ifCond .eq 21, 3) := by decide +kernel
theorem dX8_signAt_49 : decode cX8_signAt 49 = .ok (.aload_n 0, 1) := by decide +kernel
theorem dX8_signAt_50 : decode cX8_signAt 50 = .ok (.getfield 7, 3) := by decide +kernel
theorem dX8_signAt_53 : decode cX8_signAt 53 = .ok (.bipush 79, 2) := by decide +kernel
theorem dX8_signAt_55 : decode cX8_signAt 55 = .ok (.iload 5, 2) := by decide +kernel
theorem dX8_signAt_57 : decode cX8_signAt 57 = .ok (.iadd, 1) := by decide +kernel
theorem dX8_signAt_58 : decode cX8_signAt 58 = .ok (.iaload, 1) := by decide +kernel
theorem dX8_signAt_59 : decode cX8_signAt 59 = .ok (.iload_n 2, 1) := by decide +kernel
theorem dX8_signAt_60 : decode cX8_signAt 60 = .ok (.if_icmp .ne 7, 3) := by decide +kernel
theorem dX8_signAt_63 : decode cX8_signAt 63 = .ok (.iconst 1, 1) := by decide +kernel
theorem dX8_signAt_64 : decode cX8_signAt 64 = .ok (.goto 4, 3) := by decide +kernel
theorem dX8_signAt_67 : decode cX8_signAt 67 = .ok (.iconst 0, 1) := by decide +kernel
theorem dX8_signAt_68 : decode cX8_signAt 68 = .ok (.istore_n 3, 1) := by decide +kernel
theorem dX8_signAt_69 : decode cX8_signAt 69 = .ok (.iload 4, 2) := by decide +kernel
theorem dX8_signAt_71 : decode cX8_signAt 71 = .ok (.ifCond .ne 27, 3) := by decide +kernel
theorem dX8_signAt_74 : decode cX8_signAt 74 = .ok (.aload_n 0, 1) := by decide +kernel
theorem dX8_signAt_75 : decode cX8_signAt 75 = .ok (.iload_n 1, 1) := by decide +kernel
theorem dX8_signAt_76 : decode cX8_signAt 76 = .ok (.iload 5, 2) := by decide +kernel
theorem dX8_signAt_78 : decode cX8_signAt 78 = .ok (.invokevirtual 92, 3) := by decide +kernel
theorem dX8_signAt_81 : decode cX8_signAt 81 = .ok (.ifCond .eq 21, 3) := by decide +kernel
theorem dX8_signAt_84 : decode cX8_signAt 84 = .ok (.aload_n 0, 1) := by decide +kernel
theorem dX8_signAt_85 : decode cX8_signAt 85 = .ok (.getfield 7, 3) := by decide +kernel
theorem dX8_signAt_88 : decode cX8_signAt 88 = .ok (.bipush 55, 2) := by decide +kernel
theorem dX8_signAt_90 : decode cX8_signAt 90 = .ok (.iload 5, 2) := by decide +kernel
theorem dX8_signAt_92 : decode cX8_signAt 92 = .ok (.iadd, 1) := by decide +kernel
theorem dX8_signAt_93 : decode cX8_signAt 93 = .ok (.iaload, 1) := by decide +kernel
theorem dX8_signAt_94 : decode cX8_signAt 94 = .ok (.iload_n 2, 1) := by decide +kernel
theorem dX8_signAt_95 : decode cX8_signAt 95 = .ok (.if_icmp .ne 7, 3) := by decide +kernel
theorem dX8_signAt_98 : decode cX8_signAt 98 = .ok (.iconst 1, 1) := by decide +kernel
theorem dX8_signAt_99 : decode cX8_signAt 99 = .ok (.goto 4, 3) := by decide +kernel
theorem dX8_signAt_102 : decode cX8_signAt 102 = .ok (.iconst 0, 1) := by decide +kernel
theorem dX8_signAt_103 : decode cX8_signAt 103 = .ok (.istore 4, 2) := by decide +kernel
theorem dX8_signAt_105 : decode cX8_signAt 105 = .ok (.iinc 5 1, 3) := by decide +kernel
theorem dX8_signAt_108 : decode cX8_signAt 108 = .ok (.goto (-84), 3) := by decide +kernel
theorem dX8_signAt_111 : decode cX8_signAt 111 = .ok (.iload_n 3, 1) := by decide +kernel
theorem dX8_signAt_112 : decode cX8_signAt 112 = .ok (.ifCond .eq 8, 3) := by decide +kernel
theorem dX8_signAt_115 : decode cX8_signAt 115 = .ok (.bipush 43, 2) := by decide +kernel
theorem dX8_signAt_117 : decode cX8_signAt 117 = .ok (.goto 15, 3) := by decide +kernel
theorem dX8_signAt_120 : decode cX8_signAt 120 = .ok (.iload 4, 2) := by decide +kernel
theorem dX8_signAt_122 : decode cX8_signAt 122 = .ok (.ifCond .eq 8, 3) := by decide +kernel
theorem dX8_signAt_125 : decode cX8_signAt 125 = .ok (.bipush 45, 2) := by decide +kernel
theorem dX8_signAt_127 : decode cX8_signAt 127 = .ok (.goto 5, 3) := by decide +kernel
theorem dX8_signAt_130 : decode cX8_signAt 130 = .ok (.bipush 46, 2) := by decide +kernel
theorem dX8_signAt_132 : decode cX8_signAt 132 = .ok (.ireturn, 1) := by decide +kernel
/-! BusLiftsModel.signAt(II)I -/
noncomputable def f_X8_signAt_132  (σ : Sg) (v100 : Int32) : Option (Int32 × Sg) := some (v100, σ)
noncomputable def f_X8_signAt_111  (σ : Sg) (v3 : Int32) (v4 : Int32) : Option (Int32 × Sg) := if v3 = 0 then (if v4 = 0 then (f_X8_signAt_132 σ 46) else (f_X8_signAt_132 σ 45)) else (f_X8_signAt_132 σ 43)
noncomputable def f_X8_signAt_103 (k24 : Sg → Int32 → Int32 → Int32 → Int32 → Int32 → Option (Int32 × Sg)) (σ : Sg) (v1 : Int32) (v2 : Int32) (v3 : Int32) (v5 : Int32) (v100 : Int32) : Option (Int32 × Sg) := k24 σ v1 v2 v3 v100 (v5 + 1)
noncomputable def f_X8_signAt_98 (k24 : Sg → Int32 → Int32 → Int32 → Int32 → Int32 → Option (Int32 × Sg)) (σ : Sg) (v1 : Int32) (v2 : Int32) (v3 : Int32) (v5 : Int32) : Option (Int32 × Sg) := f_X8_signAt_103 k24 σ v1 v2 v3 v5 1
noncomputable def f_X8_signAt_102 (k24 : Sg → Int32 → Int32 → Int32 → Int32 → Int32 → Option (Int32 × Sg)) (σ : Sg) (v1 : Int32) (v2 : Int32) (v3 : Int32) (v5 : Int32) : Option (Int32 × Sg) := f_X8_signAt_103 k24 σ v1 v2 v3 v5 0
noncomputable def f_X8_signAt_68 (k24 : Sg → Int32 → Int32 → Int32 → Int32 → Int32 → Option (Int32 × Sg)) (σ : Sg) (v1 : Int32) (v2 : Int32) (v4 : Int32) (v5 : Int32) (v100 : Int32) : Option (Int32 × Sg) := if v4 = 0 then (bi (f_X8_doesHold σ v1 v5) fun r2 σ1 => (if r2 = 0 then (f_X8_signAt_102 k24 σ1 v1 v2 v100 v5) else (if (55 + v5) < 0 ∨ 2111 ≤ ((55 + v5)).toNatClampNeg then none else (if (σ1 30 0 ((55 + v5)).toNatClampNeg) = v2 then (f_X8_signAt_98 k24 σ1 v1 v2 v100 v5) else (f_X8_signAt_102 k24 σ1 v1 v2 v100 v5))))) else (f_X8_signAt_98 k24 σ v1 v2 v100 v5)
noncomputable def f_X8_signAt_63 (k24 : Sg → Int32 → Int32 → Int32 → Int32 → Int32 → Option (Int32 × Sg)) (σ : Sg) (v1 : Int32) (v2 : Int32) (v4 : Int32) (v5 : Int32) : Option (Int32 × Sg) := f_X8_signAt_68 k24 σ v1 v2 v4 v5 1
noncomputable def f_X8_signAt_67 (k24 : Sg → Int32 → Int32 → Int32 → Int32 → Int32 → Option (Int32 × Sg)) (σ : Sg) (v1 : Int32) (v2 : Int32) (v4 : Int32) (v5 : Int32) : Option (Int32 × Sg) := f_X8_signAt_68 k24 σ v1 v2 v4 v5 0
noncomputable def f_X8_signAt_24  : Nat → Sg → Int32 → Int32 → Int32 → Int32 → Int32 → Option (Int32 × Sg)
  | 0, _, _, _, _, _, _ => none
  | n + 1, σ, v1, v2, v3, v4, v5 => if (σ 30 0 2) ≤ v5 then (f_X8_signAt_111 σ v3 v4) else (if v3 = 0 then (bi (f_X8_isAboard σ v1 v5) fun r2 σ1 => (if r2 = 0 then (f_X8_signAt_67 (f_X8_signAt_24 n) σ1 v1 v2 v4 v5) else (if (79 + v5) < 0 ∨ 2111 ≤ ((79 + v5)).toNatClampNeg then none else (if (σ1 30 0 ((79 + v5)).toNatClampNeg) = v2 then (f_X8_signAt_63 (f_X8_signAt_24 n) σ1 v1 v2 v4 v5) else (f_X8_signAt_67 (f_X8_signAt_24 n) σ1 v1 v2 v4 v5))))) else (f_X8_signAt_63 (f_X8_signAt_24 n) σ v1 v2 v4 v5))
theorem f_X8_signAt_24_s  (n : Nat) (σ : Sg) (v1 : Int32) (v2 : Int32) (v3 : Int32) (v4 : Int32) (v5 : Int32) : f_X8_signAt_24  (n + 1) σ v1 v2 v3 v4 v5 = (if (σ 30 0 2) ≤ v5 then (f_X8_signAt_111 σ v3 v4) else (if v3 = 0 then (bi (f_X8_isAboard σ v1 v5) fun r2 σ1 => (if r2 = 0 then (f_X8_signAt_67 (f_X8_signAt_24 n) σ1 v1 v2 v4 v5) else (if (79 + v5) < 0 ∨ 2111 ≤ ((79 + v5)).toNatClampNeg then none else (if (σ1 30 0 ((79 + v5)).toNatClampNeg) = v2 then (f_X8_signAt_63 (f_X8_signAt_24 n) σ1 v1 v2 v4 v5) else (f_X8_signAt_67 (f_X8_signAt_24 n) σ1 v1 v2 v4 v5))))) else (f_X8_signAt_63 (f_X8_signAt_24 n) σ v1 v2 v4 v5))) := rfl
noncomputable def f_X8_signAt  (σ : Sg) (v1 : Int32) (v2 : Int32) : Option (Int32 × Sg) := if (23 + v1) < 0 ∨ 2111 ≤ ((23 + v1)).toNatClampNeg then none else (if (σ 30 0 ((23 + v1)).toNatClampNeg) = v2 then (some (79, σ)) else (f_X8_signAt_24 FU σ v1 v2 0 0 0))
set_option maxHeartbeats 4000000 in
set_option maxRecDepth 100000 in
theorem w_X8_signAt_132 {p : Program} {l : Launch} {e : Env} {s : State} {m : MethodId} {args : Array Value} {below : List Frame} {meth : Method} {c : Code} {G : Gx} {ad : Ad} {res : Int32 × Sg} (C : Cx p s m args meth c yX8_signAt.cls cX8_signAt 6 (Option.some FieldType.int) G)  : ∀ (σ : Sg) (v100 : Int32) (H : Heap) (locs : List Loc) (ls : Array Slot), z_S 1 G ad σ (z_A 1 ad s.heap.size) s.heap H locs → lv_has ls 6 [] → f_X8_signAt_132  σ v100 = some res → W p l e { frames := 2, cells := 0, slots := 0, locals := 44 } s m args below meth c H locs 0 0 (MQ below (va_Qi (S := Unit) (fun r1 _ => r1 = res.1) (fun _ t => z_W 1 G ad res.2 t.heap) (z_A 1 ad s.heap.size)) args s 0 0 (z_A 1 ad s.heap.size)) (F0 m 132 ls [.int v100]) := by
  intro σ v100 H locs ls S hl  hf
  unfold f_X8_signAt_132 at hf
  exact z_iret C S hf dX8_signAt_132
set_option maxHeartbeats 4000000 in
set_option maxRecDepth 100000 in
theorem w_X8_signAt_111 {p : Program} {l : Launch} {e : Env} {s : State} {m : MethodId} {args : Array Value} {below : List Frame} {meth : Method} {c : Code} {G : Gx} {ad : Ad} {res : Int32 × Sg} (C : Cx p s m args meth c yX8_signAt.cls cX8_signAt 6 (Option.some FieldType.int) G)  : ∀ (σ : Sg) (v3 : Int32) (v4 : Int32) (H : Heap) (locs : List Loc) (ls : Array Slot), z_S 1 G ad σ (z_A 1 ad s.heap.size) s.heap H locs → lv_has ls 6 [(3, .int v3), (4, .int v4)] → f_X8_signAt_111  σ v3 v4 = some res → W p l e { frames := 2, cells := 0, slots := 0, locals := 44 } s m args below meth c H locs 0 0 (MQ below (va_Qi (S := Unit) (fun r1 _ => r1 = res.1) (fun _ t => z_W 1 G ad res.2 t.heap) (z_A 1 ad s.heap.size)) args s 0 0 (z_A 1 ad s.heap.size)) (F0 m 111 ls []) := by
  intro σ v3 v4 H locs ls S hl  hf
  unfold f_X8_signAt_111 at hf
  refine lv_iload_n C.1 C.2.1 dX8_signAt_111 rfl (lv_at hl 0 rfl) ?_
  refine lv_if_eq (tgt := 120) C.1 C.2.1 dX8_signAt_112 (by decide) (fun c_112 => ?_) (fun c_112 => ?_)
  · rw [if_pos c_112] at hf
    refine lv_iload C.1 C.2.1 dX8_signAt_120 (lv_at hl 1 rfl) ?_
    refine lv_if_eq (tgt := 130) C.1 C.2.1 dX8_signAt_122 (by decide) (fun c_122 => ?_) (fun c_122 => ?_)
    · rw [if_pos c_122] at hf
      refine lv_bipush (v := 46) C.1 C.2.1 dX8_signAt_130 (by decide) ?_
      exact w_X8_signAt_132 C _ 46 _ _ _ S (lv_sub hl [] rfl) hf
    · rw [if_neg c_122] at hf
      refine lv_bipush (v := 45) C.1 C.2.1 dX8_signAt_125 (by decide) ?_
      refine lv_goto (tgt := 132) C.1 C.2.1 dX8_signAt_127 (by decide) ?_
      exact w_X8_signAt_132 C _ 45 _ _ _ S (lv_sub hl [] rfl) hf
  · rw [if_neg c_112] at hf
    refine lv_bipush (v := 43) C.1 C.2.1 dX8_signAt_115 (by decide) ?_
    refine lv_goto (tgt := 132) C.1 C.2.1 dX8_signAt_117 (by decide) ?_
    exact w_X8_signAt_132 C _ 43 _ _ _ S (lv_sub hl [] rfl) hf
set_option maxHeartbeats 4000000 in
set_option maxRecDepth 100000 in
theorem w_X8_signAt_103 {p : Program} {l : Launch} {e : Env} {s : State} {m : MethodId} {args : Array Value} {below : List Frame} {meth : Method} {c : Code} {G : Gx} {ad : Ad} {res : Int32 × Sg} (C : Cx p s m args meth c yX8_signAt.cls cX8_signAt 6 (Option.some FieldType.int) G) (k24 : Sg → Int32 → Int32 → Int32 → Int32 → Int32 → Option (Int32 × Sg)) (hk24 : ∀ (σ : Sg) (v1 : Int32) (v2 : Int32) (v3 : Int32) (v4 : Int32) (v5 : Int32) (H : Heap) (locs : List Loc) (ls : Array Slot), z_S 1 G ad σ (z_A 1 ad s.heap.size) s.heap H locs → lv_has ls 6 [(0, .ref (ad 8 0)), (1, .int v1), (2, .int v2), (3, .int v3), (4, .int v4), (5, .int v5)] → k24 σ v1 v2 v3 v4 v5 = some res → W p l e { frames := 2, cells := 0, slots := 0, locals := 44 } s m args below meth c H locs 0 0 (MQ below (va_Qi (S := Unit) (fun r1 _ => r1 = res.1) (fun _ t => z_W 1 G ad res.2 t.heap) (z_A 1 ad s.heap.size)) args s 0 0 (z_A 1 ad s.heap.size)) (F0 m 24 ls [])) : ∀ (σ : Sg) (v1 : Int32) (v2 : Int32) (v3 : Int32) (v5 : Int32) (v100 : Int32) (H : Heap) (locs : List Loc) (ls : Array Slot), z_S 1 G ad σ (z_A 1 ad s.heap.size) s.heap H locs → lv_has ls 6 [(0, .ref (ad 8 0)), (1, .int v1), (2, .int v2), (3, .int v3), (5, .int v5)] → f_X8_signAt_103 k24 σ v1 v2 v3 v5 v100 = some res → W p l e { frames := 2, cells := 0, slots := 0, locals := 44 } s m args below meth c H locs 0 0 (MQ below (va_Qi (S := Unit) (fun r1 _ => r1 = res.1) (fun _ t => z_W 1 G ad res.2 t.heap) (z_A 1 ad s.heap.size)) args s 0 0 (z_A 1 ad s.heap.size)) (F0 m 103 ls [.int v100]) := by
  intro σ v1 v2 v3 v5 v100 H locs ls S hl  hf
  unfold f_X8_signAt_103 at hf
  refine lv_istore (lv' := [(4, .int v100), (0, .ref (ad 8 0)), (1, .int v1), (2, .int v2), (3, .int v3), (5, .int v5)]) C.1 C.2.1 dX8_signAt_103 hl (by decide) rfl (fun ls hl => ?_)
  refine lv_iinc (v := (v5 + 1)) (lv' := [(5, .int (v5 + 1)), (4, .int v100), (0, .ref (ad 8 0)), (1, .int v1), (2, .int v2), (3, .int v3)]) C.1 C.2.1 dX8_signAt_105 hl (k := 5) rfl rfl (by decide) rfl (fun ls hl => ?_)
  refine lv_goto (tgt := 24) C.1 C.2.1 dX8_signAt_108 (by decide) ?_
  exact hk24 _ v1 v2 v3 v100 (v5 + 1) _ _ _ S (lv_sub hl [2, 3, 4, 5, 1, 0] rfl)  hf
set_option maxHeartbeats 4000000 in
set_option maxRecDepth 100000 in
theorem w_X8_signAt_98 {p : Program} {l : Launch} {e : Env} {s : State} {m : MethodId} {args : Array Value} {below : List Frame} {meth : Method} {c : Code} {G : Gx} {ad : Ad} {res : Int32 × Sg} (C : Cx p s m args meth c yX8_signAt.cls cX8_signAt 6 (Option.some FieldType.int) G) (k24 : Sg → Int32 → Int32 → Int32 → Int32 → Int32 → Option (Int32 × Sg)) (hk24 : ∀ (σ : Sg) (v1 : Int32) (v2 : Int32) (v3 : Int32) (v4 : Int32) (v5 : Int32) (H : Heap) (locs : List Loc) (ls : Array Slot), z_S 1 G ad σ (z_A 1 ad s.heap.size) s.heap H locs → lv_has ls 6 [(0, .ref (ad 8 0)), (1, .int v1), (2, .int v2), (3, .int v3), (4, .int v4), (5, .int v5)] → k24 σ v1 v2 v3 v4 v5 = some res → W p l e { frames := 2, cells := 0, slots := 0, locals := 44 } s m args below meth c H locs 0 0 (MQ below (va_Qi (S := Unit) (fun r1 _ => r1 = res.1) (fun _ t => z_W 1 G ad res.2 t.heap) (z_A 1 ad s.heap.size)) args s 0 0 (z_A 1 ad s.heap.size)) (F0 m 24 ls [])) : ∀ (σ : Sg) (v1 : Int32) (v2 : Int32) (v3 : Int32) (v5 : Int32) (H : Heap) (locs : List Loc) (ls : Array Slot), z_S 1 G ad σ (z_A 1 ad s.heap.size) s.heap H locs → lv_has ls 6 [(0, .ref (ad 8 0)), (1, .int v1), (2, .int v2), (3, .int v3), (5, .int v5)] → f_X8_signAt_98 k24 σ v1 v2 v3 v5 = some res → W p l e { frames := 2, cells := 0, slots := 0, locals := 44 } s m args below meth c H locs 0 0 (MQ below (va_Qi (S := Unit) (fun r1 _ => r1 = res.1) (fun _ t => z_W 1 G ad res.2 t.heap) (z_A 1 ad s.heap.size)) args s 0 0 (z_A 1 ad s.heap.size)) (F0 m 98 ls []) := by
  intro σ v1 v2 v3 v5 H locs ls S hl  hf
  unfold f_X8_signAt_98 at hf
  refine lv_iconst (v := 1) C.1 C.2.1 dX8_signAt_98 (by decide) ?_
  refine lv_goto (tgt := 103) C.1 C.2.1 dX8_signAt_99 (by decide) ?_
  exact w_X8_signAt_103 C k24 hk24 _ v1 v2 v3 v5 1 _ _ _ S (lv_sub hl [0, 1, 2, 3, 4] rfl) hf
set_option maxHeartbeats 4000000 in
set_option maxRecDepth 100000 in
theorem w_X8_signAt_102 {p : Program} {l : Launch} {e : Env} {s : State} {m : MethodId} {args : Array Value} {below : List Frame} {meth : Method} {c : Code} {G : Gx} {ad : Ad} {res : Int32 × Sg} (C : Cx p s m args meth c yX8_signAt.cls cX8_signAt 6 (Option.some FieldType.int) G) (k24 : Sg → Int32 → Int32 → Int32 → Int32 → Int32 → Option (Int32 × Sg)) (hk24 : ∀ (σ : Sg) (v1 : Int32) (v2 : Int32) (v3 : Int32) (v4 : Int32) (v5 : Int32) (H : Heap) (locs : List Loc) (ls : Array Slot), z_S 1 G ad σ (z_A 1 ad s.heap.size) s.heap H locs → lv_has ls 6 [(0, .ref (ad 8 0)), (1, .int v1), (2, .int v2), (3, .int v3), (4, .int v4), (5, .int v5)] → k24 σ v1 v2 v3 v4 v5 = some res → W p l e { frames := 2, cells := 0, slots := 0, locals := 44 } s m args below meth c H locs 0 0 (MQ below (va_Qi (S := Unit) (fun r1 _ => r1 = res.1) (fun _ t => z_W 1 G ad res.2 t.heap) (z_A 1 ad s.heap.size)) args s 0 0 (z_A 1 ad s.heap.size)) (F0 m 24 ls [])) : ∀ (σ : Sg) (v1 : Int32) (v2 : Int32) (v3 : Int32) (v5 : Int32) (H : Heap) (locs : List Loc) (ls : Array Slot), z_S 1 G ad σ (z_A 1 ad s.heap.size) s.heap H locs → lv_has ls 6 [(0, .ref (ad 8 0)), (1, .int v1), (2, .int v2), (3, .int v3), (5, .int v5)] → f_X8_signAt_102 k24 σ v1 v2 v3 v5 = some res → W p l e { frames := 2, cells := 0, slots := 0, locals := 44 } s m args below meth c H locs 0 0 (MQ below (va_Qi (S := Unit) (fun r1 _ => r1 = res.1) (fun _ t => z_W 1 G ad res.2 t.heap) (z_A 1 ad s.heap.size)) args s 0 0 (z_A 1 ad s.heap.size)) (F0 m 102 ls []) := by
  intro σ v1 v2 v3 v5 H locs ls S hl  hf
  unfold f_X8_signAt_102 at hf
  refine lv_iconst (v := 0) C.1 C.2.1 dX8_signAt_102 (by decide) ?_
  exact w_X8_signAt_103 C k24 hk24 _ v1 v2 v3 v5 0 _ _ _ S (lv_sub hl [0, 1, 2, 3, 4] rfl) hf
set_option maxHeartbeats 4000000 in
set_option maxRecDepth 100000 in
theorem w_X8_signAt_68 {p : Program} {l : Launch} {e : Env} {s : State} {m : MethodId} {args : Array Value} {below : List Frame} {meth : Method} {c : Code} {G : Gx} {ad : Ad} {res : Int32 × Sg} (C : Cx p s m args meth c yX8_signAt.cls cX8_signAt 6 (Option.some FieldType.int) G) (k24 : Sg → Int32 → Int32 → Int32 → Int32 → Int32 → Option (Int32 × Sg)) (hk24 : ∀ (σ : Sg) (v1 : Int32) (v2 : Int32) (v3 : Int32) (v4 : Int32) (v5 : Int32) (H : Heap) (locs : List Loc) (ls : Array Slot), z_S 1 G ad σ (z_A 1 ad s.heap.size) s.heap H locs → lv_has ls 6 [(0, .ref (ad 8 0)), (1, .int v1), (2, .int v2), (3, .int v3), (4, .int v4), (5, .int v5)] → k24 σ v1 v2 v3 v4 v5 = some res → W p l e { frames := 2, cells := 0, slots := 0, locals := 44 } s m args below meth c H locs 0 0 (MQ below (va_Qi (S := Unit) (fun r1 _ => r1 = res.1) (fun _ t => z_W 1 G ad res.2 t.heap) (z_A 1 ad s.heap.size)) args s 0 0 (z_A 1 ad s.heap.size)) (F0 m 24 ls [])) : ∀ (σ : Sg) (v1 : Int32) (v2 : Int32) (v4 : Int32) (v5 : Int32) (v100 : Int32) (H : Heap) (locs : List Loc) (ls : Array Slot), z_S 1 G ad σ (z_A 1 ad s.heap.size) s.heap H locs → lv_has ls 6 [(0, .ref (ad 8 0)), (1, .int v1), (2, .int v2), (4, .int v4), (5, .int v5)] → f_X8_signAt_68 k24 σ v1 v2 v4 v5 v100 = some res → W p l e { frames := 2, cells := 0, slots := 0, locals := 44 } s m args below meth c H locs 0 0 (MQ below (va_Qi (S := Unit) (fun r1 _ => r1 = res.1) (fun _ t => z_W 1 G ad res.2 t.heap) (z_A 1 ad s.heap.size)) args s 0 0 (z_A 1 ad s.heap.size)) (F0 m 68 ls [.int v100]) := by
  intro σ v1 v2 v4 v5 v100 H locs ls S hl  hf
  unfold f_X8_signAt_68 at hf
  refine lv_istore_n (lv' := [(3, .int v100), (0, .ref (ad 8 0)), (1, .int v1), (2, .int v2), (4, .int v4), (5, .int v5)]) C.1 C.2.1 dX8_signAt_68 rfl hl (by decide) rfl (fun ls hl => ?_)
  refine lv_iload C.1 C.2.1 dX8_signAt_69 (lv_at hl 4 rfl) ?_
  refine lv_if_ne (tgt := 98) C.1 C.2.1 dX8_signAt_71 (by decide) (fun c_71 => ?_) (fun c_71 => ?_)
  · rw [if_neg c_71] at hf
    exact w_X8_signAt_98 C k24 hk24 _ v1 v2 v100 v5 _ _ _ S (lv_sub hl [1, 2, 3, 0, 5] rfl) hf
  · rw [if_pos c_71] at hf
    refine lv_aload_n C.1 C.2.1 dX8_signAt_74 rfl (lv_at hl 1 rfl) ?_
    refine lv_iload_n C.1 C.2.1 dX8_signAt_75 rfl (lv_at hl 2 rfl) ?_
    refine lv_iload C.1 C.2.1 dX8_signAt_76 (lv_at hl 5 rfl) ?_
    obtain ⟨r2, σ1, q_78, hf⟩ := bib hf
    refine z_callI C S 8 0 rfl (by decide) cf_8 ⟨_, rfl⟩ [.int v1, .int v5] (m_X8_doesHold l G ad σ v1 v5 r2 σ1 q_78 _) kv_X8_doesHold tw_7_115 ⟨Nat.le_of_ble_eq_true rfl, Nat.le_of_ble_eq_true rfl⟩ rfl rfl (Nat.le_of_ble_eq_true rfl) hl.1 ⟨Nat.le_of_ble_eq_true rfl, Nat.le_of_ble_eq_true rfl⟩ dX8_signAt_78 (fun H locs S => ?_)
    refine lv_if_eq (tgt := 102) C.1 C.2.1 dX8_signAt_81 (by decide) (fun c_81 => ?_) (fun c_81 => ?_)
    · rw [if_pos c_81] at hf
      exact w_X8_signAt_102 C k24 hk24 _ v1 v2 v100 v5 _ _ _ S (lv_sub hl [1, 2, 3, 0, 5] rfl) hf
    · rw [if_neg c_81] at hf
      refine lv_aload_n C.1 C.2.1 dX8_signAt_84 rfl (lv_at hl 1 rfl) ?_
      refine z_getR C S 8 0 rfl (by decide) cf_8 0 (by decide) _ (gr_8_0 G ad 0) tw_6_118 dX8_signAt_85 ?_
      refine lv_bipush (v := 55) C.1 C.2.1 dX8_signAt_88 (by decide) ?_
      refine lv_iload C.1 C.2.1 dX8_signAt_90 (lv_at hl 5 rfl) ?_
      refine lv_iadd C.1 C.2.1 dX8_signAt_92 ?_
      obtain ⟨g_93, hf⟩ := gd hf
      refine z_iald C S 30 0 rfl (by decide) 2111 (fun _ => rfl) g_93 dX8_signAt_93 ?_
      refine lv_iload_n C.1 C.2.1 dX8_signAt_94 rfl (lv_at hl 3 rfl) ?_
      refine lv_icmp_ne (tgt := 102) C.1 C.2.1 dX8_signAt_95 (by decide) (fun c_95 => ?_) (fun c_95 => ?_)
      · rw [if_neg c_95] at hf
        exact w_X8_signAt_102 C k24 hk24 _ v1 v2 v100 v5 _ _ _ S (lv_sub hl [1, 2, 3, 0, 5] rfl) hf
      · rw [if_pos c_95] at hf
        exact w_X8_signAt_98 C k24 hk24 _ v1 v2 v100 v5 _ _ _ S (lv_sub hl [1, 2, 3, 0, 5] rfl) hf
set_option maxHeartbeats 4000000 in
set_option maxRecDepth 100000 in
theorem w_X8_signAt_63 {p : Program} {l : Launch} {e : Env} {s : State} {m : MethodId} {args : Array Value} {below : List Frame} {meth : Method} {c : Code} {G : Gx} {ad : Ad} {res : Int32 × Sg} (C : Cx p s m args meth c yX8_signAt.cls cX8_signAt 6 (Option.some FieldType.int) G) (k24 : Sg → Int32 → Int32 → Int32 → Int32 → Int32 → Option (Int32 × Sg)) (hk24 : ∀ (σ : Sg) (v1 : Int32) (v2 : Int32) (v3 : Int32) (v4 : Int32) (v5 : Int32) (H : Heap) (locs : List Loc) (ls : Array Slot), z_S 1 G ad σ (z_A 1 ad s.heap.size) s.heap H locs → lv_has ls 6 [(0, .ref (ad 8 0)), (1, .int v1), (2, .int v2), (3, .int v3), (4, .int v4), (5, .int v5)] → k24 σ v1 v2 v3 v4 v5 = some res → W p l e { frames := 2, cells := 0, slots := 0, locals := 44 } s m args below meth c H locs 0 0 (MQ below (va_Qi (S := Unit) (fun r1 _ => r1 = res.1) (fun _ t => z_W 1 G ad res.2 t.heap) (z_A 1 ad s.heap.size)) args s 0 0 (z_A 1 ad s.heap.size)) (F0 m 24 ls [])) : ∀ (σ : Sg) (v1 : Int32) (v2 : Int32) (v4 : Int32) (v5 : Int32) (H : Heap) (locs : List Loc) (ls : Array Slot), z_S 1 G ad σ (z_A 1 ad s.heap.size) s.heap H locs → lv_has ls 6 [(0, .ref (ad 8 0)), (1, .int v1), (2, .int v2), (4, .int v4), (5, .int v5)] → f_X8_signAt_63 k24 σ v1 v2 v4 v5 = some res → W p l e { frames := 2, cells := 0, slots := 0, locals := 44 } s m args below meth c H locs 0 0 (MQ below (va_Qi (S := Unit) (fun r1 _ => r1 = res.1) (fun _ t => z_W 1 G ad res.2 t.heap) (z_A 1 ad s.heap.size)) args s 0 0 (z_A 1 ad s.heap.size)) (F0 m 63 ls []) := by
  intro σ v1 v2 v4 v5 H locs ls S hl  hf
  unfold f_X8_signAt_63 at hf
  refine lv_iconst (v := 1) C.1 C.2.1 dX8_signAt_63 (by decide) ?_
  refine lv_goto (tgt := 68) C.1 C.2.1 dX8_signAt_64 (by decide) ?_
  exact w_X8_signAt_68 C k24 hk24 _ v1 v2 v4 v5 1 _ _ _ S (lv_sub hl [0, 1, 2, 3, 4] rfl) hf
set_option maxHeartbeats 4000000 in
set_option maxRecDepth 100000 in
theorem w_X8_signAt_67 {p : Program} {l : Launch} {e : Env} {s : State} {m : MethodId} {args : Array Value} {below : List Frame} {meth : Method} {c : Code} {G : Gx} {ad : Ad} {res : Int32 × Sg} (C : Cx p s m args meth c yX8_signAt.cls cX8_signAt 6 (Option.some FieldType.int) G) (k24 : Sg → Int32 → Int32 → Int32 → Int32 → Int32 → Option (Int32 × Sg)) (hk24 : ∀ (σ : Sg) (v1 : Int32) (v2 : Int32) (v3 : Int32) (v4 : Int32) (v5 : Int32) (H : Heap) (locs : List Loc) (ls : Array Slot), z_S 1 G ad σ (z_A 1 ad s.heap.size) s.heap H locs → lv_has ls 6 [(0, .ref (ad 8 0)), (1, .int v1), (2, .int v2), (3, .int v3), (4, .int v4), (5, .int v5)] → k24 σ v1 v2 v3 v4 v5 = some res → W p l e { frames := 2, cells := 0, slots := 0, locals := 44 } s m args below meth c H locs 0 0 (MQ below (va_Qi (S := Unit) (fun r1 _ => r1 = res.1) (fun _ t => z_W 1 G ad res.2 t.heap) (z_A 1 ad s.heap.size)) args s 0 0 (z_A 1 ad s.heap.size)) (F0 m 24 ls [])) : ∀ (σ : Sg) (v1 : Int32) (v2 : Int32) (v4 : Int32) (v5 : Int32) (H : Heap) (locs : List Loc) (ls : Array Slot), z_S 1 G ad σ (z_A 1 ad s.heap.size) s.heap H locs → lv_has ls 6 [(0, .ref (ad 8 0)), (1, .int v1), (2, .int v2), (4, .int v4), (5, .int v5)] → f_X8_signAt_67 k24 σ v1 v2 v4 v5 = some res → W p l e { frames := 2, cells := 0, slots := 0, locals := 44 } s m args below meth c H locs 0 0 (MQ below (va_Qi (S := Unit) (fun r1 _ => r1 = res.1) (fun _ t => z_W 1 G ad res.2 t.heap) (z_A 1 ad s.heap.size)) args s 0 0 (z_A 1 ad s.heap.size)) (F0 m 67 ls []) := by
  intro σ v1 v2 v4 v5 H locs ls S hl  hf
  unfold f_X8_signAt_67 at hf
  refine lv_iconst (v := 0) C.1 C.2.1 dX8_signAt_67 (by decide) ?_
  exact w_X8_signAt_68 C k24 hk24 _ v1 v2 v4 v5 0 _ _ _ S (lv_sub hl [0, 1, 2, 3, 4] rfl) hf
set_option maxHeartbeats 4000000 in
set_option maxRecDepth 100000 in
theorem w_X8_signAt_24 {p : Program} {l : Launch} {e : Env} {s : State} {m : MethodId} {args : Array Value} {below : List Frame} {meth : Method} {c : Code} {G : Gx} {ad : Ad} {res : Int32 × Sg} (C : Cx p s m args meth c yX8_signAt.cls cX8_signAt 6 (Option.some FieldType.int) G)  : ∀ n : Nat, ∀ (σ : Sg) (v1 : Int32) (v2 : Int32) (v3 : Int32) (v4 : Int32) (v5 : Int32) (H : Heap) (locs : List Loc) (ls : Array Slot), z_S 1 G ad σ (z_A 1 ad s.heap.size) s.heap H locs → lv_has ls 6 [(0, .ref (ad 8 0)), (1, .int v1), (2, .int v2), (3, .int v3), (4, .int v4), (5, .int v5)] → f_X8_signAt_24  n σ v1 v2 v3 v4 v5 = some res → W p l e { frames := 2, cells := 0, slots := 0, locals := 44 } s m args below meth c H locs 0 0 (MQ below (va_Qi (S := Unit) (fun r1 _ => r1 = res.1) (fun _ t => z_W 1 G ad res.2 t.heap) (z_A 1 ad s.heap.size)) args s 0 0 (z_A 1 ad s.heap.size)) (F0 m 24 ls []) := by
  intro n
  induction n with
  | zero => intro σ v1 v2 v3 v4 v5 H locs ls S hl  hf; cases hf
  | succ n ih =>
    intro σ v1 v2 v3 v4 v5 H locs ls S hl  hf
    rw [f_X8_signAt_24_s] at hf
    refine lv_iload C.1 C.2.1 dX8_signAt_24 (lv_at hl 5 rfl) ?_
    refine lv_aload_n C.1 C.2.1 dX8_signAt_26 rfl (lv_at hl 0 rfl) ?_
    refine z_getR C S 8 0 rfl (by decide) cf_8 0 (by decide) _ (gr_8_0 G ad 0) tw_6_118 dX8_signAt_27 ?_
    refine lv_iconst (v := 2) C.1 C.2.1 dX8_signAt_30 (by decide) ?_
    refine z_ialdL C S 30 0 rfl (by decide) 2111 (fun _ => rfl) 2 (by decide) (by decide) (by decide) dX8_signAt_31 ?_
    refine lv_icmp_ge (tgt := 111) C.1 C.2.1 dX8_signAt_32 (by decide) (fun c_32 => ?_) (fun c_32 => ?_)
    · rw [if_pos c_32] at hf
      exact w_X8_signAt_111 C _ v3 v4 _ _ _ S (lv_sub hl [3, 4] rfl) hf
    · rw [if_neg c_32] at hf
      refine lv_iload_n C.1 C.2.1 dX8_signAt_35 rfl (lv_at hl 3 rfl) ?_
      refine lv_if_ne (tgt := 63) C.1 C.2.1 dX8_signAt_36 (by decide) (fun c_36 => ?_) (fun c_36 => ?_)
      · rw [if_neg c_36] at hf
        exact w_X8_signAt_63 C (f_X8_signAt_24 n) ih _ v1 v2 v4 v5 _ _ _ S (lv_sub hl [0, 1, 2, 4, 5] rfl) hf
      · rw [if_pos c_36] at hf
        refine lv_aload_n C.1 C.2.1 dX8_signAt_39 rfl (lv_at hl 0 rfl) ?_
        refine lv_iload_n C.1 C.2.1 dX8_signAt_40 rfl (lv_at hl 1 rfl) ?_
        refine lv_iload C.1 C.2.1 dX8_signAt_41 (lv_at hl 5 rfl) ?_
        obtain ⟨r2, σ1, q_43, hf⟩ := bib hf
        refine z_callI C S 8 0 rfl (by decide) cf_8 ⟨_, rfl⟩ [.int v1, .int v5] (m_X8_isAboard l G ad σ v1 v5 r2 σ1 q_43 _) kv_X8_isAboard tw_7_83 ⟨Nat.le_of_ble_eq_true rfl, Nat.le_of_ble_eq_true rfl⟩ rfl rfl (Nat.le_of_ble_eq_true rfl) hl.1 ⟨Nat.le_of_ble_eq_true rfl, Nat.le_of_ble_eq_true rfl⟩ dX8_signAt_43 (fun H locs S => ?_)
        refine lv_if_eq (tgt := 67) C.1 C.2.1 dX8_signAt_46 (by decide) (fun c_46 => ?_) (fun c_46 => ?_)
        · rw [if_pos c_46] at hf
          exact w_X8_signAt_67 C (f_X8_signAt_24 n) ih _ v1 v2 v4 v5 _ _ _ S (lv_sub hl [0, 1, 2, 4, 5] rfl) hf
        · rw [if_neg c_46] at hf
          refine lv_aload_n C.1 C.2.1 dX8_signAt_49 rfl (lv_at hl 0 rfl) ?_
          refine z_getR C S 8 0 rfl (by decide) cf_8 0 (by decide) _ (gr_8_0 G ad 0) tw_6_118 dX8_signAt_50 ?_
          refine lv_bipush (v := 79) C.1 C.2.1 dX8_signAt_53 (by decide) ?_
          refine lv_iload C.1 C.2.1 dX8_signAt_55 (lv_at hl 5 rfl) ?_
          refine lv_iadd C.1 C.2.1 dX8_signAt_57 ?_
          obtain ⟨g_58, hf⟩ := gd hf
          refine z_iald C S 30 0 rfl (by decide) 2111 (fun _ => rfl) g_58 dX8_signAt_58 ?_
          refine lv_iload_n C.1 C.2.1 dX8_signAt_59 rfl (lv_at hl 2 rfl) ?_
          refine lv_icmp_ne (tgt := 67) C.1 C.2.1 dX8_signAt_60 (by decide) (fun c_60 => ?_) (fun c_60 => ?_)
          · rw [if_neg c_60] at hf
            exact w_X8_signAt_67 C (f_X8_signAt_24 n) ih _ v1 v2 v4 v5 _ _ _ S (lv_sub hl [0, 1, 2, 4, 5] rfl) hf
          · rw [if_pos c_60] at hf
            exact w_X8_signAt_63 C (f_X8_signAt_24 n) ih _ v1 v2 v4 v5 _ _ _ S (lv_sub hl [0, 1, 2, 4, 5] rfl) hf
set_option maxHeartbeats 4000000 in
set_option maxRecDepth 100000 in
theorem w_X8_signAt_0 {p : Program} {l : Launch} {e : Env} {s : State} {m : MethodId} {args : Array Value} {below : List Frame} {meth : Method} {c : Code} {G : Gx} {ad : Ad} {res : Int32 × Sg} (C : Cx p s m args meth c yX8_signAt.cls cX8_signAt 6 (Option.some FieldType.int) G)  : ∀ (σ : Sg) (v1 : Int32) (v2 : Int32) (H : Heap) (locs : List Loc) (ls : Array Slot), z_S 1 G ad σ (z_A 1 ad s.heap.size) s.heap H locs → lv_has ls 6 [(0, .ref (ad 8 0)), (1, .int v1), (2, .int v2)] → f_X8_signAt  σ v1 v2 = some res → W p l e { frames := 2, cells := 0, slots := 0, locals := 44 } s m args below meth c H locs 0 0 (MQ below (va_Qi (S := Unit) (fun r1 _ => r1 = res.1) (fun _ t => z_W 1 G ad res.2 t.heap) (z_A 1 ad s.heap.size)) args s 0 0 (z_A 1 ad s.heap.size)) (F0 m 0 ls []) := by
  intro σ v1 v2 H locs ls S hl  hf
  unfold f_X8_signAt at hf
  refine lv_aload_n C.1 C.2.1 dX8_signAt_0 rfl (lv_at hl 0 rfl) ?_
  refine z_getR C S 8 0 rfl (by decide) cf_8 0 (by decide) _ (gr_8_0 G ad 0) tw_6_118 dX8_signAt_1 ?_
  refine lv_bipush (v := 23) C.1 C.2.1 dX8_signAt_4 (by decide) ?_
  refine lv_iload_n C.1 C.2.1 dX8_signAt_6 rfl (lv_at hl 1 rfl) ?_
  refine lv_iadd C.1 C.2.1 dX8_signAt_7 ?_
  obtain ⟨g_8, hf⟩ := gd hf
  refine z_iald C S 30 0 rfl (by decide) 2111 (fun _ => rfl) g_8 dX8_signAt_8 ?_
  refine lv_iload_n C.1 C.2.1 dX8_signAt_9 rfl (lv_at hl 2 rfl) ?_
  refine lv_icmp_ne (tgt := 16) C.1 C.2.1 dX8_signAt_10 (by decide) (fun c_10 => ?_) (fun c_10 => ?_)
  · rw [if_neg c_10] at hf
    refine lv_iconst (v := 0) C.1 C.2.1 dX8_signAt_16 (by decide) ?_
    refine lv_istore_n (lv' := [(3, .int 0), (0, .ref (ad 8 0)), (1, .int v1), (2, .int v2)]) C.1 C.2.1 dX8_signAt_17 rfl hl (by decide) rfl (fun ls hl => ?_)
    refine lv_iconst (v := 0) C.1 C.2.1 dX8_signAt_18 (by decide) ?_
    refine lv_istore (lv' := [(4, .int 0), (3, .int 0), (0, .ref (ad 8 0)), (1, .int v1), (2, .int v2)]) C.1 C.2.1 dX8_signAt_19 hl (by decide) rfl (fun ls hl => ?_)
    refine lv_iconst (v := 0) C.1 C.2.1 dX8_signAt_21 (by decide) ?_
    refine lv_istore (lv' := [(5, .int 0), (4, .int 0), (3, .int 0), (0, .ref (ad 8 0)), (1, .int v1), (2, .int v2)]) C.1 C.2.1 dX8_signAt_22 hl (by decide) rfl (fun ls hl => ?_)
    exact w_X8_signAt_24 C FU _ v1 v2 0 0 0 _ _ _ S (lv_sub hl [3, 4, 5, 2, 1, 0] rfl) hf
  · rw [if_pos c_10] at hf
    refine lv_bipush (v := 79) C.1 C.2.1 dX8_signAt_13 (by decide) ?_
    exact z_iret C S hf dX8_signAt_15
theorem kv_X8_signAt : KV yX8_signAt cX8_signAt 6 (Option.some FieldType.int) 2 := ⟨tw_8_192, tw_8_191, tw_p_101, tw_1_10, by decide, by decide, by decide +kernel⟩
theorem m_X8_signAt (l : Launch) (G : Gx) (ad : Ad) (σ : Sg) (v1 : Int32) (v2 : Int32) (r : Int32) (σ' : Sg)  (hf : f_X8_signAt σ v1 v2 = some (r, σ')) (sz : Nat) : z_MI l yX8_signAt cX8_signAt 6 (Option.some FieldType.int) 2 44 1 G ad σ sz [.ref (ad 8 0), .int v1, .int v2] r σ' := by
  refine z_begin (by decide +kernel) (Nat.le_of_ble_eq_true rfl) [(0, .ref (ad 8 0)), (1, .int v1), (2, .int v2)] rfl (fun p e s m args below meth c ls C hz S hl => ?_)
  subst hz
  exact w_X8_signAt_0 (res := (r, σ')) C σ v1 v2 _ _ _ S hl  hf

theorem dX8_printCar_0 : decode cX8_printCar 0 = .ok (.aload_n 0, 1) := by decide +kernel
theorem dX8_printCar_1 : decode cX8_printCar 1 = .ok (.iload_n 1, 1) := by decide +kernel
theorem dX8_printCar_2 : decode cX8_printCar 2 = .ok (.invokevirtual 271, 3) := by decide +kernel
theorem dX8_printCar_5 : decode cX8_printCar 5 = .ok (.ifCond .eq 5, 3) := by decide +kernel
theorem dX8_printCar_8 : decode cX8_printCar 8 = .ok (.iconst 0, 1) := by decide +kernel
theorem dX8_printCar_9 : decode cX8_printCar 9 = .ok (.ireturn, 1) := by decide +kernel
theorem dX8_printCar_10 : decode cX8_printCar 10 = .ok (.iconst 0, 1) := by decide +kernel
theorem dX8_printCar_11 : decode cX8_printCar 11 = .ok (.istore_n 2, 1) := by decide +kernel
theorem dX8_printCar_12 : decode cX8_printCar 12 = .ok (.iload_n 2, 1) := by decide +kernel
theorem dX8_printCar_13 : decode cX8_printCar 13 = .ok (.aload_n 0, 1) := by decide +kernel
theorem dX8_printCar_14 : decode cX8_printCar 14 = .ok (.getfield 7, 3) := by decide +kernel
theorem dX8_printCar_17 : decode cX8_printCar 17 = .ok (.iconst 0, 1) := by decide +kernel
theorem dX8_printCar_18 : decode cX8_printCar 18 = .ok (.iaload, 1) := by decide +kernel
theorem dX8_printCar_19 : decode cX8_printCar 19 = .ok (.if_icmp .ge 21, 3) := by decide +kernel
theorem dX8_printCar_22 : decode cX8_printCar 22 = .ok (.aload_n 0, 1) := by decide +kernel
theorem dX8_printCar_23 : decode cX8_printCar 23 = .ok (.getfield 38, 3) := by decide +kernel
theorem dX8_printCar_26 : decode cX8_printCar 26 = .ok (.iload_n 2, 1) := by decide +kernel
theorem dX8_printCar_27 : decode cX8_printCar 27 = .ok (.aload_n 0, 1) := by decide +kernel
theorem dX8_printCar_28 : decode cX8_printCar 28 = .ok (.iload_n 1, 1) := by decide +kernel
theorem dX8_printCar_29 : decode cX8_printCar 29 = .ok (.iload_n 2, 1) := by decide +kernel
theorem dX8_printCar_30 : decode cX8_printCar 30 = .ok (.invokevirtual 333, 3) := by decide +kernel
theorem dX8_printCar_33 : decode cX8_printCar 33 = .ok (.iastore, 1) := by decide +kernel
theorem dX8_printCar_34 : decode cX8_printCar 34 = .ok (.iinc 2 1, 3) := by decide +kernel
theorem dX8_printCar_37 : decode cX8_printCar 37 = .ok (.goto (-25), 3) := by decide +kernel
theorem dX8_printCar_40 : decode cX8_printCar 40 = .ok (.aload_n 0, 1) := by decide +kernel
theorem dX8_printCar_41 : decode cX8_printCar 41 = .ok (.aload_n 0, 1) := by decide +kernel
theorem dX8_printCar_42 : decode cX8_printCar 42 = .ok (.getfield 7, 3) := by decide +kernel
theorem dX8_printCar_45 : decode cX8_printCar 45 = .ok (.iconst 0, 1) := by decide +kernel
theorem dX8_printCar_46 : decode cX8_printCar 46 = .ok (.iaload, 1) := by decide +kernel
theorem dX8_printCar_47 : decode cX8_printCar 47 = .ok (.putfield 336, 3) := by decide +kernel
theorem dX8_printCar_50 : decode cX8_printCar 50 = .ok (.aload_n 0, 1) := by decide +kernel
theorem dX8_printCar_51 : decode cX8_printCar 51 = .ok (.getfield 336, 3) := by decide +kernel
theorem dX8_printCar_54 : decode cX8_printCar 54 = .ok (.ireturn, 1) := by decide +kernel
/-! BusLiftsModel.printCar(I)I -/
noncomputable def f_X8_printCar_40  (σ : Sg)  : Option (Int32 × Sg) := st (sup σ 8 0 22 (σ 30 0 0)) fun σ1 => (some ((σ1 8 0 22), σ1))
noncomputable def f_X8_printCar_12  : Nat → Sg → Int32 → Int32 → Option (Int32 × Sg)
  | 0, _, _, _ => none
  | n + 1, σ, v1, v2 => if (σ 30 0 0) ≤ v2 then (f_X8_printCar_40 σ) else (bi (f_X8_signAt σ v1 v2) fun r2 σ1 => (if v2 < 0 ∨ 30 ≤ (v2).toNatClampNeg then none else (st (sup σ1 38 0 (v2).toNatClampNeg r2) fun σ3 => (f_X8_printCar_12  n σ3 v1 (v2 + 1)))))
theorem f_X8_printCar_12_s  (n : Nat) (σ : Sg) (v1 : Int32) (v2 : Int32) : f_X8_printCar_12  (n + 1) σ v1 v2 = (if (σ 30 0 0) ≤ v2 then (f_X8_printCar_40 σ) else (bi (f_X8_signAt σ v1 v2) fun r2 σ1 => (if v2 < 0 ∨ 30 ≤ (v2).toNatClampNeg then none else (st (sup σ1 38 0 (v2).toNatClampNeg r2) fun σ3 => (f_X8_printCar_12  n σ3 v1 (v2 + 1)))))) := rfl
noncomputable def f_X8_printCar  (σ : Sg) (v1 : Int32) : Option (Int32 × Sg) := bi (f_X8_noCar σ v1) fun r2 σ1 => (if r2 = 0 then (f_X8_printCar_12 FU σ1 v1 0) else (some (0, σ1)))
set_option maxHeartbeats 4000000 in
set_option maxRecDepth 100000 in
theorem w_X8_printCar_40 {p : Program} {l : Launch} {e : Env} {s : State} {m : MethodId} {args : Array Value} {below : List Frame} {meth : Method} {c : Code} {G : Gx} {ad : Ad} {res : Int32 × Sg} (C : Cx p s m args meth c yX8_printCar.cls cX8_printCar 3 (Option.some FieldType.int) G)  : ∀ (σ : Sg)  (H : Heap) (locs : List Loc) (ls : Array Slot), z_S 1 G ad σ (z_A 1 ad s.heap.size) s.heap H locs → lv_has ls 3 [(0, .ref (ad 8 0))] → f_X8_printCar_40  σ  = some res → W p l e { frames := 3, cells := 0, slots := 0, locals := 69 } s m args below meth c H locs 0 0 (MQ below (va_Qi (S := Unit) (fun r1 _ => r1 = res.1) (fun _ t => z_W 1 G ad res.2 t.heap) (z_A 1 ad s.heap.size)) args s 0 0 (z_A 1 ad s.heap.size)) (F0 m 40 ls []) := by
  intro σ  H locs ls S hl  hf
  unfold f_X8_printCar_40 at hf
  refine lv_aload_n C.1 C.2.1 dX8_printCar_40 rfl (lv_at hl 0 rfl) ?_
  refine lv_aload_n C.1 C.2.1 dX8_printCar_41 rfl (lv_at hl 0 rfl) ?_
  refine z_getR C S 8 0 rfl (by decide) cf_8 0 (by decide) _ (gr_8_0 G ad 0) tw_6_118 dX8_printCar_42 ?_
  refine lv_iconst (v := 0) C.1 C.2.1 dX8_printCar_45 (by decide) ?_
  refine z_ialdL C S 30 0 rfl (by decide) 2111 (fun _ => rfl) 0 (by decide) (by decide) (by decide) dX8_printCar_46 ?_
  obtain ⟨σ1, e_47, hf⟩ := stb hf
  refine z_putI C S 8 0 rfl (by decide) cf_8 22 (by decide) (pi_8_22 G ad 0) rfl rfl rfl tw_6_140 dX8_printCar_47 (fun H locs S => ?_)
  rw [← e_47] at S
  refine lv_aload_n C.1 C.2.1 dX8_printCar_50 rfl (lv_at hl 0 rfl) ?_
  refine z_getI C S 8 0 rfl (by decide) cf_8 22 (by decide) (gi_8_22 G ad 0) tw_6_140 dX8_printCar_51 ?_
  exact z_iret C S hf dX8_printCar_54
set_option maxHeartbeats 4000000 in
set_option maxRecDepth 100000 in
theorem w_X8_printCar_12 {p : Program} {l : Launch} {e : Env} {s : State} {m : MethodId} {args : Array Value} {below : List Frame} {meth : Method} {c : Code} {G : Gx} {ad : Ad} {res : Int32 × Sg} (C : Cx p s m args meth c yX8_printCar.cls cX8_printCar 3 (Option.some FieldType.int) G)  : ∀ n : Nat, ∀ (σ : Sg) (v1 : Int32) (v2 : Int32) (H : Heap) (locs : List Loc) (ls : Array Slot), z_S 1 G ad σ (z_A 1 ad s.heap.size) s.heap H locs → lv_has ls 3 [(0, .ref (ad 8 0)), (1, .int v1), (2, .int v2)] → f_X8_printCar_12  n σ v1 v2 = some res → W p l e { frames := 3, cells := 0, slots := 0, locals := 69 } s m args below meth c H locs 0 0 (MQ below (va_Qi (S := Unit) (fun r1 _ => r1 = res.1) (fun _ t => z_W 1 G ad res.2 t.heap) (z_A 1 ad s.heap.size)) args s 0 0 (z_A 1 ad s.heap.size)) (F0 m 12 ls []) := by
  intro n
  induction n with
  | zero => intro σ v1 v2 H locs ls S hl  hf; cases hf
  | succ n ih =>
    intro σ v1 v2 H locs ls S hl  hf
    rw [f_X8_printCar_12_s] at hf
    refine lv_iload_n C.1 C.2.1 dX8_printCar_12 rfl (lv_at hl 2 rfl) ?_
    refine lv_aload_n C.1 C.2.1 dX8_printCar_13 rfl (lv_at hl 0 rfl) ?_
    refine z_getR C S 8 0 rfl (by decide) cf_8 0 (by decide) _ (gr_8_0 G ad 0) tw_6_118 dX8_printCar_14 ?_
    refine lv_iconst (v := 0) C.1 C.2.1 dX8_printCar_17 (by decide) ?_
    refine z_ialdL C S 30 0 rfl (by decide) 2111 (fun _ => rfl) 0 (by decide) (by decide) (by decide) dX8_printCar_18 ?_
    refine lv_icmp_ge (tgt := 40) C.1 C.2.1 dX8_printCar_19 (by decide) (fun c_19 => ?_) (fun c_19 => ?_)
    · rw [if_pos c_19] at hf
      exact w_X8_printCar_40 C _ _ _ _ S (lv_sub hl [0] rfl) hf
    · rw [if_neg c_19] at hf
      refine lv_aload_n C.1 C.2.1 dX8_printCar_22 rfl (lv_at hl 0 rfl) ?_
      refine z_getR C S 8 0 rfl (by decide) cf_8 21 (by decide) _ (gr_8_21 G ad 0) tw_6_139 dX8_printCar_23 ?_
      refine lv_iload_n C.1 C.2.1 dX8_printCar_26 rfl (lv_at hl 2 rfl) ?_
      refine lv_aload_n C.1 C.2.1 dX8_printCar_27 rfl (lv_at hl 0 rfl) ?_
      refine lv_iload_n C.1 C.2.1 dX8_printCar_28 rfl (lv_at hl 1 rfl) ?_
      refine lv_iload_n C.1 C.2.1 dX8_printCar_29 rfl (lv_at hl 2 rfl) ?_
      obtain ⟨r2, σ1, q_30, hf⟩ := bib hf
      refine z_callI C S 8 0 rfl (by decide) cf_8 ⟨_, rfl⟩ [.int v1, .int v2] (m_X8_signAt l G ad σ v1 v2 r2 σ1 q_30 _) kv_X8_signAt tw_8_189 ⟨Nat.le_of_ble_eq_true rfl, Nat.le_of_ble_eq_true rfl⟩ rfl rfl (Nat.le_of_ble_eq_true rfl) hl.1 ⟨Nat.le_of_ble_eq_true rfl, Nat.le_of_ble_eq_true rfl⟩ dX8_printCar_30 (fun H locs S => ?_)
      obtain ⟨g_33, hf⟩ := gd hf
      obtain ⟨σ3, e_33, hf⟩ := stb hf
      refine z_iast C S 38 0 rfl (by decide) 30 (fun _ => rfl) g_33 dX8_printCar_33 (fun H locs S => ?_)
      rw [← e_33] at S
      refine lv_iinc (v := (v2 + 1)) (lv' := [(2, .int (v2 + 1)), (0, .ref (ad 8 0)), (1, .int v1)]) C.1 C.2.1 dX8_printCar_34 hl (k := 2) rfl rfl (by decide) rfl (fun ls hl => ?_)
      refine lv_goto (tgt := 12) C.1 C.2.1 dX8_printCar_37 (by decide) ?_
      exact ih _ v1 (v2 + 1) _ _ _ S (lv_sub hl [1, 2, 0] rfl)  hf
set_option maxHeartbeats 4000000 in
set_option maxRecDepth 100000 in
theorem w_X8_printCar_0 {p : Program} {l : Launch} {e : Env} {s : State} {m : MethodId} {args : Array Value} {below : List Frame} {meth : Method} {c : Code} {G : Gx} {ad : Ad} {res : Int32 × Sg} (C : Cx p s m args meth c yX8_printCar.cls cX8_printCar 3 (Option.some FieldType.int) G)  : ∀ (σ : Sg) (v1 : Int32) (H : Heap) (locs : List Loc) (ls : Array Slot), z_S 1 G ad σ (z_A 1 ad s.heap.size) s.heap H locs → lv_has ls 3 [(0, .ref (ad 8 0)), (1, .int v1)] → f_X8_printCar  σ v1 = some res → W p l e { frames := 3, cells := 0, slots := 0, locals := 69 } s m args below meth c H locs 0 0 (MQ below (va_Qi (S := Unit) (fun r1 _ => r1 = res.1) (fun _ t => z_W 1 G ad res.2 t.heap) (z_A 1 ad s.heap.size)) args s 0 0 (z_A 1 ad s.heap.size)) (F0 m 0 ls []) := by
  intro σ v1 H locs ls S hl  hf
  unfold f_X8_printCar at hf
  refine lv_aload_n C.1 C.2.1 dX8_printCar_0 rfl (lv_at hl 0 rfl) ?_
  refine lv_iload_n C.1 C.2.1 dX8_printCar_1 rfl (lv_at hl 1 rfl) ?_
  obtain ⟨r2, σ1, q_2, hf⟩ := bib hf
  refine z_callI C S 8 0 rfl (by decide) cf_8 ⟨_, rfl⟩ [.int v1] (m_X8_noCar l G ad σ v1 r2 σ1 q_2 _) kv_X8_noCar tw_7_68 ⟨Nat.le_of_ble_eq_true rfl, Nat.le_of_ble_eq_true rfl⟩ rfl rfl (Nat.le_of_ble_eq_true rfl) hl.1 ⟨Nat.le_of_ble_eq_true rfl, Nat.le_of_ble_eq_true rfl⟩ dX8_printCar_2 (fun H locs S => ?_)
  refine lv_if_eq (tgt := 10) C.1 C.2.1 dX8_printCar_5 (by decide) (fun c_5 => ?_) (fun c_5 => ?_)
  · rw [if_pos c_5] at hf
    refine lv_iconst (v := 0) C.1 C.2.1 dX8_printCar_10 (by decide) ?_
    refine lv_istore_n (lv' := [(2, .int 0), (0, .ref (ad 8 0)), (1, .int v1)]) C.1 C.2.1 dX8_printCar_11 rfl hl (by decide) rfl (fun ls hl => ?_)
    exact w_X8_printCar_12 C FU _ v1 0 _ _ _ S (lv_sub hl [1, 2, 0] rfl) hf
  · rw [if_neg c_5] at hf
    refine lv_iconst (v := 0) C.1 C.2.1 dX8_printCar_8 (by decide) ?_
    exact z_iret C S hf dX8_printCar_9
theorem kv_X8_printCar : KV yX8_printCar cX8_printCar 3 (Option.some FieldType.int) 1 := ⟨tw_8_188, tw_8_186, tw_8_187, tw_1_10, by decide, by decide, by decide +kernel⟩
theorem m_X8_printCar (l : Launch) (G : Gx) (ad : Ad) (σ : Sg) (v1 : Int32) (r : Int32) (σ' : Sg)  (hf : f_X8_printCar σ v1 = some (r, σ')) (sz : Nat) : z_MI l yX8_printCar cX8_printCar 3 (Option.some FieldType.int) 3 69 1 G ad σ sz [.ref (ad 8 0), .int v1] r σ' := by
  refine z_begin (by decide +kernel) (Nat.le_of_ble_eq_true rfl) [(0, .ref (ad 8 0)), (1, .int v1)] rfl (fun p e s m args below meth c ls C hz S hl => ?_)
  subst hz
  exact w_X8_printCar_0 (res := (r, σ')) C σ v1 _ _ _ S hl  hf

theorem dX8_outputByte_0 : decode cX8_outputByte 0 = .ok (.aload_n 0, 1) := by decide +kernel
theorem dX8_outputByte_1 : decode cX8_outputByte 1 = .ok (.iconst 0, 1) := by decide +kernel
theorem dX8_outputByte_2 : decode cX8_outputByte 2 = .ok (.putfield 48, 3) := by decide +kernel
theorem dX8_outputByte_5 : decode cX8_outputByte 5 = .ok (.iload_n 1, 1) := by decide +kernel
theorem dX8_outputByte_6 : decode cX8_outputByte 6 = .ok (.iconst 0, 1) := by decide +kernel
theorem dX8_outputByte_7 : decode cX8_outputByte 7 = .ok (.aload_n 0, 1) := by decide +kernel
theorem dX8_outputByte_8 : decode cX8_outputByte 8 = .ok (.getfield 336, 3) := by decide +kernel
theorem dX8_outputByte_11 : decode cX8_outputByte 11 = .ok (.iconst 1, 1) := by decide +kernel
theorem dX8_outputByte_12 : decode cX8_outputByte 12 = .ok (.isub, 1) := by decide +kernel
theorem dX8_outputByte_13 : decode cX8_outputByte 13 = .ok (.invokestatic 165, 3) := by decide +kernel
theorem dX8_outputByte_16 : decode cX8_outputByte 16 = .ok (.ifCond .eq 12, 3) := by decide +kernel
theorem dX8_outputByte_19 : decode cX8_outputByte 19 = .ok (.aload_n 0, 1) := by decide +kernel
theorem dX8_outputByte_20 : decode cX8_outputByte 20 = .ok (.getfield 38, 3) := by decide +kernel
theorem dX8_outputByte_23 : decode cX8_outputByte 23 = .ok (.iload_n 1, 1) := by decide +kernel
theorem dX8_outputByte_24 : decode cX8_outputByte 24 = .ok (.iaload, 1) := by decide +kernel
theorem dX8_outputByte_25 : decode cX8_outputByte 25 = .ok (.goto 4, 3) := by decide +kernel
theorem dX8_outputByte_28 : decode cX8_outputByte 28 = .ok (.iconst (-1), 1) := by decide +kernel
theorem dX8_outputByte_29 : decode cX8_outputByte 29 = .ok (.ireturn, 1) := by decide +kernel
/-! BusLiftsModel.outputByte(I)I -/
noncomputable def f_X8_outputByte_29  (σ : Sg) (v100 : Int32) : Option (Int32 × Sg) := some (v100, σ)
noncomputable def f_X8_outputByte  (σ : Sg) (v1 : Int32) : Option (Int32 × Sg) := st (sup σ 8 0 8 0) fun σ1 => (bi (f_X8_inRange σ1 v1 0 ((σ1 8 0 22) - 1)) fun r3 σ2 => (if r3 = 0 then (f_X8_outputByte_29 σ2 (-1)) else (if v1 < 0 ∨ 30 ≤ (v1).toNatClampNeg then none else (f_X8_outputByte_29 σ2 (σ2 38 0 (v1).toNatClampNeg)))))
set_option maxHeartbeats 4000000 in
set_option maxRecDepth 100000 in
theorem w_X8_outputByte_29 {p : Program} {l : Launch} {e : Env} {s : State} {m : MethodId} {args : Array Value} {below : List Frame} {meth : Method} {c : Code} {G : Gx} {ad : Ad} {res : Int32 × Sg} (C : Cx p s m args meth c yX8_outputByte.cls cX8_outputByte 2 (Option.some FieldType.int) G)  : ∀ (σ : Sg) (v100 : Int32) (H : Heap) (locs : List Loc) (ls : Array Slot), z_S 1 G ad σ (z_A 1 ad s.heap.size) s.heap H locs → lv_has ls 2 [] → f_X8_outputByte_29  σ v100 = some res → W p l e { frames := 1, cells := 0, slots := 0, locals := 22 } s m args below meth c H locs 0 0 (MQ below (va_Qi (S := Unit) (fun r1 _ => r1 = res.1) (fun _ t => z_W 1 G ad res.2 t.heap) (z_A 1 ad s.heap.size)) args s 0 0 (z_A 1 ad s.heap.size)) (F0 m 29 ls [.int v100]) := by
  intro σ v100 H locs ls S hl  hf
  unfold f_X8_outputByte_29 at hf
  exact z_iret C S hf dX8_outputByte_29
set_option maxHeartbeats 4000000 in
set_option maxRecDepth 100000 in
theorem w_X8_outputByte_0 {p : Program} {l : Launch} {e : Env} {s : State} {m : MethodId} {args : Array Value} {below : List Frame} {meth : Method} {c : Code} {G : Gx} {ad : Ad} {res : Int32 × Sg} (C : Cx p s m args meth c yX8_outputByte.cls cX8_outputByte 2 (Option.some FieldType.int) G)  : ∀ (σ : Sg) (v1 : Int32) (H : Heap) (locs : List Loc) (ls : Array Slot), z_S 1 G ad σ (z_A 1 ad s.heap.size) s.heap H locs → lv_has ls 2 [(0, .ref (ad 8 0)), (1, .int v1)] → f_X8_outputByte  σ v1 = some res → W p l e { frames := 1, cells := 0, slots := 0, locals := 22 } s m args below meth c H locs 0 0 (MQ below (va_Qi (S := Unit) (fun r1 _ => r1 = res.1) (fun _ t => z_W 1 G ad res.2 t.heap) (z_A 1 ad s.heap.size)) args s 0 0 (z_A 1 ad s.heap.size)) (F0 m 0 ls []) := by
  intro σ v1 H locs ls S hl  hf
  unfold f_X8_outputByte at hf
  refine lv_aload_n C.1 C.2.1 dX8_outputByte_0 rfl (lv_at hl 0 rfl) ?_
  refine lv_iconst (v := 0) C.1 C.2.1 dX8_outputByte_1 (by decide) ?_
  obtain ⟨σ1, e_2, hf⟩ := stb hf
  refine z_putI C S 8 0 rfl (by decide) cf_8 8 (by decide) (pi_8_8 G ad 0) rfl rfl rfl tw_6_126 dX8_outputByte_2 (fun H locs S => ?_)
  rw [← e_2] at S
  refine lv_iload_n C.1 C.2.1 dX8_outputByte_5 rfl (lv_at hl 1 rfl) ?_
  refine lv_iconst (v := 0) C.1 C.2.1 dX8_outputByte_6 (by decide) ?_
  refine lv_aload_n C.1 C.2.1 dX8_outputByte_7 rfl (lv_at hl 0 rfl) ?_
  refine z_getI C S 8 0 rfl (by decide) cf_8 22 (by decide) (gi_8_22 G ad 0) tw_6_140 dX8_outputByte_8 ?_
  refine lv_iconst (v := 1) C.1 C.2.1 dX8_outputByte_11 (by decide) ?_
  refine lv_isub C.1 C.2.1 dX8_outputByte_12 ?_
  obtain ⟨r3, σ2, q_13, hf⟩ := bib hf
  refine z_callSI C S [.int v1, .int 0, .int ((σ1 8 0 22) - 1)] (m_X8_inRange l G ad σ1 v1 0 ((σ1 8 0 22) - 1) r3 σ2 q_13 _) kv_X8_inRange tw_6_204 ⟨Nat.le_of_ble_eq_true rfl, Nat.le_of_ble_eq_true rfl⟩ rfl rfl (Nat.le_of_ble_eq_true rfl) hl.1 ⟨Nat.le_of_ble_eq_true rfl, Nat.le_of_ble_eq_true rfl⟩ dX8_outputByte_13 (fun H locs S => ?_)
  refine lv_if_eq (tgt := 28) C.1 C.2.1 dX8_outputByte_16 (by decide) (fun c_16 => ?_) (fun c_16 => ?_)
  · rw [if_pos c_16] at hf
    refine lv_iconst (v := (-1)) C.1 C.2.1 dX8_outputByte_28 (by decide) ?_
    exact w_X8_outputByte_29 C _ (-1) _ _ _ S (lv_sub hl [] rfl) hf
  · rw [if_neg c_16] at hf
    refine lv_aload_n C.1 C.2.1 dX8_outputByte_19 rfl (lv_at hl 0 rfl) ?_
    refine z_getR C S 8 0 rfl (by decide) cf_8 21 (by decide) _ (gr_8_21 G ad 0) tw_6_139 dX8_outputByte_20 ?_
    refine lv_iload_n C.1 C.2.1 dX8_outputByte_23 rfl (lv_at hl 1 rfl) ?_
    obtain ⟨g_24, hf⟩ := gd hf
    refine z_iald C S 38 0 rfl (by decide) 30 (fun _ => rfl) g_24 dX8_outputByte_24 ?_
    refine lv_goto (tgt := 29) C.1 C.2.1 dX8_outputByte_25 (by decide) ?_
    exact w_X8_outputByte_29 C _ (σ2 38 0 (v1).toNatClampNeg) _ _ _ S (lv_sub hl [] rfl) hf
theorem kv_X8_outputByte : KV yX8_outputByte cX8_outputByte 2 (Option.some FieldType.int) 1 := ⟨tw_8_196, tw_8_194, tw_8_195, tw_1_10, by decide, by decide, by decide +kernel⟩
theorem m_X8_outputByte (l : Launch) (G : Gx) (ad : Ad) (σ : Sg) (v1 : Int32) (r : Int32) (σ' : Sg)  (hf : f_X8_outputByte σ v1 = some (r, σ')) (sz : Nat) : z_MI l yX8_outputByte cX8_outputByte 2 (Option.some FieldType.int) 1 22 1 G ad σ sz [.ref (ad 8 0), .int v1] r σ' := by
  refine z_begin (by decide +kernel) (Nat.le_of_ble_eq_true rfl) [(0, .ref (ad 8 0)), (1, .int v1)] rfl (fun p e s m args below meth c ls C hz S hl => ?_)
  subst hz
  exact w_X8_outputByte_0 (res := (r, σ')) C σ v1 _ _ _ S hl  hf

theorem dX8_undo_0 : decode cX8_undo 0 = .ok (.aload_n 0, 1) := by decide +kernel
theorem dX8_undo_1 : decode cX8_undo 1 = .ok (.iconst 0, 1) := by decide +kernel
theorem dX8_undo_2 : decode cX8_undo 2 = .ok (.putfield 48, 3) := by decide +kernel
theorem dX8_undo_5 : decode cX8_undo 5 = .ok (.aload_n 0, 1) := by decide +kernel
theorem dX8_undo_6 : decode cX8_undo 6 = .ok (.getfield 54, 3) := by decide +kernel
theorem dX8_undo_9 : decode cX8_undo 9 = .ok (.ifCond .ne 5, 3) := by decide +kernel
theorem dX8_undo_12 : decode cX8_undo 12 = .ok (.iconst (-1), 1) := by decide +kernel
theorem dX8_undo_13 : decode cX8_undo 13 = .ok (.ireturn, 1) := by decide +kernel
theorem dX8_undo_14 : decode cX8_undo 14 = .ok (.aload_n 0, 1) := by decide +kernel
theorem dX8_undo_15 : decode cX8_undo 15 = .ok (.dup, 1) := by decide +kernel
theorem dX8_undo_16 : decode cX8_undo 16 = .ok (.getfield 54, 3) := by decide +kernel
theorem dX8_undo_19 : decode cX8_undo 19 = .ok (.iconst 1, 1) := by decide +kernel
theorem dX8_undo_20 : decode cX8_undo 20 = .ok (.isub, 1) := by decide +kernel
theorem dX8_undo_21 : decode cX8_undo 21 = .ok (.putfield 54, 3) := by decide +kernel
theorem dX8_undo_24 : decode cX8_undo 24 = .ok (.aload_n 0, 1) := by decide +kernel
theorem dX8_undo_25 : decode cX8_undo 25 = .ok (.getfield 22, 3) := by decide +kernel
theorem dX8_undo_28 : decode cX8_undo 28 = .ok (.sipush 2111, 3) := by decide +kernel
theorem dX8_undo_31 : decode cX8_undo 31 = .ok (.aload_n 0, 1) := by decide +kernel
theorem dX8_undo_32 : decode cX8_undo 32 = .ok (.getfield 54, 3) := by decide +kernel
theorem dX8_undo_35 : decode cX8_undo 35 = .ok (.imul, 1) := by decide +kernel
theorem dX8_undo_36 : decode cX8_undo 36 = .ok (.aload_n 0, 1) := by decide +kernel
theorem dX8_undo_37 : decode cX8_undo 37 = .ok (.getfield 7, 3) := by decide +kernel
theorem dX8_undo_40 : decode cX8_undo 40 = .ok (.iconst 0, 1) := by decide +kernel
theorem dX8_undo_41 : decode cX8_undo 41 = .ok (.sipush 2111, 3) := by decide +kernel
theorem dX8_undo_44 : decode cX8_undo 44 = .ok (.invokestatic 57, 3) := by decide +kernel
theorem dX8_undo_47 : decode cX8_undo 47 = .ok (.aload_n 0, 1) := by decide +kernel
theorem dX8_undo_48 : decode cX8_undo 48 = .ok (.getfield 54, 3) := by decide +kernel
theorem dX8_undo_51 : decode cX8_undo 51 = .ok (.ireturn, 1) := by decide +kernel
/-! BusLiftsModel.undo()I -/
noncomputable def f_X8_undo  (σ : Sg)  : Option (Int32 × Sg) := st (sup σ 8 0 8 0) fun σ1 => (if (σ1 8 0 6) = 0 then (some ((-1), σ1)) else (st (sup σ1 8 0 6 ((σ1 8 0 6) - 1)) fun σ2 => (bv (f_X8_copies σ2 34 0 21110 (2111 * (σ2 8 0 6)) 30 0 2111 0 2111) fun σ3 => (some ((σ3 8 0 6), σ3)))))
set_option maxHeartbeats 4000000 in
set_option maxRecDepth 100000 in
theorem w_X8_undo_0 {p : Program} {l : Launch} {e : Env} {s : State} {m : MethodId} {args : Array Value} {below : List Frame} {meth : Method} {c : Code} {G : Gx} {ad : Ad} {res : Int32 × Sg} (C : Cx p s m args meth c yX8_undo.cls cX8_undo 1 (Option.some FieldType.int) G)  : ∀ (σ : Sg)  (H : Heap) (locs : List Loc) (ls : Array Slot), z_S 1 G ad σ (z_A 1 ad s.heap.size) s.heap H locs → lv_has ls 1 [(0, .ref (ad 8 0))] → f_X8_undo  σ  = some res → W p l e { frames := 1, cells := 0, slots := 0, locals := 25 } s m args below meth c H locs 0 0 (MQ below (va_Qi (S := Unit) (fun r1 _ => r1 = res.1) (fun _ t => z_W 1 G ad res.2 t.heap) (z_A 1 ad s.heap.size)) args s 0 0 (z_A 1 ad s.heap.size)) (F0 m 0 ls []) := by
  intro σ  H locs ls S hl  hf
  unfold f_X8_undo at hf
  refine lv_aload_n C.1 C.2.1 dX8_undo_0 rfl (lv_at hl 0 rfl) ?_
  refine lv_iconst (v := 0) C.1 C.2.1 dX8_undo_1 (by decide) ?_
  obtain ⟨σ1, e_2, hf⟩ := stb hf
  refine z_putI C S 8 0 rfl (by decide) cf_8 8 (by decide) (pi_8_8 G ad 0) rfl rfl rfl tw_6_126 dX8_undo_2 (fun H locs S => ?_)
  rw [← e_2] at S
  refine lv_aload_n C.1 C.2.1 dX8_undo_5 rfl (lv_at hl 0 rfl) ?_
  refine z_getI C S 8 0 rfl (by decide) cf_8 6 (by decide) (gi_8_6 G ad 0) tw_6_124 dX8_undo_6 ?_
  refine lv_if_ne (tgt := 14) C.1 C.2.1 dX8_undo_9 (by decide) (fun c_9 => ?_) (fun c_9 => ?_)
  · rw [if_neg c_9] at hf
    refine lv_aload_n C.1 C.2.1 dX8_undo_14 rfl (lv_at hl 0 rfl) ?_
    refine lv_dup C.1 C.2.1 dX8_undo_15 rfl ?_
    refine z_getI C S 8 0 rfl (by decide) cf_8 6 (by decide) (gi_8_6 G ad 0) tw_6_124 dX8_undo_16 ?_
    refine lv_iconst (v := 1) C.1 C.2.1 dX8_undo_19 (by decide) ?_
    refine lv_isub C.1 C.2.1 dX8_undo_20 ?_
    obtain ⟨σ2, e_21, hf⟩ := stb hf
    refine z_putI C S 8 0 rfl (by decide) cf_8 6 (by decide) (pi_8_6 G ad 0) rfl rfl rfl tw_6_124 dX8_undo_21 (fun H locs S => ?_)
    rw [← e_21] at S
    refine lv_aload_n C.1 C.2.1 dX8_undo_24 rfl (lv_at hl 0 rfl) ?_
    refine z_getR C S 8 0 rfl (by decide) cf_8 4 (by decide) _ (gr_8_4 G ad 0) tw_6_122 dX8_undo_25 ?_
    refine lv_sipush (v := 2111) C.1 C.2.1 dX8_undo_28 (by decide) ?_
    refine lv_aload_n C.1 C.2.1 dX8_undo_31 rfl (lv_at hl 0 rfl) ?_
    refine z_getI C S 8 0 rfl (by decide) cf_8 6 (by decide) (gi_8_6 G ad 0) tw_6_124 dX8_undo_32 ?_
    refine lv_imul C.1 C.2.1 dX8_undo_35 ?_
    refine lv_aload_n C.1 C.2.1 dX8_undo_36 rfl (lv_at hl 0 rfl) ?_
    refine z_getR C S 8 0 rfl (by decide) cf_8 0 (by decide) _ (gr_8_0 G ad 0) tw_6_118 dX8_undo_37 ?_
    refine lv_iconst (v := 0) C.1 C.2.1 dX8_undo_40 (by decide) ?_
    refine lv_sipush (v := 2111) C.1 C.2.1 dX8_undo_41 (by decide) ?_
    obtain ⟨σ3, q_44, hf⟩ := bvb hf
    refine z_callSV C S [.ref (ad 34 0), .int (2111 * (σ2 8 0 6)), .ref (ad 30 0), .int 0, .int 2111] (m_X8_copies l G ad σ2 34 0 21110 (2111 * (σ2 8 0 6)) 30 0 2111 0 2111 σ3 rfl (by decide) (fun _ _ _ _ => rfl) rfl (by decide) (fun _ _ _ _ => rfl) q_44 _) kv_X8_copies tw_6_211 ⟨Nat.le_of_ble_eq_true rfl, Nat.le_of_ble_eq_true rfl⟩ rfl rfl (Nat.le_of_ble_eq_true rfl) hl.1 ⟨Nat.le_of_ble_eq_true rfl, Nat.le_of_ble_eq_true rfl⟩ dX8_undo_44 (fun H locs S => ?_)
    refine lv_aload_n C.1 C.2.1 dX8_undo_47 rfl (lv_at hl 0 rfl) ?_
    refine z_getI C S 8 0 rfl (by decide) cf_8 6 (by decide) (gi_8_6 G ad 0) tw_6_124 dX8_undo_48 ?_
    exact z_iret C S hf dX8_undo_51
  · rw [if_pos c_9] at hf
    refine lv_iconst (v := (-1)) C.1 C.2.1 dX8_undo_12 (by decide) ?_
    exact z_iret C S hf dX8_undo_13
theorem kv_X8_undo : KV yX8_undo cX8_undo 1 (Option.some FieldType.int) 0 := ⟨tw_8_200, tw_8_198, tw_8_199, tw_1_10, by decide, by decide, by decide +kernel⟩
theorem m_X8_undo (l : Launch) (G : Gx) (ad : Ad) (σ : Sg)  (r : Int32) (σ' : Sg)  (hf : f_X8_undo σ  = some (r, σ')) (sz : Nat) : z_MI l yX8_undo cX8_undo 1 (Option.some FieldType.int) 1 25 1 G ad σ sz [.ref (ad 8 0)] r σ' := by
  refine z_begin (by decide +kernel) (Nat.le_of_ble_eq_true rfl) [(0, .ref (ad 8 0))] rfl (fun p e s m args below meth c ls C hz S hl => ?_)
  subst hz
  exact w_X8_undo_0 (res := (r, σ')) C σ  _ _ _ S hl  hf

theorem dX8_saveState_0 : decode cX8_saveState 0 = .ok (.aload_n 0, 1) := by decide +kernel
theorem dX8_saveState_1 : decode cX8_saveState 1 = .ok (.iconst 0, 1) := by decide +kernel
theorem dX8_saveState_2 : decode cX8_saveState 2 = .ok (.putfield 48, 3) := by decide +kernel
theorem dX8_saveState_5 : decode cX8_saveState 5 = .ok (.aload_n 0, 1) := by decide +kernel
theorem dX8_saveState_6 : decode cX8_saveState 6 = .ok (.getfield 7, 3) := by decide +kernel
theorem dX8_saveState_9 : decode cX8_saveState 9 = .ok (.iconst 0, 1) := by decide +kernel
theorem dX8_saveState_10 : decode cX8_saveState 10 = .ok (.aload_n 0, 1) := by decide +kernel
theorem dX8_saveState_11 : decode cX8_saveState 11 = .ok (.getfield 19, 3) := by decide +kernel
theorem dX8_saveState_14 : decode cX8_saveState 14 = .ok (.iconst 0, 1) := by decide +kernel
theorem dX8_saveState_15 : decode cX8_saveState 15 = .ok (.sipush 2111, 3) := by decide +kernel
theorem dX8_saveState_18 : decode cX8_saveState 18 = .ok (.invokestatic 57, 3) := by decide +kernel
theorem dX8_saveState_21 : decode cX8_saveState 21 = .ok (.aload_n 0, 1) := by decide +kernel
theorem dX8_saveState_22 : decode cX8_saveState 22 = .ok (.iconst 1, 1) := by decide +kernel
theorem dX8_saveState_23 : decode cX8_saveState 23 = .ok (.putfield 263, 3) := by decide +kernel
theorem dX8_saveState_26 : decode cX8_saveState 26 = .ok (.aload_n 0, 1) := by decide +kernel
theorem dX8_saveState_27 : decode cX8_saveState 27 = .ok (.getfield 7, 3) := by decide +kernel
theorem dX8_saveState_30 : decode cX8_saveState 30 = .ok (.iconst 3, 1) := by decide +kernel
theorem dX8_saveState_31 : decode cX8_saveState 31 = .ok (.iaload, 1) := by decide +kernel
theorem dX8_saveState_32 : decode cX8_saveState 32 = .ok (.ireturn, 1) := by decide +kernel
/-! BusLiftsModel.saveState()I -/
noncomputable def f_X8_saveState  (σ : Sg)  : Option (Int32 × Sg) := st (sup σ 8 0 8 0) fun σ1 => (bv (f_X8_copies σ1 30 0 2111 0 33 0 2111 0 2111) fun σ2 => (st (sup σ2 8 0 7 1) fun σ3 => (some ((σ3 30 0 3), σ3))))
set_option maxHeartbeats 4000000 in
set_option maxRecDepth 100000 in
theorem w_X8_saveState_0 {p : Program} {l : Launch} {e : Env} {s : State} {m : MethodId} {args : Array Value} {below : List Frame} {meth : Method} {c : Code} {G : Gx} {ad : Ad} {res : Int32 × Sg} (C : Cx p s m args meth c yX8_saveState.cls cX8_saveState 1 (Option.some FieldType.int) G)  : ∀ (σ : Sg)  (H : Heap) (locs : List Loc) (ls : Array Slot), z_S 1 G ad σ (z_A 1 ad s.heap.size) s.heap H locs → lv_has ls 1 [(0, .ref (ad 8 0))] → f_X8_saveState  σ  = some res → W p l e { frames := 1, cells := 0, slots := 0, locals := 25 } s m args below meth c H locs 0 0 (MQ below (va_Qi (S := Unit) (fun r1 _ => r1 = res.1) (fun _ t => z_W 1 G ad res.2 t.heap) (z_A 1 ad s.heap.size)) args s 0 0 (z_A 1 ad s.heap.size)) (F0 m 0 ls []) := by
  intro σ  H locs ls S hl  hf
  unfold f_X8_saveState at hf
  refine lv_aload_n C.1 C.2.1 dX8_saveState_0 rfl (lv_at hl 0 rfl) ?_
  refine lv_iconst (v := 0) C.1 C.2.1 dX8_saveState_1 (by decide) ?_
  obtain ⟨σ1, e_2, hf⟩ := stb hf
  refine z_putI C S 8 0 rfl (by decide) cf_8 8 (by decide) (pi_8_8 G ad 0) rfl rfl rfl tw_6_126 dX8_saveState_2 (fun H locs S => ?_)
  rw [← e_2] at S
  refine lv_aload_n C.1 C.2.1 dX8_saveState_5 rfl (lv_at hl 0 rfl) ?_
  refine z_getR C S 8 0 rfl (by decide) cf_8 0 (by decide) _ (gr_8_0 G ad 0) tw_6_118 dX8_saveState_6 ?_
  refine lv_iconst (v := 0) C.1 C.2.1 dX8_saveState_9 (by decide) ?_
  refine lv_aload_n C.1 C.2.1 dX8_saveState_10 rfl (lv_at hl 0 rfl) ?_
  refine z_getR C S 8 0 rfl (by decide) cf_8 3 (by decide) _ (gr_8_3 G ad 0) tw_6_121 dX8_saveState_11 ?_
  refine lv_iconst (v := 0) C.1 C.2.1 dX8_saveState_14 (by decide) ?_
  refine lv_sipush (v := 2111) C.1 C.2.1 dX8_saveState_15 (by decide) ?_
  obtain ⟨σ2, q_18, hf⟩ := bvb hf
  refine z_callSV C S [.ref (ad 30 0), .int 0, .ref (ad 33 0), .int 0, .int 2111] (m_X8_copies l G ad σ1 30 0 2111 0 33 0 2111 0 2111 σ2 rfl (by decide) (fun _ _ _ _ => rfl) rfl (by decide) (fun _ _ _ _ => rfl) q_18 _) kv_X8_copies tw_6_211 ⟨Nat.le_of_ble_eq_true rfl, Nat.le_of_ble_eq_true rfl⟩ rfl rfl (Nat.le_of_ble_eq_true rfl) hl.1 ⟨Nat.le_of_ble_eq_true rfl, Nat.le_of_ble_eq_true rfl⟩ dX8_saveState_18 (fun H locs S => ?_)
  refine lv_aload_n C.1 C.2.1 dX8_saveState_21 rfl (lv_at hl 0 rfl) ?_
  refine lv_iconst (v := 1) C.1 C.2.1 dX8_saveState_22 (by decide) ?_
  obtain ⟨σ3, e_23, hf⟩ := stb hf
  refine z_putI C S 8 0 rfl (by decide) cf_8 7 (by decide) (pi_8_7 G ad 0) rfl rfl rfl tw_6_125 dX8_saveState_23 (fun H locs S => ?_)
  rw [← e_23] at S
  refine lv_aload_n C.1 C.2.1 dX8_saveState_26 rfl (lv_at hl 0 rfl) ?_
  refine z_getR C S 8 0 rfl (by decide) cf_8 0 (by decide) _ (gr_8_0 G ad 0) tw_6_118 dX8_saveState_27 ?_
  refine lv_iconst (v := 3) C.1 C.2.1 dX8_saveState_30 (by decide) ?_
  refine z_ialdL C S 30 0 rfl (by decide) 2111 (fun _ => rfl) 3 (by decide) (by decide) (by decide) dX8_saveState_31 ?_
  exact z_iret C S hf dX8_saveState_32
theorem kv_X8_saveState : KV yX8_saveState cX8_saveState 1 (Option.some FieldType.int) 0 := ⟨tw_8_204, tw_8_202, tw_8_203, tw_1_10, by decide, by decide, by decide +kernel⟩
theorem m_X8_saveState (l : Launch) (G : Gx) (ad : Ad) (σ : Sg)  (r : Int32) (σ' : Sg)  (hf : f_X8_saveState σ  = some (r, σ')) (sz : Nat) : z_MI l yX8_saveState cX8_saveState 1 (Option.some FieldType.int) 1 25 1 G ad σ sz [.ref (ad 8 0)] r σ' := by
  refine z_begin (by decide +kernel) (Nat.le_of_ble_eq_true rfl) [(0, .ref (ad 8 0))] rfl (fun p e s m args below meth c ls C hz S hl => ?_)
  subst hz
  exact w_X8_saveState_0 (res := (r, σ')) C σ  _ _ _ S hl  hf

theorem dX8_restoreState_0 : decode cX8_restoreState 0 = .ok (.aload_n 0, 1) := by decide +kernel
theorem dX8_restoreState_1 : decode cX8_restoreState 1 = .ok (.iconst 0, 1) := by decide +kernel
theorem dX8_restoreState_2 : decode cX8_restoreState 2 = .ok (.putfield 48, 3) := by decide +kernel
theorem dX8_restoreState_5 : decode cX8_restoreState 5 = .ok (.aload_n 0, 1) := by decide +kernel
theorem dX8_restoreState_6 : decode cX8_restoreState 6 = .ok (.aload_n 0, 1) := by decide +kernel
theorem dX8_restoreState_7 : decode cX8_restoreState 7 = .ok (.getfield 263, 3) := by decide +kernel
theorem dX8_restoreState_10 : decode cX8_restoreState 10 = .ok (.ifCond .ne 7, 3) := by decide +kernel
theorem dX8_restoreState_13 : decode cX8_restoreState 13 = .ok (.iconst 1, 1) := by decide +kernel
theorem dX8_restoreState_14 : decode cX8_restoreState 14 = .ok (.goto 4, 3) := by decide +kernel
theorem dX8_restoreState_17 : decode cX8_restoreState 17 = .ok (.iconst 0, 1) := by decide +kernel
theorem dX8_restoreState_18 : decode cX8_restoreState 18 = .ok (.iconst 1, 1) := by decide +kernel
theorem dX8_restoreState_19 : decode cX8_restoreState 19 = .ok (.invokevirtual 267, 3) := by decide +kernel
theorem dX8_restoreState_22 : decode cX8_restoreState 22 = .ok (.ifCond .eq 5, 3) := by decide +kernel
theorem dX8_restoreState_25 : decode cX8_restoreState 25 = .ok (.iconst 0, 1) := by decide +kernel
theorem dX8_restoreState_26 : decode cX8_restoreState 26 = .ok (.ireturn, 1) := by decide +kernel
theorem dX8_restoreState_27 : decode cX8_restoreState 27 = .ok (.aload_n 0, 1) := by decide +kernel
theorem dX8_restoreState_28 : decode cX8_restoreState 28 = .ok (.getfield 19, 3) := by decide +kernel
theorem dX8_restoreState_31 : decode cX8_restoreState 31 = .ok (.iconst 0, 1) := by decide +kernel
theorem dX8_restoreState_32 : decode cX8_restoreState 32 = .ok (.aload_n 0, 1) := by decide +kernel
theorem dX8_restoreState_33 : decode cX8_restoreState 33 = .ok (.getfield 7, 3) := by decide +kernel
theorem dX8_restoreState_36 : decode cX8_restoreState 36 = .ok (.iconst 0, 1) := by decide +kernel
theorem dX8_restoreState_37 : decode cX8_restoreState 37 = .ok (.sipush 2111, 3) := by decide +kernel
theorem dX8_restoreState_40 : decode cX8_restoreState 40 = .ok (.invokestatic 57, 3) := by decide +kernel
theorem dX8_restoreState_43 : decode cX8_restoreState 43 = .ok (.aload_n 0, 1) := by decide +kernel
theorem dX8_restoreState_44 : decode cX8_restoreState 44 = .ok (.iconst 0, 1) := by decide +kernel
theorem dX8_restoreState_45 : decode cX8_restoreState 45 = .ok (.putfield 54, 3) := by decide +kernel
theorem dX8_restoreState_48 : decode cX8_restoreState 48 = .ok (.aload_n 0, 1) := by decide +kernel
theorem dX8_restoreState_49 : decode cX8_restoreState 49 = .ok (.getfield 7, 3) := by decide +kernel
theorem dX8_restoreState_52 : decode cX8_restoreState 52 = .ok (.iconst 3, 1) := by decide +kernel
theorem dX8_restoreState_53 : decode cX8_restoreState 53 = .ok (.iaload, 1) := by decide +kernel
theorem dX8_restoreState_54 : decode cX8_restoreState 54 = .ok (.ireturn, 1) := by decide +kernel
/-! BusLiftsModel.restoreState()I -/
noncomputable def f_X8_restoreState_18  (σ : Sg) (v101 : Int32) : Option (Int32 × Sg) := bi (f_X8_fails σ v101 1) fun r2 σ1 => (if r2 = 0 then (bv (f_X8_copies σ1 33 0 2111 0 30 0 2111 0 2111) fun σ3 => (st (sup σ3 8 0 6 0) fun σ4 => (some ((σ4 30 0 3), σ4)))) else (some (0, σ1)))
noncomputable def f_X8_restoreState  (σ : Sg)  : Option (Int32 × Sg) := st (sup σ 8 0 8 0) fun σ1 => (if (σ1 8 0 7) = 0 then (f_X8_restoreState_18 σ1 1) else (f_X8_restoreState_18 σ1 0))
set_option maxHeartbeats 4000000 in
set_option maxRecDepth 100000 in
theorem w_X8_restoreState_18 {p : Program} {l : Launch} {e : Env} {s : State} {m : MethodId} {args : Array Value} {below : List Frame} {meth : Method} {c : Code} {G : Gx} {ad : Ad} {res : Int32 × Sg} (C : Cx p s m args meth c yX8_restoreState.cls cX8_restoreState 1 (Option.some FieldType.int) G)  : ∀ (σ : Sg) (v101 : Int32) (H : Heap) (locs : List Loc) (ls : Array Slot), z_S 1 G ad σ (z_A 1 ad s.heap.size) s.heap H locs → lv_has ls 1 [(0, .ref (ad 8 0))] → f_X8_restoreState_18  σ v101 = some res → W p l e { frames := 1, cells := 0, slots := 0, locals := 25 } s m args below meth c H locs 0 0 (MQ below (va_Qi (S := Unit) (fun r1 _ => r1 = res.1) (fun _ t => z_W 1 G ad res.2 t.heap) (z_A 1 ad s.heap.size)) args s 0 0 (z_A 1 ad s.heap.size)) (F0 m 18 ls [.int v101, .ref (ad 8 0)]) := by
  intro σ v101 H locs ls S hl  hf
  unfold f_X8_restoreState_18 at hf
  refine lv_iconst (v := 1) C.1 C.2.1 dX8_restoreState_18 (by decide) ?_
  obtain ⟨r2, σ1, q_19, hf⟩ := bib hf
  refine z_callI C S 8 0 rfl (by decide) cf_8 ⟨_, rfl⟩ [.int v101, .int 1] (m_X8_fails l G ad σ v101 1 r2 σ1 q_19 _) kv_X8_fails tw_7_56 ⟨Nat.le_of_ble_eq_true rfl, Nat.le_of_ble_eq_true rfl⟩ rfl rfl (Nat.le_of_ble_eq_true rfl) hl.1 ⟨Nat.le_of_ble_eq_true rfl, Nat.le_of_ble_eq_true rfl⟩ dX8_restoreState_19 (fun H locs S => ?_)
  refine lv_if_eq (tgt := 27) C.1 C.2.1 dX8_restoreState_22 (by decide) (fun c_22 => ?_) (fun c_22 => ?_)
  · rw [if_pos c_22] at hf
    refine lv_aload_n C.1 C.2.1 dX8_restoreState_27 rfl (lv_at hl 0 rfl) ?_
    refine z_getR C S 8 0 rfl (by decide) cf_8 3 (by decide) _ (gr_8_3 G ad 0) tw_6_121 dX8_restoreState_28 ?_
    refine lv_iconst (v := 0) C.1 C.2.1 dX8_restoreState_31 (by decide) ?_
    refine lv_aload_n C.1 C.2.1 dX8_restoreState_32 rfl (lv_at hl 0 rfl) ?_
    refine z_getR C S 8 0 rfl (by decide) cf_8 0 (by decide) _ (gr_8_0 G ad 0) tw_6_118 dX8_restoreState_33 ?_
    refine lv_iconst (v := 0) C.1 C.2.1 dX8_restoreState_36 (by decide) ?_
    refine lv_sipush (v := 2111) C.1 C.2.1 dX8_restoreState_37 (by decide) ?_
    obtain ⟨σ3, q_40, hf⟩ := bvb hf
    refine z_callSV C S [.ref (ad 33 0), .int 0, .ref (ad 30 0), .int 0, .int 2111] (m_X8_copies l G ad σ1 33 0 2111 0 30 0 2111 0 2111 σ3 rfl (by decide) (fun _ _ _ _ => rfl) rfl (by decide) (fun _ _ _ _ => rfl) q_40 _) kv_X8_copies tw_6_211 ⟨Nat.le_of_ble_eq_true rfl, Nat.le_of_ble_eq_true rfl⟩ rfl rfl (Nat.le_of_ble_eq_true rfl) hl.1 ⟨Nat.le_of_ble_eq_true rfl, Nat.le_of_ble_eq_true rfl⟩ dX8_restoreState_40 (fun H locs S => ?_)
    refine lv_aload_n C.1 C.2.1 dX8_restoreState_43 rfl (lv_at hl 0 rfl) ?_
    refine lv_iconst (v := 0) C.1 C.2.1 dX8_restoreState_44 (by decide) ?_
    obtain ⟨σ4, e_45, hf⟩ := stb hf
    refine z_putI C S 8 0 rfl (by decide) cf_8 6 (by decide) (pi_8_6 G ad 0) rfl rfl rfl tw_6_124 dX8_restoreState_45 (fun H locs S => ?_)
    rw [← e_45] at S
    refine lv_aload_n C.1 C.2.1 dX8_restoreState_48 rfl (lv_at hl 0 rfl) ?_
    refine z_getR C S 8 0 rfl (by decide) cf_8 0 (by decide) _ (gr_8_0 G ad 0) tw_6_118 dX8_restoreState_49 ?_
    refine lv_iconst (v := 3) C.1 C.2.1 dX8_restoreState_52 (by decide) ?_
    refine z_ialdL C S 30 0 rfl (by decide) 2111 (fun _ => rfl) 3 (by decide) (by decide) (by decide) dX8_restoreState_53 ?_
    exact z_iret C S hf dX8_restoreState_54
  · rw [if_neg c_22] at hf
    refine lv_iconst (v := 0) C.1 C.2.1 dX8_restoreState_25 (by decide) ?_
    exact z_iret C S hf dX8_restoreState_26
set_option maxHeartbeats 4000000 in
set_option maxRecDepth 100000 in
theorem w_X8_restoreState_0 {p : Program} {l : Launch} {e : Env} {s : State} {m : MethodId} {args : Array Value} {below : List Frame} {meth : Method} {c : Code} {G : Gx} {ad : Ad} {res : Int32 × Sg} (C : Cx p s m args meth c yX8_restoreState.cls cX8_restoreState 1 (Option.some FieldType.int) G)  : ∀ (σ : Sg)  (H : Heap) (locs : List Loc) (ls : Array Slot), z_S 1 G ad σ (z_A 1 ad s.heap.size) s.heap H locs → lv_has ls 1 [(0, .ref (ad 8 0))] → f_X8_restoreState  σ  = some res → W p l e { frames := 1, cells := 0, slots := 0, locals := 25 } s m args below meth c H locs 0 0 (MQ below (va_Qi (S := Unit) (fun r1 _ => r1 = res.1) (fun _ t => z_W 1 G ad res.2 t.heap) (z_A 1 ad s.heap.size)) args s 0 0 (z_A 1 ad s.heap.size)) (F0 m 0 ls []) := by
  intro σ  H locs ls S hl  hf
  unfold f_X8_restoreState at hf
  refine lv_aload_n C.1 C.2.1 dX8_restoreState_0 rfl (lv_at hl 0 rfl) ?_
  refine lv_iconst (v := 0) C.1 C.2.1 dX8_restoreState_1 (by decide) ?_
  obtain ⟨σ1, e_2, hf⟩ := stb hf
  refine z_putI C S 8 0 rfl (by decide) cf_8 8 (by decide) (pi_8_8 G ad 0) rfl rfl rfl tw_6_126 dX8_restoreState_2 (fun H locs S => ?_)
  rw [← e_2] at S
  refine lv_aload_n C.1 C.2.1 dX8_restoreState_5 rfl (lv_at hl 0 rfl) ?_
  refine lv_aload_n C.1 C.2.1 dX8_restoreState_6 rfl (lv_at hl 0 rfl) ?_
  refine z_getI C S 8 0 rfl (by decide) cf_8 7 (by decide) (gi_8_7 G ad 0) tw_6_125 dX8_restoreState_7 ?_
  refine lv_if_ne (tgt := 17) C.1 C.2.1 dX8_restoreState_10 (by decide) (fun c_10 => ?_) (fun c_10 => ?_)
  · rw [if_neg c_10] at hf
    refine lv_iconst (v := 0) C.1 C.2.1 dX8_restoreState_17 (by decide) ?_
    exact w_X8_restoreState_18 C _ 0 _ _ _ S (lv_sub hl [0] rfl) hf
  · rw [if_pos c_10] at hf
    refine lv_iconst (v := 1) C.1 C.2.1 dX8_restoreState_13 (by decide) ?_
    refine lv_goto (tgt := 18) C.1 C.2.1 dX8_restoreState_14 (by decide) ?_
    exact w_X8_restoreState_18 C _ 1 _ _ _ S (lv_sub hl [0] rfl) hf
theorem kv_X8_restoreState : KV yX8_restoreState cX8_restoreState 1 (Option.some FieldType.int) 0 := ⟨tw_8_208, tw_8_206, tw_8_207, tw_1_10, by decide, by decide, by decide +kernel⟩
theorem m_X8_restoreState (l : Launch) (G : Gx) (ad : Ad) (σ : Sg)  (r : Int32) (σ' : Sg)  (hf : f_X8_restoreState σ  = some (r, σ')) (sz : Nat) : z_MI l yX8_restoreState cX8_restoreState 1 (Option.some FieldType.int) 1 25 1 G ad σ sz [.ref (ad 8 0)] r σ' := by
  refine z_begin (by decide +kernel) (Nat.le_of_ble_eq_true rfl) [(0, .ref (ad 8 0))] rfl (fun p e s m args below meth c ls C hz S hl => ?_)
  subst hz
  exact w_X8_restoreState_0 (res := (r, σ')) C σ  _ _ _ S hl  hf
