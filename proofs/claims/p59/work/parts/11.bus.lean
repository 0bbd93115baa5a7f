theorem dX0_announce_0 : decode cX0_announce 0 = .ok (.aload_n 1, 1) := by decide +kernel
theorem dX0_announce_1 : decode cX0_announce 1 = .ok (.getfield 60, 3) := by decide +kernel
theorem dX0_announce_4 : decode cX0_announce 4 = .ok (.iload_n 2, 1) := by decide +kernel
theorem dX0_announce_5 : decode cX0_announce 5 = .ok (.aaload, 1) := by decide +kernel
theorem dX0_announce_6 : decode cX0_announce 6 = .ok (.dup, 1) := by decide +kernel
theorem dX0_announce_7 : decode cX0_announce 7 = .ok (.getfield 75, 3) := by decide +kernel
theorem dX0_announce_10 : decode cX0_announce 10 = .ok (.iconst 1, 1) := by decide +kernel
theorem dX0_announce_11 : decode cX0_announce 11 = .ok (.iadd, 1) := by decide +kernel
theorem dX0_announce_12 : decode cX0_announce 12 = .ok (.putfield 75, 3) := by decide +kernel
theorem dX0_announce_15 : decode cX0_announce 15 = .ok (.aload_n 1, 1) := by decide +kernel
theorem dX0_announce_16 : decode cX0_announce 16 = .ok (.getfield 60, 3) := by decide +kernel
theorem dX0_announce_19 : decode cX0_announce 19 = .ok (.iload_n 2, 1) := by decide +kernel
theorem dX0_announce_20 : decode cX0_announce 20 = .ok (.aaload, 1) := by decide +kernel
theorem dX0_announce_21 : decode cX0_announce 21 = .ok (.aload_n 1, 1) := by decide +kernel
theorem dX0_announce_22 : decode cX0_announce 22 = .ok (.getfield 54, 3) := by decide +kernel
theorem dX0_announce_25 : decode cX0_announce 25 = .ok (.putfield 78, 3) := by decide +kernel
theorem dX0_announce_28 : decode cX0_announce 28 = .ok (.aload_n 1, 1) := by decide +kernel
theorem dX0_announce_29 : decode cX0_announce 29 = .ok (.iconst (-1), 1) := by decide +kernel
theorem dX0_announce_30 : decode cX0_announce 30 = .ok (.iconst 0, 1) := by decide +kernel
theorem dX0_announce_31 : decode cX0_announce 31 = .ok (.iload_n 2, 1) := by decide +kernel
theorem dX0_announce_32 : decode cX0_announce 32 = .ok (.iconst 0, 1) := by decide +kernel
theorem dX0_announce_33 : decode cX0_announce 33 = .ok (.invokevirtual 81, 3) := by decide +kernel
theorem dX0_announce_36 : decode cX0_announce 36 = .ok (.return_, 1) := by decide +kernel
/-! BusLifts$Bus.announce(LBusLifts$Lifts;I)V -/
noncomputable def f_X0_announce  (σ : Sg) (o1 : Nat) (v2 : Int32) : Option Sg := if v2 < 0 ∨ 24 ≤ (v2).toNatClampNeg then none else (st (sup σ 1 (24 * o1 + (v2).toNatClampNeg) 7 ((σ 1 (24 * o1 + (v2).toNatClampNeg) 7) + 1)) fun σ1 => (if v2 < 0 ∨ 24 ≤ (v2).toNatClampNeg then none else (st (sup σ1 1 (24 * o1 + (v2).toNatClampNeg) 10 (σ1 4 o1 3)) fun σ2 => (bv (f_X4_send σ2 o1 (-1) 0 v2 0) fun σ3 => (some σ3)))))
set_option maxHeartbeats 4000000 in
set_option maxRecDepth 100000 in
theorem w_X0_announce_0 {p : Program} {l : Launch} {e : Env} {s : State} {m : MethodId} {args : Array Value} {below : List Frame} {meth : Method} {c : Code} {G : Gx} {ad : Ad} {res : Sg} (C : Cx p s m args meth c yX0_announce.cls cX0_announce 3 none G)  : ∀ (σ : Sg) (o1 : Nat) (v2 : Int32) (H : Heap) (locs : List Loc) (ls : Array Slot), z_S 0 G ad σ (z_A 0 ad s.heap.size) s.heap H locs → lv_has ls 3 [(0, .ref (ad 0 0)), (1, .ref (ad 4 o1)), (2, .int v2)] → (o1 < z_cnt 4) → f_X0_announce  σ o1 v2 = some res → W p l e { frames := 2, cells := 0, slots := 0, locals := 48 } s m args below meth c H locs 0 0 (MQ below (va_Qv (S := Unit) (fun _ => True) (fun _ t => z_W 0 G ad res t.heap) (z_A 0 ad s.heap.size)) args s 0 0 (z_A 0 ad s.heap.size)) (F0 m 0 ls []) := by
  intro σ o1 v2 H locs ls S hl ho1 hf
  unfold f_X0_announce at hf
  refine lv_aload_n C.1 C.2.1 dX0_announce_0 rfl (lv_at hl 1 rfl) ?_
  refine z_getR C S 4 o1 rfl ho1 cf_4 7 (by decide) _ (gr_4_7 G ad o1) tw_2_5 dX0_announce_1 ?_
  refine lv_iload_n C.1 C.2.1 dX0_announce_4 rfl (lv_at hl 2 rfl) ?_
  obtain ⟨g_5, hf⟩ := gd hf
  refine z_aald C S 26 o1 rfl ho1 24 2 1 (24 * o1) rfl (fun _ => rfl) g_5 dX0_announce_5 ?_
  refine lv_dup C.1 C.2.1 dX0_announce_6 rfl ?_
  refine z_getI C S 1 (24 * o1 + (v2).toNatClampNeg) rfl (oc1 ho1 g_5) cf_1 7 (by decide) (gi_1_7 G ad (24 * o1 + (v2).toNatClampNeg)) tw_1_187 dX0_announce_7 ?_
  refine lv_iconst (v := 1) C.1 C.2.1 dX0_announce_10 (by decide) ?_
  refine lv_iadd C.1 C.2.1 dX0_announce_11 ?_
  obtain ⟨σ1, e_12, hf⟩ := stb hf
  refine z_putI C S 1 (24 * o1 + (v2).toNatClampNeg) rfl (oc1 ho1 g_5) cf_1 7 (by decide) (pi_1_7 G ad (24 * o1 + (v2).toNatClampNeg)) rfl rfl rfl tw_1_187 dX0_announce_12 (fun H locs S => ?_)
  rw [← e_12] at S
  refine lv_aload_n C.1 C.2.1 dX0_announce_15 rfl (lv_at hl 1 rfl) ?_
  refine z_getR C S 4 o1 rfl ho1 cf_4 7 (by decide) _ (gr_4_7 G ad o1) tw_2_5 dX0_announce_16 ?_
  refine lv_iload_n C.1 C.2.1 dX0_announce_19 rfl (lv_at hl 2 rfl) ?_
  obtain ⟨g_20, hf⟩ := gd hf
  refine z_aald C S 26 o1 rfl ho1 24 2 1 (24 * o1) rfl (fun _ => rfl) g_20 dX0_announce_20 ?_
  refine lv_aload_n C.1 C.2.1 dX0_announce_21 rfl (lv_at hl 1 rfl) ?_
  refine z_getI C S 4 o1 rfl ho1 cf_4 3 (by decide) (gi_4_3 G ad o1) tw_1_232 dX0_announce_22 ?_
  obtain ⟨σ2, e_25, hf⟩ := stb hf
  refine z_putI C S 1 (24 * o1 + (v2).toNatClampNeg) rfl (oc1 ho1 g_20) cf_1 10 (by decide) (pi_1_10 G ad (24 * o1 + (v2).toNatClampNeg)) rfl rfl rfl tw_1_195 dX0_announce_25 (fun H locs S => ?_)
  rw [← e_25] at S
  refine lv_aload_n C.1 C.2.1 dX0_announce_28 rfl (lv_at hl 1 rfl) ?_
  refine lv_iconst (v := (-1)) C.1 C.2.1 dX0_announce_29 (by decide) ?_
  refine lv_iconst (v := 0) C.1 C.2.1 dX0_announce_30 (by decide) ?_
  refine lv_iload_n C.1 C.2.1 dX0_announce_31 rfl (lv_at hl 2 rfl) ?_
  refine lv_iconst (v := 0) C.1 C.2.1 dX0_announce_32 (by decide) ?_
  obtain ⟨σ3, q_33, hf⟩ := bvb hf
  refine z_callV C S 4 o1 rfl ho1 cf_4 ⟨_, rfl⟩ [.int (-1), .int 0, .int v2, .int 0] (m_X4_send l G ad σ2 o1 (-1) 0 v2 0 σ3 ho1 q_33 _) kv_X4_send tw_7_88 ⟨Nat.le_of_ble_eq_true rfl, Nat.le_of_ble_eq_true rfl⟩ rfl rfl (Nat.le_of_ble_eq_true rfl) hl.1 ⟨Nat.le_of_ble_eq_true rfl, Nat.le_of_ble_eq_true rfl⟩ dX0_announce_33 (fun H locs S => ?_)
  exact z_vret C S hf dX0_announce_36
theorem kv_X0_announce : KV yX0_announce cX0_announce 3 none 2 := ⟨tw_7_87, tw_7_86, tw_p_39, tw_1_17, by decide, by decide, by decide +kernel⟩
theorem m_X0_announce (l : Launch) (G : Gx) (ad : Ad) (σ : Sg) (o1 : Nat) (v2 : Int32) (σ' : Sg) (ho1 : o1 < z_cnt 4) (hf : f_X0_announce σ o1 v2 = some σ') (sz : Nat) : z_MV l yX0_announce cX0_announce 3 none 2 48 0 G ad σ sz [.ref (ad 0 0), .ref (ad 4 o1), .int v2] σ' := by
  refine z_begin (by decide +kernel) (Nat.le_of_ble_eq_true rfl) [(0, .ref (ad 0 0)), (1, .ref (ad 4 o1)), (2, .int v2)] rfl (fun p e s m args below meth c ls C hz S hl => ?_)
  subst hz
  exact w_X0_announce_0 (res := σ') C σ o1 v2 _ _ _ S hl ho1 hf

theorem dX0_makeComing_0 : decode cX0_makeComing 0 = .ok (.iconst 0, 1) := by decide +kernel
theorem dX0_makeComing_1 : decode cX0_makeComing 1 = .ok (.istore_n 2, 1) := by decide +kernel
theorem dX0_makeComing_2 : decode cX0_makeComing 2 = .ok (.iload_n 2, 1) := by decide +kernel
theorem dX0_makeComing_3 : decode cX0_makeComing 3 = .ok (.aload_n 1, 1) := by decide +kernel
theorem dX0_makeComing_4 : decode cX0_makeComing 4 = .ok (.getfield 57, 3) := by decide +kernel
theorem dX0_makeComing_7 : decode cX0_makeComing 7 = .ok (.if_icmp .ge 45, 3) := by decide +kernel
theorem dX0_makeComing_10 : decode cX0_makeComing 10 = .ok (.aload_n 1, 1) := by decide +kernel
theorem dX0_makeComing_11 : decode cX0_makeComing 11 = .ok (.getfield 60, 3) := by decide +kernel
theorem dX0_makeComing_14 : decode cX0_makeComing 14 = .ok (.iload_n 2, 1) := by decide +kernel
theorem dX0_makeComing_15 : decode cX0_makeComing 15 = .ok (.aaload, 1) := by decide +kernel
theorem dX0_makeComing_16 : decode cX0_makeComing 16 = .ok (.astore_n 3, 1) := by decide +kernel
theorem dX0_makeComing_17 : decode cX0_makeComing 17 = .ok (.aload_n 3, 1) := by decide +kernel
theorem dX0_makeComing_18 : decode cX0_makeComing 18 = .ok (.getfield 64, 3) := by decide +kernel
theorem dX0_makeComing_21 : decode cX0_makeComing 21 = .ok (.ifCond .ne 25, 3) := by decide +kernel
theorem dX0_makeComing_24 : decode cX0_makeComing 24 = .ok (.aload_n 3, 1) := by decide +kernel
theorem dX0_makeComing_25 : decode cX0_makeComing 25 = .ok (.getfield 69, 3) := by decide +kernel
theorem dX0_makeComing_28 : decode cX0_makeComing 28 = .ok (.aload_n 1, 1) := by decide +kernel
theorem dX0_makeComing_29 : decode cX0_makeComing 29 = .ok (.getfield 54, 3) := by decide +kernel
theorem dX0_makeComing_32 : decode cX0_makeComing 32 = .ok (.if_icmp .gt 14, 3) := by decide +kernel
theorem dX0_makeComing_35 : decode cX0_makeComing 35 = .ok (.aload_n 3, 1) := by decide +kernel
theorem dX0_makeComing_36 : decode cX0_makeComing 36 = .ok (.iconst 1, 1) := by decide +kernel
theorem dX0_makeComing_37 : decode cX0_makeComing 37 = .ok (.putfield 64, 3) := by decide +kernel
theorem dX0_makeComing_40 : decode cX0_makeComing 40 = .ok (.aload_n 0, 1) := by decide +kernel
theorem dX0_makeComing_41 : decode cX0_makeComing 41 = .ok (.aload_n 1, 1) := by decide +kernel
theorem dX0_makeComing_42 : decode cX0_makeComing 42 = .ok (.iload_n 2, 1) := by decide +kernel
theorem dX0_makeComing_43 : decode cX0_makeComing 43 = .ok (.invokevirtual 72, 3) := by decide +kernel
theorem dX0_makeComing_46 : decode cX0_makeComing 46 = .ok (.iinc 2 1, 3) := by decide +kernel
theorem dX0_makeComing_49 : decode cX0_makeComing 49 = .ok (.goto (-47), 3) := by decide +kernel
theorem dX0_makeComing_52 : decode cX0_makeComing 52 = .ok (.return_, 1) := by decide +kernel
/-! BusLifts$Bus.makeComing(LBusLifts$Lifts;)V -/
noncomputable def f_X0_makeComing_52  (σ : Sg)  : Option Sg := some σ
noncomputable def f_X0_makeComing_46 (k2 : Sg → Nat → Int32 → Option Sg) (σ : Sg) (o1 : Nat) (v2 : Int32) : Option Sg := k2 σ o1 (v2 + 1)
noncomputable def f_X0_makeComing_2  : Nat → Sg → Nat → Int32 → Option Sg
  | 0, _, _, _ => none
  | n + 1, σ, o1, v2 => if (σ 4 o1 2) ≤ v2 then (f_X0_makeComing_52 σ) else (if v2 < 0 ∨ 24 ≤ (v2).toNatClampNeg then none else (if (σ 1 (24 * o1 + (v2).toNatClampNeg) 3) = 0 then (if (σ 4 o1 3) < (σ 1 (24 * o1 + (v2).toNatClampNeg) 2) then (f_X0_makeComing_46 (f_X0_makeComing_2 n) σ o1 v2) else (st (sup σ 1 (24 * o1 + (v2).toNatClampNeg) 3 1) fun σ1 => (bv (f_X0_announce σ1 o1 v2) fun σ2 => (f_X0_makeComing_46 (f_X0_makeComing_2 n) σ2 o1 v2)))) else (f_X0_makeComing_46 (f_X0_makeComing_2 n) σ o1 v2)))
theorem f_X0_makeComing_2_s  (n : Nat) (σ : Sg) (o1 : Nat) (v2 : Int32) : f_X0_makeComing_2  (n + 1) σ o1 v2 = (if (σ 4 o1 2) ≤ v2 then (f_X0_makeComing_52 σ) else (if v2 < 0 ∨ 24 ≤ (v2).toNatClampNeg then none else (if (σ 1 (24 * o1 + (v2).toNatClampNeg) 3) = 0 then (if (σ 4 o1 3) < (σ 1 (24 * o1 + (v2).toNatClampNeg) 2) then (f_X0_makeComing_46 (f_X0_makeComing_2 n) σ o1 v2) else (st (sup σ 1 (24 * o1 + (v2).toNatClampNeg) 3 1) fun σ1 => (bv (f_X0_announce σ1 o1 v2) fun σ2 => (f_X0_makeComing_46 (f_X0_makeComing_2 n) σ2 o1 v2)))) else (f_X0_makeComing_46 (f_X0_makeComing_2 n) σ o1 v2)))) := rfl
noncomputable def f_X0_makeComing  (σ : Sg) (o1 : Nat) : Option Sg := f_X0_makeComing_2 FU σ o1 0
set_option maxHeartbeats 4000000 in
set_option maxRecDepth 100000 in
theorem w_X0_makeComing_52 {p : Program} {l : Launch} {e : Env} {s : State} {m : MethodId} {args : Array Value} {below : List Frame} {meth : Method} {c : Code} {G : Gx} {ad : Ad} {res : Sg} (C : Cx p s m args meth c yX0_makeComing.cls cX0_makeComing 4 none G)  : ∀ (σ : Sg)  (H : Heap) (locs : List Loc) (ls : Array Slot), z_S 0 G ad σ (z_A 0 ad s.heap.size) s.heap H locs → lv_has ls 4 [] → f_X0_makeComing_52  σ  = some res → W p l e { frames := 3, cells := 0, slots := 0, locals := 70 } s m args below meth c H locs 0 0 (MQ below (va_Qv (S := Unit) (fun _ => True) (fun _ t => z_W 0 G ad res t.heap) (z_A 0 ad s.heap.size)) args s 0 0 (z_A 0 ad s.heap.size)) (F0 m 52 ls []) := by
  intro σ  H locs ls S hl  hf
  unfold f_X0_makeComing_52 at hf
  exact z_vret C S hf dX0_makeComing_52
set_option maxHeartbeats 4000000 in
set_option maxRecDepth 100000 in
theorem w_X0_makeComing_46 {p : Program} {l : Launch} {e : Env} {s : State} {m : MethodId} {args : Array Value} {below : List Frame} {meth : Method} {c : Code} {G : Gx} {ad : Ad} {res : Sg} (C : Cx p s m args meth c yX0_makeComing.cls cX0_makeComing 4 none G) (k2 : Sg → Nat → Int32 → Option Sg) (hk2 : ∀ (σ : Sg) (o1 : Nat) (v2 : Int32) (H : Heap) (locs : List Loc) (ls : Array Slot), z_S 0 G ad σ (z_A 0 ad s.heap.size) s.heap H locs → lv_has ls 4 [(0, .ref (ad 0 0)), (1, .ref (ad 4 o1)), (2, .int v2)] → (o1 < z_cnt 4) → k2 σ o1 v2 = some res → W p l e { frames := 3, cells := 0, slots := 0, locals := 70 } s m args below meth c H locs 0 0 (MQ below (va_Qv (S := Unit) (fun _ => True) (fun _ t => z_W 0 G ad res t.heap) (z_A 0 ad s.heap.size)) args s 0 0 (z_A 0 ad s.heap.size)) (F0 m 2 ls [])) : ∀ (σ : Sg) (o1 : Nat) (v2 : Int32) (H : Heap) (locs : List Loc) (ls : Array Slot), z_S 0 G ad σ (z_A 0 ad s.heap.size) s.heap H locs → lv_has ls 4 [(0, .ref (ad 0 0)), (1, .ref (ad 4 o1)), (2, .int v2)] → (o1 < z_cnt 4) → f_X0_makeComing_46 k2 σ o1 v2 = some res → W p l e { frames := 3, cells := 0, slots := 0, locals := 70 } s m args below meth c H locs 0 0 (MQ below (va_Qv (S := Unit) (fun _ => True) (fun _ t => z_W 0 G ad res t.heap) (z_A 0 ad s.heap.size)) args s 0 0 (z_A 0 ad s.heap.size)) (F0 m 46 ls []) := by
  intro σ o1 v2 H locs ls S hl ho1 hf
  unfold f_X0_makeComing_46 at hf
  refine lv_iinc (v := (v2 + 1)) (lv' := [(2, .int (v2 + 1)), (0, .ref (ad 0 0)), (1, .ref (ad 4 o1))]) C.1 C.2.1 dX0_makeComing_46 hl (k := 2) rfl rfl (by decide) rfl (fun ls hl => ?_)
  refine lv_goto (tgt := 2) C.1 C.2.1 dX0_makeComing_49 (by decide) ?_
  exact hk2 _ o1 (v2 + 1) _ _ _ S (lv_sub hl [1, 2, 0] rfl) ho1 hf
set_option maxHeartbeats 4000000 in
set_option maxRecDepth 100000 in
theorem w_X0_makeComing_2 {p : Program} {l : Launch} {e : Env} {s : State} {m : MethodId} {args : Array Value} {below : List Frame} {meth : Method} {c : Code} {G : Gx} {ad : Ad} {res : Sg} (C : Cx p s m args meth c yX0_makeComing.cls cX0_makeComing 4 none G)  : ∀ n : Nat, ∀ (σ : Sg) (o1 : Nat) (v2 : Int32) (H : Heap) (locs : List Loc) (ls : Array Slot), z_S 0 G ad σ (z_A 0 ad s.heap.size) s.heap H locs → lv_has ls 4 [(0, .ref (ad 0 0)), (1, .ref (ad 4 o1)), (2, .int v2)] → (o1 < z_cnt 4) → f_X0_makeComing_2  n σ o1 v2 = some res → W p l e { frames := 3, cells := 0, slots := 0, locals := 70 } s m args below meth c H locs 0 0 (MQ below (va_Qv (S := Unit) (fun _ => True) (fun _ t => z_W 0 G ad res t.heap) (z_A 0 ad s.heap.size)) args s 0 0 (z_A 0 ad s.heap.size)) (F0 m 2 ls []) := by
  intro n
  induction n with
  | zero => intro σ o1 v2 H locs ls S hl ho1 hf; cases hf
  | succ n ih =>
    intro σ o1 v2 H locs ls S hl ho1 hf
    rw [f_X0_makeComing_2_s] at hf
    refine lv_iload_n C.1 C.2.1 dX0_makeComing_2 rfl (lv_at hl 2 rfl) ?_
    refine lv_aload_n C.1 C.2.1 dX0_makeComing_3 rfl (lv_at hl 1 rfl) ?_
    refine z_getI C S 4 o1 rfl ho1 cf_4 2 (by decide) (gi_4_2 G ad o1) tw_1_228 dX0_makeComing_4 ?_
    refine lv_icmp_ge (tgt := 52) C.1 C.2.1 dX0_makeComing_7 (by decide) (fun c_7 => ?_) (fun c_7 => ?_)
    · rw [if_pos c_7] at hf
      exact w_X0_makeComing_52 C _ _ _ _ S (lv_sub hl [] rfl) hf
    · rw [if_neg c_7] at hf
      refine lv_aload_n C.1 C.2.1 dX0_makeComing_10 rfl (lv_at hl 1 rfl) ?_
      refine z_getR C S 4 o1 rfl ho1 cf_4 7 (by decide) _ (gr_4_7 G ad o1) tw_2_5 dX0_makeComing_11 ?_
      refine lv_iload_n C.1 C.2.1 dX0_makeComing_14 rfl (lv_at hl 2 rfl) ?_
      obtain ⟨g_15, hf⟩ := gd hf
      refine z_aald C S 26 o1 rfl ho1 24 2 1 (24 * o1) rfl (fun _ => rfl) g_15 dX0_makeComing_15 ?_
      refine lv_astore_n (lv' := [(3, .ref (ad 1 (24 * o1 + (v2).toNatClampNeg))), (0, .ref (ad 0 0)), (1, .ref (ad 4 o1)), (2, .int v2)]) C.1 C.2.1 dX0_makeComing_16 rfl hl (by decide) rfl (fun ls hl => ?_)
      refine lv_aload_n C.1 C.2.1 dX0_makeComing_17 rfl (lv_at hl 0 rfl) ?_
      refine z_getI C S 1 (24 * o1 + (v2).toNatClampNeg) rfl (oc1 ho1 g_15) cf_1 3 (by decide) (gi_1_3 G ad (24 * o1 + (v2).toNatClampNeg)) tw_1_174 dX0_makeComing_18 ?_
      refine lv_if_ne (tgt := 46) C.1 C.2.1 dX0_makeComing_21 (by decide) (fun c_21 => ?_) (fun c_21 => ?_)
      · rw [if_neg c_21] at hf
        exact w_X0_makeComing_46 C (f_X0_makeComing_2 n) ih _ o1 v2 _ _ _ S (lv_sub hl [1, 2, 3] rfl) ho1 hf
      · rw [if_pos c_21] at hf
        refine lv_aload_n C.1 C.2.1 dX0_makeComing_24 rfl (lv_at hl 0 rfl) ?_
        refine z_getI C S 1 (24 * o1 + (v2).toNatClampNeg) rfl (oc1 ho1 g_15) cf_1 2 (by decide) (gi_1_2 G ad (24 * o1 + (v2).toNatClampNeg)) tw_1_171 dX0_makeComing_25 ?_
        refine lv_aload_n C.1 C.2.1 dX0_makeComing_28 rfl (lv_at hl 2 rfl) ?_
        refine z_getI C S 4 o1 rfl ho1 cf_4 3 (by decide) (gi_4_3 G ad o1) tw_1_232 dX0_makeComing_29 ?_
        refine lv_icmp_gt (tgt := 46) C.1 C.2.1 dX0_makeComing_32 (by decide) (fun c_32 => ?_) (fun c_32 => ?_)
        · rw [if_pos c_32] at hf
          exact w_X0_makeComing_46 C (f_X0_makeComing_2 n) ih _ o1 v2 _ _ _ S (lv_sub hl [1, 2, 3] rfl) ho1 hf
        · rw [if_neg c_32] at hf
          refine lv_aload_n C.1 C.2.1 dX0_makeComing_35 rfl (lv_at hl 0 rfl) ?_
          refine lv_iconst (v := 1) C.1 C.2.1 dX0_makeComing_36 (by decide) ?_
          obtain ⟨σ1, e_37, hf⟩ := stb hf
          refine z_putI C S 1 (24 * o1 + (v2).toNatClampNeg) rfl (oc1 ho1 g_15) cf_1 3 (by decide) (pi_1_3 G ad (24 * o1 + (v2).toNatClampNeg)) rfl rfl rfl tw_1_174 dX0_makeComing_37 (fun H locs S => ?_)
          rw [← e_37] at S
          refine lv_aload_n C.1 C.2.1 dX0_makeComing_40 rfl (lv_at hl 1 rfl) ?_
          refine lv_aload_n C.1 C.2.1 dX0_makeComing_41 rfl (lv_at hl 2 rfl) ?_
          refine lv_iload_n C.1 C.2.1 dX0_makeComing_42 rfl (lv_at hl 3 rfl) ?_
          obtain ⟨σ2, q_43, hf⟩ := bvb hf
          refine z_callV C S 0 0 rfl (by decide) cf_0 ⟨_, rfl⟩ [.ref (ad 4 o1), .int v2] (m_X0_announce l G ad σ1 o1 v2 σ2 ho1 q_43 _) kv_X0_announce tw_7_84 ⟨Nat.le_of_ble_eq_true rfl, Nat.le_of_ble_eq_true rfl⟩ rfl rfl (Nat.le_of_ble_eq_true rfl) hl.1 ⟨Nat.le_of_ble_eq_true rfl, Nat.le_of_ble_eq_true rfl⟩ dX0_makeComing_43 (fun H locs S => ?_)
          exact w_X0_makeComing_46 C (f_X0_makeComing_2 n) ih _ o1 v2 _ _ _ S (lv_sub hl [1, 2, 3] rfl) ho1 hf
set_option maxHeartbeats 4000000 in
set_option maxRecDepth 100000 in
theorem w_X0_makeComing_0 {p : Program} {l : Launch} {e : Env} {s : State} {m : MethodId} {args : Array Value} {below : List Frame} {meth : Method} {c : Code} {G : Gx} {ad : Ad} {res : Sg} (C : Cx p s m args meth c yX0_makeComing.cls cX0_makeComing 4 none G)  : ∀ (σ : Sg) (o1 : Nat) (H : Heap) (locs : List Loc) (ls : Array Slot), z_S 0 G ad σ (z_A 0 ad s.heap.size) s.heap H locs → lv_has ls 4 [(0, .ref (ad 0 0)), (1, .ref (ad 4 o1))] → (o1 < z_cnt 4) → f_X0_makeComing  σ o1 = some res → W p l e { frames := 3, cells := 0, slots := 0, locals := 70 } s m args below meth c H locs 0 0 (MQ below (va_Qv (S := Unit) (fun _ => True) (fun _ t => z_W 0 G ad res t.heap) (z_A 0 ad s.heap.size)) args s 0 0 (z_A 0 ad s.heap.size)) (F0 m 0 ls []) := by
  intro σ o1 H locs ls S hl ho1 hf
  unfold f_X0_makeComing at hf
  refine lv_iconst (v := 0) C.1 C.2.1 dX0_makeComing_0 (by decide) ?_
  refine lv_istore_n (lv' := [(2, .int 0), (0, .ref (ad 0 0)), (1, .ref (ad 4 o1))]) C.1 C.2.1 dX0_makeComing_1 rfl hl (by decide) rfl (fun ls hl => ?_)
  exact w_X0_makeComing_2 C FU _ o1 0 _ _ _ S (lv_sub hl [1, 2, 0] rfl) ho1 hf
theorem kv_X0_makeComing : KV yX0_makeComing cX0_makeComing 4 none 1 := ⟨tw_7_83, tw_7_82, tw_p_38, tw_1_17, by decide, by decide, by decide +kernel⟩
theorem m_X0_makeComing (l : Launch) (G : Gx) (ad : Ad) (σ : Sg) (o1 : Nat) (σ' : Sg) (ho1 : o1 < z_cnt 4) (hf : f_X0_makeComing σ o1 = some σ') (sz : Nat) : z_MV l yX0_makeComing cX0_makeComing 4 none 3 70 0 G ad σ sz [.ref (ad 0 0), .ref (ad 4 o1)] σ' := by
  refine z_begin (by decide +kernel) (Nat.le_of_ble_eq_true rfl) [(0, .ref (ad 0 0)), (1, .ref (ad 4 o1))] rfl (fun p e s m args below meth c ls C hz S hl => ?_)
  subst hz
  exact w_X0_makeComing_0 (res := σ') C σ o1 _ _ _ S hl ho1 hf

theorem dX0_isLost_0 : decode cX0_isLost 0 = .ok (.aload_n 1, 1) := by decide +kernel
theorem dX0_isLost_1 : decode cX0_isLost 1 = .ok (.invokevirtual 137, 3) := by decide +kernel
theorem dX0_isLost_4 : decode cX0_isLost 4 = .ok (.aload_n 1, 1) := by decide +kernel
theorem dX0_isLost_5 : decode cX0_isLost 5 = .ok (.getfield 141, 3) := by decide +kernel
theorem dX0_isLost_8 : decode cX0_isLost 8 = .ok (.iconst 0, 1) := by decide +kernel
theorem dX0_isLost_9 : decode cX0_isLost 9 = .ok (.iaload, 1) := by decide +kernel
theorem dX0_isLost_10 : decode cX0_isLost 10 = .ok (.if_icmp .lt 27, 3) := by decide +kernel
theorem dX0_isLost_13 : decode cX0_isLost 13 = .ok (.aload_n 1, 1) := by decide +kernel
theorem dX0_isLost_14 : decode cX0_isLost 14 = .ok (.iload_n 3, 1) := by decide +kernel
theorem dX0_isLost_15 : decode cX0_isLost 15 = .ok (.invokevirtual 144, 3) := by decide +kernel
theorem dX0_isLost_18 : decode cX0_isLost 18 = .ok (.ifCond .ne 19, 3) := by decide +kernel
theorem dX0_isLost_21 : decode cX0_isLost 21 = .ok (.aload_n 1, 1) := by decide +kernel
theorem dX0_isLost_22 : decode cX0_isLost 22 = .ok (.aload_n 0, 1) := by decide +kernel
theorem dX0_isLost_23 : decode cX0_isLost 23 = .ok (.getfield 12, 3) := by decide +kernel
theorem dX0_isLost_26 : decode cX0_isLost 26 = .ok (.getfield 85, 3) := by decide +kernel
theorem dX0_isLost_29 : decode cX0_isLost 29 = .ok (.iload_n 2, 1) := by decide +kernel
theorem dX0_isLost_30 : decode cX0_isLost 30 = .ok (.iaload, 1) := by decide +kernel
theorem dX0_isLost_31 : decode cX0_isLost 31 = .ok (.invokevirtual 144, 3) := by decide +kernel
theorem dX0_isLost_34 : decode cX0_isLost 34 = .ok (.ifCond .eq 7, 3) := by decide +kernel
theorem dX0_isLost_37 : decode cX0_isLost 37 = .ok (.iconst 1, 1) := by decide +kernel
theorem dX0_isLost_38 : decode cX0_isLost 38 = .ok (.goto 4, 3) := by decide +kernel
theorem dX0_isLost_41 : decode cX0_isLost 41 = .ok (.iconst 0, 1) := by decide +kernel
theorem dX0_isLost_42 : decode cX0_isLost 42 = .ok (.istore 4, 2) := by decide +kernel
theorem dX0_isLost_44 : decode cX0_isLost 44 = .ok (.iload 4, 2) := by decide +kernel
theorem dX0_isLost_46 : decode cX0_isLost 46 = .ok (.ifCond .eq 21, 3) := by decide +kernel
theorem dX0_isLost_49 : decode cX0_isLost 49 = .ok (.aload_n 1, 1) := by decide +kernel
theorem dX0_isLost_50 : decode cX0_isLost 50 = .ok (.getfield 148, 3) := by decide +kernel
theorem dX0_isLost_53 : decode cX0_isLost 53 = .ok (.aload_n 0, 1) := by decide +kernel
theorem dX0_isLost_54 : decode cX0_isLost 54 = .ok (.getfield 12, 3) := by decide +kernel
theorem dX0_isLost_57 : decode cX0_isLost 57 = .ok (.getfield 98, 3) := by decide +kernel
theorem dX0_isLost_60 : decode cX0_isLost 60 = .ok (.iload_n 2, 1) := by decide +kernel
theorem dX0_isLost_61 : decode cX0_isLost 61 = .ok (.iaload, 1) := by decide +kernel
theorem dX0_isLost_62 : decode cX0_isLost 62 = .ok (.dup2, 1) := by decide +kernel
theorem dX0_isLost_63 : decode cX0_isLost 63 = .ok (.iaload, 1) := by decide +kernel
theorem dX0_isLost_64 : decode cX0_isLost 64 = .ok (.iconst 1, 1) := by decide +kernel
theorem dX0_isLost_65 : decode cX0_isLost 65 = .ok (.iadd, 1) := by decide +kernel
theorem dX0_isLost_66 : decode cX0_isLost 66 = .ok (.iastore, 1) := by decide +kernel
theorem dX0_isLost_67 : decode cX0_isLost 67 = .ok (.iload 4, 2) := by decide +kernel
theorem dX0_isLost_69 : decode cX0_isLost 69 = .ok (.ireturn, 1) := by decide +kernel
/-! BusLifts$Bus.isLost(LBusLifts$Lifts;II)Z -/
noncomputable def f_X0_isLost_67  (σ : Sg) (v4 : Int32) : Option (Int32 × Sg) := if ¬ (v4 = 0 ∨ v4 = 1) then none else (some (v4, σ))
noncomputable def f_X0_isLost_42  (σ : Sg) (o1 : Nat) (v2 : Int32) (v100 : Int32) : Option (Int32 × Sg) := if v100 = 0 then (f_X0_isLost_67 σ v100) else (if v2 < 0 ∨ 240 ≤ (v2).toNatClampNeg then none else (if (σ 21 13 (v2).toNatClampNeg) < 0 ∨ 4 ≤ ((σ 21 13 (v2).toNatClampNeg)).toNatClampNeg then none else (if (σ 21 13 (v2).toNatClampNeg) < 0 ∨ 4 ≤ ((σ 21 13 (v2).toNatClampNeg)).toNatClampNeg then none else (st (sup σ 14 o1 ((σ 21 13 (v2).toNatClampNeg)).toNatClampNeg ((σ 14 o1 ((σ 21 13 (v2).toNatClampNeg)).toNatClampNeg) + 1)) fun σ1 => (f_X0_isLost_67 σ1 v100)))))
noncomputable def f_X0_isLost_37  (σ : Sg) (o1 : Nat) (v2 : Int32) : Option (Int32 × Sg) := f_X0_isLost_42 σ o1 v2 1
noncomputable def f_X0_isLost  (σ : Sg) (o1 : Nat) (v2 : Int32) (v3 : Int32) : Option (Int32 × Sg) := bi (f_X4_drawn σ o1) fun r2 σ1 => (if r2 < (σ1 12 o1 0) then (f_X0_isLost_37 σ1 o1 v2) else (bi (f_X4_isJammedCar σ1 o1 v3) fun r4 σ3 => (if r4 = 0 then (if v2 < 0 ∨ 240 ≤ (v2).toNatClampNeg then none else (bi (f_X4_isJammedCar σ3 o1 (σ3 20 13 (v2).toNatClampNeg)) fun r6 σ5 => (if r6 = 0 then (f_X0_isLost_42 σ5 o1 v2 0) else (f_X0_isLost_37 σ5 o1 v2)))) else (f_X0_isLost_37 σ3 o1 v2))))
set_option maxHeartbeats 4000000 in
set_option maxRecDepth 100000 in
theorem w_X0_isLost_67 {p : Program} {l : Launch} {e : Env} {s : State} {m : MethodId} {args : Array Value} {below : List Frame} {meth : Method} {c : Code} {G : Gx} {ad : Ad} {res : Int32 × Sg} (C : Cx p s m args meth c yX0_isLost.cls cX0_isLost 5 (Option.some FieldType.boolean) G)  : ∀ (σ : Sg) (v4 : Int32) (H : Heap) (locs : List Loc) (ls : Array Slot), z_S 0 G ad σ (z_A 0 ad s.heap.size) s.heap H locs → lv_has ls 5 [(4, .int v4)] → f_X0_isLost_67  σ v4 = some res → W p l e { frames := 1, cells := 0, slots := 0, locals := 21 } s m args below meth c H locs 0 0 (MQ below (va_Qi (S := Unit) (fun r1 _ => r1 = res.1) (fun _ t => z_W 0 G ad res.2 t.heap) (z_A 0 ad s.heap.size)) args s 0 0 (z_A 0 ad s.heap.size)) (F0 m 67 ls []) := by
  intro σ v4 H locs ls S hl  hf
  unfold f_X0_isLost_67 at hf
  refine lv_iload C.1 C.2.1 dX0_isLost_67 (lv_at hl 0 rfl) ?_
  obtain ⟨g_69, hf⟩ := gd hf
  exact z_zret C S (nbz g_69).1 hf dX0_isLost_69
set_option maxHeartbeats 4000000 in
set_option maxRecDepth 100000 in
theorem w_X0_isLost_42 {p : Program} {l : Launch} {e : Env} {s : State} {m : MethodId} {args : Array Value} {below : List Frame} {meth : Method} {c : Code} {G : Gx} {ad : Ad} {res : Int32 × Sg} (C : Cx p s m args meth c yX0_isLost.cls cX0_isLost 5 (Option.some FieldType.boolean) G)  : ∀ (σ : Sg) (o1 : Nat) (v2 : Int32) (v100 : Int32) (H : Heap) (locs : List Loc) (ls : Array Slot), z_S 0 G ad σ (z_A 0 ad s.heap.size) s.heap H locs → lv_has ls 5 [(0, .ref (ad 0 0)), (1, .ref (ad 4 o1)), (2, .int v2)] → (o1 < z_cnt 4) → f_X0_isLost_42  σ o1 v2 v100 = some res → W p l e { frames := 1, cells := 0, slots := 0, locals := 21 } s m args below meth c H locs 0 0 (MQ below (va_Qi (S := Unit) (fun r1 _ => r1 = res.1) (fun _ t => z_W 0 G ad res.2 t.heap) (z_A 0 ad s.heap.size)) args s 0 0 (z_A 0 ad s.heap.size)) (F0 m 42 ls [.int v100]) := by
  intro σ o1 v2 v100 H locs ls S hl ho1 hf
  unfold f_X0_isLost_42 at hf
  refine lv_istore (lv' := [(4, .int v100), (0, .ref (ad 0 0)), (1, .ref (ad 4 o1)), (2, .int v2)]) C.1 C.2.1 dX0_isLost_42 hl (by decide) rfl (fun ls hl => ?_)
  refine lv_iload C.1 C.2.1 dX0_isLost_44 (lv_at hl 0 rfl) ?_
  refine lv_if_eq (tgt := 67) C.1 C.2.1 dX0_isLost_46 (by decide) (fun c_46 => ?_) (fun c_46 => ?_)
  · rw [if_pos c_46] at hf
    exact w_X0_isLost_67 C _ v100 _ _ _ S (lv_sub hl [0] rfl) hf
  · rw [if_neg c_46] at hf
    refine lv_aload_n C.1 C.2.1 dX0_isLost_49 rfl (lv_at hl 2 rfl) ?_
    refine z_getR C S 4 o1 rfl ho1 cf_4 10 (by decide) _ (gr_4_10 G ad o1) tw_2_13 dX0_isLost_50 ?_
    refine lv_aload_n C.1 C.2.1 dX0_isLost_53 rfl (lv_at hl 1 rfl) ?_
    refine z_getR C S 0 0 rfl (by decide) cf_0 0 (by decide) _ (gr_0_0 G ad 0) tw_2_71 dX0_isLost_54 ?_
    refine z_getR C S 5 13 rfl (by decide) cf_5 2 (by decide) _ (gr_5_2 G ad 13) tw_1_66 dX0_isLost_57 ?_
    refine lv_iload_n C.1 C.2.1 dX0_isLost_60 rfl (lv_at hl 3 rfl) ?_
    obtain ⟨g_61, hf⟩ := gd hf
    refine z_iald C S 21 13 rfl (by decide) 240 (fun _ => rfl) g_61 dX0_isLost_61 ?_
    refine lv_dup2_11 C.1 C.2.1 dX0_isLost_62 rfl rfl ?_
    obtain ⟨g_63, hf⟩ := gd hf
    refine z_iald C S 14 o1 rfl ho1 4 (fun _ => rfl) g_63 dX0_isLost_63 ?_
    refine lv_iconst (v := 1) C.1 C.2.1 dX0_isLost_64 (by decide) ?_
    refine lv_iadd C.1 C.2.1 dX0_isLost_65 ?_
    obtain ⟨g_66, hf⟩ := gd hf
    obtain ⟨σ1, e_66, hf⟩ := stb hf
    refine z_iast C S 14 o1 rfl ho1 4 (fun _ => rfl) g_66 dX0_isLost_66 (fun H locs S => ?_)
    rw [← e_66] at S
    exact w_X0_isLost_67 C _ v100 _ _ _ S (lv_sub hl [0] rfl) hf
set_option maxHeartbeats 4000000 in
set_option maxRecDepth 100000 in
theorem w_X0_isLost_37 {p : Program} {l : Launch} {e : Env} {s : State} {m : MethodId} {args : Array Value} {below : List Frame} {meth : Method} {c : Code} {G : Gx} {ad : Ad} {res : Int32 × Sg} (C : Cx p s m args meth c yX0_isLost.cls cX0_isLost 5 (Option.some FieldType.boolean) G)  : ∀ (σ : Sg) (o1 : Nat) (v2 : Int32) (H : Heap) (locs : List Loc) (ls : Array Slot), z_S 0 G ad σ (z_A 0 ad s.heap.size) s.heap H locs → lv_has ls 5 [(0, .ref (ad 0 0)), (1, .ref (ad 4 o1)), (2, .int v2)] → (o1 < z_cnt 4) → f_X0_isLost_37  σ o1 v2 = some res → W p l e { frames := 1, cells := 0, slots := 0, locals := 21 } s m args below meth c H locs 0 0 (MQ below (va_Qi (S := Unit) (fun r1 _ => r1 = res.1) (fun _ t => z_W 0 G ad res.2 t.heap) (z_A 0 ad s.heap.size)) args s 0 0 (z_A 0 ad s.heap.size)) (F0 m 37 ls []) := by
  intro σ o1 v2 H locs ls S hl ho1 hf
  unfold f_X0_isLost_37 at hf
  refine lv_iconst (v := 1) C.1 C.2.1 dX0_isLost_37 (by decide) ?_
  refine lv_goto (tgt := 42) C.1 C.2.1 dX0_isLost_38 (by decide) ?_
  exact w_X0_isLost_42 C _ o1 v2 1 _ _ _ S (lv_sub hl [0, 1, 2] rfl) ho1 hf
set_option maxHeartbeats 4000000 in
set_option maxRecDepth 100000 in
theorem w_X0_isLost_0 {p : Program} {l : Launch} {e : Env} {s : State} {m : MethodId} {args : Array Value} {below : List Frame} {meth : Method} {c : Code} {G : Gx} {ad : Ad} {res : Int32 × Sg} (C : Cx p s m args meth c yX0_isLost.cls cX0_isLost 5 (Option.some FieldType.boolean) G)  : ∀ (σ : Sg) (o1 : Nat) (v2 : Int32) (v3 : Int32) (H : Heap) (locs : List Loc) (ls : Array Slot), z_S 0 G ad σ (z_A 0 ad s.heap.size) s.heap H locs → lv_has ls 5 [(0, .ref (ad 0 0)), (1, .ref (ad 4 o1)), (2, .int v2), (3, .int v3)] → (o1 < z_cnt 4) → f_X0_isLost  σ o1 v2 v3 = some res → W p l e { frames := 1, cells := 0, slots := 0, locals := 21 } s m args below meth c H locs 0 0 (MQ below (va_Qi (S := Unit) (fun r1 _ => r1 = res.1) (fun _ t => z_W 0 G ad res.2 t.heap) (z_A 0 ad s.heap.size)) args s 0 0 (z_A 0 ad s.heap.size)) (F0 m 0 ls []) := by
  intro σ o1 v2 v3 H locs ls S hl ho1 hf
  unfold f_X0_isLost at hf
  refine lv_aload_n C.1 C.2.1 dX0_isLost_0 rfl (lv_at hl 1 rfl) ?_
  obtain ⟨r2, σ1, q_1, hf⟩ := bib hf
  refine z_callI C S 4 o1 rfl ho1 cf_4 ⟨_, rfl⟩ [] (m_X4_drawn l G ad σ o1 r2 σ1 ho1 q_1 _) kv_X4_drawn tw_7_108 ⟨Nat.le_of_ble_eq_true rfl, Nat.le_of_ble_eq_true rfl⟩ rfl rfl (Nat.le_of_ble_eq_true rfl) hl.1 ⟨Nat.le_of_ble_eq_true rfl, Nat.le_of_ble_eq_true rfl⟩ dX0_isLost_1 (fun H locs S => ?_)
  refine lv_aload_n C.1 C.2.1 dX0_isLost_4 rfl (lv_at hl 1 rfl) ?_
  refine z_getR C S 4 o1 rfl ho1 cf_4 5 (by decide) _ (gr_4_5 G ad o1) tw_1_239 dX0_isLost_5 ?_
  refine lv_iconst (v := 0) C.1 C.2.1 dX0_isLost_8 (by decide) ?_
  refine z_ialdL C S 12 o1 rfl ho1 5 (fun _ => rfl) 0 (by decide) (by decide) (by decide) dX0_isLost_9 ?_
  refine lv_icmp_lt (tgt := 37) C.1 C.2.1 dX0_isLost_10 (by decide) (fun c_10 => ?_) (fun c_10 => ?_)
  · rw [if_pos c_10] at hf
    exact w_X0_isLost_37 C _ o1 v2 _ _ _ S (lv_sub hl [0, 1, 2] rfl) ho1 hf
  · rw [if_neg c_10] at hf
    refine lv_aload_n C.1 C.2.1 dX0_isLost_13 rfl (lv_at hl 1 rfl) ?_
    refine lv_iload_n C.1 C.2.1 dX0_isLost_14 rfl (lv_at hl 3 rfl) ?_
    obtain ⟨r4, σ3, q_15, hf⟩ := bib hf
    refine z_callI C S 4 o1 rfl ho1 cf_4 ⟨_, rfl⟩ [.int v3] (m_X4_isJammedCar l G ad σ1 o1 v3 r4 σ3 ho1 q_15 _) kv_X4_isJammedCar tw_7_113 ⟨Nat.le_of_ble_eq_true rfl, Nat.le_of_ble_eq_true rfl⟩ rfl rfl (Nat.le_of_ble_eq_true rfl) hl.1 ⟨Nat.le_of_ble_eq_true rfl, Nat.le_of_ble_eq_true rfl⟩ dX0_isLost_15 (fun H locs S => ?_)
    refine lv_if_ne (tgt := 37) C.1 C.2.1 dX0_isLost_18 (by decide) (fun c_18 => ?_) (fun c_18 => ?_)
    · rw [if_neg c_18] at hf
      exact w_X0_isLost_37 C _ o1 v2 _ _ _ S (lv_sub hl [0, 1, 2] rfl) ho1 hf
    · rw [if_pos c_18] at hf
      refine lv_aload_n C.1 C.2.1 dX0_isLost_21 rfl (lv_at hl 1 rfl) ?_
      refine lv_aload_n C.1 C.2.1 dX0_isLost_22 rfl (lv_at hl 0 rfl) ?_
      refine z_getR C S 0 0 rfl (by decide) cf_0 0 (by decide) _ (gr_0_0 G ad 0) tw_2_71 dX0_isLost_23 ?_
      refine z_getR C S 5 13 rfl (by decide) cf_5 1 (by decide) _ (gr_5_1 G ad 13) tw_1_64 dX0_isLost_26 ?_
      refine lv_iload_n C.1 C.2.1 dX0_isLost_29 rfl (lv_at hl 2 rfl) ?_
      obtain ⟨g_30, hf⟩ := gd hf
      refine z_iald C S 20 13 rfl (by decide) 240 (fun _ => rfl) g_30 dX0_isLost_30 ?_
      obtain ⟨r6, σ5, q_31, hf⟩ := bib hf
      refine z_callI C S 4 o1 rfl ho1 cf_4 ⟨_, rfl⟩ [.int (σ3 20 13 (v2).toNatClampNeg)] (m_X4_isJammedCar l G ad σ3 o1 (σ3 20 13 (v2).toNatClampNeg) r6 σ5 ho1 q_31 _) kv_X4_isJammedCar tw_7_113 ⟨Nat.le_of_ble_eq_true rfl, Nat.le_of_ble_eq_true rfl⟩ rfl rfl (Nat.le_of_ble_eq_true rfl) hl.1 ⟨Nat.le_of_ble_eq_true rfl, Nat.le_of_ble_eq_true rfl⟩ dX0_isLost_31 (fun H locs S => ?_)
      refine lv_if_eq (tgt := 41) C.1 C.2.1 dX0_isLost_34 (by decide) (fun c_34 => ?_) (fun c_34 => ?_)
      · rw [if_pos c_34] at hf
        refine lv_iconst (v := 0) C.1 C.2.1 dX0_isLost_41 (by decide) ?_
        exact w_X0_isLost_42 C _ o1 v2 0 _ _ _ S (lv_sub hl [0, 1, 2] rfl) ho1 hf
      · rw [if_neg c_34] at hf
        exact w_X0_isLost_37 C _ o1 v2 _ _ _ S (lv_sub hl [0, 1, 2] rfl) ho1 hf
theorem kv_X0_isLost : KV yX0_isLost cX0_isLost 5 (Option.some FieldType.boolean) 3 := ⟨tw_7_107, tw_7_106, tw_p_42, tw_1_17, by decide, by decide, by decide +kernel⟩
theorem m_X0_isLost (l : Launch) (G : Gx) (ad : Ad) (σ : Sg) (o1 : Nat) (v2 : Int32) (v3 : Int32) (r : Int32) (σ' : Sg) (ho1 : o1 < z_cnt 4) (hf : f_X0_isLost σ o1 v2 v3 = some (r, σ')) (sz : Nat) : z_MI l yX0_isLost cX0_isLost 5 (Option.some FieldType.boolean) 1 21 0 G ad σ sz [.ref (ad 0 0), .ref (ad 4 o1), .int v2, .int v3] r σ' := by
  refine z_begin (by decide +kernel) (Nat.le_of_ble_eq_true rfl) [(0, .ref (ad 0 0)), (1, .ref (ad 4 o1)), (2, .int v2), (3, .int v3)] rfl (fun p e s m args below meth c ls C hz S hl => ?_)
  subst hz
  exact w_X0_isLost_0 (res := (r, σ')) C σ o1 v2 v3 _ _ _ S hl ho1 hf

theorem dX0_hearAnnouncement_0 : decode cX0_hearAnnouncement 0 = .ok (.aload_n 1, 1) := by decide +kernel
theorem dX0_hearAnnouncement_1 : decode cX0_hearAnnouncement 1 = .ok (.getfield 105, 3) := by decide +kernel
theorem dX0_hearAnnouncement_4 : decode cX0_hearAnnouncement 4 = .ok (.iload_n 2, 1) := by decide +kernel
theorem dX0_hearAnnouncement_5 : decode cX0_hearAnnouncement 5 = .ok (.aaload, 1) := by decide +kernel
theorem dX0_hearAnnouncement_6 : decode cX0_hearAnnouncement 6 = .ok (.astore 4, 2) := by decide +kernel
theorem dX0_hearAnnouncement_8 : decode cX0_hearAnnouncement 8 = .ok (.aload 4, 2) := by decide +kernel
theorem dX0_hearAnnouncement_10 : decode cX0_hearAnnouncement 10 = .ok (.getfield 151, 3) := by decide +kernel
theorem dX0_hearAnnouncement_13 : decode cX0_hearAnnouncement 13 = .ok (.ifCond .eq 4, 3) := by decide +kernel
theorem dX0_hearAnnouncement_16 : decode cX0_hearAnnouncement 16 = .ok (.return_, 1) := by decide +kernel
theorem dX0_hearAnnouncement_17 : decode cX0_hearAnnouncement 17 = .ok (.aload 4, 2) := by decide +kernel
theorem dX0_hearAnnouncement_19 : decode cX0_hearAnnouncement 19 = .ok (.iload_n 3, 1) := by decide +kernel
theorem dX0_hearAnnouncement_20 : decode cX0_hearAnnouncement 20 = .ok (.invokevirtual 155, 3) := by decide +kernel
theorem dX0_hearAnnouncement_23 : decode cX0_hearAnnouncement 23 = .ok (.ifCond .eq 20, 3) := by decide +kernel
theorem dX0_hearAnnouncement_26 : decode cX0_hearAnnouncement 26 = .ok (.aload_n 1, 1) := by decide +kernel
theorem dX0_hearAnnouncement_27 : decode cX0_hearAnnouncement 27 = .ok (.iload_n 2, 1) := by decide +kernel
theorem dX0_hearAnnouncement_28 : decode cX0_hearAnnouncement 28 = .ok (.iconst 2, 1) := by decide +kernel
theorem dX0_hearAnnouncement_29 : decode cX0_hearAnnouncement 29 = .ok (.iload_n 3, 1) := by decide +kernel
theorem dX0_hearAnnouncement_30 : decode cX0_hearAnnouncement 30 = .ok (.aload 4, 2) := by decide +kernel
theorem dX0_hearAnnouncement_32 : decode cX0_hearAnnouncement 32 = .ok (.getfield 158, 3) := by decide +kernel
theorem dX0_hearAnnouncement_35 : decode cX0_hearAnnouncement 35 = .ok (.iload_n 3, 1) := by decide +kernel
theorem dX0_hearAnnouncement_36 : decode cX0_hearAnnouncement 36 = .ok (.iaload, 1) := by decide +kernel
theorem dX0_hearAnnouncement_37 : decode cX0_hearAnnouncement 37 = .ok (.invokevirtual 81, 3) := by decide +kernel
theorem dX0_hearAnnouncement_40 : decode cX0_hearAnnouncement 40 = .ok (.goto 70, 3) := by decide +kernel
theorem dX0_hearAnnouncement_43 : decode cX0_hearAnnouncement 43 = .ok (.aload_n 1, 1) := by decide +kernel
theorem dX0_hearAnnouncement_44 : decode cX0_hearAnnouncement 44 = .ok (.getfield 60, 3) := by decide +kernel
theorem dX0_hearAnnouncement_47 : decode cX0_hearAnnouncement 47 = .ok (.iload_n 3, 1) := by decide +kernel
theorem dX0_hearAnnouncement_48 : decode cX0_hearAnnouncement 48 = .ok (.aaload, 1) := by decide +kernel
theorem dX0_hearAnnouncement_49 : decode cX0_hearAnnouncement 49 = .ok (.getfield 64, 3) := by decide +kernel
theorem dX0_hearAnnouncement_52 : decode cX0_hearAnnouncement 52 = .ok (.iconst 1, 1) := by decide +kernel
theorem dX0_hearAnnouncement_53 : decode cX0_hearAnnouncement 53 = .ok (.if_icmp .ne 57, 3) := by decide +kernel
theorem dX0_hearAnnouncement_56 : decode cX0_hearAnnouncement 56 = .ok (.aload 4, 2) := by decide +kernel
theorem dX0_hearAnnouncement_58 : decode cX0_hearAnnouncement 58 = .ok (.iload_n 3, 1) := by decide +kernel
theorem dX0_hearAnnouncement_59 : decode cX0_hearAnnouncement 59 = .ok (.invokevirtual 161, 3) := by decide +kernel
theorem dX0_hearAnnouncement_62 : decode cX0_hearAnnouncement 62 = .ok (.aload 4, 2) := by decide +kernel
theorem dX0_hearAnnouncement_64 : decode cX0_hearAnnouncement 64 = .ok (.getfield 158, 3) := by decide +kernel
theorem dX0_hearAnnouncement_67 : decode cX0_hearAnnouncement 67 = .ok (.iload_n 3, 1) := by decide +kernel
theorem dX0_hearAnnouncement_68 : decode cX0_hearAnnouncement 68 = .ok (.aload_n 1, 1) := by decide +kernel
theorem dX0_hearAnnouncement_69 : decode cX0_hearAnnouncement 69 = .ok (.iload_n 2, 1) := by decide +kernel
theorem dX0_hearAnnouncement_70 : decode cX0_hearAnnouncement 70 = .ok (.aload_n 1, 1) := by decide +kernel
theorem dX0_hearAnnouncement_71 : decode cX0_hearAnnouncement 71 = .ok (.getfield 60, 3) := by decide +kernel
theorem dX0_hearAnnouncement_74 : decode cX0_hearAnnouncement 74 = .ok (.iload_n 3, 1) := by decide +kernel
theorem dX0_hearAnnouncement_75 : decode cX0_hearAnnouncement 75 = .ok (.aaload, 1) := by decide +kernel
theorem dX0_hearAnnouncement_76 : decode cX0_hearAnnouncement 76 = .ok (.getfield 164, 3) := by decide +kernel
theorem dX0_hearAnnouncement_79 : decode cX0_hearAnnouncement 79 = .ok (.invokevirtual 167, 3) := by decide +kernel
theorem dX0_hearAnnouncement_82 : decode cX0_hearAnnouncement 82 = .ok (.iastore, 1) := by decide +kernel
theorem dX0_hearAnnouncement_83 : decode cX0_hearAnnouncement 83 = .ok (.aload 4, 2) := by decide +kernel
theorem dX0_hearAnnouncement_85 : decode cX0_hearAnnouncement 85 = .ok (.getfield 171, 3) := by decide +kernel
theorem dX0_hearAnnouncement_88 : decode cX0_hearAnnouncement 88 = .ok (.iload_n 3, 1) := by decide +kernel
theorem dX0_hearAnnouncement_89 : decode cX0_hearAnnouncement 89 = .ok (.aload_n 1, 1) := by decide +kernel
theorem dX0_hearAnnouncement_90 : decode cX0_hearAnnouncement 90 = .ok (.getfield 54, 3) := by decide +kernel
theorem dX0_hearAnnouncement_93 : decode cX0_hearAnnouncement 93 = .ok (.iconst 2, 1) := by decide +kernel
theorem dX0_hearAnnouncement_94 : decode cX0_hearAnnouncement 94 = .ok (.iadd, 1) := by decide +kernel
theorem dX0_hearAnnouncement_95 : decode cX0_hearAnnouncement 95 = .ok (.iastore, 1) := by decide +kernel
theorem dX0_hearAnnouncement_96 : decode cX0_hearAnnouncement 96 = .ok (.aload_n 1, 1) := by decide +kernel
theorem dX0_hearAnnouncement_97 : decode cX0_hearAnnouncement 97 = .ok (.iload_n 2, 1) := by decide +kernel
theorem dX0_hearAnnouncement_98 : decode cX0_hearAnnouncement 98 = .ok (.iconst 1, 1) := by decide +kernel
theorem dX0_hearAnnouncement_99 : decode cX0_hearAnnouncement 99 = .ok (.iload_n 3, 1) := by decide +kernel
theorem dX0_hearAnnouncement_100 : decode cX0_hearAnnouncement 100 = .ok (.aload 4, 2) := by decide +kernel
theorem dX0_hearAnnouncement_102 : decode cX0_hearAnnouncement 102 = .ok (.getfield 158, 3) := by decide +kernel
theorem dX0_hearAnnouncement_105 : decode cX0_hearAnnouncement 105 = .ok (.iload_n 3, 1) := by decide +kernel
theorem dX0_hearAnnouncement_106 : decode cX0_hearAnnouncement 106 = .ok (.iaload, 1) := by decide +kernel
theorem dX0_hearAnnouncement_107 : decode cX0_hearAnnouncement 107 = .ok (.invokevirtual 81, 3) := by decide +kernel
theorem dX0_hearAnnouncement_110 : decode cX0_hearAnnouncement 110 = .ok (.return_, 1) := by decide +kernel
/-! BusLifts$Bus.hearAnnouncement(LBusLifts$Lifts;II)V -/
noncomputable def f_X0_hearAnnouncement_110  (σ : Sg)  : Option Sg := some σ
noncomputable def f_X0_hearAnnouncement  (σ : Sg) (o1 : Nat) (v2 : Int32) (v3 : Int32) : Option Sg := if v2 < 0 ∨ 4 ≤ (v2).toNatClampNeg then none else (if (σ 2 (4 * o1 + (v2).toNatClampNeg) 3) = 0 then (bi (f_X2_isHolding σ (4 * o1 + (v2).toNatClampNeg) v3) fun r2 σ1 => (if r2 = 0 then (if v3 < 0 ∨ 24 ≤ (v3).toNatClampNeg then none else (if (σ1 1 (24 * o1 + (v3).toNatClampNeg) 3) = 1 then (bv (f_X2_dropBids σ1 (4 * o1 + (v2).toNatClampNeg) v3) fun σ3 => (if v3 < 0 ∨ 24 ≤ (v3).toNatClampNeg then none else (bi (f_X4_costFrom σ3 o1 v2 (σ3 1 (24 * o1 + (v3).toNatClampNeg) 0)) fun r5 σ4 => (if v3 < 0 ∨ 24 ≤ (v3).toNatClampNeg then none else (st (sup σ4 16 (4 * o1 + (v2).toNatClampNeg) (v3).toNatClampNeg r5) fun σ6 => (if v3 < 0 ∨ 24 ≤ (v3).toNatClampNeg then none else (st (sup σ6 17 (4 * o1 + (v2).toNatClampNeg) (v3).toNatClampNeg ((σ6 4 o1 3) + 2)) fun σ7 => (if v3 < 0 ∨ 24 ≤ (v3).toNatClampNeg then none else (bv (f_X4_send σ7 o1 v2 1 v3 (σ7 16 (4 * o1 + (v2).toNatClampNeg) (v3).toNatClampNeg)) fun σ8 => (f_X0_hearAnnouncement_110 σ8)))))))))) else (f_X0_hearAnnouncement_110 σ1))) else (if v3 < 0 ∨ 24 ≤ (v3).toNatClampNeg then none else (bv (f_X4_send σ1 o1 v2 2 v3 (σ1 16 (4 * o1 + (v2).toNatClampNeg) (v3).toNatClampNeg)) fun σ9 => (f_X0_hearAnnouncement_110 σ9))))) else (some σ))
set_option maxHeartbeats 4000000 in
set_option maxRecDepth 100000 in
theorem w_X0_hearAnnouncement_110 {p : Program} {l : Launch} {e : Env} {s : State} {m : MethodId} {args : Array Value} {below : List Frame} {meth : Method} {c : Code} {G : Gx} {ad : Ad} {res : Sg} (C : Cx p s m args meth c yX0_hearAnnouncement.cls cX0_hearAnnouncement 5 none G)  : ∀ (σ : Sg)  (H : Heap) (locs : List Loc) (ls : Array Slot), z_S 0 G ad σ (z_A 0 ad s.heap.size) s.heap H locs → lv_has ls 5 [] → f_X0_hearAnnouncement_110  σ  = some res → W p l e { frames := 2, cells := 0, slots := 0, locals := 48 } s m args below meth c H locs 0 0 (MQ below (va_Qv (S := Unit) (fun _ => True) (fun _ t => z_W 0 G ad res t.heap) (z_A 0 ad s.heap.size)) args s 0 0 (z_A 0 ad s.heap.size)) (F0 m 110 ls []) := by
  intro σ  H locs ls S hl  hf
  unfold f_X0_hearAnnouncement_110 at hf
  exact z_vret C S hf dX0_hearAnnouncement_110
set_option maxHeartbeats 4000000 in
set_option maxRecDepth 100000 in
theorem w_X0_hearAnnouncement_0 {p : Program} {l : Launch} {e : Env} {s : State} {m : MethodId} {args : Array Value} {below : List Frame} {meth : Method} {c : Code} {G : Gx} {ad : Ad} {res : Sg} (C : Cx p s m args meth c yX0_hearAnnouncement.cls cX0_hearAnnouncement 5 none G)  : ∀ (σ : Sg) (o1 : Nat) (v2 : Int32) (v3 : Int32) (H : Heap) (locs : List Loc) (ls : Array Slot), z_S 0 G ad σ (z_A 0 ad s.heap.size) s.heap H locs → lv_has ls 5 [(0, .ref (ad 0 0)), (1, .ref (ad 4 o1)), (2, .int v2), (3, .int v3)] → (o1 < z_cnt 4) → f_X0_hearAnnouncement  σ o1 v2 v3 = some res → W p l e { frames := 2, cells := 0, slots := 0, locals := 48 } s m args below meth c H locs 0 0 (MQ below (va_Qv (S := Unit) (fun _ => True) (fun _ t => z_W 0 G ad res t.heap) (z_A 0 ad s.heap.size)) args s 0 0 (z_A 0 ad s.heap.size)) (F0 m 0 ls []) := by
  intro σ o1 v2 v3 H locs ls S hl ho1 hf
  unfold f_X0_hearAnnouncement at hf
  refine lv_aload_n C.1 C.2.1 dX0_hearAnnouncement_0 rfl (lv_at hl 1 rfl) ?_
  refine z_getR C S 4 o1 rfl ho1 cf_4 6 (by decide) _ (gr_4_6 G ad o1) tw_2_2 dX0_hearAnnouncement_1 ?_
  refine lv_iload_n C.1 C.2.1 dX0_hearAnnouncement_4 rfl (lv_at hl 2 rfl) ?_
  obtain ⟨g_5, hf⟩ := gd hf
  refine z_aald C S 25 o1 rfl ho1 4 1 2 (4 * o1) rfl (fun _ => rfl) g_5 dX0_hearAnnouncement_5 ?_
  refine lv_astore (lv' := [(4, .ref (ad 2 (4 * o1 + (v2).toNatClampNeg))), (0, .ref (ad 0 0)), (1, .ref (ad 4 o1)), (2, .int v2), (3, .int v3)]) C.1 C.2.1 dX0_hearAnnouncement_6 hl (by decide) rfl (fun ls hl => ?_)
  refine lv_aload C.1 C.2.1 dX0_hearAnnouncement_8 (lv_at hl 0 rfl) ?_
  refine z_getI C S 2 (4 * o1 + (v2).toNatClampNeg) rfl (oc2 ho1 g_5) cf_2 3 (by decide) (gi_2_3 G ad (4 * o1 + (v2).toNatClampNeg)) tw_1_98 dX0_hearAnnouncement_10 ?_
  refine lv_if_eq (tgt := 17) C.1 C.2.1 dX0_hearAnnouncement_13 (by decide) (fun c_13 => ?_) (fun c_13 => ?_)
  · rw [if_pos c_13] at hf
    refine lv_aload C.1 C.2.1 dX0_hearAnnouncement_17 (lv_at hl 0 rfl) ?_
    refine lv_iload_n C.1 C.2.1 dX0_hearAnnouncement_19 rfl (lv_at hl 4 rfl) ?_
    obtain ⟨r2, σ1, q_20, hf⟩ := bib hf
    refine z_callI C S 2 (4 * o1 + (v2).toNatClampNeg) rfl (oc2 ho1 g_5) cf_2 ⟨_, rfl⟩ [.int v3] (m_X2_isHolding l G ad σ (4 * o1 + (v2).toNatClampNeg) v3 r2 σ1 (oc2 ho1 g_5) q_20 _) kv_X2_isHolding tw_7_121 ⟨Nat.le_of_ble_eq_true rfl, Nat.le_of_ble_eq_true rfl⟩ rfl rfl (Nat.le_of_ble_eq_true rfl) hl.1 ⟨Nat.le_of_ble_eq_true rfl, Nat.le_of_ble_eq_true rfl⟩ dX0_hearAnnouncement_20 (fun H locs S => ?_)
    refine lv_if_eq (tgt := 43) C.1 C.2.1 dX0_hearAnnouncement_23 (by decide) (fun c_23 => ?_) (fun c_23 => ?_)
    · rw [if_pos c_23] at hf
      refine lv_aload_n C.1 C.2.1 dX0_hearAnnouncement_43 rfl (lv_at hl 2 rfl) ?_
      refine z_getR C S 4 o1 rfl ho1 cf_4 7 (by decide) _ (gr_4_7 G ad o1) tw_2_5 dX0_hearAnnouncement_44 ?_
      refine lv_iload_n C.1 C.2.1 dX0_hearAnnouncement_47 rfl (lv_at hl 4 rfl) ?_
      obtain ⟨g_48, hf⟩ := gd hf
      refine z_aald C S 26 o1 rfl ho1 24 2 1 (24 * o1) rfl (fun _ => rfl) g_48 dX0_hearAnnouncement_48 ?_
      refine z_getI C S 1 (24 * o1 + (v3).toNatClampNeg) rfl (oc1 ho1 g_48) cf_1 3 (by decide) (gi_1_3 G ad (24 * o1 + (v3).toNatClampNeg)) tw_1_174 dX0_hearAnnouncement_49 ?_
      refine lv_iconst (v := 1) C.1 C.2.1 dX0_hearAnnouncement_52 (by decide) ?_
      refine lv_icmp_ne (tgt := 110) C.1 C.2.1 dX0_hearAnnouncement_53 (by decide) (fun c_53 => ?_) (fun c_53 => ?_)
      · rw [if_neg c_53] at hf
        exact w_X0_hearAnnouncement_110 C _ _ _ _ S (lv_sub hl [] rfl) hf
      · rw [if_pos c_53] at hf
        refine lv_aload C.1 C.2.1 dX0_hearAnnouncement_56 (lv_at hl 0 rfl) ?_
        refine lv_iload_n C.1 C.2.1 dX0_hearAnnouncement_58 rfl (lv_at hl 4 rfl) ?_
        obtain ⟨σ3, q_59, hf⟩ := bvb hf
        refine z_callV C S 2 (4 * o1 + (v2).toNatClampNeg) rfl (oc2 ho1 g_5) cf_2 ⟨_, rfl⟩ [.int v3] (m_X2_dropBids l G ad σ1 (4 * o1 + (v2).toNatClampNeg) v3 σ3 (oc2 ho1 g_5) q_59 _) kv_X2_dropBids tw_7_122 ⟨Nat.le_of_ble_eq_true rfl, Nat.le_of_ble_eq_true rfl⟩ rfl rfl (Nat.le_of_ble_eq_true rfl) hl.1 ⟨Nat.le_of_ble_eq_true rfl, Nat.le_of_ble_eq_true rfl⟩ dX0_hearAnnouncement_59 (fun H locs S => ?_)
        refine lv_aload C.1 C.2.1 dX0_hearAnnouncement_62 (lv_at hl 0 rfl) ?_
        refine z_getR C S 2 (4 * o1 + (v2).toNatClampNeg) rfl (oc2 ho1 g_5) cf_2 10 (by decide) _ (gr_2_10 G ad (4 * o1 + (v2).toNatClampNeg)) tw_1_121 dX0_hearAnnouncement_64 ?_
        refine lv_iload_n C.1 C.2.1 dX0_hearAnnouncement_67 rfl (lv_at hl 4 rfl) ?_
        refine lv_aload_n C.1 C.2.1 dX0_hearAnnouncement_68 rfl (lv_at hl 2 rfl) ?_
        refine lv_iload_n C.1 C.2.1 dX0_hearAnnouncement_69 rfl (lv_at hl 3 rfl) ?_
        refine lv_aload_n C.1 C.2.1 dX0_hearAnnouncement_70 rfl (lv_at hl 2 rfl) ?_
        refine z_getR C S 4 o1 rfl ho1 cf_4 7 (by decide) _ (gr_4_7 G ad o1) tw_2_5 dX0_hearAnnouncement_71 ?_
        refine lv_iload_n C.1 C.2.1 dX0_hearAnnouncement_74 rfl (lv_at hl 4 rfl) ?_
        obtain ⟨g_75, hf⟩ := gd hf
        refine z_aald C S 26 o1 rfl ho1 24 2 1 (24 * o1) rfl (fun _ => rfl) g_75 dX0_hearAnnouncement_75 ?_
        refine z_getI C S 1 (24 * o1 + (v3).toNatClampNeg) rfl (oc1 ho1 g_75) cf_1 0 (by decide) (gi_1_0 G ad (24 * o1 + (v3).toNatClampNeg)) tw_1_163 dX0_hearAnnouncement_76 ?_
        obtain ⟨r5, σ4, q_79, hf⟩ := bib hf
        refine z_callI C S 4 o1 rfl ho1 cf_4 ⟨_, rfl⟩ [.int v2, .int (σ3 1 (24 * o1 + (v3).toNatClampNeg) 0)] (m_X4_costFrom l G ad σ3 o1 v2 (σ3 1 (24 * o1 + (v3).toNatClampNeg) 0) r5 σ4 ho1 q_79 _) kv_X4_costFrom tw_7_123 ⟨Nat.le_of_ble_eq_true rfl, Nat.le_of_ble_eq_true rfl⟩ rfl rfl (Nat.le_of_ble_eq_true rfl) hl.1 ⟨Nat.le_of_ble_eq_true rfl, Nat.le_of_ble_eq_true rfl⟩ dX0_hearAnnouncement_79 (fun H locs S => ?_)
        obtain ⟨g_82, hf⟩ := gd hf
        obtain ⟨σ6, e_82, hf⟩ := stb hf
        refine z_iast C S 16 (4 * o1 + (v2).toNatClampNeg) rfl (oc2 ho1 g_5) 24 (fun _ => rfl) g_82 dX0_hearAnnouncement_82 (fun H locs S => ?_)
        rw [← e_82] at S
        refine lv_aload C.1 C.2.1 dX0_hearAnnouncement_83 (lv_at hl 0 rfl) ?_
        refine z_getR C S 2 (4 * o1 + (v2).toNatClampNeg) rfl (oc2 ho1 g_5) cf_2 11 (by decide) _ (gr_2_11 G ad (4 * o1 + (v2).toNatClampNeg)) tw_1_123 dX0_hearAnnouncement_85 ?_
        refine lv_iload_n C.1 C.2.1 dX0_hearAnnouncement_88 rfl (lv_at hl 4 rfl) ?_
        refine lv_aload_n C.1 C.2.1 dX0_hearAnnouncement_89 rfl (lv_at hl 2 rfl) ?_
        refine z_getI C S 4 o1 rfl ho1 cf_4 3 (by decide) (gi_4_3 G ad o1) tw_1_232 dX0_hearAnnouncement_90 ?_
        refine lv_iconst (v := 2) C.1 C.2.1 dX0_hearAnnouncement_93 (by decide) ?_
        refine lv_iadd C.1 C.2.1 dX0_hearAnnouncement_94 ?_
        obtain ⟨g_95, hf⟩ := gd hf
        obtain ⟨σ7, e_95, hf⟩ := stb hf
        refine z_iast C S 17 (4 * o1 + (v2).toNatClampNeg) rfl (oc2 ho1 g_5) 24 (fun _ => rfl) g_95 dX0_hearAnnouncement_95 (fun H locs S => ?_)
        rw [← e_95] at S
        refine lv_aload_n C.1 C.2.1 dX0_hearAnnouncement_96 rfl (lv_at hl 2 rfl) ?_
        refine lv_iload_n C.1 C.2.1 dX0_hearAnnouncement_97 rfl (lv_at hl 3 rfl) ?_
        refine lv_iconst (v := 1) C.1 C.2.1 dX0_hearAnnouncement_98 (by decide) ?_
        refine lv_iload_n C.1 C.2.1 dX0_hearAnnouncement_99 rfl (lv_at hl 4 rfl) ?_
        refine lv_aload C.1 C.2.1 dX0_hearAnnouncement_100 (lv_at hl 0 rfl) ?_
        refine z_getR C S 2 (4 * o1 + (v2).toNatClampNeg) rfl (oc2 ho1 g_5) cf_2 10 (by decide) _ (gr_2_10 G ad (4 * o1 + (v2).toNatClampNeg)) tw_1_121 dX0_hearAnnouncement_102 ?_
        refine lv_iload_n C.1 C.2.1 dX0_hearAnnouncement_105 rfl (lv_at hl 4 rfl) ?_
        obtain ⟨g_106, hf⟩ := gd hf
        refine z_iald C S 16 (4 * o1 + (v2).toNatClampNeg) rfl (oc2 ho1 g_5) 24 (fun _ => rfl) g_106 dX0_hearAnnouncement_106 ?_
        obtain ⟨σ8, q_107, hf⟩ := bvb hf
        refine z_callV C S 4 o1 rfl ho1 cf_4 ⟨_, rfl⟩ [.int v2, .int 1, .int v3, .int (σ7 16 (4 * o1 + (v2).toNatClampNeg) (v3).toNatClampNeg)] (m_X4_send l G ad σ7 o1 v2 1 v3 (σ7 16 (4 * o1 + (v2).toNatClampNeg) (v3).toNatClampNeg) σ8 ho1 q_107 _) kv_X4_send tw_7_88 ⟨Nat.le_of_ble_eq_true rfl, Nat.le_of_ble_eq_true rfl⟩ rfl rfl (Nat.le_of_ble_eq_true rfl) hl.1 ⟨Nat.le_of_ble_eq_true rfl, Nat.le_of_ble_eq_true rfl⟩ dX0_hearAnnouncement_107 (fun H locs S => ?_)
        exact w_X0_hearAnnouncement_110 C _ _ _ _ S (lv_sub hl [] rfl) hf
    · rw [if_neg c_23] at hf
      refine lv_aload_n C.1 C.2.1 dX0_hearAnnouncement_26 rfl (lv_at hl 2 rfl) ?_
      refine lv_iload_n C.1 C.2.1 dX0_hearAnnouncement_27 rfl (lv_at hl 3 rfl) ?_
      refine lv_iconst (v := 2) C.1 C.2.1 dX0_hearAnnouncement_28 (by decide) ?_
      refine lv_iload_n C.1 C.2.1 dX0_hearAnnouncement_29 rfl (lv_at hl 4 rfl) ?_
      refine lv_aload C.1 C.2.1 dX0_hearAnnouncement_30 (lv_at hl 0 rfl) ?_
      refine z_getR C S 2 (4 * o1 + (v2).toNatClampNeg) rfl (oc2 ho1 g_5) cf_2 10 (by decide) _ (gr_2_10 G ad (4 * o1 + (v2).toNatClampNeg)) tw_1_121 dX0_hearAnnouncement_32 ?_
      refine lv_iload_n C.1 C.2.1 dX0_hearAnnouncement_35 rfl (lv_at hl 4 rfl) ?_
      obtain ⟨g_36, hf⟩ := gd hf
      refine z_iald C S 16 (4 * o1 + (v2).toNatClampNeg) rfl (oc2 ho1 g_5) 24 (fun _ => rfl) g_36 dX0_hearAnnouncement_36 ?_
      obtain ⟨σ9, q_37, hf⟩ := bvb hf
      refine z_callV C S 4 o1 rfl ho1 cf_4 ⟨_, rfl⟩ [.int v2, .int 2, .int v3, .int (σ1 16 (4 * o1 + (v2).toNatClampNeg) (v3).toNatClampNeg)] (m_X4_send l G ad σ1 o1 v2 2 v3 (σ1 16 (4 * o1 + (v2).toNatClampNeg) (v3).toNatClampNeg) σ9 ho1 q_37 _) kv_X4_send tw_7_88 ⟨Nat.le_of_ble_eq_true rfl, Nat.le_of_ble_eq_true rfl⟩ rfl rfl (Nat.le_of_ble_eq_true rfl) hl.1 ⟨Nat.le_of_ble_eq_true rfl, Nat.le_of_ble_eq_true rfl⟩ dX0_hearAnnouncement_37 (fun H locs S => ?_)
      refine lv_goto (tgt := 110) C.1 C.2.1 dX0_hearAnnouncement_40 (by decide) ?_
      exact w_X0_hearAnnouncement_110 C _ _ _ _ S (lv_sub hl [] rfl) hf
  · rw [if_neg c_13] at hf
    exact z_vret C S hf dX0_hearAnnouncement_16
theorem kv_X0_hearAnnouncement : KV yX0_hearAnnouncement cX0_hearAnnouncement 5 none 3 := ⟨tw_7_120, tw_7_119, tw_p_43, tw_1_17, by decide, by decide, by decide +kernel⟩
theorem m_X0_hearAnnouncement (l : Launch) (G : Gx) (ad : Ad) (σ : Sg) (o1 : Nat) (v2 : Int32) (v3 : Int32) (σ' : Sg) (ho1 : o1 < z_cnt 4) (hf : f_X0_hearAnnouncement σ o1 v2 v3 = some σ') (sz : Nat) : z_MV l yX0_hearAnnouncement cX0_hearAnnouncement 5 none 2 48 0 G ad σ sz [.ref (ad 0 0), .ref (ad 4 o1), .int v2, .int v3] σ' := by
  refine z_begin (by decide +kernel) (Nat.le_of_ble_eq_true rfl) [(0, .ref (ad 0 0)), (1, .ref (ad 4 o1)), (2, .int v2), (3, .int v3)] rfl (fun p e s m args below meth c ls C hz S hl => ?_)
  subst hz
  exact w_X0_hearAnnouncement_0 (res := σ') C σ o1 v2 v3 _ _ _ S hl ho1 hf

theorem dX0_isBefore_0 : decode cX0_isBefore 0 = .ok (.iload_n 0, 1) := by decide +kernel
theorem dX0_isBefore_1 : decode cX0_isBefore 1 = .ok (.iload_n 2, 1) := by decide +kernel
theorem dX0_isBefore_2 : decode cX0_isBefore 2 = .ok (.if_icmp .lt 13, 3) := by decide +kernel
theorem dX0_isBefore_5 : decode cX0_isBefore 5 = .ok (.iload_n 0, 1) := by decide +kernel
theorem dX0_isBefore_6 : decode cX0_isBefore 6 = .ok (.iload_n 2, 1) := by decide +kernel
theorem dX0_isBefore_7 : decode cX0_isBefore 7 = .ok (.if_icmp .ne 12, 3) := by decide +kernel
theorem dX0_isBefore_10 : decode cX0_isBefore 10 = .ok (.iload_n 1, 1) := by decide +kernel
theorem dX0_isBefore_11 : decode cX0_isBefore 11 = .ok (.iload_n 3, 1) := by decide +kernel
theorem dX0_isBefore_12 : decode cX0_isBefore 12 = .ok (.if_icmp .ge 7, 3) := by decide +kernel
theorem dX0_isBefore_15 : decode cX0_isBefore 15 = .ok (.iconst 1, 1) := by decide +kernel
theorem dX0_isBefore_16 : decode cX0_isBefore 16 = .ok (.goto 4, 3) := by decide +kernel
theorem dX0_isBefore_19 : decode cX0_isBefore 19 = .ok (.iconst 0, 1) := by decide +kernel
theorem dX0_isBefore_20 : decode cX0_isBefore 20 = .ok (.ireturn, 1) := by decide +kernel
/-! BusLifts$Bus.isBefore(IIII)Z -/
noncomputable def f_X0_isBefore_20  (σ : Sg) (v100 : Int32) : Option (Int32 × Sg) := if ¬ (v100 = 0 ∨ v100 = 1) then none else (some (v100, σ))
noncomputable def f_X0_isBefore_15  (σ : Sg)  : Option (Int32 × Sg) := f_X0_isBefore_20 σ 1
noncomputable def f_X0_isBefore_19  (σ : Sg)  : Option (Int32 × Sg) := f_X0_isBefore_20 σ 0
noncomputable def f_X0_isBefore  (σ : Sg) (v0 : Int32) (v1 : Int32) (v2 : Int32) (v3 : Int32) : Option (Int32 × Sg) := if v0 < v2 then (f_X0_isBefore_15 σ) else (if v0 = v2 then (if v3 ≤ v1 then (f_X0_isBefore_19 σ) else (f_X0_isBefore_15 σ)) else (f_X0_isBefore_19 σ))
set_option maxHeartbeats 4000000 in
set_option maxRecDepth 100000 in
theorem w_X0_isBefore_20 {p : Program} {l : Launch} {e : Env} {s : State} {m : MethodId} {args : Array Value} {below : List Frame} {meth : Method} {c : Code} {G : Gx} {ad : Ad} {res : Int32 × Sg} (C : Cx p s m args meth c yX0_isBefore.cls cX0_isBefore 4 (Option.some FieldType.boolean) G)  : ∀ (σ : Sg) (v100 : Int32) (H : Heap) (locs : List Loc) (ls : Array Slot), z_S 0 G ad σ (z_A 0 ad s.heap.size) s.heap H locs → lv_has ls 4 [] → f_X0_isBefore_20  σ v100 = some res → W p l e { frames := 0, cells := 0, slots := 0, locals := 0 } s m args below meth c H locs 0 0 (MQ below (va_Qi (S := Unit) (fun r1 _ => r1 = res.1) (fun _ t => z_W 0 G ad res.2 t.heap) (z_A 0 ad s.heap.size)) args s 0 0 (z_A 0 ad s.heap.size)) (F0 m 20 ls [.int v100]) := by
  intro σ v100 H locs ls S hl  hf
  unfold f_X0_isBefore_20 at hf
  obtain ⟨g_20, hf⟩ := gd hf
  exact z_zret C S (nbz g_20).1 hf dX0_isBefore_20
set_option maxHeartbeats 4000000 in
set_option maxRecDepth 100000 in
theorem w_X0_isBefore_15 {p : Program} {l : Launch} {e : Env} {s : State} {m : MethodId} {args : Array Value} {below : List Frame} {meth : Method} {c : Code} {G : Gx} {ad : Ad} {res : Int32 × Sg} (C : Cx p s m args meth c yX0_isBefore.cls cX0_isBefore 4 (Option.some FieldType.boolean) G)  : ∀ (σ : Sg)  (H : Heap) (locs : List Loc) (ls : Array Slot), z_S 0 G ad σ (z_A 0 ad s.heap.size) s.heap H locs → lv_has ls 4 [] → f_X0_isBefore_15  σ  = some res → W p l e { frames := 0, cells := 0, slots := 0, locals := 0 } s m args below meth c H locs 0 0 (MQ below (va_Qi (S := Unit) (fun r1 _ => r1 = res.1) (fun _ t => z_W 0 G ad res.2 t.heap) (z_A 0 ad s.heap.size)) args s 0 0 (z_A 0 ad s.heap.size)) (F0 m 15 ls []) := by
  intro σ  H locs ls S hl  hf
  unfold f_X0_isBefore_15 at hf
  refine lv_iconst (v := 1) C.1 C.2.1 dX0_isBefore_15 (by decide) ?_
  refine lv_goto (tgt := 20) C.1 C.2.1 dX0_isBefore_16 (by decide) ?_
  exact w_X0_isBefore_20 C _ 1 _ _ _ S (lv_sub hl [] rfl) hf
set_option maxHeartbeats 4000000 in
set_option maxRecDepth 100000 in
theorem w_X0_isBefore_19 {p : Program} {l : Launch} {e : Env} {s : State} {m : MethodId} {args : Array Value} {below : List Frame} {meth : Method} {c : Code} {G : Gx} {ad : Ad} {res : Int32 × Sg} (C : Cx p s m args meth c yX0_isBefore.cls cX0_isBefore 4 (Option.some FieldType.boolean) G)  : ∀ (σ : Sg)  (H : Heap) (locs : List Loc) (ls : Array Slot), z_S 0 G ad σ (z_A 0 ad s.heap.size) s.heap H locs → lv_has ls 4 [] → f_X0_isBefore_19  σ  = some res → W p l e { frames := 0, cells := 0, slots := 0, locals := 0 } s m args below meth c H locs 0 0 (MQ below (va_Qi (S := Unit) (fun r1 _ => r1 = res.1) (fun _ t => z_W 0 G ad res.2 t.heap) (z_A 0 ad s.heap.size)) args s 0 0 (z_A 0 ad s.heap.size)) (F0 m 19 ls []) := by
  intro σ  H locs ls S hl  hf
  unfold f_X0_isBefore_19 at hf
  refine lv_iconst (v := 0) C.1 C.2.1 dX0_isBefore_19 (by decide) ?_
  exact w_X0_isBefore_20 C _ 0 _ _ _ S (lv_sub hl [] rfl) hf
set_option maxHeartbeats 4000000 in
set_option maxRecDepth 100000 in
theorem w_X0_isBefore_0 {p : Program} {l : Launch} {e : Env} {s : State} {m : MethodId} {args : Array Value} {below : List Frame} {meth : Method} {c : Code} {G : Gx} {ad : Ad} {res : Int32 × Sg} (C : Cx p s m args meth c yX0_isBefore.cls cX0_isBefore 4 (Option.some FieldType.boolean) G)  : ∀ (σ : Sg) (v0 : Int32) (v1 : Int32) (v2 : Int32) (v3 : Int32) (H : Heap) (locs : List Loc) (ls : Array Slot), z_S 0 G ad σ (z_A 0 ad s.heap.size) s.heap H locs → lv_has ls 4 [(0, .int v0), (1, .int v1), (2, .int v2), (3, .int v3)] → f_X0_isBefore  σ v0 v1 v2 v3 = some res → W p l e { frames := 0, cells := 0, slots := 0, locals := 0 } s m args below meth c H locs 0 0 (MQ below (va_Qi (S := Unit) (fun r1 _ => r1 = res.1) (fun _ t => z_W 0 G ad res.2 t.heap) (z_A 0 ad s.heap.size)) args s 0 0 (z_A 0 ad s.heap.size)) (F0 m 0 ls []) := by
  intro σ v0 v1 v2 v3 H locs ls S hl  hf
  unfold f_X0_isBefore at hf
  refine lv_iload_n C.1 C.2.1 dX0_isBefore_0 rfl (lv_at hl 0 rfl) ?_
  refine lv_iload_n C.1 C.2.1 dX0_isBefore_1 rfl (lv_at hl 2 rfl) ?_
  refine lv_icmp_lt (tgt := 15) C.1 C.2.1 dX0_isBefore_2 (by decide) (fun c_2 => ?_) (fun c_2 => ?_)
  · rw [if_pos c_2] at hf
    exact w_X0_isBefore_15 C _ _ _ _ S (lv_sub hl [] rfl) hf
  · rw [if_neg c_2] at hf
    refine lv_iload_n C.1 C.2.1 dX0_isBefore_5 rfl (lv_at hl 0 rfl) ?_
    refine lv_iload_n C.1 C.2.1 dX0_isBefore_6 rfl (lv_at hl 2 rfl) ?_
    refine lv_icmp_ne (tgt := 19) C.1 C.2.1 dX0_isBefore_7 (by decide) (fun c_7 => ?_) (fun c_7 => ?_)
    · rw [if_neg c_7] at hf
      exact w_X0_isBefore_19 C _ _ _ _ S (lv_sub hl [] rfl) hf
    · rw [if_pos c_7] at hf
      refine lv_iload_n C.1 C.2.1 dX0_isBefore_10 rfl (lv_at hl 1 rfl) ?_
      refine lv_iload_n C.1 C.2.1 dX0_isBefore_11 rfl (lv_at hl 3 rfl) ?_
      refine lv_icmp_ge (tgt := 19) C.1 C.2.1 dX0_isBefore_12 (by decide) (fun c_12 => ?_) (fun c_12 => ?_)
      · rw [if_pos c_12] at hf
        exact w_X0_isBefore_19 C _ _ _ _ S (lv_sub hl [] rfl) hf
      · rw [if_neg c_12] at hf
        exact w_X0_isBefore_15 C _ _ _ _ S (lv_sub hl [] rfl) hf
theorem kv_X0_isBefore : KS yX0_isBefore cX0_isBefore 4 (Option.some FieldType.boolean) 4 := ⟨tw_7_131, tw_7_130, tw_1_17, by decide, by decide, by decide +kernel⟩
theorem m_X0_isBefore (l : Launch) (G : Gx) (ad : Ad) (σ : Sg) (v0 : Int32) (v1 : Int32) (v2 : Int32) (v3 : Int32) (r : Int32) (σ' : Sg)  (hf : f_X0_isBefore σ v0 v1 v2 v3 = some (r, σ')) (sz : Nat) : z_MI l yX0_isBefore cX0_isBefore 4 (Option.some FieldType.boolean) 0 0 0 G ad σ sz [.int v0, .int v1, .int v2, .int v3] r σ' := by
  refine z_begin (by decide +kernel) (Nat.le_of_ble_eq_true rfl) [(0, .int v0), (1, .int v1), (2, .int v2), (3, .int v3)] rfl (fun p e s m args below meth c ls C hz S hl => ?_)
  subst hz
  exact w_X0_isBefore_0 (res := (r, σ')) C σ v0 v1 v2 v3 _ _ _ S hl  hf

theorem dX0_hearClaim_0 : decode cX0_hearClaim 0 = .ok (.aload_n 1, 1) := by decide +kernel
theorem dX0_hearClaim_1 : decode cX0_hearClaim 1 = .ok (.getfield 105, 3) := by decide +kernel
theorem dX0_hearClaim_4 : decode cX0_hearClaim 4 = .ok (.iload_n 3, 1) := by decide +kernel
theorem dX0_hearClaim_5 : decode cX0_hearClaim 5 = .ok (.aaload, 1) := by decide +kernel
theorem dX0_hearClaim_6 : decode cX0_hearClaim 6 = .ok (.astore 4, 2) := by decide +kernel
theorem dX0_hearClaim_8 : decode cX0_hearClaim 8 = .ok (.aload_n 0, 1) := by decide +kernel
theorem dX0_hearClaim_9 : decode cX0_hearClaim 9 = .ok (.getfield 12, 3) := by decide +kernel
theorem dX0_hearClaim_12 : decode cX0_hearClaim 12 = .ok (.getfield 96, 3) := by decide +kernel
theorem dX0_hearClaim_15 : decode cX0_hearClaim 15 = .ok (.iload_n 2, 1) := by decide +kernel
theorem dX0_hearClaim_16 : decode cX0_hearClaim 16 = .ok (.iaload, 1) := by decide +kernel
theorem dX0_hearClaim_17 : decode cX0_hearClaim 17 = .ok (.istore 5, 2) := by decide +kernel
theorem dX0_hearClaim_19 : decode cX0_hearClaim 19 = .ok (.aload 4, 2) := by decide +kernel
theorem dX0_hearClaim_21 : decode cX0_hearClaim 21 = .ok (.getfield 171, 3) := by decide +kernel
theorem dX0_hearClaim_24 : decode cX0_hearClaim 24 = .ok (.iload 5, 2) := by decide +kernel
theorem dX0_hearClaim_26 : decode cX0_hearClaim 26 = .ok (.iconst (-1), 1) := by decide +kernel
theorem dX0_hearClaim_27 : decode cX0_hearClaim 27 = .ok (.iastore, 1) := by decide +kernel
theorem dX0_hearClaim_28 : decode cX0_hearClaim 28 = .ok (.aload_n 0, 1) := by decide +kernel
theorem dX0_hearClaim_29 : decode cX0_hearClaim 29 = .ok (.getfield 12, 3) := by decide +kernel
theorem dX0_hearClaim_32 : decode cX0_hearClaim 32 = .ok (.getfield 117, 3) := by decide +kernel
theorem dX0_hearClaim_35 : decode cX0_hearClaim 35 = .ok (.iload_n 2, 1) := by decide +kernel
theorem dX0_hearClaim_36 : decode cX0_hearClaim 36 = .ok (.iaload, 1) := by decide +kernel
theorem dX0_hearClaim_37 : decode cX0_hearClaim 37 = .ok (.aload_n 0, 1) := by decide +kernel
theorem dX0_hearClaim_38 : decode cX0_hearClaim 38 = .ok (.getfield 12, 3) := by decide +kernel
theorem dX0_hearClaim_41 : decode cX0_hearClaim 41 = .ok (.getfield 85, 3) := by decide +kernel
theorem dX0_hearClaim_44 : decode cX0_hearClaim 44 = .ok (.iload_n 2, 1) := by decide +kernel
theorem dX0_hearClaim_45 : decode cX0_hearClaim 45 = .ok (.iaload, 1) := by decide +kernel
theorem dX0_hearClaim_46 : decode cX0_hearClaim 46 = .ok (.aload 4, 2) := by decide +kernel
theorem dX0_hearClaim_48 : decode cX0_hearClaim 48 = .ok (.getfield 158, 3) := by decide +kernel
theorem dX0_hearClaim_51 : decode cX0_hearClaim 51 = .ok (.iload 5, 2) := by decide +kernel
theorem dX0_hearClaim_53 : decode cX0_hearClaim 53 = .ok (.iaload, 1) := by decide +kernel
theorem dX0_hearClaim_54 : decode cX0_hearClaim 54 = .ok (.iload_n 3, 1) := by decide +kernel
theorem dX0_hearClaim_55 : decode cX0_hearClaim 55 = .ok (.invokestatic 174, 3) := by decide +kernel
theorem dX0_hearClaim_58 : decode cX0_hearClaim 58 = .ok (.ifCond .eq 10, 3) := by decide +kernel
theorem dX0_hearClaim_61 : decode cX0_hearClaim 61 = .ok (.aload 4, 2) := by decide +kernel
theorem dX0_hearClaim_63 : decode cX0_hearClaim 63 = .ok (.iload 5, 2) := by decide +kernel
theorem dX0_hearClaim_65 : decode cX0_hearClaim 65 = .ok (.invokevirtual 178, 3) := by decide +kernel
theorem dX0_hearClaim_68 : decode cX0_hearClaim 68 = .ok (.return_, 1) := by decide +kernel
/-! BusLifts$Bus.hearClaim(LBusLifts$Lifts;II)V -/
noncomputable def f_X0_hearClaim_68  (σ : Sg)  : Option Sg := some σ
noncomputable def f_X0_hearClaim  (σ : Sg) (o1 : Nat) (v2 : Int32) (v3 : Int32) : Option Sg := if v3 < 0 ∨ 4 ≤ (v3).toNatClampNeg then none else (if v2 < 0 ∨ 240 ≤ (v2).toNatClampNeg then none else (if (σ 22 13 (v2).toNatClampNeg) < 0 ∨ 24 ≤ ((σ 22 13 (v2).toNatClampNeg)).toNatClampNeg then none else (st (sup σ 17 (4 * o1 + (v3).toNatClampNeg) ((σ 22 13 (v2).toNatClampNeg)).toNatClampNeg (-1)) fun σ1 => (if v2 < 0 ∨ 240 ≤ (v2).toNatClampNeg then none else (if v2 < 0 ∨ 240 ≤ (v2).toNatClampNeg then none else (if (σ 22 13 (v2).toNatClampNeg) < 0 ∨ 24 ≤ ((σ 22 13 (v2).toNatClampNeg)).toNatClampNeg then none else (bi (f_X0_isBefore σ1 (σ1 23 13 (v2).toNatClampNeg) (σ1 20 13 (v2).toNatClampNeg) (σ1 16 (4 * o1 + (v3).toNatClampNeg) ((σ 22 13 (v2).toNatClampNeg)).toNatClampNeg) v3) fun r3 σ2 => (if r3 = 0 then (f_X0_hearClaim_68 σ2) else (bv (f_X2_dropCall σ2 (4 * o1 + (v3).toNatClampNeg) (σ 22 13 (v2).toNatClampNeg)) fun σ4 => (f_X0_hearClaim_68 σ4))))))))))
set_option maxHeartbeats 4000000 in
set_option maxRecDepth 100000 in
theorem w_X0_hearClaim_68 {p : Program} {l : Launch} {e : Env} {s : State} {m : MethodId} {args : Array Value} {below : List Frame} {meth : Method} {c : Code} {G : Gx} {ad : Ad} {res : Sg} (C : Cx p s m args meth c yX0_hearClaim.cls cX0_hearClaim 6 none G)  : ∀ (σ : Sg)  (H : Heap) (locs : List Loc) (ls : Array Slot), z_S 0 G ad σ (z_A 0 ad s.heap.size) s.heap H locs → lv_has ls 6 [] → f_X0_hearClaim_68  σ  = some res → W p l e { frames := 1, cells := 0, slots := 0, locals := 23 } s m args below meth c H locs 0 0 (MQ below (va_Qv (S := Unit) (fun _ => True) (fun _ t => z_W 0 G ad res t.heap) (z_A 0 ad s.heap.size)) args s 0 0 (z_A 0 ad s.heap.size)) (F0 m 68 ls []) := by
  intro σ  H locs ls S hl  hf
  unfold f_X0_hearClaim_68 at hf
  exact z_vret C S hf dX0_hearClaim_68
set_option maxHeartbeats 4000000 in
set_option maxRecDepth 100000 in
theorem w_X0_hearClaim_0 {p : Program} {l : Launch} {e : Env} {s : State} {m : MethodId} {args : Array Value} {below : List Frame} {meth : Method} {c : Code} {G : Gx} {ad : Ad} {res : Sg} (C : Cx p s m args meth c yX0_hearClaim.cls cX0_hearClaim 6 none G)  : ∀ (σ : Sg) (o1 : Nat) (v2 : Int32) (v3 : Int32) (H : Heap) (locs : List Loc) (ls : Array Slot), z_S 0 G ad σ (z_A 0 ad s.heap.size) s.heap H locs → lv_has ls 6 [(0, .ref (ad 0 0)), (1, .ref (ad 4 o1)), (2, .int v2), (3, .int v3)] → (o1 < z_cnt 4) → f_X0_hearClaim  σ o1 v2 v3 = some res → W p l e { frames := 1, cells := 0, slots := 0, locals := 23 } s m args below meth c H locs 0 0 (MQ below (va_Qv (S := Unit) (fun _ => True) (fun _ t => z_W 0 G ad res t.heap) (z_A 0 ad s.heap.size)) args s 0 0 (z_A 0 ad s.heap.size)) (F0 m 0 ls []) := by
  intro σ o1 v2 v3 H locs ls S hl ho1 hf
  unfold f_X0_hearClaim at hf
  refine lv_aload_n C.1 C.2.1 dX0_hearClaim_0 rfl (lv_at hl 1 rfl) ?_
  refine z_getR C S 4 o1 rfl ho1 cf_4 6 (by decide) _ (gr_4_6 G ad o1) tw_2_2 dX0_hearClaim_1 ?_
  refine lv_iload_n C.1 C.2.1 dX0_hearClaim_4 rfl (lv_at hl 3 rfl) ?_
  obtain ⟨g_5, hf⟩ := gd hf
  refine z_aald C S 25 o1 rfl ho1 4 1 2 (4 * o1) rfl (fun _ => rfl) g_5 dX0_hearClaim_5 ?_
  refine lv_astore (lv' := [(4, .ref (ad 2 (4 * o1 + (v3).toNatClampNeg))), (0, .ref (ad 0 0)), (1, .ref (ad 4 o1)), (2, .int v2), (3, .int v3)]) C.1 C.2.1 dX0_hearClaim_6 hl (by decide) rfl (fun ls hl => ?_)
  refine lv_aload_n C.1 C.2.1 dX0_hearClaim_8 rfl (lv_at hl 1 rfl) ?_
  refine z_getR C S 0 0 rfl (by decide) cf_0 0 (by decide) _ (gr_0_0 G ad 0) tw_2_71 dX0_hearClaim_9 ?_
  refine z_getR C S 5 13 rfl (by decide) cf_5 3 (by decide) _ (gr_5_3 G ad 13) tw_1_68 dX0_hearClaim_12 ?_
  refine lv_iload_n C.1 C.2.1 dX0_hearClaim_15 rfl (lv_at hl 3 rfl) ?_
  obtain ⟨g_16, hf⟩ := gd hf
  refine z_iald C S 22 13 rfl (by decide) 240 (fun _ => rfl) g_16 dX0_hearClaim_16 ?_
  refine lv_istore (lv' := [(5, .int (σ 22 13 (v2).toNatClampNeg)), (4, .ref (ad 2 (4 * o1 + (v3).toNatClampNeg))), (0, .ref (ad 0 0)), (1, .ref (ad 4 o1)), (2, .int v2), (3, .int v3)]) C.1 C.2.1 dX0_hearClaim_17 hl (by decide) rfl (fun ls hl => ?_)
  refine lv_aload C.1 C.2.1 dX0_hearClaim_19 (lv_at hl 1 rfl) ?_
  refine z_getR C S 2 (4 * o1 + (v3).toNatClampNeg) rfl (oc2 ho1 g_5) cf_2 11 (by decide) _ (gr_2_11 G ad (4 * o1 + (v3).toNatClampNeg)) tw_1_123 dX0_hearClaim_21 ?_
  refine lv_iload C.1 C.2.1 dX0_hearClaim_24 (lv_at hl 0 rfl) ?_
  refine lv_iconst (v := (-1)) C.1 C.2.1 dX0_hearClaim_26 (by decide) ?_
  obtain ⟨g_27, hf⟩ := gd hf
  obtain ⟨σ1, e_27, hf⟩ := stb hf
  refine z_iast C S 17 (4 * o1 + (v3).toNatClampNeg) rfl (oc2 ho1 g_5) 24 (fun _ => rfl) g_27 dX0_hearClaim_27 (fun H locs S => ?_)
  rw [← e_27] at S
  refine lv_aload_n C.1 C.2.1 dX0_hearClaim_28 rfl (lv_at hl 2 rfl) ?_
  refine z_getR C S 0 0 rfl (by decide) cf_0 0 (by decide) _ (gr_0_0 G ad 0) tw_2_71 dX0_hearClaim_29 ?_
  refine z_getR C S 5 13 rfl (by decide) cf_5 4 (by decide) _ (gr_5_4 G ad 13) tw_1_70 dX0_hearClaim_32 ?_
  refine lv_iload_n C.1 C.2.1 dX0_hearClaim_35 rfl (lv_at hl 4 rfl) ?_
  obtain ⟨g_36, hf⟩ := gd hf
  refine z_iald C S 23 13 rfl (by decide) 240 (fun _ => rfl) g_36 dX0_hearClaim_36 ?_
  refine lv_aload_n C.1 C.2.1 dX0_hearClaim_37 rfl (lv_at hl 2 rfl) ?_
  refine z_getR C S 0 0 rfl (by decide) cf_0 0 (by decide) _ (gr_0_0 G ad 0) tw_2_71 dX0_hearClaim_38 ?_
  refine z_getR C S 5 13 rfl (by decide) cf_5 1 (by decide) _ (gr_5_1 G ad 13) tw_1_64 dX0_hearClaim_41 ?_
  refine lv_iload_n C.1 C.2.1 dX0_hearClaim_44 rfl (lv_at hl 4 rfl) ?_
  obtain ⟨g_45, hf⟩ := gd hf
  refine z_iald C S 20 13 rfl (by decide) 240 (fun _ => rfl) g_45 dX0_hearClaim_45 ?_
  refine lv_aload C.1 C.2.1 dX0_hearClaim_46 (lv_at hl 1 rfl) ?_
  refine z_getR C S 2 (4 * o1 + (v3).toNatClampNeg) rfl (oc2 ho1 g_5) cf_2 10 (by decide) _ (gr_2_10 G ad (4 * o1 + (v3).toNatClampNeg)) tw_1_121 dX0_hearClaim_48 ?_
  refine lv_iload C.1 C.2.1 dX0_hearClaim_51 (lv_at hl 0 rfl) ?_
  obtain ⟨g_53, hf⟩ := gd hf
  refine z_iald C S 16 (4 * o1 + (v3).toNatClampNeg) rfl (oc2 ho1 g_5) 24 (fun _ => rfl) g_53 dX0_hearClaim_53 ?_
  refine lv_iload_n C.1 C.2.1 dX0_hearClaim_54 rfl (lv_at hl 5 rfl) ?_
  obtain ⟨r3, σ2, q_55, hf⟩ := bib hf
  refine z_callSI C S [.int (σ1 23 13 (v2).toNatClampNeg), .int (σ1 20 13 (v2).toNatClampNeg), .int (σ1 16 (4 * o1 + (v3).toNatClampNeg) ((σ 22 13 (v2).toNatClampNeg)).toNatClampNeg), .int v3] (m_X0_isBefore l G ad σ1 (σ1 23 13 (v2).toNatClampNeg) (σ1 20 13 (v2).toNatClampNeg) (σ1 16 (4 * o1 + (v3).toNatClampNeg) ((σ 22 13 (v2).toNatClampNeg)).toNatClampNeg) v3 r3 σ2 q_55 _) kv_X0_isBefore tw_7_129 ⟨Nat.le_of_ble_eq_true rfl, Nat.le_of_ble_eq_true rfl⟩ rfl rfl (Nat.le_of_ble_eq_true rfl) hl.1 ⟨Nat.le_of_ble_eq_true rfl, Nat.le_of_ble_eq_true rfl⟩ dX0_hearClaim_55 (fun H locs S => ?_)
  refine lv_if_eq (tgt := 68) C.1 C.2.1 dX0_hearClaim_58 (by decide) (fun c_58 => ?_) (fun c_58 => ?_)
  · rw [if_pos c_58] at hf
    exact w_X0_hearClaim_68 C _ _ _ _ S (lv_sub hl [] rfl) hf
  · rw [if_neg c_58] at hf
    refine lv_aload C.1 C.2.1 dX0_hearClaim_61 (lv_at hl 1 rfl) ?_
    refine lv_iload C.1 C.2.1 dX0_hearClaim_63 (lv_at hl 0 rfl) ?_
    obtain ⟨σ4, q_65, hf⟩ := bvb hf
    refine z_callV C S 2 (4 * o1 + (v3).toNatClampNeg) rfl (oc2 ho1 g_5) cf_2 ⟨_, rfl⟩ [.int (σ 22 13 (v2).toNatClampNeg)] (m_X2_dropCall l G ad σ2 (4 * o1 + (v3).toNatClampNeg) (σ 22 13 (v2).toNatClampNeg) σ4 (oc2 ho1 g_5) q_65 _) kv_X2_dropCall tw_7_132 ⟨Nat.le_of_ble_eq_true rfl, Nat.le_of_ble_eq_true rfl⟩ rfl rfl (Nat.le_of_ble_eq_true rfl) hl.1 ⟨Nat.le_of_ble_eq_true rfl, Nat.le_of_ble_eq_true rfl⟩ dX0_hearClaim_65 (fun H locs S => ?_)
    exact w_X0_hearClaim_68 C _ _ _ _ S (lv_sub hl [] rfl) hf
theorem kv_X0_hearClaim : KV yX0_hearClaim cX0_hearClaim 6 none 3 := ⟨tw_7_128, tw_7_127, tw_p_44, tw_1_17, by decide, by decide, by decide +kernel⟩
theorem m_X0_hearClaim (l : Launch) (G : Gx) (ad : Ad) (σ : Sg) (o1 : Nat) (v2 : Int32) (v3 : Int32) (σ' : Sg) (ho1 : o1 < z_cnt 4) (hf : f_X0_hearClaim σ o1 v2 v3 = some σ') (sz : Nat) : z_MV l yX0_hearClaim cX0_hearClaim 6 none 1 23 0 G ad σ sz [.ref (ad 0 0), .ref (ad 4 o1), .int v2, .int v3] σ' := by
  refine z_begin (by decide +kernel) (Nat.le_of_ble_eq_true rfl) [(0, .ref (ad 0 0)), (1, .ref (ad 4 o1)), (2, .int v2), (3, .int v3)] rfl (fun p e s m args below meth c ls C hz S hl => ?_)
  subst hz
  exact w_X0_hearClaim_0 (res := σ') C σ o1 v2 v3 _ _ _ S hl ho1 hf

theorem dX0_deliverToCar_0 : decode cX0_deliverToCar 0 = .ok (.aload_n 0, 1) := by decide +kernel
theorem dX0_deliverToCar_1 : decode cX0_deliverToCar 1 = .ok (.getfield 12, 3) := by decide +kernel
theorem dX0_deliverToCar_4 : decode cX0_deliverToCar 4 = .ok (.getfield 96, 3) := by decide +kernel
theorem dX0_deliverToCar_7 : decode cX0_deliverToCar 7 = .ok (.iload_n 2, 1) := by decide +kernel
theorem dX0_deliverToCar_8 : decode cX0_deliverToCar 8 = .ok (.iaload, 1) := by decide +kernel
theorem dX0_deliverToCar_9 : decode cX0_deliverToCar 9 = .ok (.istore 4, 2) := by decide +kernel
theorem dX0_deliverToCar_11 : decode cX0_deliverToCar 11 = .ok (.aload_n 0, 1) := by decide +kernel
theorem dX0_deliverToCar_12 : decode cX0_deliverToCar 12 = .ok (.getfield 12, 3) := by decide +kernel
theorem dX0_deliverToCar_15 : decode cX0_deliverToCar 15 = .ok (.getfield 98, 3) := by decide +kernel
theorem dX0_deliverToCar_18 : decode cX0_deliverToCar 18 = .ok (.iload_n 2, 1) := by decide +kernel
theorem dX0_deliverToCar_19 : decode cX0_deliverToCar 19 = .ok (.iaload, 1) := by decide +kernel
theorem dX0_deliverToCar_20 : decode cX0_deliverToCar 20 = .ok (.istore 5, 2) := by decide +kernel
theorem dX0_deliverToCar_22 : decode cX0_deliverToCar 22 = .ok (.aload_n 0, 1) := by decide +kernel
theorem dX0_deliverToCar_23 : decode cX0_deliverToCar 23 = .ok (.aload_n 1, 1) := by decide +kernel
theorem dX0_deliverToCar_24 : decode cX0_deliverToCar 24 = .ok (.iload_n 2, 1) := by decide +kernel
theorem dX0_deliverToCar_25 : decode cX0_deliverToCar 25 = .ok (.iload_n 3, 1) := by decide +kernel
theorem dX0_deliverToCar_26 : decode cX0_deliverToCar 26 = .ok (.invokevirtual 101, 3) := by decide +kernel
theorem dX0_deliverToCar_29 : decode cX0_deliverToCar 29 = .ok (.ifCond .eq 23, 3) := by decide +kernel
theorem dX0_deliverToCar_32 : decode cX0_deliverToCar 32 = .ok (.aload_n 1, 1) := by decide +kernel
theorem dX0_deliverToCar_33 : decode cX0_deliverToCar 33 = .ok (.getfield 105, 3) := by decide +kernel
theorem dX0_deliverToCar_36 : decode cX0_deliverToCar 36 = .ok (.iload_n 3, 1) := by decide +kernel
theorem dX0_deliverToCar_37 : decode cX0_deliverToCar 37 = .ok (.aaload, 1) := by decide +kernel
theorem dX0_deliverToCar_38 : decode cX0_deliverToCar 38 = .ok (.getfield 109, 3) := by decide +kernel
theorem dX0_deliverToCar_41 : decode cX0_deliverToCar 41 = .ok (.iload 5, 2) := by decide +kernel
theorem dX0_deliverToCar_43 : decode cX0_deliverToCar 43 = .ok (.dup2, 1) := by decide +kernel
theorem dX0_deliverToCar_44 : decode cX0_deliverToCar 44 = .ok (.iaload, 1) := by decide +kernel
theorem dX0_deliverToCar_45 : decode cX0_deliverToCar 45 = .ok (.iconst 1, 1) := by decide +kernel
theorem dX0_deliverToCar_46 : decode cX0_deliverToCar 46 = .ok (.iload 4, 2) := by decide +kernel
theorem dX0_deliverToCar_48 : decode cX0_deliverToCar 48 = .ok (.ishl, 1) := by decide +kernel
theorem dX0_deliverToCar_49 : decode cX0_deliverToCar 49 = .ok (.ior, 1) := by decide +kernel
theorem dX0_deliverToCar_50 : decode cX0_deliverToCar 50 = .ok (.iastore, 1) := by decide +kernel
theorem dX0_deliverToCar_51 : decode cX0_deliverToCar 51 = .ok (.return_, 1) := by decide +kernel
theorem dX0_deliverToCar_52 : decode cX0_deliverToCar 52 = .ok (.iload 5, 2) := by decide +kernel
theorem dX0_deliverToCar_54 : decode cX0_deliverToCar 54 = .ok (.tableswitch 79 0 2 #[26, 37, 69], 26) := by decide +kernel
theorem dX0_deliverToCar_80 : decode cX0_deliverToCar 80 = .ok (.aload_n 0, 1) := by decide +kernel
theorem dX0_deliverToCar_81 : decode cX0_deliverToCar 81 = .ok (.aload_n 1, 1) := by decide +kernel
theorem dX0_deliverToCar_82 : decode cX0_deliverToCar 82 = .ok (.iload_n 3, 1) := by decide +kernel
theorem dX0_deliverToCar_83 : decode cX0_deliverToCar 83 = .ok (.iload 4, 2) := by decide +kernel
theorem dX0_deliverToCar_85 : decode cX0_deliverToCar 85 = .ok (.invokevirtual 114, 3) := by decide +kernel
theorem dX0_deliverToCar_88 : decode cX0_deliverToCar 88 = .ok (.goto 56, 3) := by decide +kernel
theorem dX0_deliverToCar_91 : decode cX0_deliverToCar 91 = .ok (.aload_n 1, 1) := by decide +kernel
theorem dX0_deliverToCar_92 : decode cX0_deliverToCar 92 = .ok (.getfield 105, 3) := by decide +kernel
theorem dX0_deliverToCar_95 : decode cX0_deliverToCar 95 = .ok (.iload_n 3, 1) := by decide +kernel
theorem dX0_deliverToCar_96 : decode cX0_deliverToCar 96 = .ok (.aaload, 1) := by decide +kernel
theorem dX0_deliverToCar_97 : decode cX0_deliverToCar 97 = .ok (.iload 4, 2) := by decide +kernel
theorem dX0_deliverToCar_99 : decode cX0_deliverToCar 99 = .ok (.aload_n 0, 1) := by decide +kernel
theorem dX0_deliverToCar_100 : decode cX0_deliverToCar 100 = .ok (.getfield 12, 3) := by decide +kernel
theorem dX0_deliverToCar_103 : decode cX0_deliverToCar 103 = .ok (.getfield 85, 3) := by decide +kernel
theorem dX0_deliverToCar_106 : decode cX0_deliverToCar 106 = .ok (.iload_n 2, 1) := by decide +kernel
theorem dX0_deliverToCar_107 : decode cX0_deliverToCar 107 = .ok (.iaload, 1) := by decide +kernel
theorem dX0_deliverToCar_108 : decode cX0_deliverToCar 108 = .ok (.aload_n 0, 1) := by decide +kernel
theorem dX0_deliverToCar_109 : decode cX0_deliverToCar 109 = .ok (.getfield 12, 3) := by decide +kernel
theorem dX0_deliverToCar_112 : decode cX0_deliverToCar 112 = .ok (.getfield 117, 3) := by decide +kernel
theorem dX0_deliverToCar_115 : decode cX0_deliverToCar 115 = .ok (.iload_n 2, 1) := by decide +kernel
theorem dX0_deliverToCar_116 : decode cX0_deliverToCar 116 = .ok (.iaload, 1) := by decide +kernel
theorem dX0_deliverToCar_117 : decode cX0_deliverToCar 117 = .ok (.invokevirtual 120, 3) := by decide +kernel
theorem dX0_deliverToCar_120 : decode cX0_deliverToCar 120 = .ok (.goto 24, 3) := by decide +kernel
theorem dX0_deliverToCar_123 : decode cX0_deliverToCar 123 = .ok (.aload_n 0, 1) := by decide +kernel
theorem dX0_deliverToCar_124 : decode cX0_deliverToCar 124 = .ok (.aload_n 1, 1) := by decide +kernel
theorem dX0_deliverToCar_125 : decode cX0_deliverToCar 125 = .ok (.iload_n 2, 1) := by decide +kernel
theorem dX0_deliverToCar_126 : decode cX0_deliverToCar 126 = .ok (.iload_n 3, 1) := by decide +kernel
theorem dX0_deliverToCar_127 : decode cX0_deliverToCar 127 = .ok (.invokevirtual 124, 3) := by decide +kernel
theorem dX0_deliverToCar_130 : decode cX0_deliverToCar 130 = .ok (.goto 14, 3) := by decide +kernel
theorem dX0_deliverToCar_133 : decode cX0_deliverToCar 133 = .ok (.aload_n 1, 1) := by decide +kernel
theorem dX0_deliverToCar_134 : decode cX0_deliverToCar 134 = .ok (.getfield 105, 3) := by decide +kernel
theorem dX0_deliverToCar_137 : decode cX0_deliverToCar 137 = .ok (.iload_n 3, 1) := by decide +kernel
theorem dX0_deliverToCar_138 : decode cX0_deliverToCar 138 = .ok (.aaload, 1) := by decide +kernel
theorem dX0_deliverToCar_139 : decode cX0_deliverToCar 139 = .ok (.iload 4, 2) := by decide +kernel
theorem dX0_deliverToCar_141 : decode cX0_deliverToCar 141 = .ok (.invokevirtual 127, 3) := by decide +kernel
theorem dX0_deliverToCar_144 : decode cX0_deliverToCar 144 = .ok (.return_, 1) := by decide +kernel
/-! BusLifts$Bus.deliverToCar(LBusLifts$Lifts;II)V -/
noncomputable def f_X0_deliverToCar_144  (σ : Sg)  : Option Sg := some σ
noncomputable def f_X0_deliverToCar  (σ : Sg) (o1 : Nat) (v2 : Int32) (v3 : Int32) : Option Sg := if v2 < 0 ∨ 240 ≤ (v2).toNatClampNeg then none else (if v2 < 0 ∨ 240 ≤ (v2).toNatClampNeg then none else (bi (f_X0_isLost σ o1 v2 v3) fun r2 σ1 => (if r2 = 0 then (if (σ 21 13 (v2).toNatClampNeg) = 0 then (bv (f_X0_hearAnnouncement σ1 o1 v3 (σ 22 13 (v2).toNatClampNeg)) fun σ3 => (f_X0_deliverToCar_144 σ3)) else (if (σ 21 13 (v2).toNatClampNeg) = 1 then (if v3 < 0 ∨ 4 ≤ (v3).toNatClampNeg then none else (if v2 < 0 ∨ 240 ≤ (v2).toNatClampNeg then none else (if v2 < 0 ∨ 240 ≤ (v2).toNatClampNeg then none else (bv (f_X2_noteBid σ1 (4 * o1 + (v3).toNatClampNeg) (σ 22 13 (v2).toNatClampNeg) (σ1 20 13 (v2).toNatClampNeg) (σ1 23 13 (v2).toNatClampNeg)) fun σ4 => (f_X0_deliverToCar_144 σ4))))) else (if (σ 21 13 (v2).toNatClampNeg) = 2 then (bv (f_X0_hearClaim σ1 o1 v2 v3) fun σ5 => (f_X0_deliverToCar_144 σ5)) else (if v3 < 0 ∨ 4 ≤ (v3).toNatClampNeg then none else (bv (f_X2_hearReport σ1 (4 * o1 + (v3).toNatClampNeg) (σ 22 13 (v2).toNatClampNeg)) fun σ6 => (f_X0_deliverToCar_144 σ6)))))) else (if v3 < 0 ∨ 4 ≤ (v3).toNatClampNeg then none else (if (σ 21 13 (v2).toNatClampNeg) < 0 ∨ 4 ≤ ((σ 21 13 (v2).toNatClampNeg)).toNatClampNeg then none else (if (σ 21 13 (v2).toNatClampNeg) < 0 ∨ 4 ≤ ((σ 21 13 (v2).toNatClampNeg)).toNatClampNeg then none else (st (sup σ1 19 (4 * o1 + (v3).toNatClampNeg) ((σ 21 13 (v2).toNatClampNeg)).toNatClampNeg ((σ1 19 (4 * o1 + (v3).toNatClampNeg) ((σ 21 13 (v2).toNatClampNeg)).toNatClampNeg) ||| (1 <<< ((σ 22 13 (v2).toNatClampNeg) &&& 31)))) fun σ7 => (some σ7))))))))
set_option maxHeartbeats 4000000 in
set_option maxRecDepth 100000 in
theorem w_X0_deliverToCar_144 {p : Program} {l : Launch} {e : Env} {s : State} {m : MethodId} {args : Array Value} {below : List Frame} {meth : Method} {c : Code} {G : Gx} {ad : Ad} {res : Sg} (C : Cx p s m args meth c yX0_deliverToCar.cls cX0_deliverToCar 6 none G)  : ∀ (σ : Sg)  (H : Heap) (locs : List Loc) (ls : Array Slot), z_S 0 G ad σ (z_A 0 ad s.heap.size) s.heap H locs → lv_has ls 6 [] → f_X0_deliverToCar_144  σ  = some res → W p l e { frames := 3, cells := 0, slots := 0, locals := 72 } s m args below meth c H locs 0 0 (MQ below (va_Qv (S := Unit) (fun _ => True) (fun _ t => z_W 0 G ad res t.heap) (z_A 0 ad s.heap.size)) args s 0 0 (z_A 0 ad s.heap.size)) (F0 m 144 ls []) := by
  intro σ  H locs ls S hl  hf
  unfold f_X0_deliverToCar_144 at hf
  exact z_vret C S hf dX0_deliverToCar_144
set_option maxHeartbeats 4000000 in
set_option maxRecDepth 100000 in
theorem w_X0_deliverToCar_0 {p : Program} {l : Launch} {e : Env} {s : State} {m : MethodId} {args : Array Value} {below : List Frame} {meth : Method} {c : Code} {G : Gx} {ad : Ad} {res : Sg} (C : Cx p s m args meth c yX0_deliverToCar.cls cX0_deliverToCar 6 none G)  : ∀ (σ : Sg) (o1 : Nat) (v2 : Int32) (v3 : Int32) (H : Heap) (locs : List Loc) (ls : Array Slot), z_S 0 G ad σ (z_A 0 ad s.heap.size) s.heap H locs → lv_has ls 6 [(0, .ref (ad 0 0)), (1, .ref (ad 4 o1)), (2, .int v2), (3, .int v3)] → (o1 < z_cnt 4) → f_X0_deliverToCar  σ o1 v2 v3 = some res → W p l e { frames := 3, cells := 0, slots := 0, locals := 72 } s m args below meth c H locs 0 0 (MQ below (va_Qv (S := Unit) (fun _ => True) (fun _ t => z_W 0 G ad res t.heap) (z_A 0 ad s.heap.size)) args s 0 0 (z_A 0 ad s.heap.size)) (F0 m 0 ls []) := by
  intro σ o1 v2 v3 H locs ls S hl ho1 hf
  unfold f_X0_deliverToCar at hf
  refine lv_aload_n C.1 C.2.1 dX0_deliverToCar_0 rfl (lv_at hl 0 rfl) ?_
  refine z_getR C S 0 0 rfl (by decide) cf_0 0 (by decide) _ (gr_0_0 G ad 0) tw_2_71 dX0_deliverToCar_1 ?_
  refine z_getR C S 5 13 rfl (by decide) cf_5 3 (by decide) _ (gr_5_3 G ad 13) tw_1_68 dX0_deliverToCar_4 ?_
  refine lv_iload_n C.1 C.2.1 dX0_deliverToCar_7 rfl (lv_at hl 2 rfl) ?_
  obtain ⟨g_8, hf⟩ := gd hf
  refine z_iald C S 22 13 rfl (by decide) 240 (fun _ => rfl) g_8 dX0_deliverToCar_8 ?_
  refine lv_istore (lv' := [(4, .int (σ 22 13 (v2).toNatClampNeg)), (0, .ref (ad 0 0)), (1, .ref (ad 4 o1)), (2, .int v2), (3, .int v3)]) C.1 C.2.1 dX0_deliverToCar_9 hl (by decide) rfl (fun ls hl => ?_)
  refine lv_aload_n C.1 C.2.1 dX0_deliverToCar_11 rfl (lv_at hl 1 rfl) ?_
  refine z_getR C S 0 0 rfl (by decide) cf_0 0 (by decide) _ (gr_0_0 G ad 0) tw_2_71 dX0_deliverToCar_12 ?_
  refine z_getR C S 5 13 rfl (by decide) cf_5 2 (by decide) _ (gr_5_2 G ad 13) tw_1_66 dX0_deliverToCar_15 ?_
  refine lv_iload_n C.1 C.2.1 dX0_deliverToCar_18 rfl (lv_at hl 3 rfl) ?_
  obtain ⟨g_19, hf⟩ := gd hf
  refine z_iald C S 21 13 rfl (by decide) 240 (fun _ => rfl) g_19 dX0_deliverToCar_19 ?_
  refine lv_istore (lv' := [(5, .int (σ 21 13 (v2).toNatClampNeg)), (4, .int (σ 22 13 (v2).toNatClampNeg)), (0, .ref (ad 0 0)), (1, .ref (ad 4 o1)), (2, .int v2), (3, .int v3)]) C.1 C.2.1 dX0_deliverToCar_20 hl (by decide) rfl (fun ls hl => ?_)
  refine lv_aload_n C.1 C.2.1 dX0_deliverToCar_22 rfl (lv_at hl 2 rfl) ?_
  refine lv_aload_n C.1 C.2.1 dX0_deliverToCar_23 rfl (lv_at hl 3 rfl) ?_
  refine lv_iload_n C.1 C.2.1 dX0_deliverToCar_24 rfl (lv_at hl 4 rfl) ?_
  refine lv_iload_n C.1 C.2.1 dX0_deliverToCar_25 rfl (lv_at hl 5 rfl) ?_
  obtain ⟨r2, σ1, q_26, hf⟩ := bib hf
  refine z_callI C S 0 0 rfl (by decide) cf_0 ⟨_, rfl⟩ [.ref (ad 4 o1), .int v2, .int v3] (m_X0_isLost l G ad σ o1 v2 v3 r2 σ1 ho1 q_26 _) kv_X0_isLost tw_7_104 ⟨Nat.le_of_ble_eq_true rfl, Nat.le_of_ble_eq_true rfl⟩ rfl rfl (Nat.le_of_ble_eq_true rfl) hl.1 ⟨Nat.le_of_ble_eq_true rfl, Nat.le_of_ble_eq_true rfl⟩ dX0_deliverToCar_26 (fun H locs S => ?_)
  refine lv_if_eq (tgt := 52) C.1 C.2.1 dX0_deliverToCar_29 (by decide) (fun c_29 => ?_) (fun c_29 => ?_)
  · rw [if_pos c_29] at hf
    refine lv_iload C.1 C.2.1 dX0_deliverToCar_52 (lv_at hl 0 rfl) ?_
    by_cases q_54_0 : (σ 21 13 (v2).toNatClampNeg) = 0
    · rw [if_pos q_54_0] at hf
      refine lv_tableIn (off := 26) (tgt := 80) C.1 C.2.1 dX0_deliverToCar_54 (by rw [q_54_0]; decide) (by rw [q_54_0]; decide) (by rw [q_54_0]; decide) (by decide) ?_
      refine lv_aload_n C.1 C.2.1 dX0_deliverToCar_80 rfl (lv_at hl 2 rfl) ?_
      refine lv_aload_n C.1 C.2.1 dX0_deliverToCar_81 rfl (lv_at hl 3 rfl) ?_
      refine lv_iload_n C.1 C.2.1 dX0_deliverToCar_82 rfl (lv_at hl 5 rfl) ?_
      refine lv_iload C.1 C.2.1 dX0_deliverToCar_83 (lv_at hl 1 rfl) ?_
      obtain ⟨σ3, q_85, hf⟩ := bvb hf
      refine z_callV C S 0 0 rfl (by decide) cf_0 ⟨_, rfl⟩ [.ref (ad 4 o1), .int v3, .int (σ 22 13 (v2).toNatClampNeg)] (m_X0_hearAnnouncement l G ad σ1 o1 v3 (σ 22 13 (v2).toNatClampNeg) σ3 ho1 q_85 _) kv_X0_hearAnnouncement tw_7_117 ⟨Nat.le_of_ble_eq_true rfl, Nat.le_of_ble_eq_true rfl⟩ rfl rfl (Nat.le_of_ble_eq_true rfl) hl.1 ⟨Nat.le_of_ble_eq_true rfl, Nat.le_of_ble_eq_true rfl⟩ dX0_deliverToCar_85 (fun H locs S => ?_)
      refine lv_goto (tgt := 144) C.1 C.2.1 dX0_deliverToCar_88 (by decide) ?_
      exact w_X0_deliverToCar_144 C _ _ _ _ S (lv_sub hl [] rfl) hf
    · rw [if_neg q_54_0] at hf
      by_cases q_54_1 : (σ 21 13 (v2).toNatClampNeg) = 1
      · rw [if_pos q_54_1] at hf
        refine lv_tableIn (off := 37) (tgt := 91) C.1 C.2.1 dX0_deliverToCar_54 (by rw [q_54_1]; decide) (by rw [q_54_1]; decide) (by rw [q_54_1]; decide) (by decide) ?_
        refine lv_aload_n C.1 C.2.1 dX0_deliverToCar_91 rfl (lv_at hl 3 rfl) ?_
        refine z_getR C S 4 o1 rfl ho1 cf_4 6 (by decide) _ (gr_4_6 G ad o1) tw_2_2 dX0_deliverToCar_92 ?_
        refine lv_iload_n C.1 C.2.1 dX0_deliverToCar_95 rfl (lv_at hl 5 rfl) ?_
        obtain ⟨g_96, hf⟩ := gd hf
        refine z_aald C S 25 o1 rfl ho1 4 1 2 (4 * o1) rfl (fun _ => rfl) g_96 dX0_deliverToCar_96 ?_
        refine lv_iload C.1 C.2.1 dX0_deliverToCar_97 (lv_at hl 1 rfl) ?_
        refine lv_aload_n C.1 C.2.1 dX0_deliverToCar_99 rfl (lv_at hl 2 rfl) ?_
        refine z_getR C S 0 0 rfl (by decide) cf_0 0 (by decide) _ (gr_0_0 G ad 0) tw_2_71 dX0_deliverToCar_100 ?_
        refine z_getR C S 5 13 rfl (by decide) cf_5 1 (by decide) _ (gr_5_1 G ad 13) tw_1_64 dX0_deliverToCar_103 ?_
        refine lv_iload_n C.1 C.2.1 dX0_deliverToCar_106 rfl (lv_at hl 4 rfl) ?_
        obtain ⟨g_107, hf⟩ := gd hf
        refine z_iald C S 20 13 rfl (by decide) 240 (fun _ => rfl) g_107 dX0_deliverToCar_107 ?_
        refine lv_aload_n C.1 C.2.1 dX0_deliverToCar_108 rfl (lv_at hl 2 rfl) ?_
        refine z_getR C S 0 0 rfl (by decide) cf_0 0 (by decide) _ (gr_0_0 G ad 0) tw_2_71 dX0_deliverToCar_109 ?_
        refine z_getR C S 5 13 rfl (by decide) cf_5 4 (by decide) _ (gr_5_4 G ad 13) tw_1_70 dX0_deliverToCar_112 ?_
        refine lv_iload_n C.1 C.2.1 dX0_deliverToCar_115 rfl (lv_at hl 4 rfl) ?_
        obtain ⟨g_116, hf⟩ := gd hf
        refine z_iald C S 23 13 rfl (by decide) 240 (fun _ => rfl) g_116 dX0_deliverToCar_116 ?_
        obtain ⟨σ4, q_117, hf⟩ := bvb hf
        refine z_callV C S 2 (4 * o1 + (v3).toNatClampNeg) rfl (oc2 ho1 g_96) cf_2 ⟨_, rfl⟩ [.int (σ 22 13 (v2).toNatClampNeg), .int (σ1 20 13 (v2).toNatClampNeg), .int (σ1 23 13 (v2).toNatClampNeg)] (m_X2_noteBid l G ad σ1 (4 * o1 + (v3).toNatClampNeg) (σ 22 13 (v2).toNatClampNeg) (σ1 20 13 (v2).toNatClampNeg) (σ1 23 13 (v2).toNatClampNeg) σ4 (oc2 ho1 g_96) q_117 _) kv_X2_noteBid tw_7_124 ⟨Nat.le_of_ble_eq_true rfl, Nat.le_of_ble_eq_true rfl⟩ rfl rfl (Nat.le_of_ble_eq_true rfl) hl.1 ⟨Nat.le_of_ble_eq_true rfl, Nat.le_of_ble_eq_true rfl⟩ dX0_deliverToCar_117 (fun H locs S => ?_)
        refine lv_goto (tgt := 144) C.1 C.2.1 dX0_deliverToCar_120 (by decide) ?_
        exact w_X0_deliverToCar_144 C _ _ _ _ S (lv_sub hl [] rfl) hf
      · rw [if_neg q_54_1] at hf
        by_cases q_54_2 : (σ 21 13 (v2).toNatClampNeg) = 2
        · rw [if_pos q_54_2] at hf
          refine lv_tableIn (off := 69) (tgt := 123) C.1 C.2.1 dX0_deliverToCar_54 (by rw [q_54_2]; decide) (by rw [q_54_2]; decide) (by rw [q_54_2]; decide) (by decide) ?_
          refine lv_aload_n C.1 C.2.1 dX0_deliverToCar_123 rfl (lv_at hl 2 rfl) ?_
          refine lv_aload_n C.1 C.2.1 dX0_deliverToCar_124 rfl (lv_at hl 3 rfl) ?_
          refine lv_iload_n C.1 C.2.1 dX0_deliverToCar_125 rfl (lv_at hl 4 rfl) ?_
          refine lv_iload_n C.1 C.2.1 dX0_deliverToCar_126 rfl (lv_at hl 5 rfl) ?_
          obtain ⟨σ5, q_127, hf⟩ := bvb hf
          refine z_callV C S 0 0 rfl (by decide) cf_0 ⟨_, rfl⟩ [.ref (ad 4 o1), .int v2, .int v3] (m_X0_hearClaim l G ad σ1 o1 v2 v3 σ5 ho1 q_127 _) kv_X0_hearClaim tw_7_125 ⟨Nat.le_of_ble_eq_true rfl, Nat.le_of_ble_eq_true rfl⟩ rfl rfl (Nat.le_of_ble_eq_true rfl) hl.1 ⟨Nat.le_of_ble_eq_true rfl, Nat.le_of_ble_eq_true rfl⟩ dX0_deliverToCar_127 (fun H locs S => ?_)
          refine lv_goto (tgt := 144) C.1 C.2.1 dX0_deliverToCar_130 (by decide) ?_
          exact w_X0_deliverToCar_144 C _ _ _ _ S (lv_sub hl [] rfl) hf
        · rw [if_neg q_54_2] at hf
          refine lv_tableOut (tgt := 133) C.1 C.2.1 dX0_deliverToCar_54 (tsw0_2 q_54_0 q_54_1 q_54_2) (by decide) ?_
          refine lv_aload_n C.1 C.2.1 dX0_deliverToCar_133 rfl (lv_at hl 3 rfl) ?_
          refine z_getR C S 4 o1 rfl ho1 cf_4 6 (by decide) _ (gr_4_6 G ad o1) tw_2_2 dX0_deliverToCar_134 ?_
          refine lv_iload_n C.1 C.2.1 dX0_deliverToCar_137 rfl (lv_at hl 5 rfl) ?_
          obtain ⟨g_138, hf⟩ := gd hf
          refine z_aald C S 25 o1 rfl ho1 4 1 2 (4 * o1) rfl (fun _ => rfl) g_138 dX0_deliverToCar_138 ?_
          refine lv_iload C.1 C.2.1 dX0_deliverToCar_139 (lv_at hl 1 rfl) ?_
          obtain ⟨σ6, q_141, hf⟩ := bvb hf
          refine z_callV C S 2 (4 * o1 + (v3).toNatClampNeg) rfl (oc2 ho1 g_138) cf_2 ⟨_, rfl⟩ [.int (σ 22 13 (v2).toNatClampNeg)] (m_X2_hearReport l G ad σ1 (4 * o1 + (v3).toNatClampNeg) (σ 22 13 (v2).toNatClampNeg) σ6 (oc2 ho1 g_138) q_141 _) kv_X2_hearReport tw_7_133 ⟨Nat.le_of_ble_eq_true rfl, Nat.le_of_ble_eq_true rfl⟩ rfl rfl (Nat.le_of_ble_eq_true rfl) hl.1 ⟨Nat.le_of_ble_eq_true rfl, Nat.le_of_ble_eq_true rfl⟩ dX0_deliverToCar_141 (fun H locs S => ?_)
          exact w_X0_deliverToCar_144 C _ _ _ _ S (lv_sub hl [] rfl) hf
  · rw [if_neg c_29] at hf
    refine lv_aload_n C.1 C.2.1 dX0_deliverToCar_32 rfl (lv_at hl 3 rfl) ?_
    refine z_getR C S 4 o1 rfl ho1 cf_4 6 (by decide) _ (gr_4_6 G ad o1) tw_2_2 dX0_deliverToCar_33 ?_
    refine lv_iload_n C.1 C.2.1 dX0_deliverToCar_36 rfl (lv_at hl 5 rfl) ?_
    obtain ⟨g_37, hf⟩ := gd hf
    refine z_aald C S 25 o1 rfl ho1 4 1 2 (4 * o1) rfl (fun _ => rfl) g_37 dX0_deliverToCar_37 ?_
    refine z_getR C S 2 (4 * o1 + (v3).toNatClampNeg) rfl (oc2 ho1 g_37) cf_2 13 (by decide) _ (gr_2_13 G ad (4 * o1 + (v3).toNatClampNeg)) tw_1_127 dX0_deliverToCar_38 ?_
    refine lv_iload C.1 C.2.1 dX0_deliverToCar_41 (lv_at hl 0 rfl) ?_
    refine lv_dup2_11 C.1 C.2.1 dX0_deliverToCar_43 rfl rfl ?_
    obtain ⟨g_44, hf⟩ := gd hf
    refine z_iald C S 19 (4 * o1 + (v3).toNatClampNeg) rfl (oc2 ho1 g_37) 4 (fun _ => rfl) g_44 dX0_deliverToCar_44 ?_
    refine lv_iconst (v := 1) C.1 C.2.1 dX0_deliverToCar_45 (by decide) ?_
    refine lv_iload C.1 C.2.1 dX0_deliverToCar_46 (lv_at hl 1 rfl) ?_
    refine lv_ishl C.1 C.2.1 dX0_deliverToCar_48 ?_
    refine lv_ior C.1 C.2.1 dX0_deliverToCar_49 ?_
    obtain ⟨g_50, hf⟩ := gd hf
    obtain ⟨σ7, e_50, hf⟩ := stb hf
    refine z_iast C S 19 (4 * o1 + (v3).toNatClampNeg) rfl (oc2 ho1 g_37) 4 (fun _ => rfl) g_50 dX0_deliverToCar_50 (fun H locs S => ?_)
    rw [← e_50] at S
    exact z_vret C S hf dX0_deliverToCar_51
theorem kv_X0_deliverToCar : KV yX0_deliverToCar cX0_deliverToCar 6 none 3 := ⟨tw_7_103, tw_7_102, tw_p_41, tw_1_17, by decide, by decide, by decide +kernel⟩
theorem m_X0_deliverToCar (l : Launch) (G : Gx) (ad : Ad) (σ : Sg) (o1 : Nat) (v2 : Int32) (v3 : Int32) (σ' : Sg) (ho1 : o1 < z_cnt 4) (hf : f_X0_deliverToCar σ o1 v2 v3 = some σ') (sz : Nat) : z_MV l yX0_deliverToCar cX0_deliverToCar 6 none 3 72 0 G ad σ sz [.ref (ad 0 0), .ref (ad 4 o1), .int v2, .int v3] σ' := by
  refine z_begin (by decide +kernel) (Nat.le_of_ble_eq_true rfl) [(0, .ref (ad 0 0)), (1, .ref (ad 4 o1)), (2, .int v2), (3, .int v3)] rfl (fun p e s m args below meth c ls C hz S hl => ?_)
  subst hz
  exact w_X0_deliverToCar_0 (res := σ') C σ o1 v2 v3 _ _ _ S hl ho1 hf

theorem dX0_deliverToStation_0 : decode cX0_deliverToStation 0 = .ok (.aload_n 0, 1) := by decide +kernel
theorem dX0_deliverToStation_1 : decode cX0_deliverToStation 1 = .ok (.aload_n 1, 1) := by decide +kernel
theorem dX0_deliverToStation_2 : decode cX0_deliverToStation 2 = .ok (.iload_n 2, 1) := by decide +kernel
theorem dX0_deliverToStation_3 : decode cX0_deliverToStation 3 = .ok (.iconst (-1), 1) := by decide +kernel
theorem dX0_deliverToStation_4 : decode cX0_deliverToStation 4 = .ok (.invokevirtual 101, 3) := by decide +kernel
theorem dX0_deliverToStation_7 : decode cX0_deliverToStation 7 = .ok (.ifCond .ne 52, 3) := by decide +kernel
theorem dX0_deliverToStation_10 : decode cX0_deliverToStation 10 = .ok (.aload_n 0, 1) := by decide +kernel
theorem dX0_deliverToStation_11 : decode cX0_deliverToStation 11 = .ok (.getfield 12, 3) := by decide +kernel
theorem dX0_deliverToStation_14 : decode cX0_deliverToStation 14 = .ok (.getfield 98, 3) := by decide +kernel
theorem dX0_deliverToStation_17 : decode cX0_deliverToStation 17 = .ok (.iload_n 2, 1) := by decide +kernel
theorem dX0_deliverToStation_18 : decode cX0_deliverToStation 18 = .ok (.iaload, 1) := by decide +kernel
theorem dX0_deliverToStation_19 : decode cX0_deliverToStation 19 = .ok (.iconst 2, 1) := by decide +kernel
theorem dX0_deliverToStation_20 : decode cX0_deliverToStation 20 = .ok (.if_icmp .ne 39, 3) := by decide +kernel
theorem dX0_deliverToStation_23 : decode cX0_deliverToStation 23 = .ok (.aload_n 1, 1) := by decide +kernel
theorem dX0_deliverToStation_24 : decode cX0_deliverToStation 24 = .ok (.getfield 60, 3) := by decide +kernel
theorem dX0_deliverToStation_27 : decode cX0_deliverToStation 27 = .ok (.aload_n 0, 1) := by decide +kernel
theorem dX0_deliverToStation_28 : decode cX0_deliverToStation 28 = .ok (.getfield 12, 3) := by decide +kernel
theorem dX0_deliverToStation_31 : decode cX0_deliverToStation 31 = .ok (.getfield 96, 3) := by decide +kernel
theorem dX0_deliverToStation_34 : decode cX0_deliverToStation 34 = .ok (.iload_n 2, 1) := by decide +kernel
theorem dX0_deliverToStation_35 : decode cX0_deliverToStation 35 = .ok (.iaload, 1) := by decide +kernel
theorem dX0_deliverToStation_36 : decode cX0_deliverToStation 36 = .ok (.aaload, 1) := by decide +kernel
theorem dX0_deliverToStation_37 : decode cX0_deliverToStation 37 = .ok (.astore_n 3, 1) := by decide +kernel
theorem dX0_deliverToStation_38 : decode cX0_deliverToStation 38 = .ok (.aload_n 3, 1) := by decide +kernel
theorem dX0_deliverToStation_39 : decode cX0_deliverToStation 39 = .ok (.aload_n 0, 1) := by decide +kernel
theorem dX0_deliverToStation_40 : decode cX0_deliverToStation 40 = .ok (.getfield 12, 3) := by decide +kernel
theorem dX0_deliverToStation_43 : decode cX0_deliverToStation 43 = .ok (.getfield 85, 3) := by decide +kernel
theorem dX0_deliverToStation_46 : decode cX0_deliverToStation 46 = .ok (.iload_n 2, 1) := by decide +kernel
theorem dX0_deliverToStation_47 : decode cX0_deliverToStation 47 = .ok (.iaload, 1) := by decide +kernel
theorem dX0_deliverToStation_48 : decode cX0_deliverToStation 48 = .ok (.putfield 131, 3) := by decide +kernel
theorem dX0_deliverToStation_51 : decode cX0_deliverToStation 51 = .ok (.aload_n 3, 1) := by decide +kernel
theorem dX0_deliverToStation_52 : decode cX0_deliverToStation 52 = .ok (.aload_n 1, 1) := by decide +kernel
theorem dX0_deliverToStation_53 : decode cX0_deliverToStation 53 = .ok (.getfield 54, 3) := by decide +kernel
theorem dX0_deliverToStation_56 : decode cX0_deliverToStation 56 = .ok (.putfield 134, 3) := by decide +kernel
theorem dX0_deliverToStation_59 : decode cX0_deliverToStation 59 = .ok (.return_, 1) := by decide +kernel
/-! BusLifts$Bus.deliverToStation(LBusLifts$Lifts;I)V -/
noncomputable def f_X0_deliverToStation_59  (σ : Sg)  : Option Sg := some σ
noncomputable def f_X0_deliverToStation  (σ : Sg) (o1 : Nat) (v2 : Int32) : Option Sg := bi (f_X0_isLost σ o1 v2 (-1)) fun r2 σ1 => (if r2 = 0 then (if v2 < 0 ∨ 240 ≤ (v2).toNatClampNeg then none else (if (σ1 21 13 (v2).toNatClampNeg) = 2 then (if v2 < 0 ∨ 240 ≤ (v2).toNatClampNeg then none else (if (σ1 22 13 (v2).toNatClampNeg) < 0 ∨ 24 ≤ ((σ1 22 13 (v2).toNatClampNeg)).toNatClampNeg then none else (if v2 < 0 ∨ 240 ≤ (v2).toNatClampNeg then none else (st (sup σ1 1 (24 * o1 + ((σ1 22 13 (v2).toNatClampNeg)).toNatClampNeg) 8 (σ1 20 13 (v2).toNatClampNeg)) fun σ3 => (st (sup σ3 1 (24 * o1 + ((σ1 22 13 (v2).toNatClampNeg)).toNatClampNeg) 9 (σ3 4 o1 3)) fun σ4 => (f_X0_deliverToStation_59 σ4)))))) else (f_X0_deliverToStation_59 σ1))) else (f_X0_deliverToStation_59 σ1))
set_option maxHeartbeats 4000000 in
set_option maxRecDepth 100000 in
theorem w_X0_deliverToStation_59 {p : Program} {l : Launch} {e : Env} {s : State} {m : MethodId} {args : Array Value} {below : List Frame} {meth : Method} {c : Code} {G : Gx} {ad : Ad} {res : Sg} (C : Cx p s m args meth c yX0_deliverToStation.cls cX0_deliverToStation 4 none G)  : ∀ (σ : Sg)  (H : Heap) (locs : List Loc) (ls : Array Slot), z_S 0 G ad σ (z_A 0 ad s.heap.size) s.heap H locs → lv_has ls 4 [] → f_X0_deliverToStation_59  σ  = some res → W p l e { frames := 2, cells := 0, slots := 0, locals := 45 } s m args below meth c H locs 0 0 (MQ below (va_Qv (S := Unit) (fun _ => True) (fun _ t => z_W 0 G ad res t.heap) (z_A 0 ad s.heap.size)) args s 0 0 (z_A 0 ad s.heap.size)) (F0 m 59 ls []) := by
  intro σ  H locs ls S hl  hf
  unfold f_X0_deliverToStation_59 at hf
  exact z_vret C S hf dX0_deliverToStation_59
set_option maxHeartbeats 4000000 in
set_option maxRecDepth 100000 in
theorem w_X0_deliverToStation_0 {p : Program} {l : Launch} {e : Env} {s : State} {m : MethodId} {args : Array Value} {below : List Frame} {meth : Method} {c : Code} {G : Gx} {ad : Ad} {res : Sg} (C : Cx p s m args meth c yX0_deliverToStation.cls cX0_deliverToStation 4 none G)  : ∀ (σ : Sg) (o1 : Nat) (v2 : Int32) (H : Heap) (locs : List Loc) (ls : Array Slot), z_S 0 G ad σ (z_A 0 ad s.heap.size) s.heap H locs → lv_has ls 4 [(0, .ref (ad 0 0)), (1, .ref (ad 4 o1)), (2, .int v2)] → (o1 < z_cnt 4) → f_X0_deliverToStation  σ o1 v2 = some res → W p l e { frames := 2, cells := 0, slots := 0, locals := 45 } s m args below meth c H locs 0 0 (MQ below (va_Qv (S := Unit) (fun _ => True) (fun _ t => z_W 0 G ad res t.heap) (z_A 0 ad s.heap.size)) args s 0 0 (z_A 0 ad s.heap.size)) (F0 m 0 ls []) := by
  intro σ o1 v2 H locs ls S hl ho1 hf
  unfold f_X0_deliverToStation at hf
  refine lv_aload_n C.1 C.2.1 dX0_deliverToStation_0 rfl (lv_at hl 0 rfl) ?_
  refine lv_aload_n C.1 C.2.1 dX0_deliverToStation_1 rfl (lv_at hl 1 rfl) ?_
  refine lv_iload_n C.1 C.2.1 dX0_deliverToStation_2 rfl (lv_at hl 2 rfl) ?_
  refine lv_iconst (v := (-1)) C.1 C.2.1 dX0_deliverToStation_3 (by decide) ?_
  obtain ⟨r2, σ1, q_4, hf⟩ := bib hf
  refine z_callI C S 0 0 rfl (by decide) cf_0 ⟨_, rfl⟩ [.ref (ad 4 o1), .int v2, .int (-1)] (m_X0_isLost l G ad σ o1 v2 (-1) r2 σ1 ho1 q_4 _) kv_X0_isLost tw_7_104 ⟨Nat.le_of_ble_eq_true rfl, Nat.le_of_ble_eq_true rfl⟩ rfl rfl (Nat.le_of_ble_eq_true rfl) hl.1 ⟨Nat.le_of_ble_eq_true rfl, Nat.le_of_ble_eq_true rfl⟩ dX0_deliverToStation_4 (fun H locs S => ?_)
  refine lv_if_ne (tgt := 59) C.1 C.2.1 dX0_deliverToStation_7 (by decide) (fun c_7 => ?_) (fun c_7 => ?_)
  · rw [if_neg c_7] at hf
    exact w_X0_deliverToStation_59 C _ _ _ _ S (lv_sub hl [] rfl) hf
  · rw [if_pos c_7] at hf
    refine lv_aload_n C.1 C.2.1 dX0_deliverToStation_10 rfl (lv_at hl 0 rfl) ?_
    refine z_getR C S 0 0 rfl (by decide) cf_0 0 (by decide) _ (gr_0_0 G ad 0) tw_2_71 dX0_deliverToStation_11 ?_
    refine z_getR C S 5 13 rfl (by decide) cf_5 2 (by decide) _ (gr_5_2 G ad 13) tw_1_66 dX0_deliverToStation_14 ?_
    refine lv_iload_n C.1 C.2.1 dX0_deliverToStation_17 rfl (lv_at hl 2 rfl) ?_
    obtain ⟨g_18, hf⟩ := gd hf
    refine z_iald C S 21 13 rfl (by decide) 240 (fun _ => rfl) g_18 dX0_deliverToStation_18 ?_
    refine lv_iconst (v := 2) C.1 C.2.1 dX0_deliverToStation_19 (by decide) ?_
    refine lv_icmp_ne (tgt := 59) C.1 C.2.1 dX0_deliverToStation_20 (by decide) (fun c_20 => ?_) (fun c_20 => ?_)
    · rw [if_neg c_20] at hf
      exact w_X0_deliverToStation_59 C _ _ _ _ S (lv_sub hl [] rfl) hf
    · rw [if_pos c_20] at hf
      refine lv_aload_n C.1 C.2.1 dX0_deliverToStation_23 rfl (lv_at hl 1 rfl) ?_
      refine z_getR C S 4 o1 rfl ho1 cf_4 7 (by decide) _ (gr_4_7 G ad o1) tw_2_5 dX0_deliverToStation_24 ?_
      refine lv_aload_n C.1 C.2.1 dX0_deliverToStation_27 rfl (lv_at hl 0 rfl) ?_
      refine z_getR C S 0 0 rfl (by decide) cf_0 0 (by decide) _ (gr_0_0 G ad 0) tw_2_71 dX0_deliverToStation_28 ?_
      refine z_getR C S 5 13 rfl (by decide) cf_5 3 (by decide) _ (gr_5_3 G ad 13) tw_1_68 dX0_deliverToStation_31 ?_
      refine lv_iload_n C.1 C.2.1 dX0_deliverToStation_34 rfl (lv_at hl 2 rfl) ?_
      obtain ⟨g_35, hf⟩ := gd hf
      refine z_iald C S 22 13 rfl (by decide) 240 (fun _ => rfl) g_35 dX0_deliverToStation_35 ?_
      obtain ⟨g_36, hf⟩ := gd hf
      refine z_aald C S 26 o1 rfl ho1 24 2 1 (24 * o1) rfl (fun _ => rfl) g_36 dX0_deliverToStation_36 ?_
      refine lv_astore_n (lv' := [(3, .ref (ad 1 (24 * o1 + ((σ1 22 13 (v2).toNatClampNeg)).toNatClampNeg))), (0, .ref (ad 0 0)), (1, .ref (ad 4 o1)), (2, .int v2)]) C.1 C.2.1 dX0_deliverToStation_37 rfl hl (by decide) rfl (fun ls hl => ?_)
      refine lv_aload_n C.1 C.2.1 dX0_deliverToStation_38 rfl (lv_at hl 0 rfl) ?_
      refine lv_aload_n C.1 C.2.1 dX0_deliverToStation_39 rfl (lv_at hl 1 rfl) ?_
      refine z_getR C S 0 0 rfl (by decide) cf_0 0 (by decide) _ (gr_0_0 G ad 0) tw_2_71 dX0_deliverToStation_40 ?_
      refine z_getR C S 5 13 rfl (by decide) cf_5 1 (by decide) _ (gr_5_1 G ad 13) tw_1_64 dX0_deliverToStation_43 ?_
      refine lv_iload_n C.1 C.2.1 dX0_deliverToStation_46 rfl (lv_at hl 3 rfl) ?_
      obtain ⟨g_47, hf⟩ := gd hf
      refine z_iald C S 20 13 rfl (by decide) 240 (fun _ => rfl) g_47 dX0_deliverToStation_47 ?_
      obtain ⟨σ3, e_48, hf⟩ := stb hf
      refine z_putI C S 1 (24 * o1 + ((σ1 22 13 (v2).toNatClampNeg)).toNatClampNeg) rfl (oc1 ho1 g_36) cf_1 8 (by decide) (pi_1_8 G ad (24 * o1 + ((σ1 22 13 (v2).toNatClampNeg)).toNatClampNeg)) rfl rfl rfl tw_1_190 dX0_deliverToStation_48 (fun H locs S => ?_)
      rw [← e_48] at S
      refine lv_aload_n C.1 C.2.1 dX0_deliverToStation_51 rfl (lv_at hl 0 rfl) ?_
      refine lv_aload_n C.1 C.2.1 dX0_deliverToStation_52 rfl (lv_at hl 2 rfl) ?_
      refine z_getI C S 4 o1 rfl ho1 cf_4 3 (by decide) (gi_4_3 G ad o1) tw_1_232 dX0_deliverToStation_53 ?_
      obtain ⟨σ4, e_56, hf⟩ := stb hf
      refine z_putI C S 1 (24 * o1 + ((σ1 22 13 (v2).toNatClampNeg)).toNatClampNeg) rfl (oc1 ho1 g_36) cf_1 9 (by decide) (pi_1_9 G ad (24 * o1 + ((σ1 22 13 (v2).toNatClampNeg)).toNatClampNeg)) rfl rfl rfl tw_1_193 dX0_deliverToStation_56 (fun H locs S => ?_)
      rw [← e_56] at S
      exact w_X0_deliverToStation_59 C _ _ _ _ S (lv_sub hl [] rfl) hf
theorem kv_X0_deliverToStation : KV yX0_deliverToStation cX0_deliverToStation 4 none 2 := ⟨tw_7_137, tw_7_136, tw_p_45, tw_1_17, by decide, by decide, by decide +kernel⟩
theorem m_X0_deliverToStation (l : Launch) (G : Gx) (ad : Ad) (σ : Sg) (o1 : Nat) (v2 : Int32) (σ' : Sg) (ho1 : o1 < z_cnt 4) (hf : f_X0_deliverToStation σ o1 v2 = some σ') (sz : Nat) : z_MV l yX0_deliverToStation cX0_deliverToStation 4 none 2 45 0 G ad σ sz [.ref (ad 0 0), .ref (ad 4 o1), .int v2] σ' := by
  refine z_begin (by decide +kernel) (Nat.le_of_ble_eq_true rfl) [(0, .ref (ad 0 0)), (1, .ref (ad 4 o1)), (2, .int v2)] rfl (fun p e s m args below meth c ls C hz S hl => ?_)
  subst hz
  exact w_X0_deliverToStation_0 (res := σ') C σ o1 v2 _ _ _ S hl ho1 hf

theorem dX0_deliver_0 : decode cX0_deliver 0 = .ok (.iconst 0, 1) := by decide +kernel
theorem dX0_deliver_1 : decode cX0_deliver 1 = .ok (.istore_n 2, 1) := by decide +kernel
theorem dX0_deliver_2 : decode cX0_deliver 2 = .ok (.iload_n 2, 1) := by decide +kernel
theorem dX0_deliver_3 : decode cX0_deliver 3 = .ok (.aload_n 0, 1) := by decide +kernel
theorem dX0_deliver_4 : decode cX0_deliver 4 = .ok (.getfield 12, 3) := by decide +kernel
theorem dX0_deliver_7 : decode cX0_deliver 7 = .ok (.getfield 31, 3) := by decide +kernel
theorem dX0_deliver_10 : decode cX0_deliver 10 = .ok (.if_icmp .ge 62, 3) := by decide +kernel
theorem dX0_deliver_13 : decode cX0_deliver 13 = .ok (.aload_n 0, 1) := by decide +kernel
theorem dX0_deliver_14 : decode cX0_deliver 14 = .ok (.getfield 12, 3) := by decide +kernel
theorem dX0_deliver_17 : decode cX0_deliver 17 = .ok (.getfield 85, 3) := by decide +kernel
theorem dX0_deliver_20 : decode cX0_deliver 20 = .ok (.iload_n 2, 1) := by decide +kernel
theorem dX0_deliver_21 : decode cX0_deliver 21 = .ok (.iaload, 1) := by decide +kernel
theorem dX0_deliver_22 : decode cX0_deliver 22 = .ok (.istore_n 3, 1) := by decide +kernel
theorem dX0_deliver_23 : decode cX0_deliver 23 = .ok (.iconst 0, 1) := by decide +kernel
theorem dX0_deliver_24 : decode cX0_deliver 24 = .ok (.istore 4, 2) := by decide +kernel
theorem dX0_deliver_26 : decode cX0_deliver 26 = .ok (.iload 4, 2) := by decide +kernel
theorem dX0_deliver_28 : decode cX0_deliver 28 = .ok (.aload_n 1, 1) := by decide +kernel
theorem dX0_deliver_29 : decode cX0_deliver 29 = .ok (.getfield 44, 3) := by decide +kernel
theorem dX0_deliver_32 : decode cX0_deliver 32 = .ok (.if_icmp .ge 23, 3) := by decide +kernel
theorem dX0_deliver_35 : decode cX0_deliver 35 = .ok (.iload 4, 2) := by decide +kernel
theorem dX0_deliver_37 : decode cX0_deliver 37 = .ok (.iload_n 3, 1) := by decide +kernel
theorem dX0_deliver_38 : decode cX0_deliver 38 = .ok (.if_icmp .eq 11, 3) := by decide +kernel
theorem dX0_deliver_41 : decode cX0_deliver 41 = .ok (.aload_n 0, 1) := by decide +kernel
theorem dX0_deliver_42 : decode cX0_deliver 42 = .ok (.aload_n 1, 1) := by decide +kernel
theorem dX0_deliver_43 : decode cX0_deliver 43 = .ok (.iload_n 2, 1) := by decide +kernel
theorem dX0_deliver_44 : decode cX0_deliver 44 = .ok (.iload 4, 2) := by decide +kernel
theorem dX0_deliver_46 : decode cX0_deliver 46 = .ok (.invokevirtual 89, 3) := by decide +kernel
theorem dX0_deliver_49 : decode cX0_deliver 49 = .ok (.iinc 4 1, 3) := by decide +kernel
theorem dX0_deliver_52 : decode cX0_deliver 52 = .ok (.goto (-26), 3) := by decide +kernel
theorem dX0_deliver_55 : decode cX0_deliver 55 = .ok (.iload_n 3, 1) := by decide +kernel
theorem dX0_deliver_56 : decode cX0_deliver 56 = .ok (.iconst (-1), 1) := by decide +kernel
theorem dX0_deliver_57 : decode cX0_deliver 57 = .ok (.if_icmp .eq 9, 3) := by decide +kernel
theorem dX0_deliver_60 : decode cX0_deliver 60 = .ok (.aload_n 0, 1) := by decide +kernel
theorem dX0_deliver_61 : decode cX0_deliver 61 = .ok (.aload_n 1, 1) := by decide +kernel
theorem dX0_deliver_62 : decode cX0_deliver 62 = .ok (.iload_n 2, 1) := by decide +kernel
theorem dX0_deliver_63 : decode cX0_deliver 63 = .ok (.invokevirtual 93, 3) := by decide +kernel
theorem dX0_deliver_66 : decode cX0_deliver 66 = .ok (.iinc 2 1, 3) := by decide +kernel
theorem dX0_deliver_69 : decode cX0_deliver 69 = .ok (.goto (-67), 3) := by decide +kernel
theorem dX0_deliver_72 : decode cX0_deliver 72 = .ok (.return_, 1) := by decide +kernel
/-! BusLifts$Bus.deliver(LBusLifts$Lifts;)V -/
noncomputable def f_X0_deliver_72  (σ : Sg)  : Option Sg := some σ
noncomputable def f_X0_deliver_66 (k2 : Sg → Nat → Int32 → Option Sg) (σ : Sg) (o1 : Nat) (v2 : Int32) : Option Sg := k2 σ o1 (v2 + 1)
noncomputable def f_X0_deliver_55 (k2 : Sg → Nat → Int32 → Option Sg) (σ : Sg) (o1 : Nat) (v2 : Int32) (v3 : Int32) : Option Sg := if v3 = (-1) then (f_X0_deliver_66 k2 σ o1 v2) else (bv (f_X0_deliverToStation σ o1 v2) fun σ1 => (f_X0_deliver_66 k2 σ1 o1 v2))
noncomputable def f_X0_deliver_49 (k2 : Sg → Nat → Int32 → Option Sg) (k26 : Sg → Nat → Int32 → Int32 → Int32 → Option Sg) (σ : Sg) (o1 : Nat) (v2 : Int32) (v3 : Int32) (v4 : Int32) : Option Sg := k26 σ o1 v2 v3 (v4 + 1)
noncomputable def f_X0_deliver_26 (k2 : Sg → Nat → Int32 → Option Sg) : Nat → Sg → Nat → Int32 → Int32 → Int32 → Option Sg
  | 0, _, _, _, _, _ => none
  | n + 1, σ, o1, v2, v3, v4 => if (σ 4 o1 1) ≤ v4 then (f_X0_deliver_55 k2 σ o1 v2 v3) else (if v4 = v3 then (f_X0_deliver_49 k2 (f_X0_deliver_26 k2 n) σ o1 v2 v3 v4) else (bv (f_X0_deliverToCar σ o1 v2 v4) fun σ1 => (f_X0_deliver_49 k2 (f_X0_deliver_26 k2 n) σ1 o1 v2 v3 v4)))
theorem f_X0_deliver_26_s (k2 : Sg → Nat → Int32 → Option Sg) (n : Nat) (σ : Sg) (o1 : Nat) (v2 : Int32) (v3 : Int32) (v4 : Int32) : f_X0_deliver_26 k2 (n + 1) σ o1 v2 v3 v4 = (if (σ 4 o1 1) ≤ v4 then (f_X0_deliver_55 k2 σ o1 v2 v3) else (if v4 = v3 then (f_X0_deliver_49 k2 (f_X0_deliver_26 k2 n) σ o1 v2 v3 v4) else (bv (f_X0_deliverToCar σ o1 v2 v4) fun σ1 => (f_X0_deliver_49 k2 (f_X0_deliver_26 k2 n) σ1 o1 v2 v3 v4)))) := rfl
noncomputable def f_X0_deliver_2  : Nat → Sg → Nat → Int32 → Option Sg
  | 0, _, _, _ => none
  | n + 1, σ, o1, v2 => if (σ 5 13 0) ≤ v2 then (f_X0_deliver_72 σ) else (if v2 < 0 ∨ 240 ≤ (v2).toNatClampNeg then none else (f_X0_deliver_26 (f_X0_deliver_2 n) FU σ o1 v2 (σ 20 13 (v2).toNatClampNeg) 0))
theorem f_X0_deliver_2_s  (n : Nat) (σ : Sg) (o1 : Nat) (v2 : Int32) : f_X0_deliver_2  (n + 1) σ o1 v2 = (if (σ 5 13 0) ≤ v2 then (f_X0_deliver_72 σ) else (if v2 < 0 ∨ 240 ≤ (v2).toNatClampNeg then none else (f_X0_deliver_26 (f_X0_deliver_2 n) FU σ o1 v2 (σ 20 13 (v2).toNatClampNeg) 0))) := rfl
noncomputable def f_X0_deliver  (σ : Sg) (o1 : Nat) : Option Sg := f_X0_deliver_2 FU σ o1 0
set_option maxHeartbeats 4000000 in
set_option maxRecDepth 100000 in
theorem w_X0_deliver_72 {p : Program} {l : Launch} {e : Env} {s : State} {m : MethodId} {args : Array Value} {below : List Frame} {meth : Method} {c : Code} {G : Gx} {ad : Ad} {res : Sg} (C : Cx p s m args meth c yX0_deliver.cls cX0_deliver 5 none G)  : ∀ (σ : Sg)  (H : Heap) (locs : List Loc) (ls : Array Slot), z_S 0 G ad σ (z_A 0 ad s.heap.size) s.heap H locs → lv_has ls 5 [] → f_X0_deliver_72  σ  = some res → W p l e { frames := 4, cells := 0, slots := 0, locals := 97 } s m args below meth c H locs 0 0 (MQ below (va_Qv (S := Unit) (fun _ => True) (fun _ t => z_W 0 G ad res t.heap) (z_A 0 ad s.heap.size)) args s 0 0 (z_A 0 ad s.heap.size)) (F0 m 72 ls []) := by
  intro σ  H locs ls S hl  hf
  unfold f_X0_deliver_72 at hf
  exact z_vret C S hf dX0_deliver_72
set_option maxHeartbeats 4000000 in
set_option maxRecDepth 100000 in
theorem w_X0_deliver_66 {p : Program} {l : Launch} {e : Env} {s : State} {m : MethodId} {args : Array Value} {below : List Frame} {meth : Method} {c : Code} {G : Gx} {ad : Ad} {res : Sg} (C : Cx p s m args meth c yX0_deliver.cls cX0_deliver 5 none G) (k2 : Sg → Nat → Int32 → Option Sg) (hk2 : ∀ (σ : Sg) (o1 : Nat) (v2 : Int32) (H : Heap) (locs : List Loc) (ls : Array Slot), z_S 0 G ad σ (z_A 0 ad s.heap.size) s.heap H locs → lv_has ls 5 [(0, .ref (ad 0 0)), (1, .ref (ad 4 o1)), (2, .int v2)] → (o1 < z_cnt 4) → k2 σ o1 v2 = some res → W p l e { frames := 4, cells := 0, slots := 0, locals := 97 } s m args below meth c H locs 0 0 (MQ below (va_Qv (S := Unit) (fun _ => True) (fun _ t => z_W 0 G ad res t.heap) (z_A 0 ad s.heap.size)) args s 0 0 (z_A 0 ad s.heap.size)) (F0 m 2 ls [])) : ∀ (σ : Sg) (o1 : Nat) (v2 : Int32) (H : Heap) (locs : List Loc) (ls : Array Slot), z_S 0 G ad σ (z_A 0 ad s.heap.size) s.heap H locs → lv_has ls 5 [(0, .ref (ad 0 0)), (1, .ref (ad 4 o1)), (2, .int v2)] → (o1 < z_cnt 4) → f_X0_deliver_66 k2 σ o1 v2 = some res → W p l e { frames := 4, cells := 0, slots := 0, locals := 97 } s m args below meth c H locs 0 0 (MQ below (va_Qv (S := Unit) (fun _ => True) (fun _ t => z_W 0 G ad res t.heap) (z_A 0 ad s.heap.size)) args s 0 0 (z_A 0 ad s.heap.size)) (F0 m 66 ls []) := by
  intro σ o1 v2 H locs ls S hl ho1 hf
  unfold f_X0_deliver_66 at hf
  refine lv_iinc (v := (v2 + 1)) (lv' := [(2, .int (v2 + 1)), (0, .ref (ad 0 0)), (1, .ref (ad 4 o1))]) C.1 C.2.1 dX0_deliver_66 hl (k := 2) rfl rfl (by decide) rfl (fun ls hl => ?_)
  refine lv_goto (tgt := 2) C.1 C.2.1 dX0_deliver_69 (by decide) ?_
  exact hk2 _ o1 (v2 + 1) _ _ _ S (lv_sub hl [1, 2, 0] rfl) ho1 hf
set_option maxHeartbeats 4000000 in
set_option maxRecDepth 100000 in
theorem w_X0_deliver_55 {p : Program} {l : Launch} {e : Env} {s : State} {m : MethodId} {args : Array Value} {below : List Frame} {meth : Method} {c : Code} {G : Gx} {ad : Ad} {res : Sg} (C : Cx p s m args meth c yX0_deliver.cls cX0_deliver 5 none G) (k2 : Sg → Nat → Int32 → Option Sg) (hk2 : ∀ (σ : Sg) (o1 : Nat) (v2 : Int32) (H : Heap) (locs : List Loc) (ls : Array Slot), z_S 0 G ad σ (z_A 0 ad s.heap.size) s.heap H locs → lv_has ls 5 [(0, .ref (ad 0 0)), (1, .ref (ad 4 o1)), (2, .int v2)] → (o1 < z_cnt 4) → k2 σ o1 v2 = some res → W p l e { frames := 4, cells := 0, slots := 0, locals := 97 } s m args below meth c H locs 0 0 (MQ below (va_Qv (S := Unit) (fun _ => True) (fun _ t => z_W 0 G ad res t.heap) (z_A 0 ad s.heap.size)) args s 0 0 (z_A 0 ad s.heap.size)) (F0 m 2 ls [])) : ∀ (σ : Sg) (o1 : Nat) (v2 : Int32) (v3 : Int32) (H : Heap) (locs : List Loc) (ls : Array Slot), z_S 0 G ad σ (z_A 0 ad s.heap.size) s.heap H locs → lv_has ls 5 [(0, .ref (ad 0 0)), (1, .ref (ad 4 o1)), (2, .int v2), (3, .int v3)] → (o1 < z_cnt 4) → f_X0_deliver_55 k2 σ o1 v2 v3 = some res → W p l e { frames := 4, cells := 0, slots := 0, locals := 97 } s m args below meth c H locs 0 0 (MQ below (va_Qv (S := Unit) (fun _ => True) (fun _ t => z_W 0 G ad res t.heap) (z_A 0 ad s.heap.size)) args s 0 0 (z_A 0 ad s.heap.size)) (F0 m 55 ls []) := by
  intro σ o1 v2 v3 H locs ls S hl ho1 hf
  unfold f_X0_deliver_55 at hf
  refine lv_iload_n C.1 C.2.1 dX0_deliver_55 rfl (lv_at hl 3 rfl) ?_
  refine lv_iconst (v := (-1)) C.1 C.2.1 dX0_deliver_56 (by decide) ?_
  refine lv_icmp_eq (tgt := 66) C.1 C.2.1 dX0_deliver_57 (by decide) (fun c_57 => ?_) (fun c_57 => ?_)
  · rw [if_pos c_57] at hf
    exact w_X0_deliver_66 C k2 hk2 _ o1 v2 _ _ _ S (lv_sub hl [0, 1, 2] rfl) ho1 hf
  · rw [if_neg c_57] at hf
    refine lv_aload_n C.1 C.2.1 dX0_deliver_60 rfl (lv_at hl 0 rfl) ?_
    refine lv_aload_n C.1 C.2.1 dX0_deliver_61 rfl (lv_at hl 1 rfl) ?_
    refine lv_iload_n C.1 C.2.1 dX0_deliver_62 rfl (lv_at hl 2 rfl) ?_
    obtain ⟨σ1, q_63, hf⟩ := bvb hf
    refine z_callV C S 0 0 rfl (by decide) cf_0 ⟨_, rfl⟩ [.ref (ad 4 o1), .int v2] (m_X0_deliverToStation l G ad σ o1 v2 σ1 ho1 q_63 _) kv_X0_deliverToStation tw_7_134 ⟨Nat.le_of_ble_eq_true rfl, Nat.le_of_ble_eq_true rfl⟩ rfl rfl (Nat.le_of_ble_eq_true rfl) hl.1 ⟨Nat.le_of_ble_eq_true rfl, Nat.le_of_ble_eq_true rfl⟩ dX0_deliver_63 (fun H locs S => ?_)
    exact w_X0_deliver_66 C k2 hk2 _ o1 v2 _ _ _ S (lv_sub hl [0, 1, 2] rfl) ho1 hf
set_option maxHeartbeats 4000000 in
set_option maxRecDepth 100000 in
theorem w_X0_deliver_49 {p : Program} {l : Launch} {e : Env} {s : State} {m : MethodId} {args : Array Value} {below : List Frame} {meth : Method} {c : Code} {G : Gx} {ad : Ad} {res : Sg} (C : Cx p s m args meth c yX0_deliver.cls cX0_deliver 5 none G) (k2 : Sg → Nat → Int32 → Option Sg) (hk2 : ∀ (σ : Sg) (o1 : Nat) (v2 : Int32) (H : Heap) (locs : List Loc) (ls : Array Slot), z_S 0 G ad σ (z_A 0 ad s.heap.size) s.heap H locs → lv_has ls 5 [(0, .ref (ad 0 0)), (1, .ref (ad 4 o1)), (2, .int v2)] → (o1 < z_cnt 4) → k2 σ o1 v2 = some res → W p l e { frames := 4, cells := 0, slots := 0, locals := 97 } s m args below meth c H locs 0 0 (MQ below (va_Qv (S := Unit) (fun _ => True) (fun _ t => z_W 0 G ad res t.heap) (z_A 0 ad s.heap.size)) args s 0 0 (z_A 0 ad s.heap.size)) (F0 m 2 ls [])) (k26 : Sg → Nat → Int32 → Int32 → Int32 → Option Sg) (hk26 : ∀ (σ : Sg) (o1 : Nat) (v2 : Int32) (v3 : Int32) (v4 : Int32) (H : Heap) (locs : List Loc) (ls : Array Slot), z_S 0 G ad σ (z_A 0 ad s.heap.size) s.heap H locs → lv_has ls 5 [(0, .ref (ad 0 0)), (1, .ref (ad 4 o1)), (2, .int v2), (3, .int v3), (4, .int v4)] → (o1 < z_cnt 4) → k26 σ o1 v2 v3 v4 = some res → W p l e { frames := 4, cells := 0, slots := 0, locals := 97 } s m args below meth c H locs 0 0 (MQ below (va_Qv (S := Unit) (fun _ => True) (fun _ t => z_W 0 G ad res t.heap) (z_A 0 ad s.heap.size)) args s 0 0 (z_A 0 ad s.heap.size)) (F0 m 26 ls [])) : ∀ (σ : Sg) (o1 : Nat) (v2 : Int32) (v3 : Int32) (v4 : Int32) (H : Heap) (locs : List Loc) (ls : Array Slot), z_S 0 G ad σ (z_A 0 ad s.heap.size) s.heap H locs → lv_has ls 5 [(0, .ref (ad 0 0)), (1, .ref (ad 4 o1)), (2, .int v2), (3, .int v3), (4, .int v4)] → (o1 < z_cnt 4) → f_X0_deliver_49 k2 k26 σ o1 v2 v3 v4 = some res → W p l e { frames := 4, cells := 0, slots := 0, locals := 97 } s m args below meth c H locs 0 0 (MQ below (va_Qv (S := Unit) (fun _ => True) (fun _ t => z_W 0 G ad res t.heap) (z_A 0 ad s.heap.size)) args s 0 0 (z_A 0 ad s.heap.size)) (F0 m 49 ls []) := by
  intro σ o1 v2 v3 v4 H locs ls S hl ho1 hf
  unfold f_X0_deliver_49 at hf
  refine lv_iinc (v := (v4 + 1)) (lv' := [(4, .int (v4 + 1)), (0, .ref (ad 0 0)), (1, .ref (ad 4 o1)), (2, .int v2), (3, .int v3)]) C.1 C.2.1 dX0_deliver_49 hl (k := 4) rfl rfl (by decide) rfl (fun ls hl => ?_)
  refine lv_goto (tgt := 26) C.1 C.2.1 dX0_deliver_52 (by decide) ?_
  exact hk26 _ o1 v2 v3 (v4 + 1) _ _ _ S (lv_sub hl [1, 2, 3, 4, 0] rfl) ho1 hf
set_option maxHeartbeats 4000000 in
set_option maxRecDepth 100000 in
theorem w_X0_deliver_26 {p : Program} {l : Launch} {e : Env} {s : State} {m : MethodId} {args : Array Value} {below : List Frame} {meth : Method} {c : Code} {G : Gx} {ad : Ad} {res : Sg} (C : Cx p s m args meth c yX0_deliver.cls cX0_deliver 5 none G) (k2 : Sg → Nat → Int32 → Option Sg) (hk2 : ∀ (σ : Sg) (o1 : Nat) (v2 : Int32) (H : Heap) (locs : List Loc) (ls : Array Slot), z_S 0 G ad σ (z_A 0 ad s.heap.size) s.heap H locs → lv_has ls 5 [(0, .ref (ad 0 0)), (1, .ref (ad 4 o1)), (2, .int v2)] → (o1 < z_cnt 4) → k2 σ o1 v2 = some res → W p l e { frames := 4, cells := 0, slots := 0, locals := 97 } s m args below meth c H locs 0 0 (MQ below (va_Qv (S := Unit) (fun _ => True) (fun _ t => z_W 0 G ad res t.heap) (z_A 0 ad s.heap.size)) args s 0 0 (z_A 0 ad s.heap.size)) (F0 m 2 ls [])) : ∀ n : Nat, ∀ (σ : Sg) (o1 : Nat) (v2 : Int32) (v3 : Int32) (v4 : Int32) (H : Heap) (locs : List Loc) (ls : Array Slot), z_S 0 G ad σ (z_A 0 ad s.heap.size) s.heap H locs → lv_has ls 5 [(0, .ref (ad 0 0)), (1, .ref (ad 4 o1)), (2, .int v2), (3, .int v3), (4, .int v4)] → (o1 < z_cnt 4) → f_X0_deliver_26 k2 n σ o1 v2 v3 v4 = some res → W p l e { frames := 4, cells := 0, slots := 0, locals := 97 } s m args below meth c H locs 0 0 (MQ below (va_Qv (S := Unit) (fun _ => True) (fun _ t => z_W 0 G ad res t.heap) (z_A 0 ad s.heap.size)) args s 0 0 (z_A 0 ad s.heap.size)) (F0 m 26 ls []) := by
  intro n
  induction n with
  | zero => intro σ o1 v2 v3 v4 H locs ls S hl ho1 hf; cases hf
  | succ n ih =>
    intro σ o1 v2 v3 v4 H locs ls S hl ho1 hf
    rw [f_X0_deliver_26_s] at hf
    refine lv_iload C.1 C.2.1 dX0_deliver_26 (lv_at hl 4 rfl) ?_
    refine lv_aload_n C.1 C.2.1 dX0_deliver_28 rfl (lv_at hl 1 rfl) ?_
    refine z_getI C S 4 o1 rfl ho1 cf_4 1 (by decide) (gi_4_1 G ad o1) tw_1_225 dX0_deliver_29 ?_
    refine lv_icmp_ge (tgt := 55) C.1 C.2.1 dX0_deliver_32 (by decide) (fun c_32 => ?_) (fun c_32 => ?_)
    · rw [if_pos c_32] at hf
      exact w_X0_deliver_55 C k2 hk2 _ o1 v2 v3 _ _ _ S (lv_sub hl [0, 1, 2, 3] rfl) ho1 hf
    · rw [if_neg c_32] at hf
      refine lv_iload C.1 C.2.1 dX0_deliver_35 (lv_at hl 4 rfl) ?_
      refine lv_iload_n C.1 C.2.1 dX0_deliver_37 rfl (lv_at hl 3 rfl) ?_
      refine lv_icmp_eq (tgt := 49) C.1 C.2.1 dX0_deliver_38 (by decide) (fun c_38 => ?_) (fun c_38 => ?_)
      · rw [if_pos c_38] at hf
        exact w_X0_deliver_49 C k2 hk2 (f_X0_deliver_26 k2 n) ih _ o1 v2 v3 v4 _ _ _ S (lv_sub hl [0, 1, 2, 3, 4] rfl) ho1 hf
      · rw [if_neg c_38] at hf
        refine lv_aload_n C.1 C.2.1 dX0_deliver_41 rfl (lv_at hl 0 rfl) ?_
        refine lv_aload_n C.1 C.2.1 dX0_deliver_42 rfl (lv_at hl 1 rfl) ?_
        refine lv_iload_n C.1 C.2.1 dX0_deliver_43 rfl (lv_at hl 2 rfl) ?_
        refine lv_iload C.1 C.2.1 dX0_deliver_44 (lv_at hl 4 rfl) ?_
        obtain ⟨σ1, q_46, hf⟩ := bvb hf
        refine z_callV C S 0 0 rfl (by decide) cf_0 ⟨_, rfl⟩ [.ref (ad 4 o1), .int v2, .int v4] (m_X0_deliverToCar l G ad σ o1 v2 v4 σ1 ho1 q_46 _) kv_X0_deliverToCar tw_7_100 ⟨Nat.le_of_ble_eq_true rfl, Nat.le_of_ble_eq_true rfl⟩ rfl rfl (Nat.le_of_ble_eq_true rfl) hl.1 ⟨Nat.le_of_ble_eq_true rfl, Nat.le_of_ble_eq_true rfl⟩ dX0_deliver_46 (fun H locs S => ?_)
        exact w_X0_deliver_49 C k2 hk2 (f_X0_deliver_26 k2 n) ih _ o1 v2 v3 v4 _ _ _ S (lv_sub hl [0, 1, 2, 3, 4] rfl) ho1 hf
set_option maxHeartbeats 4000000 in
set_option maxRecDepth 100000 in
theorem w_X0_deliver_2 {p : Program} {l : Launch} {e : Env} {s : State} {m : MethodId} {args : Array Value} {below : List Frame} {meth : Method} {c : Code} {G : Gx} {ad : Ad} {res : Sg} (C : Cx p s m args meth c yX0_deliver.cls cX0_deliver 5 none G)  : ∀ n : Nat, ∀ (σ : Sg) (o1 : Nat) (v2 : Int32) (H : Heap) (locs : List Loc) (ls : Array Slot), z_S 0 G ad σ (z_A 0 ad s.heap.size) s.heap H locs → lv_has ls 5 [(0, .ref (ad 0 0)), (1, .ref (ad 4 o1)), (2, .int v2)] → (o1 < z_cnt 4) → f_X0_deliver_2  n σ o1 v2 = some res → W p l e { frames := 4, cells := 0, slots := 0, locals := 97 } s m args below meth c H locs 0 0 (MQ below (va_Qv (S := Unit) (fun _ => True) (fun _ t => z_W 0 G ad res t.heap) (z_A 0 ad s.heap.size)) args s 0 0 (z_A 0 ad s.heap.size)) (F0 m 2 ls []) := by
  intro n
  induction n with
  | zero => intro σ o1 v2 H locs ls S hl ho1 hf; cases hf
  | succ n ih =>
    intro σ o1 v2 H locs ls S hl ho1 hf
    rw [f_X0_deliver_2_s] at hf
    refine lv_iload_n C.1 C.2.1 dX0_deliver_2 rfl (lv_at hl 2 rfl) ?_
    refine lv_aload_n C.1 C.2.1 dX0_deliver_3 rfl (lv_at hl 0 rfl) ?_
    refine z_getR C S 0 0 rfl (by decide) cf_0 0 (by decide) _ (gr_0_0 G ad 0) tw_2_71 dX0_deliver_4 ?_
    refine z_getI C S 5 13 rfl (by decide) cf_5 0 (by decide) (gi_5_0 G ad 13) tw_1_61 dX0_deliver_7 ?_
    refine lv_icmp_ge (tgt := 72) C.1 C.2.1 dX0_deliver_10 (by decide) (fun c_10 => ?_) (fun c_10 => ?_)
    · rw [if_pos c_10] at hf
      exact w_X0_deliver_72 C _ _ _ _ S (lv_sub hl [] rfl) hf
    · rw [if_neg c_10] at hf
      refine lv_aload_n C.1 C.2.1 dX0_deliver_13 rfl (lv_at hl 0 rfl) ?_
      refine z_getR C S 0 0 rfl (by decide) cf_0 0 (by decide) _ (gr_0_0 G ad 0) tw_2_71 dX0_deliver_14 ?_
      refine z_getR C S 5 13 rfl (by decide) cf_5 1 (by decide) _ (gr_5_1 G ad 13) tw_1_64 dX0_deliver_17 ?_
      refine lv_iload_n C.1 C.2.1 dX0_deliver_20 rfl (lv_at hl 2 rfl) ?_
      obtain ⟨g_21, hf⟩ := gd hf
      refine z_iald C S 20 13 rfl (by decide) 240 (fun _ => rfl) g_21 dX0_deliver_21 ?_
      refine lv_istore_n (lv' := [(3, .int (σ 20 13 (v2).toNatClampNeg)), (0, .ref (ad 0 0)), (1, .ref (ad 4 o1)), (2, .int v2)]) C.1 C.2.1 dX0_deliver_22 rfl hl (by decide) rfl (fun ls hl => ?_)
      refine lv_iconst (v := 0) C.1 C.2.1 dX0_deliver_23 (by decide) ?_
      refine lv_istore (lv' := [(4, .int 0), (3, .int (σ 20 13 (v2).toNatClampNeg)), (0, .ref (ad 0 0)), (1, .ref (ad 4 o1)), (2, .int v2)]) C.1 C.2.1 dX0_deliver_24 hl (by decide) rfl (fun ls hl => ?_)
      exact w_X0_deliver_26 C (f_X0_deliver_2 n) ih FU _ o1 v2 (σ 20 13 (v2).toNatClampNeg) 0 _ _ _ S (lv_sub hl [2, 3, 4, 1, 0] rfl) ho1 hf
set_option maxHeartbeats 4000000 in
set_option maxRecDepth 100000 in
theorem w_X0_deliver_0 {p : Program} {l : Launch} {e : Env} {s : State} {m : MethodId} {args : Array Value} {below : List Frame} {meth : Method} {c : Code} {G : Gx} {ad : Ad} {res : Sg} (C : Cx p s m args meth c yX0_deliver.cls cX0_deliver 5 none G)  : ∀ (σ : Sg) (o1 : Nat) (H : Heap) (locs : List Loc) (ls : Array Slot), z_S 0 G ad σ (z_A 0 ad s.heap.size) s.heap H locs → lv_has ls 5 [(0, .ref (ad 0 0)), (1, .ref (ad 4 o1))] → (o1 < z_cnt 4) → f_X0_deliver  σ o1 = some res → W p l e { frames := 4, cells := 0, slots := 0, locals := 97 } s m args below meth c H locs 0 0 (MQ below (va_Qv (S := Unit) (fun _ => True) (fun _ t => z_W 0 G ad res t.heap) (z_A 0 ad s.heap.size)) args s 0 0 (z_A 0 ad s.heap.size)) (F0 m 0 ls []) := by
  intro σ o1 H locs ls S hl ho1 hf
  unfold f_X0_deliver at hf
  refine lv_iconst (v := 0) C.1 C.2.1 dX0_deliver_0 (by decide) ?_
  refine lv_istore_n (lv' := [(2, .int 0), (0, .ref (ad 0 0)), (1, .ref (ad 4 o1))]) C.1 C.2.1 dX0_deliver_1 rfl hl (by decide) rfl (fun ls hl => ?_)
  exact w_X0_deliver_2 C FU _ o1 0 _ _ _ S (lv_sub hl [1, 2, 0] rfl) ho1 hf
theorem kv_X0_deliver : KV yX0_deliver cX0_deliver 5 none 1 := ⟨tw_7_99, tw_7_98, tw_p_40, tw_1_17, by decide, by decide, by decide +kernel⟩
theorem m_X0_deliver (l : Launch) (G : Gx) (ad : Ad) (σ : Sg) (o1 : Nat) (σ' : Sg) (ho1 : o1 < z_cnt 4) (hf : f_X0_deliver σ o1 = some σ') (sz : Nat) : z_MV l yX0_deliver cX0_deliver 5 none 4 97 0 G ad σ sz [.ref (ad 0 0), .ref (ad 4 o1)] σ' := by
  refine z_begin (by decide +kernel) (Nat.le_of_ble_eq_true rfl) [(0, .ref (ad 0 0)), (1, .ref (ad 4 o1))] rfl (fun p e s m args below meth c ls C hz S hl => ?_)
  subst hz
  exact w_X0_deliver_0 (res := σ') C σ o1 _ _ _ S hl ho1 hf

theorem dX0_announceAgain_0 : decode cX0_announceAgain 0 = .ok (.aload_n 1, 1) := by decide +kernel
theorem dX0_announceAgain_1 : decode cX0_announceAgain 1 = .ok (.getfield 141, 3) := by decide +kernel
theorem dX0_announceAgain_4 : decode cX0_announceAgain 4 = .ok (.iconst 1, 1) := by decide +kernel
theorem dX0_announceAgain_5 : decode cX0_announceAgain 5 = .ok (.iaload, 1) := by decide +kernel
theorem dX0_announceAgain_6 : decode cX0_announceAgain 6 = .ok (.istore_n 2, 1) := by decide +kernel
theorem dX0_announceAgain_7 : decode cX0_announceAgain 7 = .ok (.iconst 0, 1) := by decide +kernel
theorem dX0_announceAgain_8 : decode cX0_announceAgain 8 = .ok (.istore_n 3, 1) := by decide +kernel
theorem dX0_announceAgain_9 : decode cX0_announceAgain 9 = .ok (.iload_n 3, 1) := by decide +kernel
theorem dX0_announceAgain_10 : decode cX0_announceAgain 10 = .ok (.aload_n 1, 1) := by decide +kernel
theorem dX0_announceAgain_11 : decode cX0_announceAgain 11 = .ok (.getfield 57, 3) := by decide +kernel
theorem dX0_announceAgain_14 : decode cX0_announceAgain 14 = .ok (.if_icmp .ge 85, 3) := by decide +kernel
theorem dX0_announceAgain_17 : decode cX0_announceAgain 17 = .ok (.aload_n 1, 1) := by decide +kernel
theorem dX0_announceAgain_18 : decode cX0_announceAgain 18 = .ok (.getfield 60, 3) := by decide +kernel
theorem dX0_announceAgain_21 : decode cX0_announceAgain 21 = .ok (.iload_n 3, 1) := by decide +kernel
theorem dX0_announceAgain_22 : decode cX0_announceAgain 22 = .ok (.aaload, 1) := by decide +kernel
theorem dX0_announceAgain_23 : decode cX0_announceAgain 23 = .ok (.astore 4, 2) := by decide +kernel
theorem dX0_announceAgain_25 : decode cX0_announceAgain 25 = .ok (.aload 4, 2) := by decide +kernel
theorem dX0_announceAgain_27 : decode cX0_announceAgain 27 = .ok (.getfield 64, 3) := by decide +kernel
theorem dX0_announceAgain_30 : decode cX0_announceAgain 30 = .ok (.iconst 1, 1) := by decide +kernel
theorem dX0_announceAgain_31 : decode cX0_announceAgain 31 = .ok (.if_icmp .ne 62, 3) := by decide +kernel
theorem dX0_announceAgain_34 : decode cX0_announceAgain 34 = .ok (.aload 4, 2) := by decide +kernel
theorem dX0_announceAgain_36 : decode cX0_announceAgain 36 = .ok (.getfield 131, 3) := by decide +kernel
theorem dX0_announceAgain_39 : decode cX0_announceAgain 39 = .ok (.ifCond .lt 26, 3) := by decide +kernel
theorem dX0_announceAgain_42 : decode cX0_announceAgain 42 = .ok (.aload_n 1, 1) := by decide +kernel
theorem dX0_announceAgain_43 : decode cX0_announceAgain 43 = .ok (.getfield 54, 3) := by decide +kernel
theorem dX0_announceAgain_46 : decode cX0_announceAgain 46 = .ok (.aload 4, 2) := by decide +kernel
theorem dX0_announceAgain_48 : decode cX0_announceAgain 48 = .ok (.getfield 134, 3) := by decide +kernel
theorem dX0_announceAgain_51 : decode cX0_announceAgain 51 = .ok (.isub, 1) := by decide +kernel
theorem dX0_announceAgain_52 : decode cX0_announceAgain 52 = .ok (.bipush 10, 2) := by decide +kernel
theorem dX0_announceAgain_54 : decode cX0_announceAgain 54 = .ok (.iload_n 2, 1) := by decide +kernel
theorem dX0_announceAgain_55 : decode cX0_announceAgain 55 = .ok (.imul, 1) := by decide +kernel
theorem dX0_announceAgain_56 : decode cX0_announceAgain 56 = .ok (.if_icmp .lt 9, 3) := by decide +kernel
theorem dX0_announceAgain_59 : decode cX0_announceAgain 59 = .ok (.aload 4, 2) := by decide +kernel
theorem dX0_announceAgain_61 : decode cX0_announceAgain 61 = .ok (.iconst (-1), 1) := by decide +kernel
theorem dX0_announceAgain_62 : decode cX0_announceAgain 62 = .ok (.putfield 131, 3) := by decide +kernel
theorem dX0_announceAgain_65 : decode cX0_announceAgain 65 = .ok (.aload 4, 2) := by decide +kernel
theorem dX0_announceAgain_67 : decode cX0_announceAgain 67 = .ok (.getfield 131, 3) := by decide +kernel
theorem dX0_announceAgain_70 : decode cX0_announceAgain 70 = .ok (.ifCond .ge 23, 3) := by decide +kernel
theorem dX0_announceAgain_73 : decode cX0_announceAgain 73 = .ok (.aload_n 1, 1) := by decide +kernel
theorem dX0_announceAgain_74 : decode cX0_announceAgain 74 = .ok (.getfield 54, 3) := by decide +kernel
theorem dX0_announceAgain_77 : decode cX0_announceAgain 77 = .ok (.aload 4, 2) := by decide +kernel
theorem dX0_announceAgain_79 : decode cX0_announceAgain 79 = .ok (.getfield 78, 3) := by decide +kernel
theorem dX0_announceAgain_82 : decode cX0_announceAgain 82 = .ok (.isub, 1) := by decide +kernel
theorem dX0_announceAgain_83 : decode cX0_announceAgain 83 = .ok (.iload_n 2, 1) := by decide +kernel
theorem dX0_announceAgain_84 : decode cX0_announceAgain 84 = .ok (.if_icmp .lt 9, 3) := by decide +kernel
theorem dX0_announceAgain_87 : decode cX0_announceAgain 87 = .ok (.aload_n 0, 1) := by decide +kernel
theorem dX0_announceAgain_88 : decode cX0_announceAgain 88 = .ok (.aload_n 1, 1) := by decide +kernel
theorem dX0_announceAgain_89 : decode cX0_announceAgain 89 = .ok (.iload_n 3, 1) := by decide +kernel
theorem dX0_announceAgain_90 : decode cX0_announceAgain 90 = .ok (.invokevirtual 72, 3) := by decide +kernel
theorem dX0_announceAgain_93 : decode cX0_announceAgain 93 = .ok (.iinc 3 1, 3) := by decide +kernel
theorem dX0_announceAgain_96 : decode cX0_announceAgain 96 = .ok (.goto (-87), 3) := by decide +kernel
theorem dX0_announceAgain_99 : decode cX0_announceAgain 99 = .ok (.return_, 1) := by decide +kernel
/-! BusLifts$Bus.announceAgain(LBusLifts$Lifts;)V -/
noncomputable def f_X0_announceAgain_99  (σ : Sg)  : Option Sg := some σ
noncomputable def f_X0_announceAgain_93 (k9 : Sg → Nat → Int32 → Int32 → Option Sg) (σ : Sg) (o1 : Nat) (v2 : Int32) (v3 : Int32) : Option Sg := k9 σ o1 v2 (v3 + 1)
noncomputable def f_X0_announceAgain_65 (k9 : Sg → Nat → Int32 → Int32 → Option Sg) (σ : Sg) (o1 : Nat) (v2 : Int32) (v3 : Int32) (o4 : Nat) : Option Sg := if 0 ≤ (σ 1 o4 8) then (f_X0_announceAgain_93 k9 σ o1 v2 v3) else (if ((σ 4 o1 3) - (σ 1 o4 10)) < v2 then (f_X0_announceAgain_93 k9 σ o1 v2 v3) else (bv (f_X0_announce σ o1 v3) fun σ1 => (f_X0_announceAgain_93 k9 σ1 o1 v2 v3)))
noncomputable def f_X0_announceAgain_9  : Nat → Sg → Nat → Int32 → Int32 → Option Sg
  | 0, _, _, _, _ => none
  | n + 1, σ, o1, v2, v3 => if (σ 4 o1 2) ≤ v3 then (f_X0_announceAgain_99 σ) else (if v3 < 0 ∨ 24 ≤ (v3).toNatClampNeg then none else (if (σ 1 (24 * o1 + (v3).toNatClampNeg) 3) = 1 then (if (σ 1 (24 * o1 + (v3).toNatClampNeg) 8) < 0 then (f_X0_announceAgain_65 (f_X0_announceAgain_9 n) σ o1 v2 v3 (24 * o1 + (v3).toNatClampNeg)) else (if ((σ 4 o1 3) - (σ 1 (24 * o1 + (v3).toNatClampNeg) 9)) < (10 * v2) then (f_X0_announceAgain_65 (f_X0_announceAgain_9 n) σ o1 v2 v3 (24 * o1 + (v3).toNatClampNeg)) else (st (sup σ 1 (24 * o1 + (v3).toNatClampNeg) 8 (-1)) fun σ1 => (f_X0_announceAgain_65 (f_X0_announceAgain_9 n) σ1 o1 v2 v3 (24 * o1 + (v3).toNatClampNeg))))) else (f_X0_announceAgain_93 (f_X0_announceAgain_9 n) σ o1 v2 v3)))
theorem f_X0_announceAgain_9_s  (n : Nat) (σ : Sg) (o1 : Nat) (v2 : Int32) (v3 : Int32) : f_X0_announceAgain_9  (n + 1) σ o1 v2 v3 = (if (σ 4 o1 2) ≤ v3 then (f_X0_announceAgain_99 σ) else (if v3 < 0 ∨ 24 ≤ (v3).toNatClampNeg then none else (if (σ 1 (24 * o1 + (v3).toNatClampNeg) 3) = 1 then (if (σ 1 (24 * o1 + (v3).toNatClampNeg) 8) < 0 then (f_X0_announceAgain_65 (f_X0_announceAgain_9 n) σ o1 v2 v3 (24 * o1 + (v3).toNatClampNeg)) else (if ((σ 4 o1 3) - (σ 1 (24 * o1 + (v3).toNatClampNeg) 9)) < (10 * v2) then (f_X0_announceAgain_65 (f_X0_announceAgain_9 n) σ o1 v2 v3 (24 * o1 + (v3).toNatClampNeg)) else (st (sup σ 1 (24 * o1 + (v3).toNatClampNeg) 8 (-1)) fun σ1 => (f_X0_announceAgain_65 (f_X0_announceAgain_9 n) σ1 o1 v2 v3 (24 * o1 + (v3).toNatClampNeg))))) else (f_X0_announceAgain_93 (f_X0_announceAgain_9 n) σ o1 v2 v3)))) := rfl
noncomputable def f_X0_announceAgain  (σ : Sg) (o1 : Nat) : Option Sg := f_X0_announceAgain_9 FU σ o1 (σ 12 o1 1) 0
set_option maxHeartbeats 4000000 in
set_option maxRecDepth 100000 in
theorem w_X0_announceAgain_99 {p : Program} {l : Launch} {e : Env} {s : State} {m : MethodId} {args : Array Value} {below : List Frame} {meth : Method} {c : Code} {G : Gx} {ad : Ad} {res : Sg} (C : Cx p s m args meth c yX0_announceAgain.cls cX0_announceAgain 5 none G)  : ∀ (σ : Sg)  (H : Heap) (locs : List Loc) (ls : Array Slot), z_S 0 G ad σ (z_A 0 ad s.heap.size) s.heap H locs → lv_has ls 5 [] → f_X0_announceAgain_99  σ  = some res → W p l e { frames := 3, cells := 0, slots := 0, locals := 70 } s m args below meth c H locs 0 0 (MQ below (va_Qv (S := Unit) (fun _ => True) (fun _ t => z_W 0 G ad res t.heap) (z_A 0 ad s.heap.size)) args s 0 0 (z_A 0 ad s.heap.size)) (F0 m 99 ls []) := by
  intro σ  H locs ls S hl  hf
  unfold f_X0_announceAgain_99 at hf
  exact z_vret C S hf dX0_announceAgain_99
set_option maxHeartbeats 4000000 in
set_option maxRecDepth 100000 in
theorem w_X0_announceAgain_93 {p : Program} {l : Launch} {e : Env} {s : State} {m : MethodId} {args : Array Value} {below : List Frame} {meth : Method} {c : Code} {G : Gx} {ad : Ad} {res : Sg} (C : Cx p s m args meth c yX0_announceAgain.cls cX0_announceAgain 5 none G) (k9 : Sg → Nat → Int32 → Int32 → Option Sg) (hk9 : ∀ (σ : Sg) (o1 : Nat) (v2 : Int32) (v3 : Int32) (H : Heap) (locs : List Loc) (ls : Array Slot), z_S 0 G ad σ (z_A 0 ad s.heap.size) s.heap H locs → lv_has ls 5 [(0, .ref (ad 0 0)), (1, .ref (ad 4 o1)), (2, .int v2), (3, .int v3)] → (o1 < z_cnt 4) → k9 σ o1 v2 v3 = some res → W p l e { frames := 3, cells := 0, slots := 0, locals := 70 } s m args below meth c H locs 0 0 (MQ below (va_Qv (S := Unit) (fun _ => True) (fun _ t => z_W 0 G ad res t.heap) (z_A 0 ad s.heap.size)) args s 0 0 (z_A 0 ad s.heap.size)) (F0 m 9 ls [])) : ∀ (σ : Sg) (o1 : Nat) (v2 : Int32) (v3 : Int32) (H : Heap) (locs : List Loc) (ls : Array Slot), z_S 0 G ad σ (z_A 0 ad s.heap.size) s.heap H locs → lv_has ls 5 [(0, .ref (ad 0 0)), (1, .ref (ad 4 o1)), (2, .int v2), (3, .int v3)] → (o1 < z_cnt 4) → f_X0_announceAgain_93 k9 σ o1 v2 v3 = some res → W p l e { frames := 3, cells := 0, slots := 0, locals := 70 } s m args below meth c H locs 0 0 (MQ below (va_Qv (S := Unit) (fun _ => True) (fun _ t => z_W 0 G ad res t.heap) (z_A 0 ad s.heap.size)) args s 0 0 (z_A 0 ad s.heap.size)) (F0 m 93 ls []) := by
  intro σ o1 v2 v3 H locs ls S hl ho1 hf
  unfold f_X0_announceAgain_93 at hf
  refine lv_iinc (v := (v3 + 1)) (lv' := [(3, .int (v3 + 1)), (0, .ref (ad 0 0)), (1, .ref (ad 4 o1)), (2, .int v2)]) C.1 C.2.1 dX0_announceAgain_93 hl (k := 3) rfl rfl (by decide) rfl (fun ls hl => ?_)
  refine lv_goto (tgt := 9) C.1 C.2.1 dX0_announceAgain_96 (by decide) ?_
  exact hk9 _ o1 v2 (v3 + 1) _ _ _ S (lv_sub hl [1, 2, 3, 0] rfl) ho1 hf
set_option maxHeartbeats 4000000 in
set_option maxRecDepth 100000 in
theorem w_X0_announceAgain_65 {p : Program} {l : Launch} {e : Env} {s : State} {m : MethodId} {args : Array Value} {below : List Frame} {meth : Method} {c : Code} {G : Gx} {ad : Ad} {res : Sg} (C : Cx p s m args meth c yX0_announceAgain.cls cX0_announceAgain 5 none G) (k9 : Sg → Nat → Int32 → Int32 → Option Sg) (hk9 : ∀ (σ : Sg) (o1 : Nat) (v2 : Int32) (v3 : Int32) (H : Heap) (locs : List Loc) (ls : Array Slot), z_S 0 G ad σ (z_A 0 ad s.heap.size) s.heap H locs → lv_has ls 5 [(0, .ref (ad 0 0)), (1, .ref (ad 4 o1)), (2, .int v2), (3, .int v3)] → (o1 < z_cnt 4) → k9 σ o1 v2 v3 = some res → W p l e { frames := 3, cells := 0, slots := 0, locals := 70 } s m args below meth c H locs 0 0 (MQ below (va_Qv (S := Unit) (fun _ => True) (fun _ t => z_W 0 G ad res t.heap) (z_A 0 ad s.heap.size)) args s 0 0 (z_A 0 ad s.heap.size)) (F0 m 9 ls [])) : ∀ (σ : Sg) (o1 : Nat) (v2 : Int32) (v3 : Int32) (o4 : Nat) (H : Heap) (locs : List Loc) (ls : Array Slot), z_S 0 G ad σ (z_A 0 ad s.heap.size) s.heap H locs → lv_has ls 5 [(0, .ref (ad 0 0)), (1, .ref (ad 4 o1)), (2, .int v2), (3, .int v3), (4, .ref (ad 1 o4))] → (o1 < z_cnt 4) → (o4 < z_cnt 1) → f_X0_announceAgain_65 k9 σ o1 v2 v3 o4 = some res → W p l e { frames := 3, cells := 0, slots := 0, locals := 70 } s m args below meth c H locs 0 0 (MQ below (va_Qv (S := Unit) (fun _ => True) (fun _ t => z_W 0 G ad res t.heap) (z_A 0 ad s.heap.size)) args s 0 0 (z_A 0 ad s.heap.size)) (F0 m 65 ls []) := by
  intro σ o1 v2 v3 o4 H locs ls S hl ho1 ho4 hf
  unfold f_X0_announceAgain_65 at hf
  refine lv_aload C.1 C.2.1 dX0_announceAgain_65 (lv_at hl 4 rfl) ?_
  refine z_getI C S 1 o4 rfl ho4 cf_1 8 (by decide) (gi_1_8 G ad o4) tw_1_190 dX0_announceAgain_67 ?_
  refine lv_if_ge (tgt := 93) C.1 C.2.1 dX0_announceAgain_70 (by decide) (fun c_70 => ?_) (fun c_70 => ?_)
  · rw [if_pos c_70] at hf
    exact w_X0_announceAgain_93 C k9 hk9 _ o1 v2 v3 _ _ _ S (lv_sub hl [0, 1, 2, 3] rfl) ho1 hf
  · rw [if_neg c_70] at hf
    refine lv_aload_n C.1 C.2.1 dX0_announceAgain_73 rfl (lv_at hl 1 rfl) ?_
    refine z_getI C S 4 o1 rfl ho1 cf_4 3 (by decide) (gi_4_3 G ad o1) tw_1_232 dX0_announceAgain_74 ?_
    refine lv_aload C.1 C.2.1 dX0_announceAgain_77 (lv_at hl 4 rfl) ?_
    refine z_getI C S 1 o4 rfl ho4 cf_1 10 (by decide) (gi_1_10 G ad o4) tw_1_195 dX0_announceAgain_79 ?_
    refine lv_isub C.1 C.2.1 dX0_announceAgain_82 ?_
    refine lv_iload_n C.1 C.2.1 dX0_announceAgain_83 rfl (lv_at hl 2 rfl) ?_
    refine lv_icmp_lt (tgt := 93) C.1 C.2.1 dX0_announceAgain_84 (by decide) (fun c_84 => ?_) (fun c_84 => ?_)
    · rw [if_pos c_84] at hf
      exact w_X0_announceAgain_93 C k9 hk9 _ o1 v2 v3 _ _ _ S (lv_sub hl [0, 1, 2, 3] rfl) ho1 hf
    · rw [if_neg c_84] at hf
      refine lv_aload_n C.1 C.2.1 dX0_announceAgain_87 rfl (lv_at hl 0 rfl) ?_
      refine lv_aload_n C.1 C.2.1 dX0_announceAgain_88 rfl (lv_at hl 1 rfl) ?_
      refine lv_iload_n C.1 C.2.1 dX0_announceAgain_89 rfl (lv_at hl 3 rfl) ?_
      obtain ⟨σ1, q_90, hf⟩ := bvb hf
      refine z_callV C S 0 0 rfl (by decide) cf_0 ⟨_, rfl⟩ [.ref (ad 4 o1), .int v3] (m_X0_announce l G ad σ o1 v3 σ1 ho1 q_90 _) kv_X0_announce tw_7_84 ⟨Nat.le_of_ble_eq_true rfl, Nat.le_of_ble_eq_true rfl⟩ rfl rfl (Nat.le_of_ble_eq_true rfl) hl.1 ⟨Nat.le_of_ble_eq_true rfl, Nat.le_of_ble_eq_true rfl⟩ dX0_announceAgain_90 (fun H locs S => ?_)
      exact w_X0_announceAgain_93 C k9 hk9 _ o1 v2 v3 _ _ _ S (lv_sub hl [0, 1, 2, 3] rfl) ho1 hf
set_option maxHeartbeats 4000000 in
set_option maxRecDepth 100000 in
theorem w_X0_announceAgain_9 {p : Program} {l : Launch} {e : Env} {s : State} {m : MethodId} {args : Array Value} {below : List Frame} {meth : Method} {c : Code} {G : Gx} {ad : Ad} {res : Sg} (C : Cx p s m args meth c yX0_announceAgain.cls cX0_announceAgain 5 none G)  : ∀ n : Nat, ∀ (σ : Sg) (o1 : Nat) (v2 : Int32) (v3 : Int32) (H : Heap) (locs : List Loc) (ls : Array Slot), z_S 0 G ad σ (z_A 0 ad s.heap.size) s.heap H locs → lv_has ls 5 [(0, .ref (ad 0 0)), (1, .ref (ad 4 o1)), (2, .int v2), (3, .int v3)] → (o1 < z_cnt 4) → f_X0_announceAgain_9  n σ o1 v2 v3 = some res → W p l e { frames := 3, cells := 0, slots := 0, locals := 70 } s m args below meth c H locs 0 0 (MQ below (va_Qv (S := Unit) (fun _ => True) (fun _ t => z_W 0 G ad res t.heap) (z_A 0 ad s.heap.size)) args s 0 0 (z_A 0 ad s.heap.size)) (F0 m 9 ls []) := by
  intro n
  induction n with
  | zero => intro σ o1 v2 v3 H locs ls S hl ho1 hf; cases hf
  | succ n ih =>
    intro σ o1 v2 v3 H locs ls S hl ho1 hf
    rw [f_X0_announceAgain_9_s] at hf
    refine lv_iload_n C.1 C.2.1 dX0_announceAgain_9 rfl (lv_at hl 3 rfl) ?_
    refine lv_aload_n C.1 C.2.1 dX0_announceAgain_10 rfl (lv_at hl 1 rfl) ?_
    refine z_getI C S 4 o1 rfl ho1 cf_4 2 (by decide) (gi_4_2 G ad o1) tw_1_228 dX0_announceAgain_11 ?_
    refine lv_icmp_ge (tgt := 99) C.1 C.2.1 dX0_announceAgain_14 (by decide) (fun c_14 => ?_) (fun c_14 => ?_)
    · rw [if_pos c_14] at hf
      exact w_X0_announceAgain_99 C _ _ _ _ S (lv_sub hl [] rfl) hf
    · rw [if_neg c_14] at hf
      refine lv_aload_n C.1 C.2.1 dX0_announceAgain_17 rfl (lv_at hl 1 rfl) ?_
      refine z_getR C S 4 o1 rfl ho1 cf_4 7 (by decide) _ (gr_4_7 G ad o1) tw_2_5 dX0_announceAgain_18 ?_
      refine lv_iload_n C.1 C.2.1 dX0_announceAgain_21 rfl (lv_at hl 3 rfl) ?_
      obtain ⟨g_22, hf⟩ := gd hf
      refine z_aald C S 26 o1 rfl ho1 24 2 1 (24 * o1) rfl (fun _ => rfl) g_22 dX0_announceAgain_22 ?_
      refine lv_astore (lv' := [(4, .ref (ad 1 (24 * o1 + (v3).toNatClampNeg))), (0, .ref (ad 0 0)), (1, .ref (ad 4 o1)), (2, .int v2), (3, .int v3)]) C.1 C.2.1 dX0_announceAgain_23 hl (by decide) rfl (fun ls hl => ?_)
      refine lv_aload C.1 C.2.1 dX0_announceAgain_25 (lv_at hl 0 rfl) ?_
      refine z_getI C S 1 (24 * o1 + (v3).toNatClampNeg) rfl (oc1 ho1 g_22) cf_1 3 (by decide) (gi_1_3 G ad (24 * o1 + (v3).toNatClampNeg)) tw_1_174 dX0_announceAgain_27 ?_
      refine lv_iconst (v := 1) C.1 C.2.1 dX0_announceAgain_30 (by decide) ?_
      refine lv_icmp_ne (tgt := 93) C.1 C.2.1 dX0_announceAgain_31 (by decide) (fun c_31 => ?_) (fun c_31 => ?_)
      · rw [if_neg c_31] at hf
        exact w_X0_announceAgain_93 C (f_X0_announceAgain_9 n) ih _ o1 v2 v3 _ _ _ S (lv_sub hl [1, 2, 3, 4] rfl) ho1 hf
      · rw [if_pos c_31] at hf
        refine lv_aload C.1 C.2.1 dX0_announceAgain_34 (lv_at hl 0 rfl) ?_
        refine z_getI C S 1 (24 * o1 + (v3).toNatClampNeg) rfl (oc1 ho1 g_22) cf_1 8 (by decide) (gi_1_8 G ad (24 * o1 + (v3).toNatClampNeg)) tw_1_190 dX0_announceAgain_36 ?_
        refine lv_if_lt (tgt := 65) C.1 C.2.1 dX0_announceAgain_39 (by decide) (fun c_39 => ?_) (fun c_39 => ?_)
        · rw [if_pos c_39] at hf
          exact w_X0_announceAgain_65 C (f_X0_announceAgain_9 n) ih _ o1 v2 v3 (24 * o1 + (v3).toNatClampNeg) _ _ _ S (lv_sub hl [1, 2, 3, 4, 0] rfl) ho1 (oc1 ho1 g_22) hf
        · rw [if_neg c_39] at hf
          refine lv_aload_n C.1 C.2.1 dX0_announceAgain_42 rfl (lv_at hl 2 rfl) ?_
          refine z_getI C S 4 o1 rfl ho1 cf_4 3 (by decide) (gi_4_3 G ad o1) tw_1_232 dX0_announceAgain_43 ?_
          refine lv_aload C.1 C.2.1 dX0_announceAgain_46 (lv_at hl 0 rfl) ?_
          refine z_getI C S 1 (24 * o1 + (v3).toNatClampNeg) rfl (oc1 ho1 g_22) cf_1 9 (by decide) (gi_1_9 G ad (24 * o1 + (v3).toNatClampNeg)) tw_1_193 dX0_announceAgain_48 ?_
          refine lv_isub C.1 C.2.1 dX0_announceAgain_51 ?_
          refine lv_bipush (v := 10) C.1 C.2.1 dX0_announceAgain_52 (by decide) ?_
          refine lv_iload_n C.1 C.2.1 dX0_announceAgain_54 rfl (lv_at hl 3 rfl) ?_
          refine lv_imul C.1 C.2.1 dX0_announceAgain_55 ?_
          refine lv_icmp_lt (tgt := 65) C.1 C.2.1 dX0_announceAgain_56 (by decide) (fun c_56 => ?_) (fun c_56 => ?_)
          · rw [if_pos c_56] at hf
            exact w_X0_announceAgain_65 C (f_X0_announceAgain_9 n) ih _ o1 v2 v3 (24 * o1 + (v3).toNatClampNeg) _ _ _ S (lv_sub hl [1, 2, 3, 4, 0] rfl) ho1 (oc1 ho1 g_22) hf
          · rw [if_neg c_56] at hf
            refine lv_aload C.1 C.2.1 dX0_announceAgain_59 (lv_at hl 0 rfl) ?_
            refine lv_iconst (v := (-1)) C.1 C.2.1 dX0_announceAgain_61 (by decide) ?_
            obtain ⟨σ1, e_62, hf⟩ := stb hf
            refine z_putI C S 1 (24 * o1 + (v3).toNatClampNeg) rfl (oc1 ho1 g_22) cf_1 8 (by decide) (pi_1_8 G ad (24 * o1 + (v3).toNatClampNeg)) rfl rfl rfl tw_1_190 dX0_announceAgain_62 (fun H locs S => ?_)
            rw [← e_62] at S
            exact w_X0_announceAgain_65 C (f_X0_announceAgain_9 n) ih _ o1 v2 v3 (24 * o1 + (v3).toNatClampNeg) _ _ _ S (lv_sub hl [1, 2, 3, 4, 0] rfl) ho1 (oc1 ho1 g_22) hf
set_option maxHeartbeats 4000000 in
set_option maxRecDepth 100000 in
theorem w_X0_announceAgain_0 {p : Program} {l : Launch} {e : Env} {s : State} {m : MethodId} {args : Array Value} {below : List Frame} {meth : Method} {c : Code} {G : Gx} {ad : Ad} {res : Sg} (C : Cx p s m args meth c yX0_announceAgain.cls cX0_announceAgain 5 none G)  : ∀ (σ : Sg) (o1 : Nat) (H : Heap) (locs : List Loc) (ls : Array Slot), z_S 0 G ad σ (z_A 0 ad s.heap.size) s.heap H locs → lv_has ls 5 [(0, .ref (ad 0 0)), (1, .ref (ad 4 o1))] → (o1 < z_cnt 4) → f_X0_announceAgain  σ o1 = some res → W p l e { frames := 3, cells := 0, slots := 0, locals := 70 } s m args below meth c H locs 0 0 (MQ below (va_Qv (S := Unit) (fun _ => True) (fun _ t => z_W 0 G ad res t.heap) (z_A 0 ad s.heap.size)) args s 0 0 (z_A 0 ad s.heap.size)) (F0 m 0 ls []) := by
  intro σ o1 H locs ls S hl ho1 hf
  unfold f_X0_announceAgain at hf
  refine lv_aload_n C.1 C.2.1 dX0_announceAgain_0 rfl (lv_at hl 1 rfl) ?_
  refine z_getR C S 4 o1 rfl ho1 cf_4 5 (by decide) _ (gr_4_5 G ad o1) tw_1_239 dX0_announceAgain_1 ?_
  refine lv_iconst (v := 1) C.1 C.2.1 dX0_announceAgain_4 (by decide) ?_
  refine z_ialdL C S 12 o1 rfl ho1 5 (fun _ => rfl) 1 (by decide) (by decide) (by decide) dX0_announceAgain_5 ?_
  refine lv_istore_n (lv' := [(2, .int (σ 12 o1 1)), (0, .ref (ad 0 0)), (1, .ref (ad 4 o1))]) C.1 C.2.1 dX0_announceAgain_6 rfl hl (by decide) rfl (fun ls hl => ?_)
  refine lv_iconst (v := 0) C.1 C.2.1 dX0_announceAgain_7 (by decide) ?_
  refine lv_istore_n (lv' := [(3, .int 0), (2, .int (σ 12 o1 1)), (0, .ref (ad 0 0)), (1, .ref (ad 4 o1))]) C.1 C.2.1 dX0_announceAgain_8 rfl hl (by decide) rfl (fun ls hl => ?_)
  exact w_X0_announceAgain_9 C FU _ o1 (σ 12 o1 1) 0 _ _ _ S (lv_sub hl [2, 3, 1, 0] rfl) ho1 hf
theorem kv_X0_announceAgain : KV yX0_announceAgain cX0_announceAgain 5 none 1 := ⟨tw_7_141, tw_7_140, tw_p_46, tw_1_17, by decide, by decide, by decide +kernel⟩
theorem m_X0_announceAgain (l : Launch) (G : Gx) (ad : Ad) (σ : Sg) (o1 : Nat) (σ' : Sg) (ho1 : o1 < z_cnt 4) (hf : f_X0_announceAgain σ o1 = some σ') (sz : Nat) : z_MV l yX0_announceAgain cX0_announceAgain 5 none 3 70 0 G ad σ sz [.ref (ad 0 0), .ref (ad 4 o1)] σ' := by
  refine z_begin (by decide +kernel) (Nat.le_of_ble_eq_true rfl) [(0, .ref (ad 0 0)), (1, .ref (ad 4 o1))] rfl (fun p e s m args below meth c ls C hz S hl => ?_)
  subst hz
  exact w_X0_announceAgain_0 (res := σ') C σ o1 _ _ _ S hl ho1 hf

theorem dX0_hasBestBid_0 : decode cX0_hasBestBid 0 = .ok (.aload_n 1, 1) := by decide +kernel
theorem dX0_hasBestBid_1 : decode cX0_hasBestBid 1 = .ok (.getfield 105, 3) := by decide +kernel
theorem dX0_hasBestBid_4 : decode cX0_hasBestBid 4 = .ok (.iload_n 2, 1) := by decide +kernel
theorem dX0_hasBestBid_5 : decode cX0_hasBestBid 5 = .ok (.aaload, 1) := by decide +kernel
theorem dX0_hasBestBid_6 : decode cX0_hasBestBid 6 = .ok (.astore 4, 2) := by decide +kernel
theorem dX0_hasBestBid_8 : decode cX0_hasBestBid 8 = .ok (.iconst 0, 1) := by decide +kernel
theorem dX0_hasBestBid_9 : decode cX0_hasBestBid 9 = .ok (.istore 5, 2) := by decide +kernel
theorem dX0_hasBestBid_11 : decode cX0_hasBestBid 11 = .ok (.iload 5, 2) := by decide +kernel
theorem dX0_hasBestBid_13 : decode cX0_hasBestBid 13 = .ok (.aload_n 1, 1) := by decide +kernel
theorem dX0_hasBestBid_14 : decode cX0_hasBestBid 14 = .ok (.getfield 44, 3) := by decide +kernel
theorem dX0_hasBestBid_17 : decode cX0_hasBestBid 17 = .ok (.if_icmp .ge 44, 3) := by decide +kernel
theorem dX0_hasBestBid_20 : decode cX0_hasBestBid 20 = .ok (.aload 4, 2) := by decide +kernel
theorem dX0_hasBestBid_22 : decode cX0_hasBestBid 22 = .ok (.iload_n 3, 1) := by decide +kernel
theorem dX0_hasBestBid_23 : decode cX0_hasBestBid 23 = .ok (.iload 5, 2) := by decide +kernel
theorem dX0_hasBestBid_25 : decode cX0_hasBestBid 25 = .ok (.invokevirtual 187, 3) := by decide +kernel
theorem dX0_hasBestBid_28 : decode cX0_hasBestBid 28 = .ok (.istore 6, 2) := by decide +kernel
theorem dX0_hasBestBid_30 : decode cX0_hasBestBid 30 = .ok (.iload 6, 2) := by decide +kernel
theorem dX0_hasBestBid_32 : decode cX0_hasBestBid 32 = .ok (.ifCond .lt 23, 3) := by decide +kernel
theorem dX0_hasBestBid_35 : decode cX0_hasBestBid 35 = .ok (.iload 6, 2) := by decide +kernel
theorem dX0_hasBestBid_37 : decode cX0_hasBestBid 37 = .ok (.iload 5, 2) := by decide +kernel
theorem dX0_hasBestBid_39 : decode cX0_hasBestBid 39 = .ok (.aload 4, 2) := by decide +kernel
theorem dX0_hasBestBid_41 : decode cX0_hasBestBid 41 = .ok (.getfield 158, 3) := by decide +kernel
theorem dX0_hasBestBid_44 : decode cX0_hasBestBid 44 = .ok (.iload_n 3, 1) := by decide +kernel
theorem dX0_hasBestBid_45 : decode cX0_hasBestBid 45 = .ok (.iaload, 1) := by decide +kernel
theorem dX0_hasBestBid_46 : decode cX0_hasBestBid 46 = .ok (.iload_n 2, 1) := by decide +kernel
theorem dX0_hasBestBid_47 : decode cX0_hasBestBid 47 = .ok (.invokestatic 174, 3) := by decide +kernel
theorem dX0_hasBestBid_50 : decode cX0_hasBestBid 50 = .ok (.ifCond .eq 5, 3) := by decide +kernel
theorem dX0_hasBestBid_53 : decode cX0_hasBestBid 53 = .ok (.iconst 0, 1) := by decide +kernel
theorem dX0_hasBestBid_54 : decode cX0_hasBestBid 54 = .ok (.ireturn, 1) := by decide +kernel
theorem dX0_hasBestBid_55 : decode cX0_hasBestBid 55 = .ok (.iinc 5 1, 3) := by decide +kernel
theorem dX0_hasBestBid_58 : decode cX0_hasBestBid 58 = .ok (.goto (-47), 3) := by decide +kernel
theorem dX0_hasBestBid_61 : decode cX0_hasBestBid 61 = .ok (.iconst 1, 1) := by decide +kernel
theorem dX0_hasBestBid_62 : decode cX0_hasBestBid 62 = .ok (.ireturn, 1) := by decide +kernel
/-! BusLifts$Bus.hasBestBid(LBusLifts$Lifts;II)Z -/
noncomputable def f_X0_hasBestBid_61  (σ : Sg)  : Option (Int32 × Sg) := some (1, σ)
noncomputable def f_X0_hasBestBid_55 (k11 : Sg → Nat → Int32 → Int32 → Nat → Int32 → Option (Int32 × Sg)) (σ : Sg) (o1 : Nat) (v2 : Int32) (v3 : Int32) (o4 : Nat) (v5 : Int32) : Option (Int32 × Sg) := k11 σ o1 v2 v3 o4 (v5 + 1)
noncomputable def f_X0_hasBestBid_53  (σ : Sg)  : Option (Int32 × Sg) := some (0, σ)
noncomputable def f_X0_hasBestBid_11  : Nat → Sg → Nat → Int32 → Int32 → Nat → Int32 → Option (Int32 × Sg)
  | 0, _, _, _, _, _, _ => none
  | n + 1, σ, o1, v2, v3, o4, v5 => if (σ 4 o1 1) ≤ v5 then (f_X0_hasBestBid_61 σ) else (bi (f_X2_notedBid σ o4 v3 v5) fun r2 σ1 => (if r2 < 0 then (f_X0_hasBestBid_55 (f_X0_hasBestBid_11 n) σ1 o1 v2 v3 o4 v5) else (if v3 < 0 ∨ 24 ≤ (v3).toNatClampNeg then none else (bi (f_X0_isBefore σ1 r2 v5 (σ1 16 o4 (v3).toNatClampNeg) v2) fun r4 σ3 => (if r4 = 0 then (f_X0_hasBestBid_55 (f_X0_hasBestBid_11 n) σ3 o1 v2 v3 o4 v5) else (f_X0_hasBestBid_53 σ3))))))
theorem f_X0_hasBestBid_11_s  (n : Nat) (σ : Sg) (o1 : Nat) (v2 : Int32) (v3 : Int32) (o4 : Nat) (v5 : Int32) : f_X0_hasBestBid_11  (n + 1) σ o1 v2 v3 o4 v5 = (if (σ 4 o1 1) ≤ v5 then (f_X0_hasBestBid_61 σ) else (bi (f_X2_notedBid σ o4 v3 v5) fun r2 σ1 => (if r2 < 0 then (f_X0_hasBestBid_55 (f_X0_hasBestBid_11 n) σ1 o1 v2 v3 o4 v5) else (if v3 < 0 ∨ 24 ≤ (v3).toNatClampNeg then none else (bi (f_X0_isBefore σ1 r2 v5 (σ1 16 o4 (v3).toNatClampNeg) v2) fun r4 σ3 => (if r4 = 0 then (f_X0_hasBestBid_55 (f_X0_hasBestBid_11 n) σ3 o1 v2 v3 o4 v5) else (f_X0_hasBestBid_53 σ3))))))) := rfl
noncomputable def f_X0_hasBestBid  (σ : Sg) (o1 : Nat) (v2 : Int32) (v3 : Int32) : Option (Int32 × Sg) := if v2 < 0 ∨ 4 ≤ (v2).toNatClampNeg then none else (f_X0_hasBestBid_11 FU σ o1 v2 v3 (4 * o1 + (v2).toNatClampNeg) 0)
set_option maxHeartbeats 4000000 in
set_option maxRecDepth 100000 in
theorem w_X0_hasBestBid_61 {p : Program} {l : Launch} {e : Env} {s : State} {m : MethodId} {args : Array Value} {below : List Frame} {meth : Method} {c : Code} {G : Gx} {ad : Ad} {res : Int32 × Sg} (C : Cx p s m args meth c yX0_hasBestBid.cls cX0_hasBestBid 7 (Option.some FieldType.boolean) G)  : ∀ (σ : Sg)  (H : Heap) (locs : List Loc) (ls : Array Slot), z_S 0 G ad σ (z_A 0 ad s.heap.size) s.heap H locs → lv_has ls 7 [] → f_X0_hasBestBid_61  σ  = some res → W p l e { frames := 1, cells := 0, slots := 0, locals := 23 } s m args below meth c H locs 0 0 (MQ below (va_Qi (S := Unit) (fun r1 _ => r1 = res.1) (fun _ t => z_W 0 G ad res.2 t.heap) (z_A 0 ad s.heap.size)) args s 0 0 (z_A 0 ad s.heap.size)) (F0 m 61 ls []) := by
  intro σ  H locs ls S hl  hf
  unfold f_X0_hasBestBid_61 at hf
  refine lv_iconst (v := 1) C.1 C.2.1 dX0_hasBestBid_61 (by decide) ?_
  exact z_zret C S rfl hf dX0_hasBestBid_62
set_option maxHeartbeats 4000000 in
set_option maxRecDepth 100000 in
theorem w_X0_hasBestBid_55 {p : Program} {l : Launch} {e : Env} {s : State} {m : MethodId} {args : Array Value} {below : List Frame} {meth : Method} {c : Code} {G : Gx} {ad : Ad} {res : Int32 × Sg} (C : Cx p s m args meth c yX0_hasBestBid.cls cX0_hasBestBid 7 (Option.some FieldType.boolean) G) (k11 : Sg → Nat → Int32 → Int32 → Nat → Int32 → Option (Int32 × Sg)) (hk11 : ∀ (σ : Sg) (o1 : Nat) (v2 : Int32) (v3 : Int32) (o4 : Nat) (v5 : Int32) (H : Heap) (locs : List Loc) (ls : Array Slot), z_S 0 G ad σ (z_A 0 ad s.heap.size) s.heap H locs → lv_has ls 7 [(1, .ref (ad 4 o1)), (2, .int v2), (3, .int v3), (4, .ref (ad 2 o4)), (5, .int v5)] → (o1 < z_cnt 4) → (o4 < z_cnt 2) → k11 σ o1 v2 v3 o4 v5 = some res → W p l e { frames := 1, cells := 0, slots := 0, locals := 23 } s m args below meth c H locs 0 0 (MQ below (va_Qi (S := Unit) (fun r1 _ => r1 = res.1) (fun _ t => z_W 0 G ad res.2 t.heap) (z_A 0 ad s.heap.size)) args s 0 0 (z_A 0 ad s.heap.size)) (F0 m 11 ls [])) : ∀ (σ : Sg) (o1 : Nat) (v2 : Int32) (v3 : Int32) (o4 : Nat) (v5 : Int32) (H : Heap) (locs : List Loc) (ls : Array Slot), z_S 0 G ad σ (z_A 0 ad s.heap.size) s.heap H locs → lv_has ls 7 [(1, .ref (ad 4 o1)), (2, .int v2), (3, .int v3), (4, .ref (ad 2 o4)), (5, .int v5)] → (o1 < z_cnt 4) → (o4 < z_cnt 2) → f_X0_hasBestBid_55 k11 σ o1 v2 v3 o4 v5 = some res → W p l e { frames := 1, cells := 0, slots := 0, locals := 23 } s m args below meth c H locs 0 0 (MQ below (va_Qi (S := Unit) (fun r1 _ => r1 = res.1) (fun _ t => z_W 0 G ad res.2 t.heap) (z_A 0 ad s.heap.size)) args s 0 0 (z_A 0 ad s.heap.size)) (F0 m 55 ls []) := by
  intro σ o1 v2 v3 o4 v5 H locs ls S hl ho1 ho4 hf
  unfold f_X0_hasBestBid_55 at hf
  refine lv_iinc (v := (v5 + 1)) (lv' := [(5, .int (v5 + 1)), (1, .ref (ad 4 o1)), (2, .int v2), (3, .int v3), (4, .ref (ad 2 o4))]) C.1 C.2.1 dX0_hasBestBid_55 hl (k := 4) rfl rfl (by decide) rfl (fun ls hl => ?_)
  refine lv_goto (tgt := 11) C.1 C.2.1 dX0_hasBestBid_58 (by decide) ?_
  exact hk11 _ o1 v2 v3 o4 (v5 + 1) _ _ _ S (lv_sub hl [1, 2, 3, 4, 0] rfl) ho1 ho4 hf
set_option maxHeartbeats 4000000 in
set_option maxRecDepth 100000 in
theorem w_X0_hasBestBid_53 {p : Program} {l : Launch} {e : Env} {s : State} {m : MethodId} {args : Array Value} {below : List Frame} {meth : Method} {c : Code} {G : Gx} {ad : Ad} {res : Int32 × Sg} (C : Cx p s m args meth c yX0_hasBestBid.cls cX0_hasBestBid 7 (Option.some FieldType.boolean) G)  : ∀ (σ : Sg)  (H : Heap) (locs : List Loc) (ls : Array Slot), z_S 0 G ad σ (z_A 0 ad s.heap.size) s.heap H locs → lv_has ls 7 [] → f_X0_hasBestBid_53  σ  = some res → W p l e { frames := 1, cells := 0, slots := 0, locals := 23 } s m args below meth c H locs 0 0 (MQ below (va_Qi (S := Unit) (fun r1 _ => r1 = res.1) (fun _ t => z_W 0 G ad res.2 t.heap) (z_A 0 ad s.heap.size)) args s 0 0 (z_A 0 ad s.heap.size)) (F0 m 53 ls []) := by
  intro σ  H locs ls S hl  hf
  unfold f_X0_hasBestBid_53 at hf
  refine lv_iconst (v := 0) C.1 C.2.1 dX0_hasBestBid_53 (by decide) ?_
  exact z_zret C S rfl hf dX0_hasBestBid_54
set_option maxHeartbeats 4000000 in
set_option maxRecDepth 100000 in
theorem w_X0_hasBestBid_11 {p : Program} {l : Launch} {e : Env} {s : State} {m : MethodId} {args : Array Value} {below : List Frame} {meth : Method} {c : Code} {G : Gx} {ad : Ad} {res : Int32 × Sg} (C : Cx p s m args meth c yX0_hasBestBid.cls cX0_hasBestBid 7 (Option.some FieldType.boolean) G)  : ∀ n : Nat, ∀ (σ : Sg) (o1 : Nat) (v2 : Int32) (v3 : Int32) (o4 : Nat) (v5 : Int32) (H : Heap) (locs : List Loc) (ls : Array Slot), z_S 0 G ad σ (z_A 0 ad s.heap.size) s.heap H locs → lv_has ls 7 [(1, .ref (ad 4 o1)), (2, .int v2), (3, .int v3), (4, .ref (ad 2 o4)), (5, .int v5)] → (o1 < z_cnt 4) → (o4 < z_cnt 2) → f_X0_hasBestBid_11  n σ o1 v2 v3 o4 v5 = some res → W p l e { frames := 1, cells := 0, slots := 0, locals := 23 } s m args below meth c H locs 0 0 (MQ below (va_Qi (S := Unit) (fun r1 _ => r1 = res.1) (fun _ t => z_W 0 G ad res.2 t.heap) (z_A 0 ad s.heap.size)) args s 0 0 (z_A 0 ad s.heap.size)) (F0 m 11 ls []) := by
  intro n
  induction n with
  | zero => intro σ o1 v2 v3 o4 v5 H locs ls S hl ho1 ho4 hf; cases hf
  | succ n ih =>
    intro σ o1 v2 v3 o4 v5 H locs ls S hl ho1 ho4 hf
    rw [f_X0_hasBestBid_11_s] at hf
    refine lv_iload C.1 C.2.1 dX0_hasBestBid_11 (lv_at hl 4 rfl) ?_
    refine lv_aload_n C.1 C.2.1 dX0_hasBestBid_13 rfl (lv_at hl 0 rfl) ?_
    refine z_getI C S 4 o1 rfl ho1 cf_4 1 (by decide) (gi_4_1 G ad o1) tw_1_225 dX0_hasBestBid_14 ?_
    refine lv_icmp_ge (tgt := 61) C.1 C.2.1 dX0_hasBestBid_17 (by decide) (fun c_17 => ?_) (fun c_17 => ?_)
    · rw [if_pos c_17] at hf
      exact w_X0_hasBestBid_61 C _ _ _ _ S (lv_sub hl [] rfl) hf
    · rw [if_neg c_17] at hf
      refine lv_aload C.1 C.2.1 dX0_hasBestBid_20 (lv_at hl 3 rfl) ?_
      refine lv_iload_n C.1 C.2.1 dX0_hasBestBid_22 rfl (lv_at hl 2 rfl) ?_
      refine lv_iload C.1 C.2.1 dX0_hasBestBid_23 (lv_at hl 4 rfl) ?_
      obtain ⟨r2, σ1, q_25, hf⟩ := bib hf
      refine z_callI C S 2 o4 rfl ho4 cf_2 ⟨_, rfl⟩ [.int v3, .int v5] (m_X2_notedBid l G ad σ o4 v3 v5 r2 σ1 ho4 q_25 _) kv_X2_notedBid tw_7_150 ⟨Nat.le_of_ble_eq_true rfl, Nat.le_of_ble_eq_true rfl⟩ rfl rfl (Nat.le_of_ble_eq_true rfl) hl.1 ⟨Nat.le_of_ble_eq_true rfl, Nat.le_of_ble_eq_true rfl⟩ dX0_hasBestBid_25 (fun H locs S => ?_)
      refine lv_istore (lv' := [(6, .int r2), (1, .ref (ad 4 o1)), (2, .int v2), (3, .int v3), (4, .ref (ad 2 o4)), (5, .int v5)]) C.1 C.2.1 dX0_hasBestBid_28 hl (by decide) rfl (fun ls hl => ?_)
      refine lv_iload C.1 C.2.1 dX0_hasBestBid_30 (lv_at hl 0 rfl) ?_
      refine lv_if_lt (tgt := 55) C.1 C.2.1 dX0_hasBestBid_32 (by decide) (fun c_32 => ?_) (fun c_32 => ?_)
      · rw [if_pos c_32] at hf
        exact w_X0_hasBestBid_55 C (f_X0_hasBestBid_11 n) ih _ o1 v2 v3 o4 v5 _ _ _ S (lv_sub hl [1, 2, 3, 4, 5] rfl) ho1 ho4 hf
      · rw [if_neg c_32] at hf
        refine lv_iload C.1 C.2.1 dX0_hasBestBid_35 (lv_at hl 0 rfl) ?_
        refine lv_iload C.1 C.2.1 dX0_hasBestBid_37 (lv_at hl 5 rfl) ?_
        refine lv_aload C.1 C.2.1 dX0_hasBestBid_39 (lv_at hl 4 rfl) ?_
        refine z_getR C S 2 o4 rfl ho4 cf_2 10 (by decide) _ (gr_2_10 G ad o4) tw_1_121 dX0_hasBestBid_41 ?_
        refine lv_iload_n C.1 C.2.1 dX0_hasBestBid_44 rfl (lv_at hl 3 rfl) ?_
        obtain ⟨g_45, hf⟩ := gd hf
        refine z_iald C S 16 o4 rfl ho4 24 (fun _ => rfl) g_45 dX0_hasBestBid_45 ?_
        refine lv_iload_n C.1 C.2.1 dX0_hasBestBid_46 rfl (lv_at hl 2 rfl) ?_
        obtain ⟨r4, σ3, q_47, hf⟩ := bib hf
        refine z_callSI C S [.int r2, .int v5, .int (σ1 16 o4 (v3).toNatClampNeg), .int v2] (m_X0_isBefore l G ad σ1 r2 v5 (σ1 16 o4 (v3).toNatClampNeg) v2 r4 σ3 q_47 _) kv_X0_isBefore tw_7_129 ⟨Nat.le_of_ble_eq_true rfl, Nat.le_of_ble_eq_true rfl⟩ rfl rfl (Nat.le_of_ble_eq_true rfl) hl.1 ⟨Nat.le_of_ble_eq_true rfl, Nat.le_of_ble_eq_true rfl⟩ dX0_hasBestBid_47 (fun H locs S => ?_)
        refine lv_if_eq (tgt := 55) C.1 C.2.1 dX0_hasBestBid_50 (by decide) (fun c_50 => ?_) (fun c_50 => ?_)
        · rw [if_pos c_50] at hf
          exact w_X0_hasBestBid_55 C (f_X0_hasBestBid_11 n) ih _ o1 v2 v3 o4 v5 _ _ _ S (lv_sub hl [1, 2, 3, 4, 5] rfl) ho1 ho4 hf
        · rw [if_neg c_50] at hf
          exact w_X0_hasBestBid_53 C _ _ _ _ S (lv_sub hl [] rfl) hf
set_option maxHeartbeats 4000000 in
set_option maxRecDepth 100000 in
theorem w_X0_hasBestBid_0 {p : Program} {l : Launch} {e : Env} {s : State} {m : MethodId} {args : Array Value} {below : List Frame} {meth : Method} {c : Code} {G : Gx} {ad : Ad} {res : Int32 × Sg} (C : Cx p s m args meth c yX0_hasBestBid.cls cX0_hasBestBid 7 (Option.some FieldType.boolean) G)  : ∀ (σ : Sg) (o1 : Nat) (v2 : Int32) (v3 : Int32) (H : Heap) (locs : List Loc) (ls : Array Slot), z_S 0 G ad σ (z_A 0 ad s.heap.size) s.heap H locs → lv_has ls 7 [(0, .ref (ad 0 0)), (1, .ref (ad 4 o1)), (2, .int v2), (3, .int v3)] → (o1 < z_cnt 4) → f_X0_hasBestBid  σ o1 v2 v3 = some res → W p l e { frames := 1, cells := 0, slots := 0, locals := 23 } s m args below meth c H locs 0 0 (MQ below (va_Qi (S := Unit) (fun r1 _ => r1 = res.1) (fun _ t => z_W 0 G ad res.2 t.heap) (z_A 0 ad s.heap.size)) args s 0 0 (z_A 0 ad s.heap.size)) (F0 m 0 ls []) := by
  intro σ o1 v2 v3 H locs ls S hl ho1 hf
  unfold f_X0_hasBestBid at hf
  refine lv_aload_n C.1 C.2.1 dX0_hasBestBid_0 rfl (lv_at hl 1 rfl) ?_
  refine z_getR C S 4 o1 rfl ho1 cf_4 6 (by decide) _ (gr_4_6 G ad o1) tw_2_2 dX0_hasBestBid_1 ?_
  refine lv_iload_n C.1 C.2.1 dX0_hasBestBid_4 rfl (lv_at hl 2 rfl) ?_
  obtain ⟨g_5, hf⟩ := gd hf
  refine z_aald C S 25 o1 rfl ho1 4 1 2 (4 * o1) rfl (fun _ => rfl) g_5 dX0_hasBestBid_5 ?_
  refine lv_astore (lv' := [(4, .ref (ad 2 (4 * o1 + (v2).toNatClampNeg))), (0, .ref (ad 0 0)), (1, .ref (ad 4 o1)), (2, .int v2), (3, .int v3)]) C.1 C.2.1 dX0_hasBestBid_6 hl (by decide) rfl (fun ls hl => ?_)
  refine lv_iconst (v := 0) C.1 C.2.1 dX0_hasBestBid_8 (by decide) ?_
  refine lv_istore (lv' := [(5, .int 0), (4, .ref (ad 2 (4 * o1 + (v2).toNatClampNeg))), (0, .ref (ad 0 0)), (1, .ref (ad 4 o1)), (2, .int v2), (3, .int v3)]) C.1 C.2.1 dX0_hasBestBid_9 hl (by decide) rfl (fun ls hl => ?_)
  exact w_X0_hasBestBid_11 C FU _ o1 v2 v3 (4 * o1 + (v2).toNatClampNeg) 0 _ _ _ S (lv_sub hl [3, 4, 5, 1, 0] rfl) ho1 (oc2 ho1 g_5) hf
theorem kv_X0_hasBestBid : KV yX0_hasBestBid cX0_hasBestBid 7 (Option.some FieldType.boolean) 3 := ⟨tw_7_149, tw_7_148, tw_p_48, tw_1_17, by decide, by decide, by decide +kernel⟩
theorem m_X0_hasBestBid (l : Launch) (G : Gx) (ad : Ad) (σ : Sg) (o1 : Nat) (v2 : Int32) (v3 : Int32) (r : Int32) (σ' : Sg) (ho1 : o1 < z_cnt 4) (hf : f_X0_hasBestBid σ o1 v2 v3 = some (r, σ')) (sz : Nat) : z_MI l yX0_hasBestBid cX0_hasBestBid 7 (Option.some FieldType.boolean) 1 23 0 G ad σ sz [.ref (ad 0 0), .ref (ad 4 o1), .int v2, .int v3] r σ' := by
  refine z_begin (by decide +kernel) (Nat.le_of_ble_eq_true rfl) [(0, .ref (ad 0 0)), (1, .ref (ad 4 o1)), (2, .int v2), (3, .int v3)] rfl (fun p e s m args below meth c ls C hz S hl => ?_)
  subst hz
  exact w_X0_hasBestBid_0 (res := (r, σ')) C σ o1 v2 v3 _ _ _ S hl ho1 hf

theorem dX0_decide_0 : decode cX0_decide 0 = .ok (.aload_n 1, 1) := by decide +kernel
theorem dX0_decide_1 : decode cX0_decide 1 = .ok (.getfield 105, 3) := by decide +kernel
theorem dX0_decide_4 : decode cX0_decide 4 = .ok (.iload_n 2, 1) := by decide +kernel
theorem dX0_decide_5 : decode cX0_decide 5 = .ok (.aaload, 1) := by decide +kernel
theorem dX0_decide_6 : decode cX0_decide 6 = .ok (.astore_n 3, 1) := by decide +kernel
theorem dX0_decide_7 : decode cX0_decide 7 = .ok (.iconst 0, 1) := by decide +kernel
theorem dX0_decide_8 : decode cX0_decide 8 = .ok (.istore 4, 2) := by decide +kernel
theorem dX0_decide_10 : decode cX0_decide 10 = .ok (.iload 4, 2) := by decide +kernel
theorem dX0_decide_12 : decode cX0_decide 12 = .ok (.aload_n 1, 1) := by decide +kernel
theorem dX0_decide_13 : decode cX0_decide 13 = .ok (.getfield 57, 3) := by decide +kernel
theorem dX0_decide_16 : decode cX0_decide 16 = .ok (.if_icmp .ge 84, 3) := by decide +kernel
theorem dX0_decide_19 : decode cX0_decide 19 = .ok (.aload_n 3, 1) := by decide +kernel
theorem dX0_decide_20 : decode cX0_decide 20 = .ok (.getfield 171, 3) := by decide +kernel
theorem dX0_decide_23 : decode cX0_decide 23 = .ok (.iload 4, 2) := by decide +kernel
theorem dX0_decide_25 : decode cX0_decide 25 = .ok (.iaload, 1) := by decide +kernel
theorem dX0_decide_26 : decode cX0_decide 26 = .ok (.aload_n 1, 1) := by decide +kernel
theorem dX0_decide_27 : decode cX0_decide 27 = .ok (.getfield 54, 3) := by decide +kernel
theorem dX0_decide_30 : decode cX0_decide 30 = .ok (.if_icmp .ne 64, 3) := by decide +kernel
theorem dX0_decide_33 : decode cX0_decide 33 = .ok (.aload_n 3, 1) := by decide +kernel
theorem dX0_decide_34 : decode cX0_decide 34 = .ok (.getfield 171, 3) := by decide +kernel
theorem dX0_decide_37 : decode cX0_decide 37 = .ok (.iload 4, 2) := by decide +kernel
theorem dX0_decide_39 : decode cX0_decide 39 = .ok (.iconst (-1), 1) := by decide +kernel
theorem dX0_decide_40 : decode cX0_decide 40 = .ok (.iastore, 1) := by decide +kernel
theorem dX0_decide_41 : decode cX0_decide 41 = .ok (.aload_n 1, 1) := by decide +kernel
theorem dX0_decide_42 : decode cX0_decide 42 = .ok (.getfield 60, 3) := by decide +kernel
theorem dX0_decide_45 : decode cX0_decide 45 = .ok (.iload 4, 2) := by decide +kernel
theorem dX0_decide_47 : decode cX0_decide 47 = .ok (.aaload, 1) := by decide +kernel
theorem dX0_decide_48 : decode cX0_decide 48 = .ok (.getfield 64, 3) := by decide +kernel
theorem dX0_decide_51 : decode cX0_decide 51 = .ok (.iconst 1, 1) := by decide +kernel
theorem dX0_decide_52 : decode cX0_decide 52 = .ok (.if_icmp .ne 42, 3) := by decide +kernel
theorem dX0_decide_55 : decode cX0_decide 55 = .ok (.aload_n 0, 1) := by decide +kernel
theorem dX0_decide_56 : decode cX0_decide 56 = .ok (.aload_n 1, 1) := by decide +kernel
theorem dX0_decide_57 : decode cX0_decide 57 = .ok (.iload_n 2, 1) := by decide +kernel
theorem dX0_decide_58 : decode cX0_decide 58 = .ok (.iload 4, 2) := by decide +kernel
theorem dX0_decide_60 : decode cX0_decide 60 = .ok (.invokevirtual 181, 3) := by decide +kernel
theorem dX0_decide_63 : decode cX0_decide 63 = .ok (.ifCond .eq 31, 3) := by decide +kernel
theorem dX0_decide_66 : decode cX0_decide 66 = .ok (.aload_n 3, 1) := by decide +kernel
theorem dX0_decide_67 : decode cX0_decide 67 = .ok (.dup, 1) := by decide +kernel
theorem dX0_decide_68 : decode cX0_decide 68 = .ok (.getfield 184, 3) := by decide +kernel
theorem dX0_decide_71 : decode cX0_decide 71 = .ok (.iconst 1, 1) := by decide +kernel
theorem dX0_decide_72 : decode cX0_decide 72 = .ok (.iload 4, 2) := by decide +kernel
theorem dX0_decide_74 : decode cX0_decide 74 = .ok (.ishl, 1) := by decide +kernel
theorem dX0_decide_75 : decode cX0_decide 75 = .ok (.ior, 1) := by decide +kernel
theorem dX0_decide_76 : decode cX0_decide 76 = .ok (.putfield 184, 3) := by decide +kernel
theorem dX0_decide_79 : decode cX0_decide 79 = .ok (.aload_n 1, 1) := by decide +kernel
theorem dX0_decide_80 : decode cX0_decide 80 = .ok (.iload_n 2, 1) := by decide +kernel
theorem dX0_decide_81 : decode cX0_decide 81 = .ok (.iconst 2, 1) := by decide +kernel
theorem dX0_decide_82 : decode cX0_decide 82 = .ok (.iload 4, 2) := by decide +kernel
theorem dX0_decide_84 : decode cX0_decide 84 = .ok (.aload_n 3, 1) := by decide +kernel
theorem dX0_decide_85 : decode cX0_decide 85 = .ok (.getfield 158, 3) := by decide +kernel
theorem dX0_decide_88 : decode cX0_decide 88 = .ok (.iload 4, 2) := by decide +kernel
theorem dX0_decide_90 : decode cX0_decide 90 = .ok (.iaload, 1) := by decide +kernel
theorem dX0_decide_91 : decode cX0_decide 91 = .ok (.invokevirtual 81, 3) := by decide +kernel
theorem dX0_decide_94 : decode cX0_decide 94 = .ok (.iinc 4 1, 3) := by decide +kernel
theorem dX0_decide_97 : decode cX0_decide 97 = .ok (.goto (-87), 3) := by decide +kernel
theorem dX0_decide_100 : decode cX0_decide 100 = .ok (.return_, 1) := by decide +kernel
/-! BusLifts$Bus.decide(LBusLifts$Lifts;I)V -/
noncomputable def f_X0_decide_100  (σ : Sg)  : Option Sg := some σ
noncomputable def f_X0_decide_94 (k10 : Sg → Nat → Int32 → Nat → Int32 → Option Sg) (σ : Sg) (o1 : Nat) (v2 : Int32) (o3 : Nat) (v4 : Int32) : Option Sg := k10 σ o1 v2 o3 (v4 + 1)
noncomputable def f_X0_decide_10  : Nat → Sg → Nat → Int32 → Nat → Int32 → Option Sg
  | 0, _, _, _, _, _ => none
  | n + 1, σ, o1, v2, o3, v4 => if (σ 4 o1 2) ≤ v4 then (f_X0_decide_100 σ) else (if v4 < 0 ∨ 24 ≤ (v4).toNatClampNeg then none else (if (σ 17 o3 (v4).toNatClampNeg) = (σ 4 o1 3) then (if v4 < 0 ∨ 24 ≤ (v4).toNatClampNeg then none else (st (sup σ 17 o3 (v4).toNatClampNeg (-1)) fun σ1 => (if v4 < 0 ∨ 24 ≤ (v4).toNatClampNeg then none else (if (σ1 1 (24 * o1 + (v4).toNatClampNeg) 3) = 1 then (bi (f_X0_hasBestBid σ1 o1 v2 v4) fun r3 σ2 => (if r3 = 0 then (f_X0_decide_94 (f_X0_decide_10 n) σ2 o1 v2 o3 v4) else (st (sup σ2 2 o3 8 ((σ2 2 o3 8) ||| (1 <<< (v4 &&& 31)))) fun σ4 => (if v4 < 0 ∨ 24 ≤ (v4).toNatClampNeg then none else (bv (f_X4_send σ4 o1 v2 2 v4 (σ4 16 o3 (v4).toNatClampNeg)) fun σ5 => (f_X0_decide_94 (f_X0_decide_10 n) σ5 o1 v2 o3 v4)))))) else (f_X0_decide_94 (f_X0_decide_10 n) σ1 o1 v2 o3 v4))))) else (f_X0_decide_94 (f_X0_decide_10 n) σ o1 v2 o3 v4)))
theorem f_X0_decide_10_s  (n : Nat) (σ : Sg) (o1 : Nat) (v2 : Int32) (o3 : Nat) (v4 : Int32) : f_X0_decide_10  (n + 1) σ o1 v2 o3 v4 = (if (σ 4 o1 2) ≤ v4 then (f_X0_decide_100 σ) else (if v4 < 0 ∨ 24 ≤ (v4).toNatClampNeg then none else (if (σ 17 o3 (v4).toNatClampNeg) = (σ 4 o1 3) then (if v4 < 0 ∨ 24 ≤ (v4).toNatClampNeg then none else (st (sup σ 17 o3 (v4).toNatClampNeg (-1)) fun σ1 => (if v4 < 0 ∨ 24 ≤ (v4).toNatClampNeg then none else (if (σ1 1 (24 * o1 + (v4).toNatClampNeg) 3) = 1 then (bi (f_X0_hasBestBid σ1 o1 v2 v4) fun r3 σ2 => (if r3 = 0 then (f_X0_decide_94 (f_X0_decide_10 n) σ2 o1 v2 o3 v4) else (st (sup σ2 2 o3 8 ((σ2 2 o3 8) ||| (1 <<< (v4 &&& 31)))) fun σ4 => (if v4 < 0 ∨ 24 ≤ (v4).toNatClampNeg then none else (bv (f_X4_send σ4 o1 v2 2 v4 (σ4 16 o3 (v4).toNatClampNeg)) fun σ5 => (f_X0_decide_94 (f_X0_decide_10 n) σ5 o1 v2 o3 v4)))))) else (f_X0_decide_94 (f_X0_decide_10 n) σ1 o1 v2 o3 v4))))) else (f_X0_decide_94 (f_X0_decide_10 n) σ o1 v2 o3 v4)))) := rfl
noncomputable def f_X0_decide  (σ : Sg) (o1 : Nat) (v2 : Int32) : Option Sg := if v2 < 0 ∨ 4 ≤ (v2).toNatClampNeg then none else (f_X0_decide_10 FU σ o1 v2 (4 * o1 + (v2).toNatClampNeg) 0)
set_option maxHeartbeats 4000000 in
set_option maxRecDepth 100000 in
theorem w_X0_decide_100 {p : Program} {l : Launch} {e : Env} {s : State} {m : MethodId} {args : Array Value} {below : List Frame} {meth : Method} {c : Code} {G : Gx} {ad : Ad} {res : Sg} (C : Cx p s m args meth c yX0_decide.cls cX0_decide 5 none G)  : ∀ (σ : Sg)  (H : Heap) (locs : List Loc) (ls : Array Slot), z_S 0 G ad σ (z_A 0 ad s.heap.size) s.heap H locs → lv_has ls 5 [] → f_X0_decide_100  σ  = some res → W p l e { frames := 2, cells := 0, slots := 0, locals := 49 } s m args below meth c H locs 0 0 (MQ below (va_Qv (S := Unit) (fun _ => True) (fun _ t => z_W 0 G ad res t.heap) (z_A 0 ad s.heap.size)) args s 0 0 (z_A 0 ad s.heap.size)) (F0 m 100 ls []) := by
  intro σ  H locs ls S hl  hf
  unfold f_X0_decide_100 at hf
  exact z_vret C S hf dX0_decide_100
set_option maxHeartbeats 4000000 in
set_option maxRecDepth 100000 in
theorem w_X0_decide_94 {p : Program} {l : Launch} {e : Env} {s : State} {m : MethodId} {args : Array Value} {below : List Frame} {meth : Method} {c : Code} {G : Gx} {ad : Ad} {res : Sg} (C : Cx p s m args meth c yX0_decide.cls cX0_decide 5 none G) (k10 : Sg → Nat → Int32 → Nat → Int32 → Option Sg) (hk10 : ∀ (σ : Sg) (o1 : Nat) (v2 : Int32) (o3 : Nat) (v4 : Int32) (H : Heap) (locs : List Loc) (ls : Array Slot), z_S 0 G ad σ (z_A 0 ad s.heap.size) s.heap H locs → lv_has ls 5 [(0, .ref (ad 0 0)), (1, .ref (ad 4 o1)), (2, .int v2), (3, .ref (ad 2 o3)), (4, .int v4)] → (o1 < z_cnt 4) → (o3 < z_cnt 2) → k10 σ o1 v2 o3 v4 = some res → W p l e { frames := 2, cells := 0, slots := 0, locals := 49 } s m args below meth c H locs 0 0 (MQ below (va_Qv (S := Unit) (fun _ => True) (fun _ t => z_W 0 G ad res t.heap) (z_A 0 ad s.heap.size)) args s 0 0 (z_A 0 ad s.heap.size)) (F0 m 10 ls [])) : ∀ (σ : Sg) (o1 : Nat) (v2 : Int32) (o3 : Nat) (v4 : Int32) (H : Heap) (locs : List Loc) (ls : Array Slot), z_S 0 G ad σ (z_A 0 ad s.heap.size) s.heap H locs → lv_has ls 5 [(0, .ref (ad 0 0)), (1, .ref (ad 4 o1)), (2, .int v2), (3, .ref (ad 2 o3)), (4, .int v4)] → (o1 < z_cnt 4) → (o3 < z_cnt 2) → f_X0_decide_94 k10 σ o1 v2 o3 v4 = some res → W p l e { frames := 2, cells := 0, slots := 0, locals := 49 } s m args below meth c H locs 0 0 (MQ below (va_Qv (S := Unit) (fun _ => True) (fun _ t => z_W 0 G ad res t.heap) (z_A 0 ad s.heap.size)) args s 0 0 (z_A 0 ad s.heap.size)) (F0 m 94 ls []) := by
  intro σ o1 v2 o3 v4 H locs ls S hl ho1 ho3 hf
  unfold f_X0_decide_94 at hf
  refine lv_iinc (v := (v4 + 1)) (lv' := [(4, .int (v4 + 1)), (0, .ref (ad 0 0)), (1, .ref (ad 4 o1)), (2, .int v2), (3, .ref (ad 2 o3))]) C.1 C.2.1 dX0_decide_94 hl (k := 4) rfl rfl (by decide) rfl (fun ls hl => ?_)
  refine lv_goto (tgt := 10) C.1 C.2.1 dX0_decide_97 (by decide) ?_
  exact hk10 _ o1 v2 o3 (v4 + 1) _ _ _ S (lv_sub hl [1, 2, 3, 4, 0] rfl) ho1 ho3 hf
set_option maxHeartbeats 4000000 in
set_option maxRecDepth 100000 in
theorem w_X0_decide_10 {p : Program} {l : Launch} {e : Env} {s : State} {m : MethodId} {args : Array Value} {below : List Frame} {meth : Method} {c : Code} {G : Gx} {ad : Ad} {res : Sg} (C : Cx p s m args meth c yX0_decide.cls cX0_decide 5 none G)  : ∀ n : Nat, ∀ (σ : Sg) (o1 : Nat) (v2 : Int32) (o3 : Nat) (v4 : Int32) (H : Heap) (locs : List Loc) (ls : Array Slot), z_S 0 G ad σ (z_A 0 ad s.heap.size) s.heap H locs → lv_has ls 5 [(0, .ref (ad 0 0)), (1, .ref (ad 4 o1)), (2, .int v2), (3, .ref (ad 2 o3)), (4, .int v4)] → (o1 < z_cnt 4) → (o3 < z_cnt 2) → f_X0_decide_10  n σ o1 v2 o3 v4 = some res → W p l e { frames := 2, cells := 0, slots := 0, locals := 49 } s m args below meth c H locs 0 0 (MQ below (va_Qv (S := Unit) (fun _ => True) (fun _ t => z_W 0 G ad res t.heap) (z_A 0 ad s.heap.size)) args s 0 0 (z_A 0 ad s.heap.size)) (F0 m 10 ls []) := by
  intro n
  induction n with
  | zero => intro σ o1 v2 o3 v4 H locs ls S hl ho1 ho3 hf; cases hf
  | succ n ih =>
    intro σ o1 v2 o3 v4 H locs ls S hl ho1 ho3 hf
    rw [f_X0_decide_10_s] at hf
    refine lv_iload C.1 C.2.1 dX0_decide_10 (lv_at hl 4 rfl) ?_
    refine lv_aload_n C.1 C.2.1 dX0_decide_12 rfl (lv_at hl 1 rfl) ?_
    refine z_getI C S 4 o1 rfl ho1 cf_4 2 (by decide) (gi_4_2 G ad o1) tw_1_228 dX0_decide_13 ?_
    refine lv_icmp_ge (tgt := 100) C.1 C.2.1 dX0_decide_16 (by decide) (fun c_16 => ?_) (fun c_16 => ?_)
    · rw [if_pos c_16] at hf
      exact w_X0_decide_100 C _ _ _ _ S (lv_sub hl [] rfl) hf
    · rw [if_neg c_16] at hf
      refine lv_aload_n C.1 C.2.1 dX0_decide_19 rfl (lv_at hl 3 rfl) ?_
      refine z_getR C S 2 o3 rfl ho3 cf_2 11 (by decide) _ (gr_2_11 G ad o3) tw_1_123 dX0_decide_20 ?_
      refine lv_iload C.1 C.2.1 dX0_decide_23 (lv_at hl 4 rfl) ?_
      obtain ⟨g_25, hf⟩ := gd hf
      refine z_iald C S 17 o3 rfl ho3 24 (fun _ => rfl) g_25 dX0_decide_25 ?_
      refine lv_aload_n C.1 C.2.1 dX0_decide_26 rfl (lv_at hl 1 rfl) ?_
      refine z_getI C S 4 o1 rfl ho1 cf_4 3 (by decide) (gi_4_3 G ad o1) tw_1_232 dX0_decide_27 ?_
      refine lv_icmp_ne (tgt := 94) C.1 C.2.1 dX0_decide_30 (by decide) (fun c_30 => ?_) (fun c_30 => ?_)
      · rw [if_neg c_30] at hf
        exact w_X0_decide_94 C (f_X0_decide_10 n) ih _ o1 v2 o3 v4 _ _ _ S (lv_sub hl [0, 1, 2, 3, 4] rfl) ho1 ho3 hf
      · rw [if_pos c_30] at hf
        refine lv_aload_n C.1 C.2.1 dX0_decide_33 rfl (lv_at hl 3 rfl) ?_
        refine z_getR C S 2 o3 rfl ho3 cf_2 11 (by decide) _ (gr_2_11 G ad o3) tw_1_123 dX0_decide_34 ?_
        refine lv_iload C.1 C.2.1 dX0_decide_37 (lv_at hl 4 rfl) ?_
        refine lv_iconst (v := (-1)) C.1 C.2.1 dX0_decide_39 (by decide) ?_
        obtain ⟨g_40, hf⟩ := gd hf
        obtain ⟨σ1, e_40, hf⟩ := stb hf
        refine z_iast C S 17 o3 rfl ho3 24 (fun _ => rfl) g_40 dX0_decide_40 (fun H locs S => ?_)
        rw [← e_40] at S
        refine lv_aload_n C.1 C.2.1 dX0_decide_41 rfl (lv_at hl 1 rfl) ?_
        refine z_getR C S 4 o1 rfl ho1 cf_4 7 (by decide) _ (gr_4_7 G ad o1) tw_2_5 dX0_decide_42 ?_
        refine lv_iload C.1 C.2.1 dX0_decide_45 (lv_at hl 4 rfl) ?_
        obtain ⟨g_47, hf⟩ := gd hf
        refine z_aald C S 26 o1 rfl ho1 24 2 1 (24 * o1) rfl (fun _ => rfl) g_47 dX0_decide_47 ?_
        refine z_getI C S 1 (24 * o1 + (v4).toNatClampNeg) rfl (oc1 ho1 g_47) cf_1 3 (by decide) (gi_1_3 G ad (24 * o1 + (v4).toNatClampNeg)) tw_1_174 dX0_decide_48 ?_
        refine lv_iconst (v := 1) C.1 C.2.1 dX0_decide_51 (by decide) ?_
        refine lv_icmp_ne (tgt := 94) C.1 C.2.1 dX0_decide_52 (by decide) (fun c_52 => ?_) (fun c_52 => ?_)
        · rw [if_neg c_52] at hf
          exact w_X0_decide_94 C (f_X0_decide_10 n) ih _ o1 v2 o3 v4 _ _ _ S (lv_sub hl [0, 1, 2, 3, 4] rfl) ho1 ho3 hf
        · rw [if_pos c_52] at hf
          refine lv_aload_n C.1 C.2.1 dX0_decide_55 rfl (lv_at hl 0 rfl) ?_
          refine lv_aload_n C.1 C.2.1 dX0_decide_56 rfl (lv_at hl 1 rfl) ?_
          refine lv_iload_n C.1 C.2.1 dX0_decide_57 rfl (lv_at hl 2 rfl) ?_
          refine lv_iload C.1 C.2.1 dX0_decide_58 (lv_at hl 4 rfl) ?_
          obtain ⟨r3, σ2, q_60, hf⟩ := bib hf
          refine z_callI C S 0 0 rfl (by decide) cf_0 ⟨_, rfl⟩ [.ref (ad 4 o1), .int v2, .int v4] (m_X0_hasBestBid l G ad σ1 o1 v2 v4 r3 σ2 ho1 q_60 _) kv_X0_hasBestBid tw_7_146 ⟨Nat.le_of_ble_eq_true rfl, Nat.le_of_ble_eq_true rfl⟩ rfl rfl (Nat.le_of_ble_eq_true rfl) hl.1 ⟨Nat.le_of_ble_eq_true rfl, Nat.le_of_ble_eq_true rfl⟩ dX0_decide_60 (fun H locs S => ?_)
          refine lv_if_eq (tgt := 94) C.1 C.2.1 dX0_decide_63 (by decide) (fun c_63 => ?_) (fun c_63 => ?_)
          · rw [if_pos c_63] at hf
            exact w_X0_decide_94 C (f_X0_decide_10 n) ih _ o1 v2 o3 v4 _ _ _ S (lv_sub hl [0, 1, 2, 3, 4] rfl) ho1 ho3 hf
          · rw [if_neg c_63] at hf
            refine lv_aload_n C.1 C.2.1 dX0_decide_66 rfl (lv_at hl 3 rfl) ?_
            refine lv_dup C.1 C.2.1 dX0_decide_67 rfl ?_
            refine z_getI C S 2 o3 rfl ho3 cf_2 8 (by decide) (gi_2_8 G ad o3) tw_1_114 dX0_decide_68 ?_
            refine lv_iconst (v := 1) C.1 C.2.1 dX0_decide_71 (by decide) ?_
            refine lv_iload C.1 C.2.1 dX0_decide_72 (lv_at hl 4 rfl) ?_
            refine lv_ishl C.1 C.2.1 dX0_decide_74 ?_
            refine lv_ior C.1 C.2.1 dX0_decide_75 ?_
            obtain ⟨σ4, e_76, hf⟩ := stb hf
            refine z_putI C S 2 o3 rfl ho3 cf_2 8 (by decide) (pi_2_8 G ad o3) rfl rfl rfl tw_1_114 dX0_decide_76 (fun H locs S => ?_)
            rw [← e_76] at S
            refine lv_aload_n C.1 C.2.1 dX0_decide_79 rfl (lv_at hl 1 rfl) ?_
            refine lv_iload_n C.1 C.2.1 dX0_decide_80 rfl (lv_at hl 2 rfl) ?_
            refine lv_iconst (v := 2) C.1 C.2.1 dX0_decide_81 (by decide) ?_
            refine lv_iload C.1 C.2.1 dX0_decide_82 (lv_at hl 4 rfl) ?_
            refine lv_aload_n C.1 C.2.1 dX0_decide_84 rfl (lv_at hl 3 rfl) ?_
            refine z_getR C S 2 o3 rfl ho3 cf_2 10 (by decide) _ (gr_2_10 G ad o3) tw_1_121 dX0_decide_85 ?_
            refine lv_iload C.1 C.2.1 dX0_decide_88 (lv_at hl 4 rfl) ?_
            obtain ⟨g_90, hf⟩ := gd hf
            refine z_iald C S 16 o3 rfl ho3 24 (fun _ => rfl) g_90 dX0_decide_90 ?_
            obtain ⟨σ5, q_91, hf⟩ := bvb hf
            refine z_callV C S 4 o1 rfl ho1 cf_4 ⟨_, rfl⟩ [.int v2, .int 2, .int v4, .int (σ4 16 o3 (v4).toNatClampNeg)] (m_X4_send l G ad σ4 o1 v2 2 v4 (σ4 16 o3 (v4).toNatClampNeg) σ5 ho1 q_91 _) kv_X4_send tw_7_88 ⟨Nat.le_of_ble_eq_true rfl, Nat.le_of_ble_eq_true rfl⟩ rfl rfl (Nat.le_of_ble_eq_true rfl) hl.1 ⟨Nat.le_of_ble_eq_true rfl, Nat.le_of_ble_eq_true rfl⟩ dX0_decide_91 (fun H locs S => ?_)
            exact w_X0_decide_94 C (f_X0_decide_10 n) ih _ o1 v2 o3 v4 _ _ _ S (lv_sub hl [0, 1, 2, 3, 4] rfl) ho1 ho3 hf
set_option maxHeartbeats 4000000 in
set_option maxRecDepth 100000 in
theorem w_X0_decide_0 {p : Program} {l : Launch} {e : Env} {s : State} {m : MethodId} {args : Array Value} {below : List Frame} {meth : Method} {c : Code} {G : Gx} {ad : Ad} {res : Sg} (C : Cx p s m args meth c yX0_decide.cls cX0_decide 5 none G)  : ∀ (σ : Sg) (o1 : Nat) (v2 : Int32) (H : Heap) (locs : List Loc) (ls : Array Slot), z_S 0 G ad σ (z_A 0 ad s.heap.size) s.heap H locs → lv_has ls 5 [(0, .ref (ad 0 0)), (1, .ref (ad 4 o1)), (2, .int v2)] → (o1 < z_cnt 4) → f_X0_decide  σ o1 v2 = some res → W p l e { frames := 2, cells := 0, slots := 0, locals := 49 } s m args below meth c H locs 0 0 (MQ below (va_Qv (S := Unit) (fun _ => True) (fun _ t => z_W 0 G ad res t.heap) (z_A 0 ad s.heap.size)) args s 0 0 (z_A 0 ad s.heap.size)) (F0 m 0 ls []) := by
  intro σ o1 v2 H locs ls S hl ho1 hf
  unfold f_X0_decide at hf
  refine lv_aload_n C.1 C.2.1 dX0_decide_0 rfl (lv_at hl 1 rfl) ?_
  refine z_getR C S 4 o1 rfl ho1 cf_4 6 (by decide) _ (gr_4_6 G ad o1) tw_2_2 dX0_decide_1 ?_
  refine lv_iload_n C.1 C.2.1 dX0_decide_4 rfl (lv_at hl 2 rfl) ?_
  obtain ⟨g_5, hf⟩ := gd hf
  refine z_aald C S 25 o1 rfl ho1 4 1 2 (4 * o1) rfl (fun _ => rfl) g_5 dX0_decide_5 ?_
  refine lv_astore_n (lv' := [(3, .ref (ad 2 (4 * o1 + (v2).toNatClampNeg))), (0, .ref (ad 0 0)), (1, .ref (ad 4 o1)), (2, .int v2)]) C.1 C.2.1 dX0_decide_6 rfl hl (by decide) rfl (fun ls hl => ?_)
  refine lv_iconst (v := 0) C.1 C.2.1 dX0_decide_7 (by decide) ?_
  refine lv_istore (lv' := [(4, .int 0), (3, .ref (ad 2 (4 * o1 + (v2).toNatClampNeg))), (0, .ref (ad 0 0)), (1, .ref (ad 4 o1)), (2, .int v2)]) C.1 C.2.1 dX0_decide_8 hl (by decide) rfl (fun ls hl => ?_)
  exact w_X0_decide_10 C FU _ o1 v2 (4 * o1 + (v2).toNatClampNeg) 0 _ _ _ S (lv_sub hl [2, 3, 4, 1, 0] rfl) ho1 (oc2 ho1 g_5) hf
theorem kv_X0_decide : KV yX0_decide cX0_decide 5 none 2 := ⟨tw_7_145, tw_7_144, tw_p_47, tw_1_17, by decide, by decide, by decide +kernel⟩
theorem m_X0_decide (l : Launch) (G : Gx) (ad : Ad) (σ : Sg) (o1 : Nat) (v2 : Int32) (σ' : Sg) (ho1 : o1 < z_cnt 4) (hf : f_X0_decide σ o1 v2 = some σ') (sz : Nat) : z_MV l yX0_decide cX0_decide 5 none 2 49 0 G ad σ sz [.ref (ad 0 0), .ref (ad 4 o1), .int v2] σ' := by
  refine z_begin (by decide +kernel) (Nat.le_of_ble_eq_true rfl) [(0, .ref (ad 0 0)), (1, .ref (ad 4 o1)), (2, .int v2)] rfl (fun p e s m args below meth c ls C hz S hl => ?_)
  subst hz
  exact w_X0_decide_0 (res := σ') C σ o1 v2 _ _ _ S hl ho1 hf

theorem dX0_wantsToStop_0 : decode cX0_wantsToStop 0 = .ok (.aload_n 2, 1) := by decide +kernel
theorem dX0_wantsToStop_1 : decode cX0_wantsToStop 1 = .ok (.invokevirtual 204, 3) := by decide +kernel
theorem dX0_wantsToStop_4 : decode cX0_wantsToStop 4 = .ok (.istore_n 3, 1) := by decide +kernel
theorem dX0_wantsToStop_5 : decode cX0_wantsToStop 5 = .ok (.iconst 0, 1) := by decide +kernel
theorem dX0_wantsToStop_6 : decode cX0_wantsToStop 6 = .ok (.istore 4, 2) := by decide +kernel
theorem dX0_wantsToStop_8 : decode cX0_wantsToStop 8 = .ok (.iload 4, 2) := by decide +kernel
theorem dX0_wantsToStop_10 : decode cX0_wantsToStop 10 = .ok (.aload_n 1, 1) := by decide +kernel
theorem dX0_wantsToStop_11 : decode cX0_wantsToStop 11 = .ok (.getfield 57, 3) := by decide +kernel
theorem dX0_wantsToStop_14 : decode cX0_wantsToStop 14 = .ok (.if_icmp .ge 77, 3) := by decide +kernel
theorem dX0_wantsToStop_17 : decode cX0_wantsToStop 17 = .ok (.aload_n 1, 1) := by decide +kernel
theorem dX0_wantsToStop_18 : decode cX0_wantsToStop 18 = .ok (.getfield 60, 3) := by decide +kernel
theorem dX0_wantsToStop_21 : decode cX0_wantsToStop 21 = .ok (.iload 4, 2) := by decide +kernel
theorem dX0_wantsToStop_23 : decode cX0_wantsToStop 23 = .ok (.aaload, 1) := by decide +kernel
theorem dX0_wantsToStop_24 : decode cX0_wantsToStop 24 = .ok (.astore 5, 2) := by decide +kernel
theorem dX0_wantsToStop_26 : decode cX0_wantsToStop 26 = .ok (.aload_n 2, 1) := by decide +kernel
theorem dX0_wantsToStop_27 : decode cX0_wantsToStop 27 = .ok (.iload 4, 2) := by decide +kernel
theorem dX0_wantsToStop_29 : decode cX0_wantsToStop 29 = .ok (.invokevirtual 208, 3) := by decide +kernel
theorem dX0_wantsToStop_32 : decode cX0_wantsToStop 32 = .ok (.ifCond .eq 17, 3) := by decide +kernel
theorem dX0_wantsToStop_35 : decode cX0_wantsToStop 35 = .ok (.aload 5, 2) := by decide +kernel
theorem dX0_wantsToStop_37 : decode cX0_wantsToStop 37 = .ok (.getfield 211, 3) := by decide +kernel
theorem dX0_wantsToStop_40 : decode cX0_wantsToStop 40 = .ok (.aload_n 2, 1) := by decide +kernel
theorem dX0_wantsToStop_41 : decode cX0_wantsToStop 41 = .ok (.getfield 214, 3) := by decide +kernel
theorem dX0_wantsToStop_44 : decode cX0_wantsToStop 44 = .ok (.if_icmp .ne 5, 3) := by decide +kernel
theorem dX0_wantsToStop_47 : decode cX0_wantsToStop 47 = .ok (.iconst 1, 1) := by decide +kernel
theorem dX0_wantsToStop_48 : decode cX0_wantsToStop 48 = .ok (.ireturn, 1) := by decide +kernel
theorem dX0_wantsToStop_49 : decode cX0_wantsToStop 49 = .ok (.aload_n 2, 1) := by decide +kernel
theorem dX0_wantsToStop_50 : decode cX0_wantsToStop 50 = .ok (.iload 4, 2) := by decide +kernel
theorem dX0_wantsToStop_52 : decode cX0_wantsToStop 52 = .ok (.invokevirtual 155, 3) := by decide +kernel
theorem dX0_wantsToStop_55 : decode cX0_wantsToStop 55 = .ok (.ifCond .eq 30, 3) := by decide +kernel
theorem dX0_wantsToStop_58 : decode cX0_wantsToStop 58 = .ok (.aload 5, 2) := by decide +kernel
theorem dX0_wantsToStop_60 : decode cX0_wantsToStop 60 = .ok (.getfield 164, 3) := by decide +kernel
theorem dX0_wantsToStop_63 : decode cX0_wantsToStop 63 = .ok (.aload_n 2, 1) := by decide +kernel
theorem dX0_wantsToStop_64 : decode cX0_wantsToStop 64 = .ok (.getfield 214, 3) := by decide +kernel
theorem dX0_wantsToStop_67 : decode cX0_wantsToStop 67 = .ok (.if_icmp .ne 18, 3) := by decide +kernel
theorem dX0_wantsToStop_70 : decode cX0_wantsToStop 70 = .ok (.iload_n 3, 1) := by decide +kernel
theorem dX0_wantsToStop_71 : decode cX0_wantsToStop 71 = .ok (.ifCond .ne 12, 3) := by decide +kernel
theorem dX0_wantsToStop_74 : decode cX0_wantsToStop 74 = .ok (.aload 5, 2) := by decide +kernel
theorem dX0_wantsToStop_76 : decode cX0_wantsToStop 76 = .ok (.getfield 64, 3) := by decide +kernel
theorem dX0_wantsToStop_79 : decode cX0_wantsToStop 79 = .ok (.iconst 1, 1) := by decide +kernel
theorem dX0_wantsToStop_80 : decode cX0_wantsToStop 80 = .ok (.if_icmp .eq 5, 3) := by decide +kernel
theorem dX0_wantsToStop_83 : decode cX0_wantsToStop 83 = .ok (.iconst 1, 1) := by decide +kernel
theorem dX0_wantsToStop_84 : decode cX0_wantsToStop 84 = .ok (.ireturn, 1) := by decide +kernel
theorem dX0_wantsToStop_85 : decode cX0_wantsToStop 85 = .ok (.iinc 4 1, 3) := by decide +kernel
theorem dX0_wantsToStop_88 : decode cX0_wantsToStop 88 = .ok (.goto (-80), 3) := by decide +kernel
theorem dX0_wantsToStop_91 : decode cX0_wantsToStop 91 = .ok (.iconst 0, 1) := by decide +kernel
theorem dX0_wantsToStop_92 : decode cX0_wantsToStop 92 = .ok (.ireturn, 1) := by decide +kernel
/-! BusLifts$Bus.wantsToStop(LBusLifts$Lifts;LBusLifts$Car;)Z -/
noncomputable def f_X0_wantsToStop_91  (σ : Sg)  : Option (Int32 × Sg) := some (0, σ)
noncomputable def f_X0_wantsToStop_85 (k8 : Sg → Nat → Nat → Int32 → Int32 → Option (Int32 × Sg)) (σ : Sg) (o1 : Nat) (o2 : Nat) (v3 : Int32) (v4 : Int32) : Option (Int32 × Sg) := k8 σ o1 o2 v3 (v4 + 1)
noncomputable def f_X0_wantsToStop_83  (σ : Sg)  : Option (Int32 × Sg) := some (1, σ)
noncomputable def f_X0_wantsToStop_49 (k8 : Sg → Nat → Nat → Int32 → Int32 → Option (Int32 × Sg)) (σ : Sg) (o1 : Nat) (o2 : Nat) (v3 : Int32) (v4 : Int32) (o5 : Nat) : Option (Int32 × Sg) := bi (f_X2_isHolding σ o2 v4) fun r2 σ1 => (if r2 = 0 then (f_X0_wantsToStop_85 k8 σ1 o1 o2 v3 v4) else (if (σ1 1 o5 0) = (σ1 2 o2 0) then (if v3 = 0 then (if (σ1 1 o5 3) = 1 then (f_X0_wantsToStop_85 k8 σ1 o1 o2 v3 v4) else (f_X0_wantsToStop_83 σ1)) else (f_X0_wantsToStop_83 σ1)) else (f_X0_wantsToStop_85 k8 σ1 o1 o2 v3 v4)))
noncomputable def f_X0_wantsToStop_47  (σ : Sg)  : Option (Int32 × Sg) := some (1, σ)
noncomputable def f_X0_wantsToStop_8  : Nat → Sg → Nat → Nat → Int32 → Int32 → Option (Int32 × Sg)
  | 0, _, _, _, _, _ => none
  | n + 1, σ, o1, o2, v3, v4 => if (σ 4 o1 2) ≤ v4 then (f_X0_wantsToStop_91 σ) else (if v4 < 0 ∨ 24 ≤ (v4).toNatClampNeg then none else (bi (f_X2_isCarrying σ o2 v4) fun r2 σ1 => (if r2 = 0 then (f_X0_wantsToStop_49 (f_X0_wantsToStop_8 n) σ1 o1 o2 v3 v4 (24 * o1 + (v4).toNatClampNeg)) else (if (σ1 1 (24 * o1 + (v4).toNatClampNeg) 1) = (σ1 2 o2 0) then (f_X0_wantsToStop_47 σ1) else (f_X0_wantsToStop_49 (f_X0_wantsToStop_8 n) σ1 o1 o2 v3 v4 (24 * o1 + (v4).toNatClampNeg))))))
theorem f_X0_wantsToStop_8_s  (n : Nat) (σ : Sg) (o1 : Nat) (o2 : Nat) (v3 : Int32) (v4 : Int32) : f_X0_wantsToStop_8  (n + 1) σ o1 o2 v3 v4 = (if (σ 4 o1 2) ≤ v4 then (f_X0_wantsToStop_91 σ) else (if v4 < 0 ∨ 24 ≤ (v4).toNatClampNeg then none else (bi (f_X2_isCarrying σ o2 v4) fun r2 σ1 => (if r2 = 0 then (f_X0_wantsToStop_49 (f_X0_wantsToStop_8 n) σ1 o1 o2 v3 v4 (24 * o1 + (v4).toNatClampNeg)) else (if (σ1 1 (24 * o1 + (v4).toNatClampNeg) 1) = (σ1 2 o2 0) then (f_X0_wantsToStop_47 σ1) else (f_X0_wantsToStop_49 (f_X0_wantsToStop_8 n) σ1 o1 o2 v3 v4 (24 * o1 + (v4).toNatClampNeg))))))) := rfl
noncomputable def f_X0_wantsToStop  (σ : Sg) (o1 : Nat) (o2 : Nat) : Option (Int32 × Sg) := bi (f_X2_hasRoom σ o2) fun r2 σ1 => (f_X0_wantsToStop_8 FU σ1 o1 o2 r2 0)
set_option maxHeartbeats 4000000 in
set_option maxRecDepth 100000 in
theorem w_X0_wantsToStop_91 {p : Program} {l : Launch} {e : Env} {s : State} {m : MethodId} {args : Array Value} {below : List Frame} {meth : Method} {c : Code} {G : Gx} {ad : Ad} {res : Int32 × Sg} (C : Cx p s m args meth c yX0_wantsToStop.cls cX0_wantsToStop 6 (Option.some FieldType.boolean) G)  : ∀ (σ : Sg)  (H : Heap) (locs : List Loc) (ls : Array Slot), z_S 0 G ad σ (z_A 0 ad s.heap.size) s.heap H locs → lv_has ls 6 [] → f_X0_wantsToStop_91  σ  = some res → W p l e { frames := 2, cells := 0, slots := 0, locals := 40 } s m args below meth c H locs 0 0 (MQ below (va_Qi (S := Unit) (fun r1 _ => r1 = res.1) (fun _ t => z_W 0 G ad res.2 t.heap) (z_A 0 ad s.heap.size)) args s 0 0 (z_A 0 ad s.heap.size)) (F0 m 91 ls []) := by
  intro σ  H locs ls S hl  hf
  unfold f_X0_wantsToStop_91 at hf
  refine lv_iconst (v := 0) C.1 C.2.1 dX0_wantsToStop_91 (by decide) ?_
  exact z_zret C S rfl hf dX0_wantsToStop_92
set_option maxHeartbeats 4000000 in
set_option maxRecDepth 100000 in
theorem w_X0_wantsToStop_85 {p : Program} {l : Launch} {e : Env} {s : State} {m : MethodId} {args : Array Value} {below : List Frame} {meth : Method} {c : Code} {G : Gx} {ad : Ad} {res : Int32 × Sg} (C : Cx p s m args meth c yX0_wantsToStop.cls cX0_wantsToStop 6 (Option.some FieldType.boolean) G) (k8 : Sg → Nat → Nat → Int32 → Int32 → Option (Int32 × Sg)) (hk8 : ∀ (σ : Sg) (o1 : Nat) (o2 : Nat) (v3 : Int32) (v4 : Int32) (H : Heap) (locs : List Loc) (ls : Array Slot), z_S 0 G ad σ (z_A 0 ad s.heap.size) s.heap H locs → lv_has ls 6 [(1, .ref (ad 4 o1)), (2, .ref (ad 2 o2)), (3, .int v3), (4, .int v4)] → (o1 < z_cnt 4) → (o2 < z_cnt 2) → k8 σ o1 o2 v3 v4 = some res → W p l e { frames := 2, cells := 0, slots := 0, locals := 40 } s m args below meth c H locs 0 0 (MQ below (va_Qi (S := Unit) (fun r1 _ => r1 = res.1) (fun _ t => z_W 0 G ad res.2 t.heap) (z_A 0 ad s.heap.size)) args s 0 0 (z_A 0 ad s.heap.size)) (F0 m 8 ls [])) : ∀ (σ : Sg) (o1 : Nat) (o2 : Nat) (v3 : Int32) (v4 : Int32) (H : Heap) (locs : List Loc) (ls : Array Slot), z_S 0 G ad σ (z_A 0 ad s.heap.size) s.heap H locs → lv_has ls 6 [(1, .ref (ad 4 o1)), (2, .ref (ad 2 o2)), (3, .int v3), (4, .int v4)] → (o1 < z_cnt 4) → (o2 < z_cnt 2) → f_X0_wantsToStop_85 k8 σ o1 o2 v3 v4 = some res → W p l e { frames := 2, cells := 0, slots := 0, locals := 40 } s m args below meth c H locs 0 0 (MQ below (va_Qi (S := Unit) (fun r1 _ => r1 = res.1) (fun _ t => z_W 0 G ad res.2 t.heap) (z_A 0 ad s.heap.size)) args s 0 0 (z_A 0 ad s.heap.size)) (F0 m 85 ls []) := by
  intro σ o1 o2 v3 v4 H locs ls S hl ho1 ho2 hf
  unfold f_X0_wantsToStop_85 at hf
  refine lv_iinc (v := (v4 + 1)) (lv' := [(4, .int (v4 + 1)), (1, .ref (ad 4 o1)), (2, .ref (ad 2 o2)), (3, .int v3)]) C.1 C.2.1 dX0_wantsToStop_85 hl (k := 3) rfl rfl (by decide) rfl (fun ls hl => ?_)
  refine lv_goto (tgt := 8) C.1 C.2.1 dX0_wantsToStop_88 (by decide) ?_
  exact hk8 _ o1 o2 v3 (v4 + 1) _ _ _ S (lv_sub hl [1, 2, 3, 0] rfl) ho1 ho2 hf
set_option maxHeartbeats 4000000 in
set_option maxRecDepth 100000 in
theorem w_X0_wantsToStop_83 {p : Program} {l : Launch} {e : Env} {s : State} {m : MethodId} {args : Array Value} {below : List Frame} {meth : Method} {c : Code} {G : Gx} {ad : Ad} {res : Int32 × Sg} (C : Cx p s m args meth c yX0_wantsToStop.cls cX0_wantsToStop 6 (Option.some FieldType.boolean) G)  : ∀ (σ : Sg)  (H : Heap) (locs : List Loc) (ls : Array Slot), z_S 0 G ad σ (z_A 0 ad s.heap.size) s.heap H locs → lv_has ls 6 [] → f_X0_wantsToStop_83  σ  = some res → W p l e { frames := 2, cells := 0, slots := 0, locals := 40 } s m args below meth c H locs 0 0 (MQ below (va_Qi (S := Unit) (fun r1 _ => r1 = res.1) (fun _ t => z_W 0 G ad res.2 t.heap) (z_A 0 ad s.heap.size)) args s 0 0 (z_A 0 ad s.heap.size)) (F0 m 83 ls []) := by
  intro σ  H locs ls S hl  hf
  unfold f_X0_wantsToStop_83 at hf
  refine lv_iconst (v := 1) C.1 C.2.1 dX0_wantsToStop_83 (by decide) ?_
  exact z_zret C S rfl hf dX0_wantsToStop_84
set_option maxHeartbeats 4000000 in
set_option maxRecDepth 100000 in
theorem w_X0_wantsToStop_49 {p : Program} {l : Launch} {e : Env} {s : State} {m : MethodId} {args : Array Value} {below : List Frame} {meth : Method} {c : Code} {G : Gx} {ad : Ad} {res : Int32 × Sg} (C : Cx p s m args meth c yX0_wantsToStop.cls cX0_wantsToStop 6 (Option.some FieldType.boolean) G) (k8 : Sg → Nat → Nat → Int32 → Int32 → Option (Int32 × Sg)) (hk8 : ∀ (σ : Sg) (o1 : Nat) (o2 : Nat) (v3 : Int32) (v4 : Int32) (H : Heap) (locs : List Loc) (ls : Array Slot), z_S 0 G ad σ (z_A 0 ad s.heap.size) s.heap H locs → lv_has ls 6 [(1, .ref (ad 4 o1)), (2, .ref (ad 2 o2)), (3, .int v3), (4, .int v4)] → (o1 < z_cnt 4) → (o2 < z_cnt 2) → k8 σ o1 o2 v3 v4 = some res → W p l e { frames := 2, cells := 0, slots := 0, locals := 40 } s m args below meth c H locs 0 0 (MQ below (va_Qi (S := Unit) (fun r1 _ => r1 = res.1) (fun _ t => z_W 0 G ad res.2 t.heap) (z_A 0 ad s.heap.size)) args s 0 0 (z_A 0 ad s.heap.size)) (F0 m 8 ls [])) : ∀ (σ : Sg) (o1 : Nat) (o2 : Nat) (v3 : Int32) (v4 : Int32) (o5 : Nat) (H : Heap) (locs : List Loc) (ls : Array Slot), z_S 0 G ad σ (z_A 0 ad s.heap.size) s.heap H locs → lv_has ls 6 [(1, .ref (ad 4 o1)), (2, .ref (ad 2 o2)), (3, .int v3), (4, .int v4), (5, .ref (ad 1 o5))] → (o1 < z_cnt 4) → (o2 < z_cnt 2) → (o5 < z_cnt 1) → f_X0_wantsToStop_49 k8 σ o1 o2 v3 v4 o5 = some res → W p l e { frames := 2, cells := 0, slots := 0, locals := 40 } s m args below meth c H locs 0 0 (MQ below (va_Qi (S := Unit) (fun r1 _ => r1 = res.1) (fun _ t => z_W 0 G ad res.2 t.heap) (z_A 0 ad s.heap.size)) args s 0 0 (z_A 0 ad s.heap.size)) (F0 m 49 ls []) := by
  intro σ o1 o2 v3 v4 o5 H locs ls S hl ho1 ho2 ho5 hf
  unfold f_X0_wantsToStop_49 at hf
  refine lv_aload_n C.1 C.2.1 dX0_wantsToStop_49 rfl (lv_at hl 1 rfl) ?_
  refine lv_iload C.1 C.2.1 dX0_wantsToStop_50 (lv_at hl 3 rfl) ?_
  obtain ⟨r2, σ1, q_52, hf⟩ := bib hf
  refine z_callI C S 2 o2 rfl ho2 cf_2 ⟨_, rfl⟩ [.int v4] (m_X2_isHolding l G ad σ o2 v4 r2 σ1 ho2 q_52 _) kv_X2_isHolding tw_7_121 ⟨Nat.le_of_ble_eq_true rfl, Nat.le_of_ble_eq_true rfl⟩ rfl rfl (Nat.le_of_ble_eq_true rfl) hl.1 ⟨Nat.le_of_ble_eq_true rfl, Nat.le_of_ble_eq_true rfl⟩ dX0_wantsToStop_52 (fun H locs S => ?_)
  refine lv_if_eq (tgt := 85) C.1 C.2.1 dX0_wantsToStop_55 (by decide) (fun c_55 => ?_) (fun c_55 => ?_)
  · rw [if_pos c_55] at hf
    exact w_X0_wantsToStop_85 C k8 hk8 _ o1 o2 v3 v4 _ _ _ S (lv_sub hl [0, 1, 2, 3] rfl) ho1 ho2 hf
  · rw [if_neg c_55] at hf
    refine lv_aload C.1 C.2.1 dX0_wantsToStop_58 (lv_at hl 4 rfl) ?_
    refine z_getI C S 1 o5 rfl ho5 cf_1 0 (by decide) (gi_1_0 G ad o5) tw_1_163 dX0_wantsToStop_60 ?_
    refine lv_aload_n C.1 C.2.1 dX0_wantsToStop_63 rfl (lv_at hl 1 rfl) ?_
    refine z_getI C S 2 o2 rfl ho2 cf_2 0 (by decide) (gi_2_0 G ad o2) tw_1_91 dX0_wantsToStop_64 ?_
    refine lv_icmp_ne (tgt := 85) C.1 C.2.1 dX0_wantsToStop_67 (by decide) (fun c_67 => ?_) (fun c_67 => ?_)
    · rw [if_neg c_67] at hf
      exact w_X0_wantsToStop_85 C k8 hk8 _ o1 o2 v3 v4 _ _ _ S (lv_sub hl [0, 1, 2, 3] rfl) ho1 ho2 hf
    · rw [if_pos c_67] at hf
      refine lv_iload_n C.1 C.2.1 dX0_wantsToStop_70 rfl (lv_at hl 2 rfl) ?_
      refine lv_if_ne (tgt := 83) C.1 C.2.1 dX0_wantsToStop_71 (by decide) (fun c_71 => ?_) (fun c_71 => ?_)
      · rw [if_neg c_71] at hf
        exact w_X0_wantsToStop_83 C _ _ _ _ S (lv_sub hl [] rfl) hf
      · rw [if_pos c_71] at hf
        refine lv_aload C.1 C.2.1 dX0_wantsToStop_74 (lv_at hl 4 rfl) ?_
        refine z_getI C S 1 o5 rfl ho5 cf_1 3 (by decide) (gi_1_3 G ad o5) tw_1_174 dX0_wantsToStop_76 ?_
        refine lv_iconst (v := 1) C.1 C.2.1 dX0_wantsToStop_79 (by decide) ?_
        refine lv_icmp_eq (tgt := 85) C.1 C.2.1 dX0_wantsToStop_80 (by decide) (fun c_80 => ?_) (fun c_80 => ?_)
        · rw [if_pos c_80] at hf
          exact w_X0_wantsToStop_85 C k8 hk8 _ o1 o2 v3 v4 _ _ _ S (lv_sub hl [0, 1, 2, 3] rfl) ho1 ho2 hf
        · rw [if_neg c_80] at hf
          exact w_X0_wantsToStop_83 C _ _ _ _ S (lv_sub hl [] rfl) hf
set_option maxHeartbeats 4000000 in
set_option maxRecDepth 100000 in
theorem w_X0_wantsToStop_47 {p : Program} {l : Launch} {e : Env} {s : State} {m : MethodId} {args : Array Value} {below : List Frame} {meth : Method} {c : Code} {G : Gx} {ad : Ad} {res : Int32 × Sg} (C : Cx p s m args meth c yX0_wantsToStop.cls cX0_wantsToStop 6 (Option.some FieldType.boolean) G)  : ∀ (σ : Sg)  (H : Heap) (locs : List Loc) (ls : Array Slot), z_S 0 G ad σ (z_A 0 ad s.heap.size) s.heap H locs → lv_has ls 6 [] → f_X0_wantsToStop_47  σ  = some res → W p l e { frames := 2, cells := 0, slots := 0, locals := 40 } s m args below meth c H locs 0 0 (MQ below (va_Qi (S := Unit) (fun r1 _ => r1 = res.1) (fun _ t => z_W 0 G ad res.2 t.heap) (z_A 0 ad s.heap.size)) args s 0 0 (z_A 0 ad s.heap.size)) (F0 m 47 ls []) := by
  intro σ  H locs ls S hl  hf
  unfold f_X0_wantsToStop_47 at hf
  refine lv_iconst (v := 1) C.1 C.2.1 dX0_wantsToStop_47 (by decide) ?_
  exact z_zret C S rfl hf dX0_wantsToStop_48
set_option maxHeartbeats 4000000 in
set_option maxRecDepth 100000 in
theorem w_X0_wantsToStop_8 {p : Program} {l : Launch} {e : Env} {s : State} {m : MethodId} {args : Array Value} {below : List Frame} {meth : Method} {c : Code} {G : Gx} {ad : Ad} {res : Int32 × Sg} (C : Cx p s m args meth c yX0_wantsToStop.cls cX0_wantsToStop 6 (Option.some FieldType.boolean) G)  : ∀ n : Nat, ∀ (σ : Sg) (o1 : Nat) (o2 : Nat) (v3 : Int32) (v4 : Int32) (H : Heap) (locs : List Loc) (ls : Array Slot), z_S 0 G ad σ (z_A 0 ad s.heap.size) s.heap H locs → lv_has ls 6 [(1, .ref (ad 4 o1)), (2, .ref (ad 2 o2)), (3, .int v3), (4, .int v4)] → (o1 < z_cnt 4) → (o2 < z_cnt 2) → f_X0_wantsToStop_8  n σ o1 o2 v3 v4 = some res → W p l e { frames := 2, cells := 0, slots := 0, locals := 40 } s m args below meth c H locs 0 0 (MQ below (va_Qi (S := Unit) (fun r1 _ => r1 = res.1) (fun _ t => z_W 0 G ad res.2 t.heap) (z_A 0 ad s.heap.size)) args s 0 0 (z_A 0 ad s.heap.size)) (F0 m 8 ls []) := by
  intro n
  induction n with
  | zero => intro σ o1 o2 v3 v4 H locs ls S hl ho1 ho2 hf; cases hf
  | succ n ih =>
    intro σ o1 o2 v3 v4 H locs ls S hl ho1 ho2 hf
    rw [f_X0_wantsToStop_8_s] at hf
    refine lv_iload C.1 C.2.1 dX0_wantsToStop_8 (lv_at hl 3 rfl) ?_
    refine lv_aload_n C.1 C.2.1 dX0_wantsToStop_10 rfl (lv_at hl 0 rfl) ?_
    refine z_getI C S 4 o1 rfl ho1 cf_4 2 (by decide) (gi_4_2 G ad o1) tw_1_228 dX0_wantsToStop_11 ?_
    refine lv_icmp_ge (tgt := 91) C.1 C.2.1 dX0_wantsToStop_14 (by decide) (fun c_14 => ?_) (fun c_14 => ?_)
    · rw [if_pos c_14] at hf
      exact w_X0_wantsToStop_91 C _ _ _ _ S (lv_sub hl [] rfl) hf
    · rw [if_neg c_14] at hf
      refine lv_aload_n C.1 C.2.1 dX0_wantsToStop_17 rfl (lv_at hl 0 rfl) ?_
      refine z_getR C S 4 o1 rfl ho1 cf_4 7 (by decide) _ (gr_4_7 G ad o1) tw_2_5 dX0_wantsToStop_18 ?_
      refine lv_iload C.1 C.2.1 dX0_wantsToStop_21 (lv_at hl 3 rfl) ?_
      obtain ⟨g_23, hf⟩ := gd hf
      refine z_aald C S 26 o1 rfl ho1 24 2 1 (24 * o1) rfl (fun _ => rfl) g_23 dX0_wantsToStop_23 ?_
      refine lv_astore (lv' := [(5, .ref (ad 1 (24 * o1 + (v4).toNatClampNeg))), (1, .ref (ad 4 o1)), (2, .ref (ad 2 o2)), (3, .int v3), (4, .int v4)]) C.1 C.2.1 dX0_wantsToStop_24 hl (by decide) rfl (fun ls hl => ?_)
      refine lv_aload_n C.1 C.2.1 dX0_wantsToStop_26 rfl (lv_at hl 2 rfl) ?_
      refine lv_iload C.1 C.2.1 dX0_wantsToStop_27 (lv_at hl 4 rfl) ?_
      obtain ⟨r2, σ1, q_29, hf⟩ := bib hf
      refine z_callI C S 2 o2 rfl ho2 cf_2 ⟨_, rfl⟩ [.int v4] (m_X2_isCarrying l G ad σ o2 v4 r2 σ1 ho2 q_29 _) kv_X2_isCarrying tw_7_160 ⟨Nat.le_of_ble_eq_true rfl, Nat.le_of_ble_eq_true rfl⟩ rfl rfl (Nat.le_of_ble_eq_true rfl) hl.1 ⟨Nat.le_of_ble_eq_true rfl, Nat.le_of_ble_eq_true rfl⟩ dX0_wantsToStop_29 (fun H locs S => ?_)
      refine lv_if_eq (tgt := 49) C.1 C.2.1 dX0_wantsToStop_32 (by decide) (fun c_32 => ?_) (fun c_32 => ?_)
      · rw [if_pos c_32] at hf
        exact w_X0_wantsToStop_49 C (f_X0_wantsToStop_8 n) ih _ o1 o2 v3 v4 (24 * o1 + (v4).toNatClampNeg) _ _ _ S (lv_sub hl [1, 2, 3, 4, 0] rfl) ho1 ho2 (oc1 ho1 g_23) hf
      · rw [if_neg c_32] at hf
        refine lv_aload C.1 C.2.1 dX0_wantsToStop_35 (lv_at hl 0 rfl) ?_
        refine z_getI C S 1 (24 * o1 + (v4).toNatClampNeg) rfl (oc1 ho1 g_23) cf_1 1 (by decide) (gi_1_1 G ad (24 * o1 + (v4).toNatClampNeg)) tw_1_168 dX0_wantsToStop_37 ?_
        refine lv_aload_n C.1 C.2.1 dX0_wantsToStop_40 rfl (lv_at hl 2 rfl) ?_
        refine z_getI C S 2 o2 rfl ho2 cf_2 0 (by decide) (gi_2_0 G ad o2) tw_1_91 dX0_wantsToStop_41 ?_
        refine lv_icmp_ne (tgt := 49) C.1 C.2.1 dX0_wantsToStop_44 (by decide) (fun c_44 => ?_) (fun c_44 => ?_)
        · rw [if_neg c_44] at hf
          exact w_X0_wantsToStop_49 C (f_X0_wantsToStop_8 n) ih _ o1 o2 v3 v4 (24 * o1 + (v4).toNatClampNeg) _ _ _ S (lv_sub hl [1, 2, 3, 4, 0] rfl) ho1 ho2 (oc1 ho1 g_23) hf
        · rw [if_pos c_44] at hf
          exact w_X0_wantsToStop_47 C _ _ _ _ S (lv_sub hl [] rfl) hf
set_option maxHeartbeats 4000000 in
set_option maxRecDepth 100000 in
theorem w_X0_wantsToStop_0 {p : Program} {l : Launch} {e : Env} {s : State} {m : MethodId} {args : Array Value} {below : List Frame} {meth : Method} {c : Code} {G : Gx} {ad : Ad} {res : Int32 × Sg} (C : Cx p s m args meth c yX0_wantsToStop.cls cX0_wantsToStop 6 (Option.some FieldType.boolean) G)  : ∀ (σ : Sg) (o1 : Nat) (o2 : Nat) (H : Heap) (locs : List Loc) (ls : Array Slot), z_S 0 G ad σ (z_A 0 ad s.heap.size) s.heap H locs → lv_has ls 6 [(0, .ref (ad 0 0)), (1, .ref (ad 4 o1)), (2, .ref (ad 2 o2))] → (o1 < z_cnt 4) → (o2 < z_cnt 2) → f_X0_wantsToStop  σ o1 o2 = some res → W p l e { frames := 2, cells := 0, slots := 0, locals := 40 } s m args below meth c H locs 0 0 (MQ below (va_Qi (S := Unit) (fun r1 _ => r1 = res.1) (fun _ t => z_W 0 G ad res.2 t.heap) (z_A 0 ad s.heap.size)) args s 0 0 (z_A 0 ad s.heap.size)) (F0 m 0 ls []) := by
  intro σ o1 o2 H locs ls S hl ho1 ho2 hf
  unfold f_X0_wantsToStop at hf
  refine lv_aload_n C.1 C.2.1 dX0_wantsToStop_0 rfl (lv_at hl 2 rfl) ?_
  obtain ⟨r2, σ1, q_1, hf⟩ := bib hf
  refine z_callI C S 2 o2 rfl ho2 cf_2 ⟨_, rfl⟩ [] (m_X2_hasRoom l G ad σ o2 r2 σ1 ho2 q_1 _) kv_X2_hasRoom tw_7_159 ⟨Nat.le_of_ble_eq_true rfl, Nat.le_of_ble_eq_true rfl⟩ rfl rfl (Nat.le_of_ble_eq_true rfl) hl.1 ⟨Nat.le_of_ble_eq_true rfl, Nat.le_of_ble_eq_true rfl⟩ dX0_wantsToStop_1 (fun H locs S => ?_)
  refine lv_istore_n (lv' := [(3, .int r2), (0, .ref (ad 0 0)), (1, .ref (ad 4 o1)), (2, .ref (ad 2 o2))]) C.1 C.2.1 dX0_wantsToStop_4 rfl hl (by decide) rfl (fun ls hl => ?_)
  refine lv_iconst (v := 0) C.1 C.2.1 dX0_wantsToStop_5 (by decide) ?_
  refine lv_istore (lv' := [(4, .int 0), (3, .int r2), (0, .ref (ad 0 0)), (1, .ref (ad 4 o1)), (2, .ref (ad 2 o2))]) C.1 C.2.1 dX0_wantsToStop_6 hl (by decide) rfl (fun ls hl => ?_)
  exact w_X0_wantsToStop_8 C FU _ o1 o2 r2 0 _ _ _ S (lv_sub hl [3, 4, 1, 0] rfl) ho1 ho2 hf
theorem kv_X0_wantsToStop : KV yX0_wantsToStop cX0_wantsToStop 6 (Option.some FieldType.boolean) 2 := ⟨tw_7_158, tw_7_157, tw_p_50, tw_1_17, by decide, by decide, by decide +kernel⟩
theorem m_X0_wantsToStop (l : Launch) (G : Gx) (ad : Ad) (σ : Sg) (o1 : Nat) (o2 : Nat) (r : Int32) (σ' : Sg) (ho1 : o1 < z_cnt 4) (ho2 : o2 < z_cnt 2) (hf : f_X0_wantsToStop σ o1 o2 = some (r, σ')) (sz : Nat) : z_MI l yX0_wantsToStop cX0_wantsToStop 6 (Option.some FieldType.boolean) 2 40 0 G ad σ sz [.ref (ad 0 0), .ref (ad 4 o1), .ref (ad 2 o2)] r σ' := by
  refine z_begin (by decide +kernel) (Nat.le_of_ble_eq_true rfl) [(0, .ref (ad 0 0)), (1, .ref (ad 4 o1)), (2, .ref (ad 2 o2))] rfl (fun p e s m args below meth c ls C hz S hl => ?_)
  subst hz
  exact w_X0_wantsToStop_0 (res := (r, σ')) C σ o1 o2 _ _ _ S hl ho1 ho2 hf

theorem dX0_letOff_0 : decode cX0_letOff 0 = .ok (.iconst 0, 1) := by decide +kernel
theorem dX0_letOff_1 : decode cX0_letOff 1 = .ok (.istore_n 3, 1) := by decide +kernel
theorem dX0_letOff_2 : decode cX0_letOff 2 = .ok (.iload_n 3, 1) := by decide +kernel
theorem dX0_letOff_3 : decode cX0_letOff 3 = .ok (.aload_n 1, 1) := by decide +kernel
theorem dX0_letOff_4 : decode cX0_letOff 4 = .ok (.getfield 57, 3) := by decide +kernel
theorem dX0_letOff_7 : decode cX0_letOff 7 = .ok (.if_icmp .ge 70, 3) := by decide +kernel
theorem dX0_letOff_10 : decode cX0_letOff 10 = .ok (.aload_n 2, 1) := by decide +kernel
theorem dX0_letOff_11 : decode cX0_letOff 11 = .ok (.iload_n 3, 1) := by decide +kernel
theorem dX0_letOff_12 : decode cX0_letOff 12 = .ok (.invokevirtual 208, 3) := by decide +kernel
theorem dX0_letOff_15 : decode cX0_letOff 15 = .ok (.ifCond .eq 56, 3) := by decide +kernel
theorem dX0_letOff_18 : decode cX0_letOff 18 = .ok (.aload_n 1, 1) := by decide +kernel
theorem dX0_letOff_19 : decode cX0_letOff 19 = .ok (.getfield 60, 3) := by decide +kernel
theorem dX0_letOff_22 : decode cX0_letOff 22 = .ok (.iload_n 3, 1) := by decide +kernel
theorem dX0_letOff_23 : decode cX0_letOff 23 = .ok (.aaload, 1) := by decide +kernel
theorem dX0_letOff_24 : decode cX0_letOff 24 = .ok (.getfield 211, 3) := by decide +kernel
theorem dX0_letOff_27 : decode cX0_letOff 27 = .ok (.aload_n 2, 1) := by decide +kernel
theorem dX0_letOff_28 : decode cX0_letOff 28 = .ok (.getfield 214, 3) := by decide +kernel
theorem dX0_letOff_31 : decode cX0_letOff 31 = .ok (.if_icmp .ne 40, 3) := by decide +kernel
theorem dX0_letOff_34 : decode cX0_letOff 34 = .ok (.aload_n 1, 1) := by decide +kernel
theorem dX0_letOff_35 : decode cX0_letOff 35 = .ok (.getfield 60, 3) := by decide +kernel
theorem dX0_letOff_38 : decode cX0_letOff 38 = .ok (.iload_n 3, 1) := by decide +kernel
theorem dX0_letOff_39 : decode cX0_letOff 39 = .ok (.aaload, 1) := by decide +kernel
theorem dX0_letOff_40 : decode cX0_letOff 40 = .ok (.iconst 3, 1) := by decide +kernel
theorem dX0_letOff_41 : decode cX0_letOff 41 = .ok (.putfield 64, 3) := by decide +kernel
theorem dX0_letOff_44 : decode cX0_letOff 44 = .ok (.aload_n 1, 1) := by decide +kernel
theorem dX0_letOff_45 : decode cX0_letOff 45 = .ok (.getfield 60, 3) := by decide +kernel
theorem dX0_letOff_48 : decode cX0_letOff 48 = .ok (.iload_n 3, 1) := by decide +kernel
theorem dX0_letOff_49 : decode cX0_letOff 49 = .ok (.aaload, 1) := by decide +kernel
theorem dX0_letOff_50 : decode cX0_letOff 50 = .ok (.aload_n 1, 1) := by decide +kernel
theorem dX0_letOff_51 : decode cX0_letOff 51 = .ok (.getfield 54, 3) := by decide +kernel
theorem dX0_letOff_54 : decode cX0_letOff 54 = .ok (.putfield 230, 3) := by decide +kernel
theorem dX0_letOff_57 : decode cX0_letOff 57 = .ok (.aload_n 2, 1) := by decide +kernel
theorem dX0_letOff_58 : decode cX0_letOff 58 = .ok (.dup, 1) := by decide +kernel
theorem dX0_letOff_59 : decode cX0_letOff 59 = .ok (.getfield 233, 3) := by decide +kernel
theorem dX0_letOff_62 : decode cX0_letOff 62 = .ok (.iconst 1, 1) := by decide +kernel
theorem dX0_letOff_63 : decode cX0_letOff 63 = .ok (.iload_n 3, 1) := by decide +kernel
theorem dX0_letOff_64 : decode cX0_letOff 64 = .ok (.ishl, 1) := by decide +kernel
theorem dX0_letOff_65 : decode cX0_letOff 65 = .ok (.iconst (-1), 1) := by decide +kernel
theorem dX0_letOff_66 : decode cX0_letOff 66 = .ok (.ixor, 1) := by decide +kernel
theorem dX0_letOff_67 : decode cX0_letOff 67 = .ok (.iand, 1) := by decide +kernel
theorem dX0_letOff_68 : decode cX0_letOff 68 = .ok (.putfield 233, 3) := by decide +kernel
theorem dX0_letOff_71 : decode cX0_letOff 71 = .ok (.iinc 3 1, 3) := by decide +kernel
theorem dX0_letOff_74 : decode cX0_letOff 74 = .ok (.goto (-72), 3) := by decide +kernel
theorem dX0_letOff_77 : decode cX0_letOff 77 = .ok (.return_, 1) := by decide +kernel
/-! BusLifts$Bus.letOff(LBusLifts$Lifts;LBusLifts$Car;)V -/
noncomputable def f_X0_letOff_77  (σ : Sg)  : Option Sg := some σ
noncomputable def f_X0_letOff_71 (k2 : Sg → Nat → Nat → Int32 → Option Sg) (σ : Sg) (o1 : Nat) (o2 : Nat) (v3 : Int32) : Option Sg := k2 σ o1 o2 (v3 + 1)
noncomputable def f_X0_letOff_2  : Nat → Sg → Nat → Nat → Int32 → Option Sg
  | 0, _, _, _, _ => none
  | n + 1, σ, o1, o2, v3 => if (σ 4 o1 2) ≤ v3 then (f_X0_letOff_77 σ) else (bi (f_X2_isCarrying σ o2 v3) fun r2 σ1 => (if r2 = 0 then (f_X0_letOff_71 (f_X0_letOff_2 n) σ1 o1 o2 v3) else (if v3 < 0 ∨ 24 ≤ (v3).toNatClampNeg then none else (if (σ1 1 (24 * o1 + (v3).toNatClampNeg) 1) = (σ1 2 o2 0) then (if v3 < 0 ∨ 24 ≤ (v3).toNatClampNeg then none else (st (sup σ1 1 (24 * o1 + (v3).toNatClampNeg) 3 3) fun σ3 => (if v3 < 0 ∨ 24 ≤ (v3).toNatClampNeg then none else (st (sup σ3 1 (24 * o1 + (v3).toNatClampNeg) 6 (σ3 4 o1 3)) fun σ4 => (st (sup σ4 2 o2 9 ((σ4 2 o2 9) &&& ((1 <<< (v3 &&& 31)) ^^^ (-1)))) fun σ5 => (f_X0_letOff_71 (f_X0_letOff_2 n) σ5 o1 o2 v3)))))) else (f_X0_letOff_71 (f_X0_letOff_2 n) σ1 o1 o2 v3)))))
theorem f_X0_letOff_2_s  (n : Nat) (σ : Sg) (o1 : Nat) (o2 : Nat) (v3 : Int32) : f_X0_letOff_2  (n + 1) σ o1 o2 v3 = (if (σ 4 o1 2) ≤ v3 then (f_X0_letOff_77 σ) else (bi (f_X2_isCarrying σ o2 v3) fun r2 σ1 => (if r2 = 0 then (f_X0_letOff_71 (f_X0_letOff_2 n) σ1 o1 o2 v3) else (if v3 < 0 ∨ 24 ≤ (v3).toNatClampNeg then none else (if (σ1 1 (24 * o1 + (v3).toNatClampNeg) 1) = (σ1 2 o2 0) then (if v3 < 0 ∨ 24 ≤ (v3).toNatClampNeg then none else (st (sup σ1 1 (24 * o1 + (v3).toNatClampNeg) 3 3) fun σ3 => (if v3 < 0 ∨ 24 ≤ (v3).toNatClampNeg then none else (st (sup σ3 1 (24 * o1 + (v3).toNatClampNeg) 6 (σ3 4 o1 3)) fun σ4 => (st (sup σ4 2 o2 9 ((σ4 2 o2 9) &&& ((1 <<< (v3 &&& 31)) ^^^ (-1)))) fun σ5 => (f_X0_letOff_71 (f_X0_letOff_2 n) σ5 o1 o2 v3)))))) else (f_X0_letOff_71 (f_X0_letOff_2 n) σ1 o1 o2 v3)))))) := rfl
noncomputable def f_X0_letOff  (σ : Sg) (o1 : Nat) (o2 : Nat) : Option Sg := f_X0_letOff_2 FU σ o1 o2 0
set_option maxHeartbeats 4000000 in
set_option maxRecDepth 100000 in
theorem w_X0_letOff_77 {p : Program} {l : Launch} {e : Env} {s : State} {m : MethodId} {args : Array Value} {below : List Frame} {meth : Method} {c : Code} {G : Gx} {ad : Ad} {res : Sg} (C : Cx p s m args meth c yX0_letOff.cls cX0_letOff 4 none G)  : ∀ (σ : Sg)  (H : Heap) (locs : List Loc) (ls : Array Slot), z_S 0 G ad σ (z_A 0 ad s.heap.size) s.heap H locs → lv_has ls 4 [] → f_X0_letOff_77  σ  = some res → W p l e { frames := 1, cells := 0, slots := 0, locals := 21 } s m args below meth c H locs 0 0 (MQ below (va_Qv (S := Unit) (fun _ => True) (fun _ t => z_W 0 G ad res t.heap) (z_A 0 ad s.heap.size)) args s 0 0 (z_A 0 ad s.heap.size)) (F0 m 77 ls []) := by
  intro σ  H locs ls S hl  hf
  unfold f_X0_letOff_77 at hf
  exact z_vret C S hf dX0_letOff_77
set_option maxHeartbeats 4000000 in
set_option maxRecDepth 100000 in
theorem w_X0_letOff_71 {p : Program} {l : Launch} {e : Env} {s : State} {m : MethodId} {args : Array Value} {below : List Frame} {meth : Method} {c : Code} {G : Gx} {ad : Ad} {res : Sg} (C : Cx p s m args meth c yX0_letOff.cls cX0_letOff 4 none G) (k2 : Sg → Nat → Nat → Int32 → Option Sg) (hk2 : ∀ (σ : Sg) (o1 : Nat) (o2 : Nat) (v3 : Int32) (H : Heap) (locs : List Loc) (ls : Array Slot), z_S 0 G ad σ (z_A 0 ad s.heap.size) s.heap H locs → lv_has ls 4 [(1, .ref (ad 4 o1)), (2, .ref (ad 2 o2)), (3, .int v3)] → (o1 < z_cnt 4) → (o2 < z_cnt 2) → k2 σ o1 o2 v3 = some res → W p l e { frames := 1, cells := 0, slots := 0, locals := 21 } s m args below meth c H locs 0 0 (MQ below (va_Qv (S := Unit) (fun _ => True) (fun _ t => z_W 0 G ad res t.heap) (z_A 0 ad s.heap.size)) args s 0 0 (z_A 0 ad s.heap.size)) (F0 m 2 ls [])) : ∀ (σ : Sg) (o1 : Nat) (o2 : Nat) (v3 : Int32) (H : Heap) (locs : List Loc) (ls : Array Slot), z_S 0 G ad σ (z_A 0 ad s.heap.size) s.heap H locs → lv_has ls 4 [(1, .ref (ad 4 o1)), (2, .ref (ad 2 o2)), (3, .int v3)] → (o1 < z_cnt 4) → (o2 < z_cnt 2) → f_X0_letOff_71 k2 σ o1 o2 v3 = some res → W p l e { frames := 1, cells := 0, slots := 0, locals := 21 } s m args below meth c H locs 0 0 (MQ below (va_Qv (S := Unit) (fun _ => True) (fun _ t => z_W 0 G ad res t.heap) (z_A 0 ad s.heap.size)) args s 0 0 (z_A 0 ad s.heap.size)) (F0 m 71 ls []) := by
  intro σ o1 o2 v3 H locs ls S hl ho1 ho2 hf
  unfold f_X0_letOff_71 at hf
  refine lv_iinc (v := (v3 + 1)) (lv' := [(3, .int (v3 + 1)), (1, .ref (ad 4 o1)), (2, .ref (ad 2 o2))]) C.1 C.2.1 dX0_letOff_71 hl (k := 2) rfl rfl (by decide) rfl (fun ls hl => ?_)
  refine lv_goto (tgt := 2) C.1 C.2.1 dX0_letOff_74 (by decide) ?_
  exact hk2 _ o1 o2 (v3 + 1) _ _ _ S (lv_sub hl [1, 2, 0] rfl) ho1 ho2 hf
set_option maxHeartbeats 4000000 in
set_option maxRecDepth 100000 in
theorem w_X0_letOff_2 {p : Program} {l : Launch} {e : Env} {s : State} {m : MethodId} {args : Array Value} {below : List Frame} {meth : Method} {c : Code} {G : Gx} {ad : Ad} {res : Sg} (C : Cx p s m args meth c yX0_letOff.cls cX0_letOff 4 none G)  : ∀ n : Nat, ∀ (σ : Sg) (o1 : Nat) (o2 : Nat) (v3 : Int32) (H : Heap) (locs : List Loc) (ls : Array Slot), z_S 0 G ad σ (z_A 0 ad s.heap.size) s.heap H locs → lv_has ls 4 [(1, .ref (ad 4 o1)), (2, .ref (ad 2 o2)), (3, .int v3)] → (o1 < z_cnt 4) → (o2 < z_cnt 2) → f_X0_letOff_2  n σ o1 o2 v3 = some res → W p l e { frames := 1, cells := 0, slots := 0, locals := 21 } s m args below meth c H locs 0 0 (MQ below (va_Qv (S := Unit) (fun _ => True) (fun _ t => z_W 0 G ad res t.heap) (z_A 0 ad s.heap.size)) args s 0 0 (z_A 0 ad s.heap.size)) (F0 m 2 ls []) := by
  intro n
  induction n with
  | zero => intro σ o1 o2 v3 H locs ls S hl ho1 ho2 hf; cases hf
  | succ n ih =>
    intro σ o1 o2 v3 H locs ls S hl ho1 ho2 hf
    rw [f_X0_letOff_2_s] at hf
    refine lv_iload_n C.1 C.2.1 dX0_letOff_2 rfl (lv_at hl 2 rfl) ?_
    refine lv_aload_n C.1 C.2.1 dX0_letOff_3 rfl (lv_at hl 0 rfl) ?_
    refine z_getI C S 4 o1 rfl ho1 cf_4 2 (by decide) (gi_4_2 G ad o1) tw_1_228 dX0_letOff_4 ?_
    refine lv_icmp_ge (tgt := 77) C.1 C.2.1 dX0_letOff_7 (by decide) (fun c_7 => ?_) (fun c_7 => ?_)
    · rw [if_pos c_7] at hf
      exact w_X0_letOff_77 C _ _ _ _ S (lv_sub hl [] rfl) hf
    · rw [if_neg c_7] at hf
      refine lv_aload_n C.1 C.2.1 dX0_letOff_10 rfl (lv_at hl 1 rfl) ?_
      refine lv_iload_n C.1 C.2.1 dX0_letOff_11 rfl (lv_at hl 2 rfl) ?_
      obtain ⟨r2, σ1, q_12, hf⟩ := bib hf
      refine z_callI C S 2 o2 rfl ho2 cf_2 ⟨_, rfl⟩ [.int v3] (m_X2_isCarrying l G ad σ o2 v3 r2 σ1 ho2 q_12 _) kv_X2_isCarrying tw_7_160 ⟨Nat.le_of_ble_eq_true rfl, Nat.le_of_ble_eq_true rfl⟩ rfl rfl (Nat.le_of_ble_eq_true rfl) hl.1 ⟨Nat.le_of_ble_eq_true rfl, Nat.le_of_ble_eq_true rfl⟩ dX0_letOff_12 (fun H locs S => ?_)
      refine lv_if_eq (tgt := 71) C.1 C.2.1 dX0_letOff_15 (by decide) (fun c_15 => ?_) (fun c_15 => ?_)
      · rw [if_pos c_15] at hf
        exact w_X0_letOff_71 C (f_X0_letOff_2 n) ih _ o1 o2 v3 _ _ _ S (lv_sub hl [0, 1, 2] rfl) ho1 ho2 hf
      · rw [if_neg c_15] at hf
        refine lv_aload_n C.1 C.2.1 dX0_letOff_18 rfl (lv_at hl 0 rfl) ?_
        refine z_getR C S 4 o1 rfl ho1 cf_4 7 (by decide) _ (gr_4_7 G ad o1) tw_2_5 dX0_letOff_19 ?_
        refine lv_iload_n C.1 C.2.1 dX0_letOff_22 rfl (lv_at hl 2 rfl) ?_
        obtain ⟨g_23, hf⟩ := gd hf
        refine z_aald C S 26 o1 rfl ho1 24 2 1 (24 * o1) rfl (fun _ => rfl) g_23 dX0_letOff_23 ?_
        refine z_getI C S 1 (24 * o1 + (v3).toNatClampNeg) rfl (oc1 ho1 g_23) cf_1 1 (by decide) (gi_1_1 G ad (24 * o1 + (v3).toNatClampNeg)) tw_1_168 dX0_letOff_24 ?_
        refine lv_aload_n C.1 C.2.1 dX0_letOff_27 rfl (lv_at hl 1 rfl) ?_
        refine z_getI C S 2 o2 rfl ho2 cf_2 0 (by decide) (gi_2_0 G ad o2) tw_1_91 dX0_letOff_28 ?_
        refine lv_icmp_ne (tgt := 71) C.1 C.2.1 dX0_letOff_31 (by decide) (fun c_31 => ?_) (fun c_31 => ?_)
        · rw [if_neg c_31] at hf
          exact w_X0_letOff_71 C (f_X0_letOff_2 n) ih _ o1 o2 v3 _ _ _ S (lv_sub hl [0, 1, 2] rfl) ho1 ho2 hf
        · rw [if_pos c_31] at hf
          refine lv_aload_n C.1 C.2.1 dX0_letOff_34 rfl (lv_at hl 0 rfl) ?_
          refine z_getR C S 4 o1 rfl ho1 cf_4 7 (by decide) _ (gr_4_7 G ad o1) tw_2_5 dX0_letOff_35 ?_
          refine lv_iload_n C.1 C.2.1 dX0_letOff_38 rfl (lv_at hl 2 rfl) ?_
          obtain ⟨g_39, hf⟩ := gd hf
          refine z_aald C S 26 o1 rfl ho1 24 2 1 (24 * o1) rfl (fun _ => rfl) g_39 dX0_letOff_39 ?_
          refine lv_iconst (v := 3) C.1 C.2.1 dX0_letOff_40 (by decide) ?_
          obtain ⟨σ3, e_41, hf⟩ := stb hf
          refine z_putI C S 1 (24 * o1 + (v3).toNatClampNeg) rfl (oc1 ho1 g_39) cf_1 3 (by decide) (pi_1_3 G ad (24 * o1 + (v3).toNatClampNeg)) rfl rfl rfl tw_1_174 dX0_letOff_41 (fun H locs S => ?_)
          rw [← e_41] at S
          refine lv_aload_n C.1 C.2.1 dX0_letOff_44 rfl (lv_at hl 0 rfl) ?_
          refine z_getR C S 4 o1 rfl ho1 cf_4 7 (by decide) _ (gr_4_7 G ad o1) tw_2_5 dX0_letOff_45 ?_
          refine lv_iload_n C.1 C.2.1 dX0_letOff_48 rfl (lv_at hl 2 rfl) ?_
          obtain ⟨g_49, hf⟩ := gd hf
          refine z_aald C S 26 o1 rfl ho1 24 2 1 (24 * o1) rfl (fun _ => rfl) g_49 dX0_letOff_49 ?_
          refine lv_aload_n C.1 C.2.1 dX0_letOff_50 rfl (lv_at hl 0 rfl) ?_
          refine z_getI C S 4 o1 rfl ho1 cf_4 3 (by decide) (gi_4_3 G ad o1) tw_1_232 dX0_letOff_51 ?_
          obtain ⟨σ4, e_54, hf⟩ := stb hf
          refine z_putI C S 1 (24 * o1 + (v3).toNatClampNeg) rfl (oc1 ho1 g_49) cf_1 6 (by decide) (pi_1_6 G ad (24 * o1 + (v3).toNatClampNeg)) rfl rfl rfl tw_1_185 dX0_letOff_54 (fun H locs S => ?_)
          rw [← e_54] at S
          refine lv_aload_n C.1 C.2.1 dX0_letOff_57 rfl (lv_at hl 1 rfl) ?_
          refine lv_dup C.1 C.2.1 dX0_letOff_58 rfl ?_
          refine z_getI C S 2 o2 rfl ho2 cf_2 9 (by decide) (gi_2_9 G ad o2) tw_1_119 dX0_letOff_59 ?_
          refine lv_iconst (v := 1) C.1 C.2.1 dX0_letOff_62 (by decide) ?_
          refine lv_iload_n C.1 C.2.1 dX0_letOff_63 rfl (lv_at hl 2 rfl) ?_
          refine lv_ishl C.1 C.2.1 dX0_letOff_64 ?_
          refine lv_iconst (v := (-1)) C.1 C.2.1 dX0_letOff_65 (by decide) ?_
          refine lv_ixor C.1 C.2.1 dX0_letOff_66 ?_
          refine lv_iand C.1 C.2.1 dX0_letOff_67 ?_
          obtain ⟨σ5, e_68, hf⟩ := stb hf
          refine z_putI C S 2 o2 rfl ho2 cf_2 9 (by decide) (pi_2_9 G ad o2) rfl rfl rfl tw_1_119 dX0_letOff_68 (fun H locs S => ?_)
          rw [← e_68] at S
          exact w_X0_letOff_71 C (f_X0_letOff_2 n) ih _ o1 o2 v3 _ _ _ S (lv_sub hl [0, 1, 2] rfl) ho1 ho2 hf
set_option maxHeartbeats 4000000 in
set_option maxRecDepth 100000 in
theorem w_X0_letOff_0 {p : Program} {l : Launch} {e : Env} {s : State} {m : MethodId} {args : Array Value} {below : List Frame} {meth : Method} {c : Code} {G : Gx} {ad : Ad} {res : Sg} (C : Cx p s m args meth c yX0_letOff.cls cX0_letOff 4 none G)  : ∀ (σ : Sg) (o1 : Nat) (o2 : Nat) (H : Heap) (locs : List Loc) (ls : Array Slot), z_S 0 G ad σ (z_A 0 ad s.heap.size) s.heap H locs → lv_has ls 4 [(0, .ref (ad 0 0)), (1, .ref (ad 4 o1)), (2, .ref (ad 2 o2))] → (o1 < z_cnt 4) → (o2 < z_cnt 2) → f_X0_letOff  σ o1 o2 = some res → W p l e { frames := 1, cells := 0, slots := 0, locals := 21 } s m args below meth c H locs 0 0 (MQ below (va_Qv (S := Unit) (fun _ => True) (fun _ t => z_W 0 G ad res t.heap) (z_A 0 ad s.heap.size)) args s 0 0 (z_A 0 ad s.heap.size)) (F0 m 0 ls []) := by
  intro σ o1 o2 H locs ls S hl ho1 ho2 hf
  unfold f_X0_letOff at hf
  refine lv_iconst (v := 0) C.1 C.2.1 dX0_letOff_0 (by decide) ?_
  refine lv_istore_n (lv' := [(3, .int 0), (0, .ref (ad 0 0)), (1, .ref (ad 4 o1)), (2, .ref (ad 2 o2))]) C.1 C.2.1 dX0_letOff_1 rfl hl (by decide) rfl (fun ls hl => ?_)
  exact w_X0_letOff_2 C FU _ o1 o2 0 _ _ _ S (lv_sub hl [2, 3, 0] rfl) ho1 ho2 hf
theorem kv_X0_letOff : KV yX0_letOff cX0_letOff 4 none 2 := ⟨tw_7_168, tw_7_167, tw_p_52, tw_1_17, by decide, by decide, by decide +kernel⟩
theorem m_X0_letOff (l : Launch) (G : Gx) (ad : Ad) (σ : Sg) (o1 : Nat) (o2 : Nat) (σ' : Sg) (ho1 : o1 < z_cnt 4) (ho2 : o2 < z_cnt 2) (hf : f_X0_letOff σ o1 o2 = some σ') (sz : Nat) : z_MV l yX0_letOff cX0_letOff 4 none 1 21 0 G ad σ sz [.ref (ad 0 0), .ref (ad 4 o1), .ref (ad 2 o2)] σ' := by
  refine z_begin (by decide +kernel) (Nat.le_of_ble_eq_true rfl) [(0, .ref (ad 0 0)), (1, .ref (ad 4 o1)), (2, .ref (ad 2 o2))] rfl (fun p e s m args below meth c ls C hz S hl => ?_)
  subst hz
  exact w_X0_letOff_0 (res := σ') C σ o1 o2 _ _ _ S hl ho1 ho2 hf

theorem dX0_stopForNobody_0 : decode cX0_stopForNobody 0 = .ok (.aload_n 2, 1) := by decide +kernel
theorem dX0_stopForNobody_1 : decode cX0_stopForNobody 1 = .ok (.iload_n 3, 1) := by decide +kernel
theorem dX0_stopForNobody_2 : decode cX0_stopForNobody 2 = .ok (.invokevirtual 178, 3) := by decide +kernel
theorem dX0_stopForNobody_5 : decode cX0_stopForNobody 5 = .ok (.aload_n 2, 1) := by decide +kernel
theorem dX0_stopForNobody_6 : decode cX0_stopForNobody 6 = .ok (.dup, 1) := by decide +kernel
theorem dX0_stopForNobody_7 : decode cX0_stopForNobody 7 = .ok (.getfield 236, 3) := by decide +kernel
theorem dX0_stopForNobody_10 : decode cX0_stopForNobody 10 = .ok (.iconst 1, 1) := by decide +kernel
theorem dX0_stopForNobody_11 : decode cX0_stopForNobody 11 = .ok (.iadd, 1) := by decide +kernel
theorem dX0_stopForNobody_12 : decode cX0_stopForNobody 12 = .ok (.putfield 236, 3) := by decide +kernel
theorem dX0_stopForNobody_15 : decode cX0_stopForNobody 15 = .ok (.aload_n 1, 1) := by decide +kernel
theorem dX0_stopForNobody_16 : decode cX0_stopForNobody 16 = .ok (.getfield 239, 3) := by decide +kernel
theorem dX0_stopForNobody_19 : decode cX0_stopForNobody 19 = .ok (.aload_n 2, 1) := by decide +kernel
theorem dX0_stopForNobody_20 : decode cX0_stopForNobody 20 = .ok (.iload_n 3, 1) := by decide +kernel
theorem dX0_stopForNobody_21 : decode cX0_stopForNobody 21 = .ok (.invokevirtual 242, 3) := by decide +kernel
theorem dX0_stopForNobody_24 : decode cX0_stopForNobody 24 = .ok (.dup2, 1) := by decide +kernel
theorem dX0_stopForNobody_25 : decode cX0_stopForNobody 25 = .ok (.iaload, 1) := by decide +kernel
theorem dX0_stopForNobody_26 : decode cX0_stopForNobody 26 = .ok (.iconst 1, 1) := by decide +kernel
theorem dX0_stopForNobody_27 : decode cX0_stopForNobody 27 = .ok (.iadd, 1) := by decide +kernel
theorem dX0_stopForNobody_28 : decode cX0_stopForNobody 28 = .ok (.iastore, 1) := by decide +kernel
theorem dX0_stopForNobody_29 : decode cX0_stopForNobody 29 = .ok (.return_, 1) := by decide +kernel
/-! BusLifts$Bus.stopForNobody(LBusLifts$Lifts;LBusLifts$Car;I)V -/
noncomputable def f_X0_stopForNobody  (σ : Sg) (o1 : Nat) (o2 : Nat) (v3 : Int32) : Option Sg := bv (f_X2_dropCall σ o2 v3) fun σ1 => (st (sup σ1 2 o2 7 ((σ1 2 o2 7) + 1)) fun σ2 => (bi (f_X2_causeOf σ2 o2 v3) fun r4 σ3 => (if r4 < 0 ∨ 5 ≤ (r4).toNatClampNeg then none else (if r4 < 0 ∨ 5 ≤ (r4).toNatClampNeg then none else (st (sup σ3 15 o1 (r4).toNatClampNeg ((σ3 15 o1 (r4).toNatClampNeg) + 1)) fun σ5 => (some σ5))))))
set_option maxHeartbeats 4000000 in
set_option maxRecDepth 100000 in
theorem w_X0_stopForNobody_0 {p : Program} {l : Launch} {e : Env} {s : State} {m : MethodId} {args : Array Value} {below : List Frame} {meth : Method} {c : Code} {G : Gx} {ad : Ad} {res : Sg} (C : Cx p s m args meth c yX0_stopForNobody.cls cX0_stopForNobody 4 none G)  : ∀ (σ : Sg) (o1 : Nat) (o2 : Nat) (v3 : Int32) (H : Heap) (locs : List Loc) (ls : Array Slot), z_S 0 G ad σ (z_A 0 ad s.heap.size) s.heap H locs → lv_has ls 4 [(0, .ref (ad 0 0)), (1, .ref (ad 4 o1)), (2, .ref (ad 2 o2)), (3, .int v3)] → (o1 < z_cnt 4) → (o2 < z_cnt 2) → f_X0_stopForNobody  σ o1 o2 v3 = some res → W p l e { frames := 2, cells := 0, slots := 0, locals := 43 } s m args below meth c H locs 0 0 (MQ below (va_Qv (S := Unit) (fun _ => True) (fun _ t => z_W 0 G ad res t.heap) (z_A 0 ad s.heap.size)) args s 0 0 (z_A 0 ad s.heap.size)) (F0 m 0 ls []) := by
  intro σ o1 o2 v3 H locs ls S hl ho1 ho2 hf
  unfold f_X0_stopForNobody at hf
  refine lv_aload_n C.1 C.2.1 dX0_stopForNobody_0 rfl (lv_at hl 2 rfl) ?_
  refine lv_iload_n C.1 C.2.1 dX0_stopForNobody_1 rfl (lv_at hl 3 rfl) ?_
  obtain ⟨σ1, q_2, hf⟩ := bvb hf
  refine z_callV C S 2 o2 rfl ho2 cf_2 ⟨_, rfl⟩ [.int v3] (m_X2_dropCall l G ad σ o2 v3 σ1 ho2 q_2 _) kv_X2_dropCall tw_7_132 ⟨Nat.le_of_ble_eq_true rfl, Nat.le_of_ble_eq_true rfl⟩ rfl rfl (Nat.le_of_ble_eq_true rfl) hl.1 ⟨Nat.le_of_ble_eq_true rfl, Nat.le_of_ble_eq_true rfl⟩ dX0_stopForNobody_2 (fun H locs S => ?_)
  refine lv_aload_n C.1 C.2.1 dX0_stopForNobody_5 rfl (lv_at hl 2 rfl) ?_
  refine lv_dup C.1 C.2.1 dX0_stopForNobody_6 rfl ?_
  refine z_getI C S 2 o2 rfl ho2 cf_2 7 (by decide) (gi_2_7 G ad o2) tw_1_111 dX0_stopForNobody_7 ?_
  refine lv_iconst (v := 1) C.1 C.2.1 dX0_stopForNobody_10 (by decide) ?_
  refine lv_iadd C.1 C.2.1 dX0_stopForNobody_11 ?_
  obtain ⟨σ2, e_12, hf⟩ := stb hf
  refine z_putI C S 2 o2 rfl ho2 cf_2 7 (by decide) (pi_2_7 G ad o2) rfl rfl rfl tw_1_111 dX0_stopForNobody_12 (fun H locs S => ?_)
  rw [← e_12] at S
  refine lv_aload_n C.1 C.2.1 dX0_stopForNobody_15 rfl (lv_at hl 1 rfl) ?_
  refine z_getR C S 4 o1 rfl ho1 cf_4 11 (by decide) _ (gr_4_11 G ad o1) tw_2_16 dX0_stopForNobody_16 ?_
  refine lv_aload_n C.1 C.2.1 dX0_stopForNobody_19 rfl (lv_at hl 2 rfl) ?_
  refine lv_iload_n C.1 C.2.1 dX0_stopForNobody_20 rfl (lv_at hl 3 rfl) ?_
  obtain ⟨r4, σ3, q_21, hf⟩ := bib hf
  refine z_callI C S 2 o2 rfl ho2 cf_2 ⟨_, rfl⟩ [.int v3] (m_X2_causeOf l G ad σ2 o2 v3 r4 σ3 ho2 q_21 _) kv_X2_causeOf tw_7_173 ⟨Nat.le_of_ble_eq_true rfl, Nat.le_of_ble_eq_true rfl⟩ rfl rfl (Nat.le_of_ble_eq_true rfl) hl.1 ⟨Nat.le_of_ble_eq_true rfl, Nat.le_of_ble_eq_true rfl⟩ dX0_stopForNobody_21 (fun H locs S => ?_)
  refine lv_dup2_11 C.1 C.2.1 dX0_stopForNobody_24 rfl rfl ?_
  obtain ⟨g_25, hf⟩ := gd hf
  refine z_iald C S 15 o1 rfl ho1 5 (fun _ => rfl) g_25 dX0_stopForNobody_25 ?_
  refine lv_iconst (v := 1) C.1 C.2.1 dX0_stopForNobody_26 (by decide) ?_
  refine lv_iadd C.1 C.2.1 dX0_stopForNobody_27 ?_
  obtain ⟨g_28, hf⟩ := gd hf
  obtain ⟨σ5, e_28, hf⟩ := stb hf
  refine z_iast C S 15 o1 rfl ho1 5 (fun _ => rfl) g_28 dX0_stopForNobody_28 (fun H locs S => ?_)
  rw [← e_28] at S
  exact z_vret C S hf dX0_stopForNobody_29
theorem kv_X0_stopForNobody : KV yX0_stopForNobody cX0_stopForNobody 4 none 3 := ⟨tw_7_172, tw_7_171, tw_p_53, tw_1_17, by decide, by decide, by decide +kernel⟩
theorem m_X0_stopForNobody (l : Launch) (G : Gx) (ad : Ad) (σ : Sg) (o1 : Nat) (o2 : Nat) (v3 : Int32) (σ' : Sg) (ho1 : o1 < z_cnt 4) (ho2 : o2 < z_cnt 2) (hf : f_X0_stopForNobody σ o1 o2 v3 = some σ') (sz : Nat) : z_MV l yX0_stopForNobody cX0_stopForNobody 4 none 2 43 0 G ad σ sz [.ref (ad 0 0), .ref (ad 4 o1), .ref (ad 2 o2), .int v3] σ' := by
  refine z_begin (by decide +kernel) (Nat.le_of_ble_eq_true rfl) [(0, .ref (ad 0 0)), (1, .ref (ad 4 o1)), (2, .ref (ad 2 o2)), (3, .int v3)] rfl (fun p e s m args below meth c ls C hz S hl => ?_)
  subst hz
  exact w_X0_stopForNobody_0 (res := σ') C σ o1 o2 v3 _ _ _ S hl ho1 ho2 hf

theorem dX0_takeAboard_0 : decode cX0_takeAboard 0 = .ok (.aload_n 1, 1) := by decide +kernel
theorem dX0_takeAboard_1 : decode cX0_takeAboard 1 = .ok (.getfield 60, 3) := by decide +kernel
theorem dX0_takeAboard_4 : decode cX0_takeAboard 4 = .ok (.iload_n 3, 1) := by decide +kernel
theorem dX0_takeAboard_5 : decode cX0_takeAboard 5 = .ok (.aaload, 1) := by decide +kernel
theorem dX0_takeAboard_6 : decode cX0_takeAboard 6 = .ok (.astore 4, 2) := by decide +kernel
theorem dX0_takeAboard_8 : decode cX0_takeAboard 8 = .ok (.aload 4, 2) := by decide +kernel
theorem dX0_takeAboard_10 : decode cX0_takeAboard 10 = .ok (.iconst 2, 1) := by decide +kernel
theorem dX0_takeAboard_11 : decode cX0_takeAboard 11 = .ok (.putfield 64, 3) := by decide +kernel
theorem dX0_takeAboard_14 : decode cX0_takeAboard 14 = .ok (.aload 4, 2) := by decide +kernel
theorem dX0_takeAboard_16 : decode cX0_takeAboard 16 = .ok (.iload_n 2, 1) := by decide +kernel
theorem dX0_takeAboard_17 : decode cX0_takeAboard 17 = .ok (.putfield 246, 3) := by decide +kernel
theorem dX0_takeAboard_20 : decode cX0_takeAboard 20 = .ok (.aload 4, 2) := by decide +kernel
theorem dX0_takeAboard_22 : decode cX0_takeAboard 22 = .ok (.aload_n 1, 1) := by decide +kernel
theorem dX0_takeAboard_23 : decode cX0_takeAboard 23 = .ok (.getfield 54, 3) := by decide +kernel
theorem dX0_takeAboard_26 : decode cX0_takeAboard 26 = .ok (.putfield 249, 3) := by decide +kernel
theorem dX0_takeAboard_29 : decode cX0_takeAboard 29 = .ok (.aload_n 1, 1) := by decide +kernel
theorem dX0_takeAboard_30 : decode cX0_takeAboard 30 = .ok (.getfield 105, 3) := by decide +kernel
theorem dX0_takeAboard_33 : decode cX0_takeAboard 33 = .ok (.iload_n 2, 1) := by decide +kernel
theorem dX0_takeAboard_34 : decode cX0_takeAboard 34 = .ok (.aaload, 1) := by decide +kernel
theorem dX0_takeAboard_35 : decode cX0_takeAboard 35 = .ok (.dup, 1) := by decide +kernel
theorem dX0_takeAboard_36 : decode cX0_takeAboard 36 = .ok (.getfield 233, 3) := by decide +kernel
theorem dX0_takeAboard_39 : decode cX0_takeAboard 39 = .ok (.iconst 1, 1) := by decide +kernel
theorem dX0_takeAboard_40 : decode cX0_takeAboard 40 = .ok (.iload_n 3, 1) := by decide +kernel
theorem dX0_takeAboard_41 : decode cX0_takeAboard 41 = .ok (.ishl, 1) := by decide +kernel
theorem dX0_takeAboard_42 : decode cX0_takeAboard 42 = .ok (.ior, 1) := by decide +kernel
theorem dX0_takeAboard_43 : decode cX0_takeAboard 43 = .ok (.putfield 233, 3) := by decide +kernel
theorem dX0_takeAboard_46 : decode cX0_takeAboard 46 = .ok (.aload_n 1, 1) := by decide +kernel
theorem dX0_takeAboard_47 : decode cX0_takeAboard 47 = .ok (.getfield 105, 3) := by decide +kernel
theorem dX0_takeAboard_50 : decode cX0_takeAboard 50 = .ok (.iload_n 2, 1) := by decide +kernel
theorem dX0_takeAboard_51 : decode cX0_takeAboard 51 = .ok (.aaload, 1) := by decide +kernel
theorem dX0_takeAboard_52 : decode cX0_takeAboard 52 = .ok (.iload_n 3, 1) := by decide +kernel
theorem dX0_takeAboard_53 : decode cX0_takeAboard 53 = .ok (.invokevirtual 178, 3) := by decide +kernel
theorem dX0_takeAboard_56 : decode cX0_takeAboard 56 = .ok (.aload_n 1, 1) := by decide +kernel
theorem dX0_takeAboard_57 : decode cX0_takeAboard 57 = .ok (.iload_n 2, 1) := by decide +kernel
theorem dX0_takeAboard_58 : decode cX0_takeAboard 58 = .ok (.iconst 3, 1) := by decide +kernel
theorem dX0_takeAboard_59 : decode cX0_takeAboard 59 = .ok (.iload_n 3, 1) := by decide +kernel
theorem dX0_takeAboard_60 : decode cX0_takeAboard 60 = .ok (.iconst 0, 1) := by decide +kernel
theorem dX0_takeAboard_61 : decode cX0_takeAboard 61 = .ok (.invokevirtual 81, 3) := by decide +kernel
theorem dX0_takeAboard_64 : decode cX0_takeAboard 64 = .ok (.return_, 1) := by decide +kernel
/-! BusLifts$Bus.takeAboard(LBusLifts$Lifts;II)V -/
noncomputable def f_X0_takeAboard  (σ : Sg) (o1 : Nat) (v2 : Int32) (v3 : Int32) : Option Sg := if v3 < 0 ∨ 24 ≤ (v3).toNatClampNeg then none else (st (sup σ 1 (24 * o1 + (v3).toNatClampNeg) 3 2) fun σ1 => (st (sup σ1 1 (24 * o1 + (v3).toNatClampNeg) 4 v2) fun σ2 => (st (sup σ2 1 (24 * o1 + (v3).toNatClampNeg) 5 (σ2 4 o1 3)) fun σ3 => (if v2 < 0 ∨ 4 ≤ (v2).toNatClampNeg then none else (st (sup σ3 2 (4 * o1 + (v2).toNatClampNeg) 9 ((σ3 2 (4 * o1 + (v2).toNatClampNeg) 9) ||| (1 <<< (v3 &&& 31)))) fun σ4 => (if v2 < 0 ∨ 4 ≤ (v2).toNatClampNeg then none else (bv (f_X2_dropCall σ4 (4 * o1 + (v2).toNatClampNeg) v3) fun σ5 => (bv (f_X4_send σ5 o1 v2 3 v3 0) fun σ6 => (some σ6)))))))))
set_option maxHeartbeats 4000000 in
set_option maxRecDepth 100000 in
theorem w_X0_takeAboard_0 {p : Program} {l : Launch} {e : Env} {s : State} {m : MethodId} {args : Array Value} {below : List Frame} {meth : Method} {c : Code} {G : Gx} {ad : Ad} {res : Sg} (C : Cx p s m args meth c yX0_takeAboard.cls cX0_takeAboard 5 none G)  : ∀ (σ : Sg) (o1 : Nat) (v2 : Int32) (v3 : Int32) (H : Heap) (locs : List Loc) (ls : Array Slot), z_S 0 G ad σ (z_A 0 ad s.heap.size) s.heap H locs → lv_has ls 5 [(0, .ref (ad 0 0)), (1, .ref (ad 4 o1)), (2, .int v2), (3, .int v3)] → (o1 < z_cnt 4) → f_X0_takeAboard  σ o1 v2 v3 = some res → W p l e { frames := 2, cells := 0, slots := 0, locals := 48 } s m args below meth c H locs 0 0 (MQ below (va_Qv (S := Unit) (fun _ => True) (fun _ t => z_W 0 G ad res t.heap) (z_A 0 ad s.heap.size)) args s 0 0 (z_A 0 ad s.heap.size)) (F0 m 0 ls []) := by
  intro σ o1 v2 v3 H locs ls S hl ho1 hf
  unfold f_X0_takeAboard at hf
  refine lv_aload_n C.1 C.2.1 dX0_takeAboard_0 rfl (lv_at hl 1 rfl) ?_
  refine z_getR C S 4 o1 rfl ho1 cf_4 7 (by decide) _ (gr_4_7 G ad o1) tw_2_5 dX0_takeAboard_1 ?_
  refine lv_iload_n C.1 C.2.1 dX0_takeAboard_4 rfl (lv_at hl 3 rfl) ?_
  obtain ⟨g_5, hf⟩ := gd hf
  refine z_aald C S 26 o1 rfl ho1 24 2 1 (24 * o1) rfl (fun _ => rfl) g_5 dX0_takeAboard_5 ?_
  refine lv_astore (lv' := [(4, .ref (ad 1 (24 * o1 + (v3).toNatClampNeg))), (0, .ref (ad 0 0)), (1, .ref (ad 4 o1)), (2, .int v2), (3, .int v3)]) C.1 C.2.1 dX0_takeAboard_6 hl (by decide) rfl (fun ls hl => ?_)
  refine lv_aload C.1 C.2.1 dX0_takeAboard_8 (lv_at hl 0 rfl) ?_
  refine lv_iconst (v := 2) C.1 C.2.1 dX0_takeAboard_10 (by decide) ?_
  obtain ⟨σ1, e_11, hf⟩ := stb hf
  refine z_putI C S 1 (24 * o1 + (v3).toNatClampNeg) rfl (oc1 ho1 g_5) cf_1 3 (by decide) (pi_1_3 G ad (24 * o1 + (v3).toNatClampNeg)) rfl rfl rfl tw_1_174 dX0_takeAboard_11 (fun H locs S => ?_)
  rw [← e_11] at S
  refine lv_aload C.1 C.2.1 dX0_takeAboard_14 (lv_at hl 0 rfl) ?_
  refine lv_iload_n C.1 C.2.1 dX0_takeAboard_16 rfl (lv_at hl 3 rfl) ?_
  obtain ⟨σ2, e_17, hf⟩ := stb hf
  refine z_putI C S 1 (24 * o1 + (v3).toNatClampNeg) rfl (oc1 ho1 g_5) cf_1 4 (by decide) (pi_1_4 G ad (24 * o1 + (v3).toNatClampNeg)) rfl rfl rfl tw_1_179 dX0_takeAboard_17 (fun H locs S => ?_)
  rw [← e_17] at S
  refine lv_aload C.1 C.2.1 dX0_takeAboard_20 (lv_at hl 0 rfl) ?_
  refine lv_aload_n C.1 C.2.1 dX0_takeAboard_22 rfl (lv_at hl 2 rfl) ?_
  refine z_getI C S 4 o1 rfl ho1 cf_4 3 (by decide) (gi_4_3 G ad o1) tw_1_232 dX0_takeAboard_23 ?_
  obtain ⟨σ3, e_26, hf⟩ := stb hf
  refine z_putI C S 1 (24 * o1 + (v3).toNatClampNeg) rfl (oc1 ho1 g_5) cf_1 5 (by decide) (pi_1_5 G ad (24 * o1 + (v3).toNatClampNeg)) rfl rfl rfl tw_1_182 dX0_takeAboard_26 (fun H locs S => ?_)
  rw [← e_26] at S
  refine lv_aload_n C.1 C.2.1 dX0_takeAboard_29 rfl (lv_at hl 2 rfl) ?_
  refine z_getR C S 4 o1 rfl ho1 cf_4 6 (by decide) _ (gr_4_6 G ad o1) tw_2_2 dX0_takeAboard_30 ?_
  refine lv_iload_n C.1 C.2.1 dX0_takeAboard_33 rfl (lv_at hl 3 rfl) ?_
  obtain ⟨g_34, hf⟩ := gd hf
  refine z_aald C S 25 o1 rfl ho1 4 1 2 (4 * o1) rfl (fun _ => rfl) g_34 dX0_takeAboard_34 ?_
  refine lv_dup C.1 C.2.1 dX0_takeAboard_35 rfl ?_
  refine z_getI C S 2 (4 * o1 + (v2).toNatClampNeg) rfl (oc2 ho1 g_34) cf_2 9 (by decide) (gi_2_9 G ad (4 * o1 + (v2).toNatClampNeg)) tw_1_119 dX0_takeAboard_36 ?_
  refine lv_iconst (v := 1) C.1 C.2.1 dX0_takeAboard_39 (by decide) ?_
  refine lv_iload_n C.1 C.2.1 dX0_takeAboard_40 rfl (lv_at hl 4 rfl) ?_
  refine lv_ishl C.1 C.2.1 dX0_takeAboard_41 ?_
  refine lv_ior C.1 C.2.1 dX0_takeAboard_42 ?_
  obtain ⟨σ4, e_43, hf⟩ := stb hf
  refine z_putI C S 2 (4 * o1 + (v2).toNatClampNeg) rfl (oc2 ho1 g_34) cf_2 9 (by decide) (pi_2_9 G ad (4 * o1 + (v2).toNatClampNeg)) rfl rfl rfl tw_1_119 dX0_takeAboard_43 (fun H locs S => ?_)
  rw [← e_43] at S
  refine lv_aload_n C.1 C.2.1 dX0_takeAboard_46 rfl (lv_at hl 2 rfl) ?_
  refine z_getR C S 4 o1 rfl ho1 cf_4 6 (by decide) _ (gr_4_6 G ad o1) tw_2_2 dX0_takeAboard_47 ?_
  refine lv_iload_n C.1 C.2.1 dX0_takeAboard_50 rfl (lv_at hl 3 rfl) ?_
  obtain ⟨g_51, hf⟩ := gd hf
  refine z_aald C S 25 o1 rfl ho1 4 1 2 (4 * o1) rfl (fun _ => rfl) g_51 dX0_takeAboard_51 ?_
  refine lv_iload_n C.1 C.2.1 dX0_takeAboard_52 rfl (lv_at hl 4 rfl) ?_
  obtain ⟨σ5, q_53, hf⟩ := bvb hf
  refine z_callV C S 2 (4 * o1 + (v2).toNatClampNeg) rfl (oc2 ho1 g_51) cf_2 ⟨_, rfl⟩ [.int v3] (m_X2_dropCall l G ad σ4 (4 * o1 + (v2).toNatClampNeg) v3 σ5 (oc2 ho1 g_51) q_53 _) kv_X2_dropCall tw_7_132 ⟨Nat.le_of_ble_eq_true rfl, Nat.le_of_ble_eq_true rfl⟩ rfl rfl (Nat.le_of_ble_eq_true rfl) hl.1 ⟨Nat.le_of_ble_eq_true rfl, Nat.le_of_ble_eq_true rfl⟩ dX0_takeAboard_53 (fun H locs S => ?_)
  refine lv_aload_n C.1 C.2.1 dX0_takeAboard_56 rfl (lv_at hl 2 rfl) ?_
  refine lv_iload_n C.1 C.2.1 dX0_takeAboard_57 rfl (lv_at hl 3 rfl) ?_
  refine lv_iconst (v := 3) C.1 C.2.1 dX0_takeAboard_58 (by decide) ?_
  refine lv_iload_n C.1 C.2.1 dX0_takeAboard_59 rfl (lv_at hl 4 rfl) ?_
  refine lv_iconst (v := 0) C.1 C.2.1 dX0_takeAboard_60 (by decide) ?_
  obtain ⟨σ6, q_61, hf⟩ := bvb hf
  refine z_callV C S 4 o1 rfl ho1 cf_4 ⟨_, rfl⟩ [.int v2, .int 3, .int v3, .int 0] (m_X4_send l G ad σ5 o1 v2 3 v3 0 σ6 ho1 q_61 _) kv_X4_send tw_7_88 ⟨Nat.le_of_ble_eq_true rfl, Nat.le_of_ble_eq_true rfl⟩ rfl rfl (Nat.le_of_ble_eq_true rfl) hl.1 ⟨Nat.le_of_ble_eq_true rfl, Nat.le_of_ble_eq_true rfl⟩ dX0_takeAboard_61 (fun H locs S => ?_)
  exact z_vret C S hf dX0_takeAboard_64
theorem kv_X0_takeAboard : KV yX0_takeAboard cX0_takeAboard 5 none 3 := ⟨tw_7_181, tw_7_180, tw_p_54, tw_1_17, by decide, by decide, by decide +kernel⟩
theorem m_X0_takeAboard (l : Launch) (G : Gx) (ad : Ad) (σ : Sg) (o1 : Nat) (v2 : Int32) (v3 : Int32) (σ' : Sg) (ho1 : o1 < z_cnt 4) (hf : f_X0_takeAboard σ o1 v2 v3 = some σ') (sz : Nat) : z_MV l yX0_takeAboard cX0_takeAboard 5 none 2 48 0 G ad σ sz [.ref (ad 0 0), .ref (ad 4 o1), .int v2, .int v3] σ' := by
  refine z_begin (by decide +kernel) (Nat.le_of_ble_eq_true rfl) [(0, .ref (ad 0 0)), (1, .ref (ad 4 o1)), (2, .int v2), (3, .int v3)] rfl (fun p e s m args below meth c ls C hz S hl => ?_)
  subst hz
  exact w_X0_takeAboard_0 (res := σ') C σ o1 v2 v3 _ _ _ S hl ho1 hf

theorem dX0_makeStop_0 : decode cX0_makeStop 0 = .ok (.aload_n 1, 1) := by decide +kernel
theorem dX0_makeStop_1 : decode cX0_makeStop 1 = .ok (.getfield 105, 3) := by decide +kernel
theorem dX0_makeStop_4 : decode cX0_makeStop 4 = .ok (.iload_n 2, 1) := by decide +kernel
theorem dX0_makeStop_5 : decode cX0_makeStop 5 = .ok (.aaload, 1) := by decide +kernel
theorem dX0_makeStop_6 : decode cX0_makeStop 6 = .ok (.astore_n 3, 1) := by decide +kernel
theorem dX0_makeStop_7 : decode cX0_makeStop 7 = .ok (.aload_n 0, 1) := by decide +kernel
theorem dX0_makeStop_8 : decode cX0_makeStop 8 = .ok (.aload_n 1, 1) := by decide +kernel
theorem dX0_makeStop_9 : decode cX0_makeStop 9 = .ok (.aload_n 3, 1) := by decide +kernel
theorem dX0_makeStop_10 : decode cX0_makeStop 10 = .ok (.invokevirtual 217, 3) := by decide +kernel
theorem dX0_makeStop_13 : decode cX0_makeStop 13 = .ok (.iconst 0, 1) := by decide +kernel
theorem dX0_makeStop_14 : decode cX0_makeStop 14 = .ok (.istore 4, 2) := by decide +kernel
theorem dX0_makeStop_16 : decode cX0_makeStop 16 = .ok (.iload 4, 2) := by decide +kernel
theorem dX0_makeStop_18 : decode cX0_makeStop 18 = .ok (.aload_n 1, 1) := by decide +kernel
theorem dX0_makeStop_19 : decode cX0_makeStop 19 = .ok (.getfield 57, 3) := by decide +kernel
theorem dX0_makeStop_22 : decode cX0_makeStop 22 = .ok (.if_icmp .ge 75, 3) := by decide +kernel
theorem dX0_makeStop_25 : decode cX0_makeStop 25 = .ok (.aload_n 3, 1) := by decide +kernel
theorem dX0_makeStop_26 : decode cX0_makeStop 26 = .ok (.iload 4, 2) := by decide +kernel
theorem dX0_makeStop_28 : decode cX0_makeStop 28 = .ok (.invokevirtual 155, 3) := by decide +kernel
theorem dX0_makeStop_31 : decode cX0_makeStop 31 = .ok (.ifCond .eq 60, 3) := by decide +kernel
theorem dX0_makeStop_34 : decode cX0_makeStop 34 = .ok (.aload_n 1, 1) := by decide +kernel
theorem dX0_makeStop_35 : decode cX0_makeStop 35 = .ok (.getfield 60, 3) := by decide +kernel
theorem dX0_makeStop_38 : decode cX0_makeStop 38 = .ok (.iload 4, 2) := by decide +kernel
theorem dX0_makeStop_40 : decode cX0_makeStop 40 = .ok (.aaload, 1) := by decide +kernel
theorem dX0_makeStop_41 : decode cX0_makeStop 41 = .ok (.getfield 164, 3) := by decide +kernel
theorem dX0_makeStop_44 : decode cX0_makeStop 44 = .ok (.aload_n 3, 1) := by decide +kernel
theorem dX0_makeStop_45 : decode cX0_makeStop 45 = .ok (.getfield 214, 3) := by decide +kernel
theorem dX0_makeStop_48 : decode cX0_makeStop 48 = .ok (.if_icmp .ne 43, 3) := by decide +kernel
theorem dX0_makeStop_51 : decode cX0_makeStop 51 = .ok (.aload_n 1, 1) := by decide +kernel
theorem dX0_makeStop_52 : decode cX0_makeStop 52 = .ok (.getfield 60, 3) := by decide +kernel
theorem dX0_makeStop_55 : decode cX0_makeStop 55 = .ok (.iload 4, 2) := by decide +kernel
theorem dX0_makeStop_57 : decode cX0_makeStop 57 = .ok (.aaload, 1) := by decide +kernel
theorem dX0_makeStop_58 : decode cX0_makeStop 58 = .ok (.getfield 64, 3) := by decide +kernel
theorem dX0_makeStop_61 : decode cX0_makeStop 61 = .ok (.iconst 1, 1) := by decide +kernel
theorem dX0_makeStop_62 : decode cX0_makeStop 62 = .ok (.if_icmp .eq 14, 3) := by decide +kernel
theorem dX0_makeStop_65 : decode cX0_makeStop 65 = .ok (.aload_n 0, 1) := by decide +kernel
theorem dX0_makeStop_66 : decode cX0_makeStop 66 = .ok (.aload_n 1, 1) := by decide +kernel
theorem dX0_makeStop_67 : decode cX0_makeStop 67 = .ok (.aload_n 3, 1) := by decide +kernel
theorem dX0_makeStop_68 : decode cX0_makeStop 68 = .ok (.iload 4, 2) := by decide +kernel
theorem dX0_makeStop_70 : decode cX0_makeStop 70 = .ok (.invokevirtual 220, 3) := by decide +kernel
theorem dX0_makeStop_73 : decode cX0_makeStop 73 = .ok (.goto 18, 3) := by decide +kernel
theorem dX0_makeStop_76 : decode cX0_makeStop 76 = .ok (.aload_n 3, 1) := by decide +kernel
theorem dX0_makeStop_77 : decode cX0_makeStop 77 = .ok (.invokevirtual 204, 3) := by decide +kernel
theorem dX0_makeStop_80 : decode cX0_makeStop 80 = .ok (.ifCond .eq 11, 3) := by decide +kernel
theorem dX0_makeStop_83 : decode cX0_makeStop 83 = .ok (.aload_n 0, 1) := by decide +kernel
theorem dX0_makeStop_84 : decode cX0_makeStop 84 = .ok (.aload_n 1, 1) := by decide +kernel
theorem dX0_makeStop_85 : decode cX0_makeStop 85 = .ok (.iload_n 2, 1) := by decide +kernel
theorem dX0_makeStop_86 : decode cX0_makeStop 86 = .ok (.iload 4, 2) := by decide +kernel
theorem dX0_makeStop_88 : decode cX0_makeStop 88 = .ok (.invokevirtual 224, 3) := by decide +kernel
theorem dX0_makeStop_91 : decode cX0_makeStop 91 = .ok (.iinc 4 1, 3) := by decide +kernel
theorem dX0_makeStop_94 : decode cX0_makeStop 94 = .ok (.goto (-78), 3) := by decide +kernel
theorem dX0_makeStop_97 : decode cX0_makeStop 97 = .ok (.aload_n 3, 1) := by decide +kernel
theorem dX0_makeStop_98 : decode cX0_makeStop 98 = .ok (.dup, 1) := by decide +kernel
theorem dX0_makeStop_99 : decode cX0_makeStop 99 = .ok (.getfield 227, 3) := by decide +kernel
theorem dX0_makeStop_102 : decode cX0_makeStop 102 = .ok (.iconst 1, 1) := by decide +kernel
theorem dX0_makeStop_103 : decode cX0_makeStop 103 = .ok (.iadd, 1) := by decide +kernel
theorem dX0_makeStop_104 : decode cX0_makeStop 104 = .ok (.putfield 227, 3) := by decide +kernel
theorem dX0_makeStop_107 : decode cX0_makeStop 107 = .ok (.aload_n 3, 1) := by decide +kernel
theorem dX0_makeStop_108 : decode cX0_makeStop 108 = .ok (.aload_n 1, 1) := by decide +kernel
theorem dX0_makeStop_109 : decode cX0_makeStop 109 = .ok (.getfield 141, 3) := by decide +kernel
theorem dX0_makeStop_112 : decode cX0_makeStop 112 = .ok (.iconst 3, 1) := by decide +kernel
theorem dX0_makeStop_113 : decode cX0_makeStop 113 = .ok (.iaload, 1) := by decide +kernel
theorem dX0_makeStop_114 : decode cX0_makeStop 114 = .ok (.putfield 190, 3) := by decide +kernel
theorem dX0_makeStop_117 : decode cX0_makeStop 117 = .ok (.return_, 1) := by decide +kernel
/-! BusLifts$Bus.makeStop(LBusLifts$Lifts;I)V -/
noncomputable def f_X0_makeStop_97  (σ : Sg) (o1 : Nat) (o3 : Nat) : Option Sg := st (sup σ 2 o3 6 ((σ 2 o3 6) + 1)) fun σ1 => (st (sup σ1 2 o3 2 (σ1 12 o1 3)) fun σ2 => (some σ2))
noncomputable def f_X0_makeStop_91 (k16 : Sg → Nat → Int32 → Nat → Int32 → Option Sg) (σ : Sg) (o1 : Nat) (v2 : Int32) (o3 : Nat) (v4 : Int32) : Option Sg := k16 σ o1 v2 o3 (v4 + 1)
noncomputable def f_X0_makeStop_16  : Nat → Sg → Nat → Int32 → Nat → Int32 → Option Sg
  | 0, _, _, _, _, _ => none
  | n + 1, σ, o1, v2, o3, v4 => if (σ 4 o1 2) ≤ v4 then (f_X0_makeStop_97 σ o1 o3) else (bi (f_X2_isHolding σ o3 v4) fun r2 σ1 => (if r2 = 0 then (f_X0_makeStop_91 (f_X0_makeStop_16 n) σ1 o1 v2 o3 v4) else (if v4 < 0 ∨ 24 ≤ (v4).toNatClampNeg then none else (if (σ1 1 (24 * o1 + (v4).toNatClampNeg) 0) = (σ1 2 o3 0) then (if v4 < 0 ∨ 24 ≤ (v4).toNatClampNeg then none else (if (σ1 1 (24 * o1 + (v4).toNatClampNeg) 3) = 1 then (bi (f_X2_hasRoom σ1 o3) fun r4 σ3 => (if r4 = 0 then (f_X0_makeStop_91 (f_X0_makeStop_16 n) σ3 o1 v2 o3 v4) else (bv (f_X0_takeAboard σ3 o1 v2 v4) fun σ5 => (f_X0_makeStop_91 (f_X0_makeStop_16 n) σ5 o1 v2 o3 v4)))) else (bv (f_X0_stopForNobody σ1 o1 o3 v4) fun σ6 => (f_X0_makeStop_91 (f_X0_makeStop_16 n) σ6 o1 v2 o3 v4)))) else (f_X0_makeStop_91 (f_X0_makeStop_16 n) σ1 o1 v2 o3 v4)))))
theorem f_X0_makeStop_16_s  (n : Nat) (σ : Sg) (o1 : Nat) (v2 : Int32) (o3 : Nat) (v4 : Int32) : f_X0_makeStop_16  (n + 1) σ o1 v2 o3 v4 = (if (σ 4 o1 2) ≤ v4 then (f_X0_makeStop_97 σ o1 o3) else (bi (f_X2_isHolding σ o3 v4) fun r2 σ1 => (if r2 = 0 then (f_X0_makeStop_91 (f_X0_makeStop_16 n) σ1 o1 v2 o3 v4) else (if v4 < 0 ∨ 24 ≤ (v4).toNatClampNeg then none else (if (σ1 1 (24 * o1 + (v4).toNatClampNeg) 0) = (σ1 2 o3 0) then (if v4 < 0 ∨ 24 ≤ (v4).toNatClampNeg then none else (if (σ1 1 (24 * o1 + (v4).toNatClampNeg) 3) = 1 then (bi (f_X2_hasRoom σ1 o3) fun r4 σ3 => (if r4 = 0 then (f_X0_makeStop_91 (f_X0_makeStop_16 n) σ3 o1 v2 o3 v4) else (bv (f_X0_takeAboard σ3 o1 v2 v4) fun σ5 => (f_X0_makeStop_91 (f_X0_makeStop_16 n) σ5 o1 v2 o3 v4)))) else (bv (f_X0_stopForNobody σ1 o1 o3 v4) fun σ6 => (f_X0_makeStop_91 (f_X0_makeStop_16 n) σ6 o1 v2 o3 v4)))) else (f_X0_makeStop_91 (f_X0_makeStop_16 n) σ1 o1 v2 o3 v4)))))) := rfl
noncomputable def f_X0_makeStop  (σ : Sg) (o1 : Nat) (v2 : Int32) : Option Sg := if v2 < 0 ∨ 4 ≤ (v2).toNatClampNeg then none else (bv (f_X0_letOff σ o1 (4 * o1 + (v2).toNatClampNeg)) fun σ1 => (f_X0_makeStop_16 FU σ1 o1 v2 (4 * o1 + (v2).toNatClampNeg) 0))
set_option maxHeartbeats 4000000 in
set_option maxRecDepth 100000 in
theorem w_X0_makeStop_97 {p : Program} {l : Launch} {e : Env} {s : State} {m : MethodId} {args : Array Value} {below : List Frame} {meth : Method} {c : Code} {G : Gx} {ad : Ad} {res : Sg} (C : Cx p s m args meth c yX0_makeStop.cls cX0_makeStop 5 none G)  : ∀ (σ : Sg) (o1 : Nat) (o3 : Nat) (H : Heap) (locs : List Loc) (ls : Array Slot), z_S 0 G ad σ (z_A 0 ad s.heap.size) s.heap H locs → lv_has ls 5 [(1, .ref (ad 4 o1)), (3, .ref (ad 2 o3))] → (o1 < z_cnt 4) → (o3 < z_cnt 2) → f_X0_makeStop_97  σ o1 o3 = some res → W p l e { frames := 3, cells := 0, slots := 0, locals := 72 } s m args below meth c H locs 0 0 (MQ below (va_Qv (S := Unit) (fun _ => True) (fun _ t => z_W 0 G ad res t.heap) (z_A 0 ad s.heap.size)) args s 0 0 (z_A 0 ad s.heap.size)) (F0 m 97 ls []) := by
  intro σ o1 o3 H locs ls S hl ho1 ho3 hf
  unfold f_X0_makeStop_97 at hf
  refine lv_aload_n C.1 C.2.1 dX0_makeStop_97 rfl (lv_at hl 1 rfl) ?_
  refine lv_dup C.1 C.2.1 dX0_makeStop_98 rfl ?_
  refine z_getI C S 2 o3 rfl ho3 cf_2 6 (by decide) (gi_2_6 G ad o3) tw_1_108 dX0_makeStop_99 ?_
  refine lv_iconst (v := 1) C.1 C.2.1 dX0_makeStop_102 (by decide) ?_
  refine lv_iadd C.1 C.2.1 dX0_makeStop_103 ?_
  obtain ⟨σ1, e_104, hf⟩ := stb hf
  refine z_putI C S 2 o3 rfl ho3 cf_2 6 (by decide) (pi_2_6 G ad o3) rfl rfl rfl tw_1_108 dX0_makeStop_104 (fun H locs S => ?_)
  rw [← e_104] at S
  refine lv_aload_n C.1 C.2.1 dX0_makeStop_107 rfl (lv_at hl 1 rfl) ?_
  refine lv_aload_n C.1 C.2.1 dX0_makeStop_108 rfl (lv_at hl 0 rfl) ?_
  refine z_getR C S 4 o1 rfl ho1 cf_4 5 (by decide) _ (gr_4_5 G ad o1) tw_1_239 dX0_makeStop_109 ?_
  refine lv_iconst (v := 3) C.1 C.2.1 dX0_makeStop_112 (by decide) ?_
  refine z_ialdL C S 12 o1 rfl ho1 5 (fun _ => rfl) 3 (by decide) (by decide) (by decide) dX0_makeStop_113 ?_
  obtain ⟨σ2, e_114, hf⟩ := stb hf
  refine z_putI C S 2 o3 rfl ho3 cf_2 2 (by decide) (pi_2_2 G ad o3) rfl rfl rfl tw_1_96 dX0_makeStop_114 (fun H locs S => ?_)
  rw [← e_114] at S
  exact z_vret C S hf dX0_makeStop_117
set_option maxHeartbeats 4000000 in
set_option maxRecDepth 100000 in
theorem w_X0_makeStop_91 {p : Program} {l : Launch} {e : Env} {s : State} {m : MethodId} {args : Array Value} {below : List Frame} {meth : Method} {c : Code} {G : Gx} {ad : Ad} {res : Sg} (C : Cx p s m args meth c yX0_makeStop.cls cX0_makeStop 5 none G) (k16 : Sg → Nat → Int32 → Nat → Int32 → Option Sg) (hk16 : ∀ (σ : Sg) (o1 : Nat) (v2 : Int32) (o3 : Nat) (v4 : Int32) (H : Heap) (locs : List Loc) (ls : Array Slot), z_S 0 G ad σ (z_A 0 ad s.heap.size) s.heap H locs → lv_has ls 5 [(0, .ref (ad 0 0)), (1, .ref (ad 4 o1)), (2, .int v2), (3, .ref (ad 2 o3)), (4, .int v4)] → (o1 < z_cnt 4) → (o3 < z_cnt 2) → k16 σ o1 v2 o3 v4 = some res → W p l e { frames := 3, cells := 0, slots := 0, locals := 72 } s m args below meth c H locs 0 0 (MQ below (va_Qv (S := Unit) (fun _ => True) (fun _ t => z_W 0 G ad res t.heap) (z_A 0 ad s.heap.size)) args s 0 0 (z_A 0 ad s.heap.size)) (F0 m 16 ls [])) : ∀ (σ : Sg) (o1 : Nat) (v2 : Int32) (o3 : Nat) (v4 : Int32) (H : Heap) (locs : List Loc) (ls : Array Slot), z_S 0 G ad σ (z_A 0 ad s.heap.size) s.heap H locs → lv_has ls 5 [(0, .ref (ad 0 0)), (1, .ref (ad 4 o1)), (2, .int v2), (3, .ref (ad 2 o3)), (4, .int v4)] → (o1 < z_cnt 4) → (o3 < z_cnt 2) → f_X0_makeStop_91 k16 σ o1 v2 o3 v4 = some res → W p l e { frames := 3, cells := 0, slots := 0, locals := 72 } s m args below meth c H locs 0 0 (MQ below (va_Qv (S := Unit) (fun _ => True) (fun _ t => z_W 0 G ad res t.heap) (z_A 0 ad s.heap.size)) args s 0 0 (z_A 0 ad s.heap.size)) (F0 m 91 ls []) := by
  intro σ o1 v2 o3 v4 H locs ls S hl ho1 ho3 hf
  unfold f_X0_makeStop_91 at hf
  refine lv_iinc (v := (v4 + 1)) (lv' := [(4, .int (v4 + 1)), (0, .ref (ad 0 0)), (1, .ref (ad 4 o1)), (2, .int v2), (3, .ref (ad 2 o3))]) C.1 C.2.1 dX0_makeStop_91 hl (k := 4) rfl rfl (by decide) rfl (fun ls hl => ?_)
  refine lv_goto (tgt := 16) C.1 C.2.1 dX0_makeStop_94 (by decide) ?_
  exact hk16 _ o1 v2 o3 (v4 + 1) _ _ _ S (lv_sub hl [1, 2, 3, 4, 0] rfl) ho1 ho3 hf
set_option maxHeartbeats 4000000 in
set_option maxRecDepth 100000 in
theorem w_X0_makeStop_16 {p : Program} {l : Launch} {e : Env} {s : State} {m : MethodId} {args : Array Value} {below : List Frame} {meth : Method} {c : Code} {G : Gx} {ad : Ad} {res : Sg} (C : Cx p s m args meth c yX0_makeStop.cls cX0_makeStop 5 none G)  : ∀ n : Nat, ∀ (σ : Sg) (o1 : Nat) (v2 : Int32) (o3 : Nat) (v4 : Int32) (H : Heap) (locs : List Loc) (ls : Array Slot), z_S 0 G ad σ (z_A 0 ad s.heap.size) s.heap H locs → lv_has ls 5 [(0, .ref (ad 0 0)), (1, .ref (ad 4 o1)), (2, .int v2), (3, .ref (ad 2 o3)), (4, .int v4)] → (o1 < z_cnt 4) → (o3 < z_cnt 2) → f_X0_makeStop_16  n σ o1 v2 o3 v4 = some res → W p l e { frames := 3, cells := 0, slots := 0, locals := 72 } s m args below meth c H locs 0 0 (MQ below (va_Qv (S := Unit) (fun _ => True) (fun _ t => z_W 0 G ad res t.heap) (z_A 0 ad s.heap.size)) args s 0 0 (z_A 0 ad s.heap.size)) (F0 m 16 ls []) := by
  intro n
  induction n with
  | zero => intro σ o1 v2 o3 v4 H locs ls S hl ho1 ho3 hf; cases hf
  | succ n ih =>
    intro σ o1 v2 o3 v4 H locs ls S hl ho1 ho3 hf
    rw [f_X0_makeStop_16_s] at hf
    refine lv_iload C.1 C.2.1 dX0_makeStop_16 (lv_at hl 4 rfl) ?_
    refine lv_aload_n C.1 C.2.1 dX0_makeStop_18 rfl (lv_at hl 1 rfl) ?_
    refine z_getI C S 4 o1 rfl ho1 cf_4 2 (by decide) (gi_4_2 G ad o1) tw_1_228 dX0_makeStop_19 ?_
    refine lv_icmp_ge (tgt := 97) C.1 C.2.1 dX0_makeStop_22 (by decide) (fun c_22 => ?_) (fun c_22 => ?_)
    · rw [if_pos c_22] at hf
      exact w_X0_makeStop_97 C _ o1 o3 _ _ _ S (lv_sub hl [1, 3] rfl) ho1 ho3 hf
    · rw [if_neg c_22] at hf
      refine lv_aload_n C.1 C.2.1 dX0_makeStop_25 rfl (lv_at hl 3 rfl) ?_
      refine lv_iload C.1 C.2.1 dX0_makeStop_26 (lv_at hl 4 rfl) ?_
      obtain ⟨r2, σ1, q_28, hf⟩ := bib hf
      refine z_callI C S 2 o3 rfl ho3 cf_2 ⟨_, rfl⟩ [.int v4] (m_X2_isHolding l G ad σ o3 v4 r2 σ1 ho3 q_28 _) kv_X2_isHolding tw_7_121 ⟨Nat.le_of_ble_eq_true rfl, Nat.le_of_ble_eq_true rfl⟩ rfl rfl (Nat.le_of_ble_eq_true rfl) hl.1 ⟨Nat.le_of_ble_eq_true rfl, Nat.le_of_ble_eq_true rfl⟩ dX0_makeStop_28 (fun H locs S => ?_)
      refine lv_if_eq (tgt := 91) C.1 C.2.1 dX0_makeStop_31 (by decide) (fun c_31 => ?_) (fun c_31 => ?_)
      · rw [if_pos c_31] at hf
        exact w_X0_makeStop_91 C (f_X0_makeStop_16 n) ih _ o1 v2 o3 v4 _ _ _ S (lv_sub hl [0, 1, 2, 3, 4] rfl) ho1 ho3 hf
      · rw [if_neg c_31] at hf
        refine lv_aload_n C.1 C.2.1 dX0_makeStop_34 rfl (lv_at hl 1 rfl) ?_
        refine z_getR C S 4 o1 rfl ho1 cf_4 7 (by decide) _ (gr_4_7 G ad o1) tw_2_5 dX0_makeStop_35 ?_
        refine lv_iload C.1 C.2.1 dX0_makeStop_38 (lv_at hl 4 rfl) ?_
        obtain ⟨g_40, hf⟩ := gd hf
        refine z_aald C S 26 o1 rfl ho1 24 2 1 (24 * o1) rfl (fun _ => rfl) g_40 dX0_makeStop_40 ?_
        refine z_getI C S 1 (24 * o1 + (v4).toNatClampNeg) rfl (oc1 ho1 g_40) cf_1 0 (by decide) (gi_1_0 G ad (24 * o1 + (v4).toNatClampNeg)) tw_1_163 dX0_makeStop_41 ?_
        refine lv_aload_n C.1 C.2.1 dX0_makeStop_44 rfl (lv_at hl 3 rfl) ?_
        refine z_getI C S 2 o3 rfl ho3 cf_2 0 (by decide) (gi_2_0 G ad o3) tw_1_91 dX0_makeStop_45 ?_
        refine lv_icmp_ne (tgt := 91) C.1 C.2.1 dX0_makeStop_48 (by decide) (fun c_48 => ?_) (fun c_48 => ?_)
        · rw [if_neg c_48] at hf
          exact w_X0_makeStop_91 C (f_X0_makeStop_16 n) ih _ o1 v2 o3 v4 _ _ _ S (lv_sub hl [0, 1, 2, 3, 4] rfl) ho1 ho3 hf
        · rw [if_pos c_48] at hf
          refine lv_aload_n C.1 C.2.1 dX0_makeStop_51 rfl (lv_at hl 1 rfl) ?_
          refine z_getR C S 4 o1 rfl ho1 cf_4 7 (by decide) _ (gr_4_7 G ad o1) tw_2_5 dX0_makeStop_52 ?_
          refine lv_iload C.1 C.2.1 dX0_makeStop_55 (lv_at hl 4 rfl) ?_
          obtain ⟨g_57, hf⟩ := gd hf
          refine z_aald C S 26 o1 rfl ho1 24 2 1 (24 * o1) rfl (fun _ => rfl) g_57 dX0_makeStop_57 ?_
          refine z_getI C S 1 (24 * o1 + (v4).toNatClampNeg) rfl (oc1 ho1 g_57) cf_1 3 (by decide) (gi_1_3 G ad (24 * o1 + (v4).toNatClampNeg)) tw_1_174 dX0_makeStop_58 ?_
          refine lv_iconst (v := 1) C.1 C.2.1 dX0_makeStop_61 (by decide) ?_
          refine lv_icmp_eq (tgt := 76) C.1 C.2.1 dX0_makeStop_62 (by decide) (fun c_62 => ?_) (fun c_62 => ?_)
          · rw [if_pos c_62] at hf
            refine lv_aload_n C.1 C.2.1 dX0_makeStop_76 rfl (lv_at hl 3 rfl) ?_
            obtain ⟨r4, σ3, q_77, hf⟩ := bib hf
            refine z_callI C S 2 o3 rfl ho3 cf_2 ⟨_, rfl⟩ [] (m_X2_hasRoom l G ad σ1 o3 r4 σ3 ho3 q_77 _) kv_X2_hasRoom tw_7_159 ⟨Nat.le_of_ble_eq_true rfl, Nat.le_of_ble_eq_true rfl⟩ rfl rfl (Nat.le_of_ble_eq_true rfl) hl.1 ⟨Nat.le_of_ble_eq_true rfl, Nat.le_of_ble_eq_true rfl⟩ dX0_makeStop_77 (fun H locs S => ?_)
            refine lv_if_eq (tgt := 91) C.1 C.2.1 dX0_makeStop_80 (by decide) (fun c_80 => ?_) (fun c_80 => ?_)
            · rw [if_pos c_80] at hf
              exact w_X0_makeStop_91 C (f_X0_makeStop_16 n) ih _ o1 v2 o3 v4 _ _ _ S (lv_sub hl [0, 1, 2, 3, 4] rfl) ho1 ho3 hf
            · rw [if_neg c_80] at hf
              refine lv_aload_n C.1 C.2.1 dX0_makeStop_83 rfl (lv_at hl 0 rfl) ?_
              refine lv_aload_n C.1 C.2.1 dX0_makeStop_84 rfl (lv_at hl 1 rfl) ?_
              refine lv_iload_n C.1 C.2.1 dX0_makeStop_85 rfl (lv_at hl 2 rfl) ?_
              refine lv_iload C.1 C.2.1 dX0_makeStop_86 (lv_at hl 4 rfl) ?_
              obtain ⟨σ5, q_88, hf⟩ := bvb hf
              refine z_callV C S 0 0 rfl (by decide) cf_0 ⟨_, rfl⟩ [.ref (ad 4 o1), .int v2, .int v4] (m_X0_takeAboard l G ad σ3 o1 v2 v4 σ5 ho1 q_88 _) kv_X0_takeAboard tw_7_178 ⟨Nat.le_of_ble_eq_true rfl, Nat.le_of_ble_eq_true rfl⟩ rfl rfl (Nat.le_of_ble_eq_true rfl) hl.1 ⟨Nat.le_of_ble_eq_true rfl, Nat.le_of_ble_eq_true rfl⟩ dX0_makeStop_88 (fun H locs S => ?_)
              exact w_X0_makeStop_91 C (f_X0_makeStop_16 n) ih _ o1 v2 o3 v4 _ _ _ S (lv_sub hl [0, 1, 2, 3, 4] rfl) ho1 ho3 hf
          · rw [if_neg c_62] at hf
            refine lv_aload_n C.1 C.2.1 dX0_makeStop_65 rfl (lv_at hl 0 rfl) ?_
            refine lv_aload_n C.1 C.2.1 dX0_makeStop_66 rfl (lv_at hl 1 rfl) ?_
            refine lv_aload_n C.1 C.2.1 dX0_makeStop_67 rfl (lv_at hl 3 rfl) ?_
            refine lv_iload C.1 C.2.1 dX0_makeStop_68 (lv_at hl 4 rfl) ?_
            obtain ⟨σ6, q_70, hf⟩ := bvb hf
            refine z_callV C S 0 0 rfl (by decide) cf_0 ⟨_, rfl⟩ [.ref (ad 4 o1), .ref (ad 2 o3), .int v4] (m_X0_stopForNobody l G ad σ1 o1 o3 v4 σ6 ho1 ho3 q_70 _) kv_X0_stopForNobody tw_7_169 ⟨Nat.le_of_ble_eq_true rfl, Nat.le_of_ble_eq_true rfl⟩ rfl rfl (Nat.le_of_ble_eq_true rfl) hl.1 ⟨Nat.le_of_ble_eq_true rfl, Nat.le_of_ble_eq_true rfl⟩ dX0_makeStop_70 (fun H locs S => ?_)
            refine lv_goto (tgt := 91) C.1 C.2.1 dX0_makeStop_73 (by decide) ?_
            exact w_X0_makeStop_91 C (f_X0_makeStop_16 n) ih _ o1 v2 o3 v4 _ _ _ S (lv_sub hl [0, 1, 2, 3, 4] rfl) ho1 ho3 hf
set_option maxHeartbeats 4000000 in
set_option maxRecDepth 100000 in
theorem w_X0_makeStop_0 {p : Program} {l : Launch} {e : Env} {s : State} {m : MethodId} {args : Array Value} {below : List Frame} {meth : Method} {c : Code} {G : Gx} {ad : Ad} {res : Sg} (C : Cx p s m args meth c yX0_makeStop.cls cX0_makeStop 5 none G)  : ∀ (σ : Sg) (o1 : Nat) (v2 : Int32) (H : Heap) (locs : List Loc) (ls : Array Slot), z_S 0 G ad σ (z_A 0 ad s.heap.size) s.heap H locs → lv_has ls 5 [(0, .ref (ad 0 0)), (1, .ref (ad 4 o1)), (2, .int v2)] → (o1 < z_cnt 4) → f_X0_makeStop  σ o1 v2 = some res → W p l e { frames := 3, cells := 0, slots := 0, locals := 72 } s m args below meth c H locs 0 0 (MQ below (va_Qv (S := Unit) (fun _ => True) (fun _ t => z_W 0 G ad res t.heap) (z_A 0 ad s.heap.size)) args s 0 0 (z_A 0 ad s.heap.size)) (F0 m 0 ls []) := by
  intro σ o1 v2 H locs ls S hl ho1 hf
  unfold f_X0_makeStop at hf
  refine lv_aload_n C.1 C.2.1 dX0_makeStop_0 rfl (lv_at hl 1 rfl) ?_
  refine z_getR C S 4 o1 rfl ho1 cf_4 6 (by decide) _ (gr_4_6 G ad o1) tw_2_2 dX0_makeStop_1 ?_
  refine lv_iload_n C.1 C.2.1 dX0_makeStop_4 rfl (lv_at hl 2 rfl) ?_
  obtain ⟨g_5, hf⟩ := gd hf
  refine z_aald C S 25 o1 rfl ho1 4 1 2 (4 * o1) rfl (fun _ => rfl) g_5 dX0_makeStop_5 ?_
  refine lv_astore_n (lv' := [(3, .ref (ad 2 (4 * o1 + (v2).toNatClampNeg))), (0, .ref (ad 0 0)), (1, .ref (ad 4 o1)), (2, .int v2)]) C.1 C.2.1 dX0_makeStop_6 rfl hl (by decide) rfl (fun ls hl => ?_)
  refine lv_aload_n C.1 C.2.1 dX0_makeStop_7 rfl (lv_at hl 1 rfl) ?_
  refine lv_aload_n C.1 C.2.1 dX0_makeStop_8 rfl (lv_at hl 2 rfl) ?_
  refine lv_aload_n C.1 C.2.1 dX0_makeStop_9 rfl (lv_at hl 0 rfl) ?_
  obtain ⟨σ1, q_10, hf⟩ := bvb hf
  refine z_callV C S 0 0 rfl (by decide) cf_0 ⟨_, rfl⟩ [.ref (ad 4 o1), .ref (ad 2 (4 * o1 + (v2).toNatClampNeg))] (m_X0_letOff l G ad σ o1 (4 * o1 + (v2).toNatClampNeg) σ1 ho1 (oc2 ho1 g_5) q_10 _) kv_X0_letOff tw_7_165 ⟨Nat.le_of_ble_eq_true rfl, Nat.le_of_ble_eq_true rfl⟩ rfl rfl (Nat.le_of_ble_eq_true rfl) hl.1 ⟨Nat.le_of_ble_eq_true rfl, Nat.le_of_ble_eq_true rfl⟩ dX0_makeStop_10 (fun H locs S => ?_)
  refine lv_iconst (v := 0) C.1 C.2.1 dX0_makeStop_13 (by decide) ?_
  refine lv_istore (lv' := [(4, .int 0), (3, .ref (ad 2 (4 * o1 + (v2).toNatClampNeg))), (0, .ref (ad 0 0)), (1, .ref (ad 4 o1)), (2, .int v2)]) C.1 C.2.1 dX0_makeStop_14 hl (by decide) rfl (fun ls hl => ?_)
  exact w_X0_makeStop_16 C FU _ o1 v2 (4 * o1 + (v2).toNatClampNeg) 0 _ _ _ S (lv_sub hl [2, 3, 4, 1, 0] rfl) ho1 (oc2 ho1 g_5) hf
theorem kv_X0_makeStop : KV yX0_makeStop cX0_makeStop 5 none 2 := ⟨tw_7_164, tw_7_163, tw_p_51, tw_1_17, by decide, by decide, by decide +kernel⟩
theorem m_X0_makeStop (l : Launch) (G : Gx) (ad : Ad) (σ : Sg) (o1 : Nat) (v2 : Int32) (σ' : Sg) (ho1 : o1 < z_cnt 4) (hf : f_X0_makeStop σ o1 v2 = some σ') (sz : Nat) : z_MV l yX0_makeStop cX0_makeStop 5 none 3 72 0 G ad σ sz [.ref (ad 0 0), .ref (ad 4 o1), .int v2] σ' := by
  refine z_begin (by decide +kernel) (Nat.le_of_ble_eq_true rfl) [(0, .ref (ad 0 0)), (1, .ref (ad 4 o1)), (2, .int v2)] rfl (fun p e s m args below meth c ls C hz S hl => ?_)
  subst hz
  exact w_X0_makeStop_0 (res := σ') C σ o1 v2 _ _ _ S hl ho1 hf

theorem dX0_move_0 : decode cX0_move 0 = .ok (.aload_n 1, 1) := by decide +kernel
theorem dX0_move_1 : decode cX0_move 1 = .ok (.aload_n 2, 1) := by decide +kernel
theorem dX0_move_2 : decode cX0_move 2 = .ok (.invokevirtual 252, 3) := by decide +kernel
theorem dX0_move_5 : decode cX0_move 5 = .ok (.istore_n 3, 1) := by decide +kernel
theorem dX0_move_6 : decode cX0_move 6 = .ok (.iload_n 3, 1) := by decide +kernel
theorem dX0_move_7 : decode cX0_move 7 = .ok (.ifCond .lt 43, 3) := by decide +kernel
theorem dX0_move_10 : decode cX0_move 10 = .ok (.iload_n 3, 1) := by decide +kernel
theorem dX0_move_11 : decode cX0_move 11 = .ok (.aload_n 2, 1) := by decide +kernel
theorem dX0_move_12 : decode cX0_move 12 = .ok (.getfield 214, 3) := by decide +kernel
theorem dX0_move_15 : decode cX0_move 15 = .ok (.if_icmp .eq 35, 3) := by decide +kernel
theorem dX0_move_18 : decode cX0_move 18 = .ok (.aload_n 2, 1) := by decide +kernel
theorem dX0_move_19 : decode cX0_move 19 = .ok (.dup, 1) := by decide +kernel
theorem dX0_move_20 : decode cX0_move 20 = .ok (.getfield 214, 3) := by decide +kernel
theorem dX0_move_23 : decode cX0_move 23 = .ok (.iload_n 3, 1) := by decide +kernel
theorem dX0_move_24 : decode cX0_move 24 = .ok (.aload_n 2, 1) := by decide +kernel
theorem dX0_move_25 : decode cX0_move 25 = .ok (.getfield 214, 3) := by decide +kernel
theorem dX0_move_28 : decode cX0_move 28 = .ok (.if_icmp .le 7, 3) := by decide +kernel
theorem dX0_move_31 : decode cX0_move 31 = .ok (.iconst 1, 1) := by decide +kernel
theorem dX0_move_32 : decode cX0_move 32 = .ok (.goto 4, 3) := by decide +kernel
theorem dX0_move_35 : decode cX0_move 35 = .ok (.iconst (-1), 1) := by decide +kernel
theorem dX0_move_36 : decode cX0_move 36 = .ok (.iadd, 1) := by decide +kernel
theorem dX0_move_37 : decode cX0_move 37 = .ok (.putfield 214, 3) := by decide +kernel
theorem dX0_move_40 : decode cX0_move 40 = .ok (.aload_n 2, 1) := by decide +kernel
theorem dX0_move_41 : decode cX0_move 41 = .ok (.dup, 1) := by decide +kernel
theorem dX0_move_42 : decode cX0_move 42 = .ok (.getfield 256, 3) := by decide +kernel
theorem dX0_move_45 : decode cX0_move 45 = .ok (.iconst 1, 1) := by decide +kernel
theorem dX0_move_46 : decode cX0_move 46 = .ok (.iadd, 1) := by decide +kernel
theorem dX0_move_47 : decode cX0_move 47 = .ok (.putfield 256, 3) := by decide +kernel
theorem dX0_move_50 : decode cX0_move 50 = .ok (.return_, 1) := by decide +kernel
/-! BusLifts$Bus.move(LBusLifts$Lifts;LBusLifts$Car;)V -/
noncomputable def f_X0_move_50  (σ : Sg)  : Option Sg := some σ
noncomputable def f_X0_move_36  (σ : Sg) (o2 : Nat) (o100 : Nat) (v101 : Int32) (v102 : Int32) : Option Sg := st (sup σ 2 o100 0 (v101 + v102)) fun σ1 => (st (sup σ1 2 o2 5 ((σ1 2 o2 5) + 1)) fun σ2 => (f_X0_move_50 σ2))
noncomputable def f_X0_move  (σ : Sg) (o1 : Nat) (o2 : Nat) : Option Sg := bi (f_X4_nearestGoal σ o1 o2) fun r2 σ1 => (if r2 < 0 then (f_X0_move_50 σ1) else (if r2 = (σ1 2 o2 0) then (f_X0_move_50 σ1) else (if r2 ≤ (σ1 2 o2 0) then (f_X0_move_36 σ1 o2 o2 (σ1 2 o2 0) (-1)) else (f_X0_move_36 σ1 o2 o2 (σ1 2 o2 0) 1))))
set_option maxHeartbeats 4000000 in
set_option maxRecDepth 100000 in
theorem w_X0_move_50 {p : Program} {l : Launch} {e : Env} {s : State} {m : MethodId} {args : Array Value} {below : List Frame} {meth : Method} {c : Code} {G : Gx} {ad : Ad} {res : Sg} (C : Cx p s m args meth c yX0_move.cls cX0_move 4 none G)  : ∀ (σ : Sg)  (H : Heap) (locs : List Loc) (ls : Array Slot), z_S 0 G ad σ (z_A 0 ad s.heap.size) s.heap H locs → lv_has ls 4 [] → f_X0_move_50  σ  = some res → W p l e { frames := 3, cells := 0, slots := 0, locals := 68 } s m args below meth c H locs 0 0 (MQ below (va_Qv (S := Unit) (fun _ => True) (fun _ t => z_W 0 G ad res t.heap) (z_A 0 ad s.heap.size)) args s 0 0 (z_A 0 ad s.heap.size)) (F0 m 50 ls []) := by
  intro σ  H locs ls S hl  hf
  unfold f_X0_move_50 at hf
  exact z_vret C S hf dX0_move_50
set_option maxHeartbeats 4000000 in
set_option maxRecDepth 100000 in
theorem w_X0_move_36 {p : Program} {l : Launch} {e : Env} {s : State} {m : MethodId} {args : Array Value} {below : List Frame} {meth : Method} {c : Code} {G : Gx} {ad : Ad} {res : Sg} (C : Cx p s m args meth c yX0_move.cls cX0_move 4 none G)  : ∀ (σ : Sg) (o2 : Nat) (o100 : Nat) (v101 : Int32) (v102 : Int32) (H : Heap) (locs : List Loc) (ls : Array Slot), z_S 0 G ad σ (z_A 0 ad s.heap.size) s.heap H locs → lv_has ls 4 [(2, .ref (ad 2 o2))] → (o2 < z_cnt 2) → (o100 < z_cnt 2) → f_X0_move_36  σ o2 o100 v101 v102 = some res → W p l e { frames := 3, cells := 0, slots := 0, locals := 68 } s m args below meth c H locs 0 0 (MQ below (va_Qv (S := Unit) (fun _ => True) (fun _ t => z_W 0 G ad res t.heap) (z_A 0 ad s.heap.size)) args s 0 0 (z_A 0 ad s.heap.size)) (F0 m 36 ls [.int v102, .int v101, .ref (ad 2 o100)]) := by
  intro σ o2 o100 v101 v102 H locs ls S hl ho2 ho100 hf
  unfold f_X0_move_36 at hf
  refine lv_iadd C.1 C.2.1 dX0_move_36 ?_
  obtain ⟨σ1, e_37, hf⟩ := stb hf
  refine z_putI C S 2 o100 rfl ho100 cf_2 0 (by decide) (pi_2_0 G ad o100) rfl rfl rfl tw_1_91 dX0_move_37 (fun H locs S => ?_)
  rw [← e_37] at S
  refine lv_aload_n C.1 C.2.1 dX0_move_40 rfl (lv_at hl 0 rfl) ?_
  refine lv_dup C.1 C.2.1 dX0_move_41 rfl ?_
  refine z_getI C S 2 o2 rfl ho2 cf_2 5 (by decide) (gi_2_5 G ad o2) tw_1_105 dX0_move_42 ?_
  refine lv_iconst (v := 1) C.1 C.2.1 dX0_move_45 (by decide) ?_
  refine lv_iadd C.1 C.2.1 dX0_move_46 ?_
  obtain ⟨σ2, e_47, hf⟩ := stb hf
  refine z_putI C S 2 o2 rfl ho2 cf_2 5 (by decide) (pi_2_5 G ad o2) rfl rfl rfl tw_1_105 dX0_move_47 (fun H locs S => ?_)
  rw [← e_47] at S
  exact w_X0_move_50 C _ _ _ _ S (lv_sub hl [] rfl) hf
set_option maxHeartbeats 4000000 in
set_option maxRecDepth 100000 in
theorem w_X0_move_0 {p : Program} {l : Launch} {e : Env} {s : State} {m : MethodId} {args : Array Value} {below : List Frame} {meth : Method} {c : Code} {G : Gx} {ad : Ad} {res : Sg} (C : Cx p s m args meth c yX0_move.cls cX0_move 4 none G)  : ∀ (σ : Sg) (o1 : Nat) (o2 : Nat) (H : Heap) (locs : List Loc) (ls : Array Slot), z_S 0 G ad σ (z_A 0 ad s.heap.size) s.heap H locs → lv_has ls 4 [(0, .ref (ad 0 0)), (1, .ref (ad 4 o1)), (2, .ref (ad 2 o2))] → (o1 < z_cnt 4) → (o2 < z_cnt 2) → f_X0_move  σ o1 o2 = some res → W p l e { frames := 3, cells := 0, slots := 0, locals := 68 } s m args below meth c H locs 0 0 (MQ below (va_Qv (S := Unit) (fun _ => True) (fun _ t => z_W 0 G ad res t.heap) (z_A 0 ad s.heap.size)) args s 0 0 (z_A 0 ad s.heap.size)) (F0 m 0 ls []) := by
  intro σ o1 o2 H locs ls S hl ho1 ho2 hf
  unfold f_X0_move at hf
  refine lv_aload_n C.1 C.2.1 dX0_move_0 rfl (lv_at hl 1 rfl) ?_
  refine lv_aload_n C.1 C.2.1 dX0_move_1 rfl (lv_at hl 2 rfl) ?_
  obtain ⟨r2, σ1, q_2, hf⟩ := bib hf
  refine z_callI C S 4 o1 rfl ho1 cf_4 ⟨_, rfl⟩ [.ref (ad 2 o2)] (m_X4_nearestGoal l G ad σ o1 o2 r2 σ1 ho1 ho2 q_2 _) kv_X4_nearestGoal tw_7_186 ⟨Nat.le_of_ble_eq_true rfl, Nat.le_of_ble_eq_true rfl⟩ rfl rfl (Nat.le_of_ble_eq_true rfl) hl.1 ⟨Nat.le_of_ble_eq_true rfl, Nat.le_of_ble_eq_true rfl⟩ dX0_move_2 (fun H locs S => ?_)
  refine lv_istore_n (lv' := [(3, .int r2), (0, .ref (ad 0 0)), (1, .ref (ad 4 o1)), (2, .ref (ad 2 o2))]) C.1 C.2.1 dX0_move_5 rfl hl (by decide) rfl (fun ls hl => ?_)
  refine lv_iload_n C.1 C.2.1 dX0_move_6 rfl (lv_at hl 0 rfl) ?_
  refine lv_if_lt (tgt := 50) C.1 C.2.1 dX0_move_7 (by decide) (fun c_7 => ?_) (fun c_7 => ?_)
  · rw [if_pos c_7] at hf
    exact w_X0_move_50 C _ _ _ _ S (lv_sub hl [] rfl) hf
  · rw [if_neg c_7] at hf
    refine lv_iload_n C.1 C.2.1 dX0_move_10 rfl (lv_at hl 0 rfl) ?_
    refine lv_aload_n C.1 C.2.1 dX0_move_11 rfl (lv_at hl 3 rfl) ?_
    refine z_getI C S 2 o2 rfl ho2 cf_2 0 (by decide) (gi_2_0 G ad o2) tw_1_91 dX0_move_12 ?_
    refine lv_icmp_eq (tgt := 50) C.1 C.2.1 dX0_move_15 (by decide) (fun c_15 => ?_) (fun c_15 => ?_)
    · rw [if_pos c_15] at hf
      exact w_X0_move_50 C _ _ _ _ S (lv_sub hl [] rfl) hf
    · rw [if_neg c_15] at hf
      refine lv_aload_n C.1 C.2.1 dX0_move_18 rfl (lv_at hl 3 rfl) ?_
      refine lv_dup C.1 C.2.1 dX0_move_19 rfl ?_
      refine z_getI C S 2 o2 rfl ho2 cf_2 0 (by decide) (gi_2_0 G ad o2) tw_1_91 dX0_move_20 ?_
      refine lv_iload_n C.1 C.2.1 dX0_move_23 rfl (lv_at hl 0 rfl) ?_
      refine lv_aload_n C.1 C.2.1 dX0_move_24 rfl (lv_at hl 3 rfl) ?_
      refine z_getI C S 2 o2 rfl ho2 cf_2 0 (by decide) (gi_2_0 G ad o2) tw_1_91 dX0_move_25 ?_
      refine lv_icmp_le (tgt := 35) C.1 C.2.1 dX0_move_28 (by decide) (fun c_28 => ?_) (fun c_28 => ?_)
      · rw [if_pos c_28] at hf
        refine lv_iconst (v := (-1)) C.1 C.2.1 dX0_move_35 (by decide) ?_
        exact w_X0_move_36 C _ o2 o2 (σ1 2 o2 0) (-1) _ _ _ S (lv_sub hl [3] rfl) ho2 ho2 hf
      · rw [if_neg c_28] at hf
        refine lv_iconst (v := 1) C.1 C.2.1 dX0_move_31 (by decide) ?_
        refine lv_goto (tgt := 36) C.1 C.2.1 dX0_move_32 (by decide) ?_
        exact w_X0_move_36 C _ o2 o2 (σ1 2 o2 0) 1 _ _ _ S (lv_sub hl [3] rfl) ho2 ho2 hf
theorem kv_X0_move : KV yX0_move cX0_move 4 none 2 := ⟨tw_7_185, tw_7_184, tw_p_55, tw_1_17, by decide, by decide, by decide +kernel⟩
theorem m_X0_move (l : Launch) (G : Gx) (ad : Ad) (σ : Sg) (o1 : Nat) (o2 : Nat) (σ' : Sg) (ho1 : o1 < z_cnt 4) (ho2 : o2 < z_cnt 2) (hf : f_X0_move σ o1 o2 = some σ') (sz : Nat) : z_MV l yX0_move cX0_move 4 none 3 68 0 G ad σ sz [.ref (ad 0 0), .ref (ad 4 o1), .ref (ad 2 o2)] σ' := by
  refine z_begin (by decide +kernel) (Nat.le_of_ble_eq_true rfl) [(0, .ref (ad 0 0)), (1, .ref (ad 4 o1)), (2, .ref (ad 2 o2))] rfl (fun p e s m args below meth c ls C hz S hl => ?_)
  subst hz
  exact w_X0_move_0 (res := σ') C σ o1 o2 _ _ _ S hl ho1 ho2 hf

theorem dX0_act_0 : decode cX0_act 0 = .ok (.aload_n 1, 1) := by decide +kernel
theorem dX0_act_1 : decode cX0_act 1 = .ok (.getfield 105, 3) := by decide +kernel
theorem dX0_act_4 : decode cX0_act 4 = .ok (.iload_n 2, 1) := by decide +kernel
theorem dX0_act_5 : decode cX0_act 5 = .ok (.aaload, 1) := by decide +kernel
theorem dX0_act_6 : decode cX0_act 6 = .ok (.astore_n 3, 1) := by decide +kernel
theorem dX0_act_7 : decode cX0_act 7 = .ok (.aload_n 3, 1) := by decide +kernel
theorem dX0_act_8 : decode cX0_act 8 = .ok (.getfield 151, 3) := by decide +kernel
theorem dX0_act_11 : decode cX0_act 11 = .ok (.ifCond .eq 4, 3) := by decide +kernel
theorem dX0_act_14 : decode cX0_act 14 = .ok (.return_, 1) := by decide +kernel
theorem dX0_act_15 : decode cX0_act 15 = .ok (.aload_n 3, 1) := by decide +kernel
theorem dX0_act_16 : decode cX0_act 16 = .ok (.getfield 190, 3) := by decide +kernel
theorem dX0_act_19 : decode cX0_act 19 = .ok (.ifCond .le 16, 3) := by decide +kernel
theorem dX0_act_22 : decode cX0_act 22 = .ok (.aload_n 3, 1) := by decide +kernel
theorem dX0_act_23 : decode cX0_act 23 = .ok (.dup, 1) := by decide +kernel
theorem dX0_act_24 : decode cX0_act 24 = .ok (.getfield 190, 3) := by decide +kernel
theorem dX0_act_27 : decode cX0_act 27 = .ok (.iconst 1, 1) := by decide +kernel
theorem dX0_act_28 : decode cX0_act 28 = .ok (.isub, 1) := by decide +kernel
theorem dX0_act_29 : decode cX0_act 29 = .ok (.putfield 190, 3) := by decide +kernel
theorem dX0_act_32 : decode cX0_act 32 = .ok (.goto 27, 3) := by decide +kernel
theorem dX0_act_35 : decode cX0_act 35 = .ok (.aload_n 0, 1) := by decide +kernel
theorem dX0_act_36 : decode cX0_act 36 = .ok (.aload_n 1, 1) := by decide +kernel
theorem dX0_act_37 : decode cX0_act 37 = .ok (.aload_n 3, 1) := by decide +kernel
theorem dX0_act_38 : decode cX0_act 38 = .ok (.invokevirtual 193, 3) := by decide +kernel
theorem dX0_act_41 : decode cX0_act 41 = .ok (.ifCond .eq 12, 3) := by decide +kernel
theorem dX0_act_44 : decode cX0_act 44 = .ok (.aload_n 0, 1) := by decide +kernel
theorem dX0_act_45 : decode cX0_act 45 = .ok (.aload_n 1, 1) := by decide +kernel
theorem dX0_act_46 : decode cX0_act 46 = .ok (.iload_n 2, 1) := by decide +kernel
theorem dX0_act_47 : decode cX0_act 47 = .ok (.invokevirtual 197, 3) := by decide +kernel
theorem dX0_act_50 : decode cX0_act 50 = .ok (.goto 9, 3) := by decide +kernel
theorem dX0_act_53 : decode cX0_act 53 = .ok (.aload_n 0, 1) := by decide +kernel
theorem dX0_act_54 : decode cX0_act 54 = .ok (.aload_n 1, 1) := by decide +kernel
theorem dX0_act_55 : decode cX0_act 55 = .ok (.aload_n 3, 1) := by decide +kernel
theorem dX0_act_56 : decode cX0_act 56 = .ok (.invokevirtual 200, 3) := by decide +kernel
theorem dX0_act_59 : decode cX0_act 59 = .ok (.return_, 1) := by decide +kernel
/-! BusLifts$Bus.act(LBusLifts$Lifts;I)V -/
noncomputable def f_X0_act_59  (σ : Sg)  : Option Sg := some σ
noncomputable def f_X0_act  (σ : Sg) (o1 : Nat) (v2 : Int32) : Option Sg := if v2 < 0 ∨ 4 ≤ (v2).toNatClampNeg then none else (if (σ 2 (4 * o1 + (v2).toNatClampNeg) 3) = 0 then (if (σ 2 (4 * o1 + (v2).toNatClampNeg) 2) ≤ 0 then (bi (f_X0_wantsToStop σ o1 (4 * o1 + (v2).toNatClampNeg)) fun r2 σ1 => (if r2 = 0 then (bv (f_X0_move σ1 o1 (4 * o1 + (v2).toNatClampNeg)) fun σ3 => (f_X0_act_59 σ3)) else (bv (f_X0_makeStop σ1 o1 v2) fun σ4 => (f_X0_act_59 σ4)))) else (st (sup σ 2 (4 * o1 + (v2).toNatClampNeg) 2 ((σ 2 (4 * o1 + (v2).toNatClampNeg) 2) - 1)) fun σ5 => (f_X0_act_59 σ5))) else (some σ))
set_option maxHeartbeats 4000000 in
set_option maxRecDepth 100000 in
theorem w_X0_act_59 {p : Program} {l : Launch} {e : Env} {s : State} {m : MethodId} {args : Array Value} {below : List Frame} {meth : Method} {c : Code} {G : Gx} {ad : Ad} {res : Sg} (C : Cx p s m args meth c yX0_act.cls cX0_act 4 none G)  : ∀ (σ : Sg)  (H : Heap) (locs : List Loc) (ls : Array Slot), z_S 0 G ad σ (z_A 0 ad s.heap.size) s.heap H locs → lv_has ls 4 [] → f_X0_act_59  σ  = some res → W p l e { frames := 4, cells := 0, slots := 0, locals := 96 } s m args below meth c H locs 0 0 (MQ below (va_Qv (S := Unit) (fun _ => True) (fun _ t => z_W 0 G ad res t.heap) (z_A 0 ad s.heap.size)) args s 0 0 (z_A 0 ad s.heap.size)) (F0 m 59 ls []) := by
  intro σ  H locs ls S hl  hf
  unfold f_X0_act_59 at hf
  exact z_vret C S hf dX0_act_59
set_option maxHeartbeats 4000000 in
set_option maxRecDepth 100000 in
theorem w_X0_act_0 {p : Program} {l : Launch} {e : Env} {s : State} {m : MethodId} {args : Array Value} {below : List Frame} {meth : Method} {c : Code} {G : Gx} {ad : Ad} {res : Sg} (C : Cx p s m args meth c yX0_act.cls cX0_act 4 none G)  : ∀ (σ : Sg) (o1 : Nat) (v2 : Int32) (H : Heap) (locs : List Loc) (ls : Array Slot), z_S 0 G ad σ (z_A 0 ad s.heap.size) s.heap H locs → lv_has ls 4 [(0, .ref (ad 0 0)), (1, .ref (ad 4 o1)), (2, .int v2)] → (o1 < z_cnt 4) → f_X0_act  σ o1 v2 = some res → W p l e { frames := 4, cells := 0, slots := 0, locals := 96 } s m args below meth c H locs 0 0 (MQ below (va_Qv (S := Unit) (fun _ => True) (fun _ t => z_W 0 G ad res t.heap) (z_A 0 ad s.heap.size)) args s 0 0 (z_A 0 ad s.heap.size)) (F0 m 0 ls []) := by
  intro σ o1 v2 H locs ls S hl ho1 hf
  unfold f_X0_act at hf
  refine lv_aload_n C.1 C.2.1 dX0_act_0 rfl (lv_at hl 1 rfl) ?_
  refine z_getR C S 4 o1 rfl ho1 cf_4 6 (by decide) _ (gr_4_6 G ad o1) tw_2_2 dX0_act_1 ?_
  refine lv_iload_n C.1 C.2.1 dX0_act_4 rfl (lv_at hl 2 rfl) ?_
  obtain ⟨g_5, hf⟩ := gd hf
  refine z_aald C S 25 o1 rfl ho1 4 1 2 (4 * o1) rfl (fun _ => rfl) g_5 dX0_act_5 ?_
  refine lv_astore_n (lv' := [(3, .ref (ad 2 (4 * o1 + (v2).toNatClampNeg))), (0, .ref (ad 0 0)), (1, .ref (ad 4 o1)), (2, .int v2)]) C.1 C.2.1 dX0_act_6 rfl hl (by decide) rfl (fun ls hl => ?_)
  refine lv_aload_n C.1 C.2.1 dX0_act_7 rfl (lv_at hl 0 rfl) ?_
  refine z_getI C S 2 (4 * o1 + (v2).toNatClampNeg) rfl (oc2 ho1 g_5) cf_2 3 (by decide) (gi_2_3 G ad (4 * o1 + (v2).toNatClampNeg)) tw_1_98 dX0_act_8 ?_
  refine lv_if_eq (tgt := 15) C.1 C.2.1 dX0_act_11 (by decide) (fun c_11 => ?_) (fun c_11 => ?_)
  · rw [if_pos c_11] at hf
    refine lv_aload_n C.1 C.2.1 dX0_act_15 rfl (lv_at hl 0 rfl) ?_
    refine z_getI C S 2 (4 * o1 + (v2).toNatClampNeg) rfl (oc2 ho1 g_5) cf_2 2 (by decide) (gi_2_2 G ad (4 * o1 + (v2).toNatClampNeg)) tw_1_96 dX0_act_16 ?_
    refine lv_if_le (tgt := 35) C.1 C.2.1 dX0_act_19 (by decide) (fun c_19 => ?_) (fun c_19 => ?_)
    · rw [if_pos c_19] at hf
      refine lv_aload_n C.1 C.2.1 dX0_act_35 rfl (lv_at hl 1 rfl) ?_
      refine lv_aload_n C.1 C.2.1 dX0_act_36 rfl (lv_at hl 2 rfl) ?_
      refine lv_aload_n C.1 C.2.1 dX0_act_37 rfl (lv_at hl 0 rfl) ?_
      obtain ⟨r2, σ1, q_38, hf⟩ := bib hf
      refine z_callI C S 0 0 rfl (by decide) cf_0 ⟨_, rfl⟩ [.ref (ad 4 o1), .ref (ad 2 (4 * o1 + (v2).toNatClampNeg))] (m_X0_wantsToStop l G ad σ o1 (4 * o1 + (v2).toNatClampNeg) r2 σ1 ho1 (oc2 ho1 g_5) q_38 _) kv_X0_wantsToStop tw_7_155 ⟨Nat.le_of_ble_eq_true rfl, Nat.le_of_ble_eq_true rfl⟩ rfl rfl (Nat.le_of_ble_eq_true rfl) hl.1 ⟨Nat.le_of_ble_eq_true rfl, Nat.le_of_ble_eq_true rfl⟩ dX0_act_38 (fun H locs S => ?_)
      refine lv_if_eq (tgt := 53) C.1 C.2.1 dX0_act_41 (by decide) (fun c_41 => ?_) (fun c_41 => ?_)
      · rw [if_pos c_41] at hf
        refine lv_aload_n C.1 C.2.1 dX0_act_53 rfl (lv_at hl 1 rfl) ?_
        refine lv_aload_n C.1 C.2.1 dX0_act_54 rfl (lv_at hl 2 rfl) ?_
        refine lv_aload_n C.1 C.2.1 dX0_act_55 rfl (lv_at hl 0 rfl) ?_
        obtain ⟨σ3, q_56, hf⟩ := bvb hf
        refine z_callV C S 0 0 rfl (by decide) cf_0 ⟨_, rfl⟩ [.ref (ad 4 o1), .ref (ad 2 (4 * o1 + (v2).toNatClampNeg))] (m_X0_move l G ad σ1 o1 (4 * o1 + (v2).toNatClampNeg) σ3 ho1 (oc2 ho1 g_5) q_56 _) kv_X0_move tw_7_182 ⟨Nat.le_of_ble_eq_true rfl, Nat.le_of_ble_eq_true rfl⟩ rfl rfl (Nat.le_of_ble_eq_true rfl) hl.1 ⟨Nat.le_of_ble_eq_true rfl, Nat.le_of_ble_eq_true rfl⟩ dX0_act_56 (fun H locs S => ?_)
        exact w_X0_act_59 C _ _ _ _ S (lv_sub hl [] rfl) hf
      · rw [if_neg c_41] at hf
        refine lv_aload_n C.1 C.2.1 dX0_act_44 rfl (lv_at hl 1 rfl) ?_
        refine lv_aload_n C.1 C.2.1 dX0_act_45 rfl (lv_at hl 2 rfl) ?_
        refine lv_iload_n C.1 C.2.1 dX0_act_46 rfl (lv_at hl 3 rfl) ?_
        obtain ⟨σ4, q_47, hf⟩ := bvb hf
        refine z_callV C S 0 0 rfl (by decide) cf_0 ⟨_, rfl⟩ [.ref (ad 4 o1), .int v2] (m_X0_makeStop l G ad σ1 o1 v2 σ4 ho1 q_47 _) kv_X0_makeStop tw_7_161 ⟨Nat.le_of_ble_eq_true rfl, Nat.le_of_ble_eq_true rfl⟩ rfl rfl (Nat.le_of_ble_eq_true rfl) hl.1 ⟨Nat.le_of_ble_eq_true rfl, Nat.le_of_ble_eq_true rfl⟩ dX0_act_47 (fun H locs S => ?_)
        refine lv_goto (tgt := 59) C.1 C.2.1 dX0_act_50 (by decide) ?_
        exact w_X0_act_59 C _ _ _ _ S (lv_sub hl [] rfl) hf
    · rw [if_neg c_19] at hf
      refine lv_aload_n C.1 C.2.1 dX0_act_22 rfl (lv_at hl 0 rfl) ?_
      refine lv_dup C.1 C.2.1 dX0_act_23 rfl ?_
      refine z_getI C S 2 (4 * o1 + (v2).toNatClampNeg) rfl (oc2 ho1 g_5) cf_2 2 (by decide) (gi_2_2 G ad (4 * o1 + (v2).toNatClampNeg)) tw_1_96 dX0_act_24 ?_
      refine lv_iconst (v := 1) C.1 C.2.1 dX0_act_27 (by decide) ?_
      refine lv_isub C.1 C.2.1 dX0_act_28 ?_
      obtain ⟨σ5, e_29, hf⟩ := stb hf
      refine z_putI C S 2 (4 * o1 + (v2).toNatClampNeg) rfl (oc2 ho1 g_5) cf_2 2 (by decide) (pi_2_2 G ad (4 * o1 + (v2).toNatClampNeg)) rfl rfl rfl tw_1_96 dX0_act_29 (fun H locs S => ?_)
      rw [← e_29] at S
      refine lv_goto (tgt := 59) C.1 C.2.1 dX0_act_32 (by decide) ?_
      exact w_X0_act_59 C _ _ _ _ S (lv_sub hl [] rfl) hf
  · rw [if_neg c_11] at hf
    exact z_vret C S hf dX0_act_14
theorem kv_X0_act : KV yX0_act cX0_act 4 none 2 := ⟨tw_7_154, tw_7_153, tw_p_49, tw_1_17, by decide, by decide, by decide +kernel⟩
theorem m_X0_act (l : Launch) (G : Gx) (ad : Ad) (σ : Sg) (o1 : Nat) (v2 : Int32) (σ' : Sg) (ho1 : o1 < z_cnt 4) (hf : f_X0_act σ o1 v2 = some σ') (sz : Nat) : z_MV l yX0_act cX0_act 4 none 4 96 0 G ad σ sz [.ref (ad 0 0), .ref (ad 4 o1), .int v2] σ' := by
  refine z_begin (by decide +kernel) (Nat.le_of_ble_eq_true rfl) [(0, .ref (ad 0 0)), (1, .ref (ad 4 o1)), (2, .int v2)] rfl (fun p e s m args below meth c ls C hz S hl => ?_)
  subst hz
  exact w_X0_act_0 (res := σ') C σ o1 v2 _ _ _ S hl ho1 hf

theorem dX0_tick_0 : decode cX0_tick 0 = .ok (.aload_n 0, 1) := by decide +kernel
theorem dX0_tick_1 : decode cX0_tick 1 = .ok (.getfield 12, 3) := by decide +kernel
theorem dX0_tick_4 : decode cX0_tick 4 = .ok (.aload_n 1, 1) := by decide +kernel
theorem dX0_tick_5 : decode cX0_tick 5 = .ok (.getfield 22, 3) := by decide +kernel
theorem dX0_tick_8 : decode cX0_tick 8 = .ok (.invokevirtual 27, 3) := by decide +kernel
theorem dX0_tick_11 : decode cX0_tick 11 = .ok (.aload_n 1, 1) := by decide +kernel
theorem dX0_tick_12 : decode cX0_tick 12 = .ok (.getfield 22, 3) := by decide +kernel
theorem dX0_tick_15 : decode cX0_tick 15 = .ok (.iconst 0, 1) := by decide +kernel
theorem dX0_tick_16 : decode cX0_tick 16 = .ok (.putfield 31, 3) := by decide +kernel
theorem dX0_tick_19 : decode cX0_tick 19 = .ok (.aload_n 0, 1) := by decide +kernel
theorem dX0_tick_20 : decode cX0_tick 20 = .ok (.aload_n 1, 1) := by decide +kernel
theorem dX0_tick_21 : decode cX0_tick 21 = .ok (.invokevirtual 35, 3) := by decide +kernel
theorem dX0_tick_24 : decode cX0_tick 24 = .ok (.aload_n 0, 1) := by decide +kernel
theorem dX0_tick_25 : decode cX0_tick 25 = .ok (.aload_n 1, 1) := by decide +kernel
theorem dX0_tick_26 : decode cX0_tick 26 = .ok (.invokevirtual 38, 3) := by decide +kernel
theorem dX0_tick_29 : decode cX0_tick 29 = .ok (.aload_n 0, 1) := by decide +kernel
theorem dX0_tick_30 : decode cX0_tick 30 = .ok (.aload_n 1, 1) := by decide +kernel
theorem dX0_tick_31 : decode cX0_tick 31 = .ok (.invokevirtual 41, 3) := by decide +kernel
theorem dX0_tick_34 : decode cX0_tick 34 = .ok (.iconst 0, 1) := by decide +kernel
theorem dX0_tick_35 : decode cX0_tick 35 = .ok (.istore_n 2, 1) := by decide +kernel
theorem dX0_tick_36 : decode cX0_tick 36 = .ok (.iload_n 2, 1) := by decide +kernel
theorem dX0_tick_37 : decode cX0_tick 37 = .ok (.aload_n 1, 1) := by decide +kernel
theorem dX0_tick_38 : decode cX0_tick 38 = .ok (.getfield 44, 3) := by decide +kernel
theorem dX0_tick_41 : decode cX0_tick 41 = .ok (.if_icmp .ge 15, 3) := by decide +kernel
theorem dX0_tick_44 : decode cX0_tick 44 = .ok (.aload_n 0, 1) := by decide +kernel
theorem dX0_tick_45 : decode cX0_tick 45 = .ok (.aload_n 1, 1) := by decide +kernel
theorem dX0_tick_46 : decode cX0_tick 46 = .ok (.iload_n 2, 1) := by decide +kernel
theorem dX0_tick_47 : decode cX0_tick 47 = .ok (.invokevirtual 47, 3) := by decide +kernel
theorem dX0_tick_50 : decode cX0_tick 50 = .ok (.iinc 2 1, 3) := by decide +kernel
theorem dX0_tick_53 : decode cX0_tick 53 = .ok (.goto (-17), 3) := by decide +kernel
theorem dX0_tick_56 : decode cX0_tick 56 = .ok (.iconst 0, 1) := by decide +kernel
theorem dX0_tick_57 : decode cX0_tick 57 = .ok (.istore_n 2, 1) := by decide +kernel
theorem dX0_tick_58 : decode cX0_tick 58 = .ok (.iload_n 2, 1) := by decide +kernel
theorem dX0_tick_59 : decode cX0_tick 59 = .ok (.aload_n 1, 1) := by decide +kernel
theorem dX0_tick_60 : decode cX0_tick 60 = .ok (.getfield 44, 3) := by decide +kernel
theorem dX0_tick_63 : decode cX0_tick 63 = .ok (.if_icmp .ge 15, 3) := by decide +kernel
theorem dX0_tick_66 : decode cX0_tick 66 = .ok (.aload_n 0, 1) := by decide +kernel
theorem dX0_tick_67 : decode cX0_tick 67 = .ok (.aload_n 1, 1) := by decide +kernel
theorem dX0_tick_68 : decode cX0_tick 68 = .ok (.iload_n 2, 1) := by decide +kernel
theorem dX0_tick_69 : decode cX0_tick 69 = .ok (.invokevirtual 51, 3) := by decide +kernel
theorem dX0_tick_72 : decode cX0_tick 72 = .ok (.iinc 2 1, 3) := by decide +kernel
theorem dX0_tick_75 : decode cX0_tick 75 = .ok (.goto (-17), 3) := by decide +kernel
theorem dX0_tick_78 : decode cX0_tick 78 = .ok (.aload_n 1, 1) := by decide +kernel
theorem dX0_tick_79 : decode cX0_tick 79 = .ok (.dup, 1) := by decide +kernel
theorem dX0_tick_80 : decode cX0_tick 80 = .ok (.getfield 54, 3) := by decide +kernel
theorem dX0_tick_83 : decode cX0_tick 83 = .ok (.iconst 1, 1) := by decide +kernel
theorem dX0_tick_84 : decode cX0_tick 84 = .ok (.iadd, 1) := by decide +kernel
theorem dX0_tick_85 : decode cX0_tick 85 = .ok (.putfield 54, 3) := by decide +kernel
theorem dX0_tick_88 : decode cX0_tick 88 = .ok (.return_, 1) := by decide +kernel
/-! BusLifts$Bus.tick(LBusLifts$Lifts;)V -/
noncomputable def f_X0_tick_78  (σ : Sg) (o1 : Nat) : Option Sg := st (sup σ 4 o1 3 ((σ 4 o1 3) + 1)) fun σ1 => (some σ1)
noncomputable def f_X0_tick_58  : Nat → Sg → Nat → Int32 → Option Sg
  | 0, _, _, _ => none
  | n + 1, σ, o1, v2 => if (σ 4 o1 1) ≤ v2 then (f_X0_tick_78 σ o1) else (bv (f_X0_act σ o1 v2) fun σ1 => (f_X0_tick_58  n σ1 o1 (v2 + 1)))
theorem f_X0_tick_58_s  (n : Nat) (σ : Sg) (o1 : Nat) (v2 : Int32) : f_X0_tick_58  (n + 1) σ o1 v2 = (if (σ 4 o1 1) ≤ v2 then (f_X0_tick_78 σ o1) else (bv (f_X0_act σ o1 v2) fun σ1 => (f_X0_tick_58  n σ1 o1 (v2 + 1)))) := rfl
noncomputable def f_X0_tick_56  (σ : Sg) (o1 : Nat) : Option Sg := f_X0_tick_58 FU σ o1 0
noncomputable def f_X0_tick_36  : Nat → Sg → Nat → Int32 → Option Sg
  | 0, _, _, _ => none
  | n + 1, σ, o1, v2 => if (σ 4 o1 1) ≤ v2 then (f_X0_tick_56 σ o1) else (bv (f_X0_decide σ o1 v2) fun σ1 => (f_X0_tick_36  n σ1 o1 (v2 + 1)))
theorem f_X0_tick_36_s  (n : Nat) (σ : Sg) (o1 : Nat) (v2 : Int32) : f_X0_tick_36  (n + 1) σ o1 v2 = (if (σ 4 o1 1) ≤ v2 then (f_X0_tick_56 σ o1) else (bv (f_X0_decide σ o1 v2) fun σ1 => (f_X0_tick_36  n σ1 o1 (v2 + 1)))) := rfl
noncomputable def f_X0_tick  (σ : Sg) (o1 : Nat) : Option Sg := bv (f_X5_copyFrom σ 13 o1) fun σ1 => (st (sup σ1 5 o1 0 0) fun σ2 => (bv (f_X0_makeComing σ2 o1) fun σ3 => (bv (f_X0_deliver σ3 o1) fun σ4 => (bv (f_X0_announceAgain σ4 o1) fun σ5 => (f_X0_tick_36 FU σ5 o1 0)))))
set_option maxHeartbeats 4000000 in
set_option maxRecDepth 100000 in
theorem w_X0_tick_78 {p : Program} {l : Launch} {e : Env} {s : State} {m : MethodId} {args : Array Value} {below : List Frame} {meth : Method} {c : Code} {G : Gx} {ad : Ad} {res : Sg} (C : Cx p s m args meth c yX0_tick.cls cX0_tick 3 none G)  : ∀ (σ : Sg) (o1 : Nat) (H : Heap) (locs : List Loc) (ls : Array Slot), z_S 0 G ad σ (z_A 0 ad s.heap.size) s.heap H locs → lv_has ls 3 [(1, .ref (ad 4 o1))] → (o1 < z_cnt 4) → f_X0_tick_78  σ o1 = some res → W p l e { frames := 5, cells := 0, slots := 0, locals := 121 } s m args below meth c H locs 0 0 (MQ below (va_Qv (S := Unit) (fun _ => True) (fun _ t => z_W 0 G ad res t.heap) (z_A 0 ad s.heap.size)) args s 0 0 (z_A 0 ad s.heap.size)) (F0 m 78 ls []) := by
  intro σ o1 H locs ls S hl ho1 hf
  unfold f_X0_tick_78 at hf
  refine lv_aload_n C.1 C.2.1 dX0_tick_78 rfl (lv_at hl 0 rfl) ?_
  refine lv_dup C.1 C.2.1 dX0_tick_79 rfl ?_
  refine z_getI C S 4 o1 rfl ho1 cf_4 3 (by decide) (gi_4_3 G ad o1) tw_1_232 dX0_tick_80 ?_
  refine lv_iconst (v := 1) C.1 C.2.1 dX0_tick_83 (by decide) ?_
  refine lv_iadd C.1 C.2.1 dX0_tick_84 ?_
  obtain ⟨σ1, e_85, hf⟩ := stb hf
  refine z_putI C S 4 o1 rfl ho1 cf_4 3 (by decide) (pi_4_3 G ad o1) rfl rfl rfl tw_1_232 dX0_tick_85 (fun H locs S => ?_)
  rw [← e_85] at S
  exact z_vret C S hf dX0_tick_88
set_option maxHeartbeats 4000000 in
set_option maxRecDepth 100000 in
theorem w_X0_tick_58 {p : Program} {l : Launch} {e : Env} {s : State} {m : MethodId} {args : Array Value} {below : List Frame} {meth : Method} {c : Code} {G : Gx} {ad : Ad} {res : Sg} (C : Cx p s m args meth c yX0_tick.cls cX0_tick 3 none G)  : ∀ n : Nat, ∀ (σ : Sg) (o1 : Nat) (v2 : Int32) (H : Heap) (locs : List Loc) (ls : Array Slot), z_S 0 G ad σ (z_A 0 ad s.heap.size) s.heap H locs → lv_has ls 3 [(0, .ref (ad 0 0)), (1, .ref (ad 4 o1)), (2, .int v2)] → (o1 < z_cnt 4) → f_X0_tick_58  n σ o1 v2 = some res → W p l e { frames := 5, cells := 0, slots := 0, locals := 121 } s m args below meth c H locs 0 0 (MQ below (va_Qv (S := Unit) (fun _ => True) (fun _ t => z_W 0 G ad res t.heap) (z_A 0 ad s.heap.size)) args s 0 0 (z_A 0 ad s.heap.size)) (F0 m 58 ls []) := by
  intro n
  induction n with
  | zero => intro σ o1 v2 H locs ls S hl ho1 hf; cases hf
  | succ n ih =>
    intro σ o1 v2 H locs ls S hl ho1 hf
    rw [f_X0_tick_58_s] at hf
    refine lv_iload_n C.1 C.2.1 dX0_tick_58 rfl (lv_at hl 2 rfl) ?_
    refine lv_aload_n C.1 C.2.1 dX0_tick_59 rfl (lv_at hl 1 rfl) ?_
    refine z_getI C S 4 o1 rfl ho1 cf_4 1 (by decide) (gi_4_1 G ad o1) tw_1_225 dX0_tick_60 ?_
    refine lv_icmp_ge (tgt := 78) C.1 C.2.1 dX0_tick_63 (by decide) (fun c_63 => ?_) (fun c_63 => ?_)
    · rw [if_pos c_63] at hf
      exact w_X0_tick_78 C _ o1 _ _ _ S (lv_sub hl [1] rfl) ho1 hf
    · rw [if_neg c_63] at hf
      refine lv_aload_n C.1 C.2.1 dX0_tick_66 rfl (lv_at hl 0 rfl) ?_
      refine lv_aload_n C.1 C.2.1 dX0_tick_67 rfl (lv_at hl 1 rfl) ?_
      refine lv_iload_n C.1 C.2.1 dX0_tick_68 rfl (lv_at hl 2 rfl) ?_
      obtain ⟨σ1, q_69, hf⟩ := bvb hf
      refine z_callV C S 0 0 rfl (by decide) cf_0 ⟨_, rfl⟩ [.ref (ad 4 o1), .int v2] (m_X0_act l G ad σ o1 v2 σ1 ho1 q_69 _) kv_X0_act tw_7_151 ⟨Nat.le_of_ble_eq_true rfl, Nat.le_of_ble_eq_true rfl⟩ rfl rfl (Nat.le_of_ble_eq_true rfl) hl.1 ⟨Nat.le_of_ble_eq_true rfl, Nat.le_of_ble_eq_true rfl⟩ dX0_tick_69 (fun H locs S => ?_)
      refine lv_iinc (v := (v2 + 1)) (lv' := [(2, .int (v2 + 1)), (0, .ref (ad 0 0)), (1, .ref (ad 4 o1))]) C.1 C.2.1 dX0_tick_72 hl (k := 2) rfl rfl (by decide) rfl (fun ls hl => ?_)
      refine lv_goto (tgt := 58) C.1 C.2.1 dX0_tick_75 (by decide) ?_
      exact ih _ o1 (v2 + 1) _ _ _ S (lv_sub hl [1, 2, 0] rfl) ho1 hf
set_option maxHeartbeats 4000000 in
set_option maxRecDepth 100000 in
theorem w_X0_tick_56 {p : Program} {l : Launch} {e : Env} {s : State} {m : MethodId} {args : Array Value} {below : List Frame} {meth : Method} {c : Code} {G : Gx} {ad : Ad} {res : Sg} (C : Cx p s m args meth c yX0_tick.cls cX0_tick 3 none G)  : ∀ (σ : Sg) (o1 : Nat) (H : Heap) (locs : List Loc) (ls : Array Slot), z_S 0 G ad σ (z_A 0 ad s.heap.size) s.heap H locs → lv_has ls 3 [(0, .ref (ad 0 0)), (1, .ref (ad 4 o1))] → (o1 < z_cnt 4) → f_X0_tick_56  σ o1 = some res → W p l e { frames := 5, cells := 0, slots := 0, locals := 121 } s m args below meth c H locs 0 0 (MQ below (va_Qv (S := Unit) (fun _ => True) (fun _ t => z_W 0 G ad res t.heap) (z_A 0 ad s.heap.size)) args s 0 0 (z_A 0 ad s.heap.size)) (F0 m 56 ls []) := by
  intro σ o1 H locs ls S hl ho1 hf
  unfold f_X0_tick_56 at hf
  refine lv_iconst (v := 0) C.1 C.2.1 dX0_tick_56 (by decide) ?_
  refine lv_istore_n (lv' := [(2, .int 0), (0, .ref (ad 0 0)), (1, .ref (ad 4 o1))]) C.1 C.2.1 dX0_tick_57 rfl hl (by decide) rfl (fun ls hl => ?_)
  exact w_X0_tick_58 C FU _ o1 0 _ _ _ S (lv_sub hl [1, 2, 0] rfl) ho1 hf
set_option maxHeartbeats 4000000 in
set_option maxRecDepth 100000 in
theorem w_X0_tick_36 {p : Program} {l : Launch} {e : Env} {s : State} {m : MethodId} {args : Array Value} {below : List Frame} {meth : Method} {c : Code} {G : Gx} {ad : Ad} {res : Sg} (C : Cx p s m args meth c yX0_tick.cls cX0_tick 3 none G)  : ∀ n : Nat, ∀ (σ : Sg) (o1 : Nat) (v2 : Int32) (H : Heap) (locs : List Loc) (ls : Array Slot), z_S 0 G ad σ (z_A 0 ad s.heap.size) s.heap H locs → lv_has ls 3 [(0, .ref (ad 0 0)), (1, .ref (ad 4 o1)), (2, .int v2)] → (o1 < z_cnt 4) → f_X0_tick_36  n σ o1 v2 = some res → W p l e { frames := 5, cells := 0, slots := 0, locals := 121 } s m args below meth c H locs 0 0 (MQ below (va_Qv (S := Unit) (fun _ => True) (fun _ t => z_W 0 G ad res t.heap) (z_A 0 ad s.heap.size)) args s 0 0 (z_A 0 ad s.heap.size)) (F0 m 36 ls []) := by
  intro n
  induction n with
  | zero => intro σ o1 v2 H locs ls S hl ho1 hf; cases hf
  | succ n ih =>
    intro σ o1 v2 H locs ls S hl ho1 hf
    rw [f_X0_tick_36_s] at hf
    refine lv_iload_n C.1 C.2.1 dX0_tick_36 rfl (lv_at hl 2 rfl) ?_
    refine lv_aload_n C.1 C.2.1 dX0_tick_37 rfl (lv_at hl 1 rfl) ?_
    refine z_getI C S 4 o1 rfl ho1 cf_4 1 (by decide) (gi_4_1 G ad o1) tw_1_225 dX0_tick_38 ?_
    refine lv_icmp_ge (tgt := 56) C.1 C.2.1 dX0_tick_41 (by decide) (fun c_41 => ?_) (fun c_41 => ?_)
    · rw [if_pos c_41] at hf
      exact w_X0_tick_56 C _ o1 _ _ _ S (lv_sub hl [0, 1] rfl) ho1 hf
    · rw [if_neg c_41] at hf
      refine lv_aload_n C.1 C.2.1 dX0_tick_44 rfl (lv_at hl 0 rfl) ?_
      refine lv_aload_n C.1 C.2.1 dX0_tick_45 rfl (lv_at hl 1 rfl) ?_
      refine lv_iload_n C.1 C.2.1 dX0_tick_46 rfl (lv_at hl 2 rfl) ?_
      obtain ⟨σ1, q_47, hf⟩ := bvb hf
      refine z_callV C S 0 0 rfl (by decide) cf_0 ⟨_, rfl⟩ [.ref (ad 4 o1), .int v2] (m_X0_decide l G ad σ o1 v2 σ1 ho1 q_47 _) kv_X0_decide tw_7_142 ⟨Nat.le_of_ble_eq_true rfl, Nat.le_of_ble_eq_true rfl⟩ rfl rfl (Nat.le_of_ble_eq_true rfl) hl.1 ⟨Nat.le_of_ble_eq_true rfl, Nat.le_of_ble_eq_true rfl⟩ dX0_tick_47 (fun H locs S => ?_)
      refine lv_iinc (v := (v2 + 1)) (lv' := [(2, .int (v2 + 1)), (0, .ref (ad 0 0)), (1, .ref (ad 4 o1))]) C.1 C.2.1 dX0_tick_50 hl (k := 2) rfl rfl (by decide) rfl (fun ls hl => ?_)
      refine lv_goto (tgt := 36) C.1 C.2.1 dX0_tick_53 (by decide) ?_
      exact ih _ o1 (v2 + 1) _ _ _ S (lv_sub hl [1, 2, 0] rfl) ho1 hf
set_option maxHeartbeats 4000000 in
set_option maxRecDepth 100000 in
theorem w_X0_tick_0 {p : Program} {l : Launch} {e : Env} {s : State} {m : MethodId} {args : Array Value} {below : List Frame} {meth : Method} {c : Code} {G : Gx} {ad : Ad} {res : Sg} (C : Cx p s m args meth c yX0_tick.cls cX0_tick 3 none G)  : ∀ (σ : Sg) (o1 : Nat) (H : Heap) (locs : List Loc) (ls : Array Slot), z_S 0 G ad σ (z_A 0 ad s.heap.size) s.heap H locs → lv_has ls 3 [(0, .ref (ad 0 0)), (1, .ref (ad 4 o1))] → (o1 < z_cnt 4) → f_X0_tick  σ o1 = some res → W p l e { frames := 5, cells := 0, slots := 0, locals := 121 } s m args below meth c H locs 0 0 (MQ below (va_Qv (S := Unit) (fun _ => True) (fun _ t => z_W 0 G ad res t.heap) (z_A 0 ad s.heap.size)) args s 0 0 (z_A 0 ad s.heap.size)) (F0 m 0 ls []) := by
  intro σ o1 H locs ls S hl ho1 hf
  unfold f_X0_tick at hf
  refine lv_aload_n C.1 C.2.1 dX0_tick_0 rfl (lv_at hl 0 rfl) ?_
  refine z_getR C S 0 0 rfl (by decide) cf_0 0 (by decide) _ (gr_0_0 G ad 0) tw_2_71 dX0_tick_1 ?_
  refine lv_aload_n C.1 C.2.1 dX0_tick_4 rfl (lv_at hl 1 rfl) ?_
  refine z_getR C S 4 o1 rfl ho1 cf_4 8 (by decide) _ (gr_4_8 G ad o1) tw_2_8 dX0_tick_5 ?_
  obtain ⟨σ1, q_8, hf⟩ := bvb hf
  refine z_callV C S 5 13 rfl (by decide) cf_5 ⟨_, rfl⟩ [.ref (ad 5 o1)] (m_X5_copyFrom l G ad σ 13 o1 σ1 (by decide) (oc5 ho1) q_8 _) kv_X5_copyFrom tw_7_79 ⟨Nat.le_of_ble_eq_true rfl, Nat.le_of_ble_eq_true rfl⟩ rfl rfl (Nat.le_of_ble_eq_true rfl) hl.1 ⟨Nat.le_of_ble_eq_true rfl, Nat.le_of_ble_eq_true rfl⟩ dX0_tick_8 (fun H locs S => ?_)
  refine lv_aload_n C.1 C.2.1 dX0_tick_11 rfl (lv_at hl 1 rfl) ?_
  refine z_getR C S 4 o1 rfl ho1 cf_4 8 (by decide) _ (gr_4_8 G ad o1) tw_2_8 dX0_tick_12 ?_
  refine lv_iconst (v := 0) C.1 C.2.1 dX0_tick_15 (by decide) ?_
  obtain ⟨σ2, e_16, hf⟩ := stb hf
  refine z_putI C S 5 o1 rfl (oc5 ho1) cf_5 0 (by decide) (pi_5_0 G ad o1) rfl rfl rfl tw_1_61 dX0_tick_16 (fun H locs S => ?_)
  rw [← e_16] at S
  refine lv_aload_n C.1 C.2.1 dX0_tick_19 rfl (lv_at hl 0 rfl) ?_
  refine lv_aload_n C.1 C.2.1 dX0_tick_20 rfl (lv_at hl 1 rfl) ?_
  obtain ⟨σ3, q_21, hf⟩ := bvb hf
  refine z_callV C S 0 0 rfl (by decide) cf_0 ⟨_, rfl⟩ [.ref (ad 4 o1)] (m_X0_makeComing l G ad σ2 o1 σ3 ho1 q_21 _) kv_X0_makeComing tw_7_80 ⟨Nat.le_of_ble_eq_true rfl, Nat.le_of_ble_eq_true rfl⟩ rfl rfl (Nat.le_of_ble_eq_true rfl) hl.1 ⟨Nat.le_of_ble_eq_true rfl, Nat.le_of_ble_eq_true rfl⟩ dX0_tick_21 (fun H locs S => ?_)
  refine lv_aload_n C.1 C.2.1 dX0_tick_24 rfl (lv_at hl 0 rfl) ?_
  refine lv_aload_n C.1 C.2.1 dX0_tick_25 rfl (lv_at hl 1 rfl) ?_
  obtain ⟨σ4, q_26, hf⟩ := bvb hf
  refine z_callV C S 0 0 rfl (by decide) cf_0 ⟨_, rfl⟩ [.ref (ad 4 o1)] (m_X0_deliver l G ad σ3 o1 σ4 ho1 q_26 _) kv_X0_deliver tw_7_96 ⟨Nat.le_of_ble_eq_true rfl, Nat.le_of_ble_eq_true rfl⟩ rfl rfl (Nat.le_of_ble_eq_true rfl) hl.1 ⟨Nat.le_of_ble_eq_true rfl, Nat.le_of_ble_eq_true rfl⟩ dX0_tick_26 (fun H locs S => ?_)
  refine lv_aload_n C.1 C.2.1 dX0_tick_29 rfl (lv_at hl 0 rfl) ?_
  refine lv_aload_n C.1 C.2.1 dX0_tick_30 rfl (lv_at hl 1 rfl) ?_
  obtain ⟨σ5, q_31, hf⟩ := bvb hf
  refine z_callV C S 0 0 rfl (by decide) cf_0 ⟨_, rfl⟩ [.ref (ad 4 o1)] (m_X0_announceAgain l G ad σ4 o1 σ5 ho1 q_31 _) kv_X0_announceAgain tw_7_138 ⟨Nat.le_of_ble_eq_true rfl, Nat.le_of_ble_eq_true rfl⟩ rfl rfl (Nat.le_of_ble_eq_true rfl) hl.1 ⟨Nat.le_of_ble_eq_true rfl, Nat.le_of_ble_eq_true rfl⟩ dX0_tick_31 (fun H locs S => ?_)
  refine lv_iconst (v := 0) C.1 C.2.1 dX0_tick_34 (by decide) ?_
  refine lv_istore_n (lv' := [(2, .int 0), (0, .ref (ad 0 0)), (1, .ref (ad 4 o1))]) C.1 C.2.1 dX0_tick_35 rfl hl (by decide) rfl (fun ls hl => ?_)
  exact w_X0_tick_36 C FU _ o1 0 _ _ _ S (lv_sub hl [1, 2, 0] rfl) ho1 hf
theorem kv_X0_tick : KV yX0_tick cX0_tick 3 none 1 := ⟨tw_7_78, tw_7_76, tw_7_77, tw_1_17, by decide, by decide, by decide +kernel⟩
theorem m_X0_tick (l : Launch) (G : Gx) (ad : Ad) (σ : Sg) (o1 : Nat) (σ' : Sg) (ho1 : o1 < z_cnt 4) (hf : f_X0_tick σ o1 = some σ') (sz : Nat) : z_MV l yX0_tick cX0_tick 3 none 5 121 0 G ad σ sz [.ref (ad 0 0), .ref (ad 4 o1)] σ' := by
  refine z_begin (by decide +kernel) (Nat.le_of_ble_eq_true rfl) [(0, .ref (ad 0 0)), (1, .ref (ad 4 o1))] rfl (fun p e s m args below meth c ls C hz S hl => ?_)
  subst hz
  exact w_X0_tick_0 (res := σ') C σ o1 _ _ _ S hl ho1 hf

theorem dX0_pass_0 : decode cX0_pass 0 = .ok (.iconst 0, 1) := by decide +kernel
theorem dX0_pass_1 : decode cX0_pass 1 = .ok (.istore_n 3, 1) := by decide +kernel
theorem dX0_pass_2 : decode cX0_pass 2 = .ok (.iload_n 3, 1) := by decide +kernel
theorem dX0_pass_3 : decode cX0_pass 3 = .ok (.iload_n 2, 1) := by decide +kernel
theorem dX0_pass_4 : decode cX0_pass 4 = .ok (.if_icmp .ge 14, 3) := by decide +kernel
theorem dX0_pass_7 : decode cX0_pass 7 = .ok (.aload_n 0, 1) := by decide +kernel
theorem dX0_pass_8 : decode cX0_pass 8 = .ok (.aload_n 1, 1) := by decide +kernel
theorem dX0_pass_9 : decode cX0_pass 9 = .ok (.invokevirtual 18, 3) := by decide +kernel
theorem dX0_pass_12 : decode cX0_pass 12 = .ok (.iinc 3 1, 3) := by decide +kernel
theorem dX0_pass_15 : decode cX0_pass 15 = .ok (.goto (-13), 3) := by decide +kernel
theorem dX0_pass_18 : decode cX0_pass 18 = .ok (.return_, 1) := by decide +kernel
/-! BusLifts$Bus.pass(LBusLifts$Lifts;I)V -/
noncomputable def f_X0_pass_18  (σ : Sg)  : Option Sg := some σ
noncomputable def f_X0_pass_2  : Nat → Sg → Nat → Int32 → Int32 → Option Sg
  | 0, _, _, _, _ => none
  | n + 1, σ, o1, v2, v3 => if v2 ≤ v3 then (f_X0_pass_18 σ) else (bv (f_X0_tick σ o1) fun σ1 => (f_X0_pass_2  n σ1 o1 v2 (v3 + 1)))
theorem f_X0_pass_2_s  (n : Nat) (σ : Sg) (o1 : Nat) (v2 : Int32) (v3 : Int32) : f_X0_pass_2  (n + 1) σ o1 v2 v3 = (if v2 ≤ v3 then (f_X0_pass_18 σ) else (bv (f_X0_tick σ o1) fun σ1 => (f_X0_pass_2  n σ1 o1 v2 (v3 + 1)))) := rfl
noncomputable def f_X0_pass  (σ : Sg) (o1 : Nat) (v2 : Int32) : Option Sg := f_X0_pass_2 FU σ o1 v2 0
set_option maxHeartbeats 4000000 in
set_option maxRecDepth 100000 in
theorem w_X0_pass_18 {p : Program} {l : Launch} {e : Env} {s : State} {m : MethodId} {args : Array Value} {below : List Frame} {meth : Method} {c : Code} {G : Gx} {ad : Ad} {res : Sg} (C : Cx p s m args meth c yX0_pass.cls cX0_pass 4 none G)  : ∀ (σ : Sg)  (H : Heap) (locs : List Loc) (ls : Array Slot), z_S 0 G ad σ (z_A 0 ad s.heap.size) s.heap H locs → lv_has ls 4 [] → f_X0_pass_18  σ  = some res → W p l e { frames := 6, cells := 0, slots := 0, locals := 143 } s m args below meth c H locs 0 0 (MQ below (va_Qv (S := Unit) (fun _ => True) (fun _ t => z_W 0 G ad res t.heap) (z_A 0 ad s.heap.size)) args s 0 0 (z_A 0 ad s.heap.size)) (F0 m 18 ls []) := by
  intro σ  H locs ls S hl  hf
  unfold f_X0_pass_18 at hf
  exact z_vret C S hf dX0_pass_18
set_option maxHeartbeats 4000000 in
set_option maxRecDepth 100000 in
theorem w_X0_pass_2 {p : Program} {l : Launch} {e : Env} {s : State} {m : MethodId} {args : Array Value} {below : List Frame} {meth : Method} {c : Code} {G : Gx} {ad : Ad} {res : Sg} (C : Cx p s m args meth c yX0_pass.cls cX0_pass 4 none G)  : ∀ n : Nat, ∀ (σ : Sg) (o1 : Nat) (v2 : Int32) (v3 : Int32) (H : Heap) (locs : List Loc) (ls : Array Slot), z_S 0 G ad σ (z_A 0 ad s.heap.size) s.heap H locs → lv_has ls 4 [(0, .ref (ad 0 0)), (1, .ref (ad 4 o1)), (2, .int v2), (3, .int v3)] → (o1 < z_cnt 4) → f_X0_pass_2  n σ o1 v2 v3 = some res → W p l e { frames := 6, cells := 0, slots := 0, locals := 143 } s m args below meth c H locs 0 0 (MQ below (va_Qv (S := Unit) (fun _ => True) (fun _ t => z_W 0 G ad res t.heap) (z_A 0 ad s.heap.size)) args s 0 0 (z_A 0 ad s.heap.size)) (F0 m 2 ls []) := by
  intro n
  induction n with
  | zero => intro σ o1 v2 v3 H locs ls S hl ho1 hf; cases hf
  | succ n ih =>
    intro σ o1 v2 v3 H locs ls S hl ho1 hf
    rw [f_X0_pass_2_s] at hf
    refine lv_iload_n C.1 C.2.1 dX0_pass_2 rfl (lv_at hl 3 rfl) ?_
    refine lv_iload_n C.1 C.2.1 dX0_pass_3 rfl (lv_at hl 2 rfl) ?_
    refine lv_icmp_ge (tgt := 18) C.1 C.2.1 dX0_pass_4 (by decide) (fun c_4 => ?_) (fun c_4 => ?_)
    · rw [if_pos c_4] at hf
      exact w_X0_pass_18 C _ _ _ _ S (lv_sub hl [] rfl) hf
    · rw [if_neg c_4] at hf
      refine lv_aload_n C.1 C.2.1 dX0_pass_7 rfl (lv_at hl 0 rfl) ?_
      refine lv_aload_n C.1 C.2.1 dX0_pass_8 rfl (lv_at hl 1 rfl) ?_
      obtain ⟨σ1, q_9, hf⟩ := bvb hf
      refine z_callV C S 0 0 rfl (by decide) cf_0 ⟨_, rfl⟩ [.ref (ad 4 o1)] (m_X0_tick l G ad σ o1 σ1 ho1 q_9 _) kv_X0_tick tw_7_75 ⟨Nat.le_of_ble_eq_true rfl, Nat.le_of_ble_eq_true rfl⟩ rfl rfl (Nat.le_of_ble_eq_true rfl) hl.1 ⟨Nat.le_of_ble_eq_true rfl, Nat.le_of_ble_eq_true rfl⟩ dX0_pass_9 (fun H locs S => ?_)
      refine lv_iinc (v := (v3 + 1)) (lv' := [(3, .int (v3 + 1)), (0, .ref (ad 0 0)), (1, .ref (ad 4 o1)), (2, .int v2)]) C.1 C.2.1 dX0_pass_12 hl (k := 3) rfl rfl (by decide) rfl (fun ls hl => ?_)
      refine lv_goto (tgt := 2) C.1 C.2.1 dX0_pass_15 (by decide) ?_
      exact ih _ o1 v2 (v3 + 1) _ _ _ S (lv_sub hl [1, 2, 3, 0] rfl) ho1 hf
set_option maxHeartbeats 4000000 in
set_option maxRecDepth 100000 in
theorem w_X0_pass_0 {p : Program} {l : Launch} {e : Env} {s : State} {m : MethodId} {args : Array Value} {below : List Frame} {meth : Method} {c : Code} {G : Gx} {ad : Ad} {res : Sg} (C : Cx p s m args meth c yX0_pass.cls cX0_pass 4 none G)  : ∀ (σ : Sg) (o1 : Nat) (v2 : Int32) (H : Heap) (locs : List Loc) (ls : Array Slot), z_S 0 G ad σ (z_A 0 ad s.heap.size) s.heap H locs → lv_has ls 4 [(0, .ref (ad 0 0)), (1, .ref (ad 4 o1)), (2, .int v2)] → (o1 < z_cnt 4) → f_X0_pass  σ o1 v2 = some res → W p l e { frames := 6, cells := 0, slots := 0, locals := 143 } s m args below meth c H locs 0 0 (MQ below (va_Qv (S := Unit) (fun _ => True) (fun _ t => z_W 0 G ad res t.heap) (z_A 0 ad s.heap.size)) args s 0 0 (z_A 0 ad s.heap.size)) (F0 m 0 ls []) := by
  intro σ o1 v2 H locs ls S hl ho1 hf
  unfold f_X0_pass at hf
  refine lv_iconst (v := 0) C.1 C.2.1 dX0_pass_0 (by decide) ?_
  refine lv_istore_n (lv' := [(3, .int 0), (0, .ref (ad 0 0)), (1, .ref (ad 4 o1)), (2, .int v2)]) C.1 C.2.1 dX0_pass_1 rfl hl (by decide) rfl (fun ls hl => ?_)
  exact w_X0_pass_2 C FU _ o1 v2 0 _ _ _ S (lv_sub hl [1, 2, 3, 0] rfl) ho1 hf
theorem kv_X0_pass : KV yX0_pass cX0_pass 4 none 2 := ⟨tw_7_74, tw_7_72, tw_7_73, tw_1_17, by decide, by decide, by decide +kernel⟩
theorem m_X0_pass (l : Launch) (G : Gx) (ad : Ad) (σ : Sg) (o1 : Nat) (v2 : Int32) (σ' : Sg) (ho1 : o1 < z_cnt 4) (hf : f_X0_pass σ o1 v2 = some σ') (sz : Nat) : z_MV l yX0_pass cX0_pass 4 none 6 143 0 G ad σ sz [.ref (ad 0 0), .ref (ad 4 o1), .int v2] σ' := by
  refine z_begin (by decide +kernel) (Nat.le_of_ble_eq_true rfl) [(0, .ref (ad 0 0)), (1, .ref (ad 4 o1)), (2, .int v2)] rfl (fun p e s m args below meth c ls C hz S hl => ?_)
  subst hz
  exact w_X0_pass_0 (res := σ') C σ o1 v2 _ _ _ S hl ho1 hf
