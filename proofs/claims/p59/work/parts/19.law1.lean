theorem dL_held_0 : decode cL_held 0 = .ok (.iconst 0, 1) := by decide +kernel
theorem dL_held_1 : decode cL_held 1 = .ok (.istore_n 2, 1) := by decide +kernel
theorem dL_held_2 : decode cL_held 2 = .ok (.aload_n 0, 1) := by decide +kernel
theorem dL_held_3 : decode cL_held 3 = .ok (.getfield 36, 3) := by decide +kernel
theorem dL_held_6 : decode cL_held 6 = .ok (.invokeinterface 133 1, 5) := by decide +kernel
theorem dL_held_11 : decode cL_held 11 = .ok (.astore_n 3, 1) := by decide +kernel
theorem dL_held_12 : decode cL_held 12 = .ok (.aload_n 3, 1) := by decide +kernel
theorem dL_held_13 : decode cL_held 13 = .ok (.invokeinterface 137 1, 5) := by decide +kernel
theorem dL_held_18 : decode cL_held 18 = .ok (.ifCond .eq 38, 3) := by decide +kernel
theorem dL_held_21 : decode cL_held 21 = .ok (.aload_n 3, 1) := by decide +kernel
theorem dL_held_22 : decode cL_held 22 = .ok (.invokeinterface 143 1, 5) := by decide +kernel
theorem dL_held_27 : decode cL_held 27 = .ok (.checkcast 97, 3) := by decide +kernel
theorem dL_held_30 : decode cL_held 30 = .ok (.astore 4, 2) := by decide +kernel
theorem dL_held_32 : decode cL_held 32 = .ok (.iload_n 2, 1) := by decide +kernel
theorem dL_held_33 : decode cL_held 33 = .ok (.aload 4, 2) := by decide +kernel
theorem dL_held_35 : decode cL_held 35 = .ok (.getfield 163, 3) := by decide +kernel
theorem dL_held_38 : decode cL_held 38 = .ok (.iload_n 1, 1) := by decide +kernel
theorem dL_held_39 : decode cL_held 39 = .ok (.aaload, 1) := by decide +kernel
theorem dL_held_40 : decode cL_held 40 = .ok (.getfield 167, 3) := by decide +kernel
theorem dL_held_43 : decode cL_held 43 = .ok (.ifCond .eq 7, 3) := by decide +kernel
theorem dL_held_46 : decode cL_held 46 = .ok (.iconst 1, 1) := by decide +kernel
theorem dL_held_47 : decode cL_held 47 = .ok (.goto 4, 3) := by decide +kernel
theorem dL_held_50 : decode cL_held 50 = .ok (.iconst 0, 1) := by decide +kernel
theorem dL_held_51 : decode cL_held 51 = .ok (.iadd, 1) := by decide +kernel
theorem dL_held_52 : decode cL_held 52 = .ok (.istore_n 2, 1) := by decide +kernel
theorem dL_held_53 : decode cL_held 53 = .ok (.goto (-41), 3) := by decide +kernel
theorem dL_held_56 : decode cL_held 56 = .ok (.iload_n 2, 1) := by decide +kernel
theorem dL_held_57 : decode cL_held 57 = .ok (.ireturn, 1) := by decide +kernel
/-! BusLiftsLaw.held(I)I -/
noncomputable def f_L_held_56 (τ : Sg) (v2 : Int32) : Option (Int32 × Sg × Nat) := some (v2, τ, 0)
noncomputable def f_L_held_51 (k12 : Sg → Int32 → Int32 → Nat → Int32 → Option (Int32 × Sg × Nat)) (τ : Sg) (v1 : Int32) (k3 : Nat) (m3 : Int32) (v100 : Int32) (v101 : Int32) : Option (Int32 × Sg × Nat) := k12 τ v1 (v100 + v101) k3 m3
noncomputable def f_L_held_12 : Nat → Sg → Int32 → Int32 → Nat → Int32 → Option (Int32 × Sg × Nat)
  | 0, _, _, _, _, _ => none
  | n + 1, τ, v1, v2, k3, m3 => if (it_z (nI k3) (τ 50 1 2)) = 0 then (f_L_held_56 τ v2) else (if ¬ (k3 < q_nn τ 1 ∧ m3 = τ 50 1 0) then none else (if v1 < 0 ∨ 4 ≤ (v1).toNatClampNeg then none else (if (τ 43 (4 * k3 + (v1).toNatClampNeg) 0) = 0 then (f_L_held_51 (f_L_held_12 n) τ v1 (k3 + 1) m3 v2 0) else (f_L_held_51 (f_L_held_12 n) τ v1 (k3 + 1) m3 v2 1))))
theorem f_L_held_12_s (n : Nat) (τ : Sg) (v1 : Int32) (v2 : Int32) (k3 : Nat) (m3 : Int32) : f_L_held_12 (n + 1) τ v1 v2 k3 m3 = (if (it_z (nI k3) (τ 50 1 2)) = 0 then (f_L_held_56 τ v2) else (if ¬ (k3 < q_nn τ 1 ∧ m3 = τ 50 1 0) then none else (if v1 < 0 ∨ 4 ≤ (v1).toNatClampNeg then none else (if (τ 43 (4 * k3 + (v1).toNatClampNeg) 0) = 0 then (f_L_held_51 (f_L_held_12 n) τ v1 (k3 + 1) m3 v2 0) else (f_L_held_51 (f_L_held_12 n) τ v1 (k3 + 1) m3 v2 1))))) := rfl
noncomputable def f_L_held (τ : Sg) (v1 : Int32) : Option (Int32 × Sg × Nat) := ac 1 (f_L_held_12 FU τ v1 0 0 (τ 50 1 0))
set_option maxHeartbeats 4000000 in
set_option maxRecDepth 100000 in
theorem w_L_held_56 {p : Program} {l : Launch} {e : Env} {s : State} {m : MethodId} {args : Array Value} {below : List Frame} {meth : Method} {c : Code} {G : Gx} {ad : Ad} {N : Nn} {X : Ex} {A : Nat → Prop} {res : Int32 × Sg} {n : Nat} (C : Cx p s m args meth c yL_held.cls cL_held 5 (Option.some FieldType.int) G) : ∀ (τ : Sg) (v2 : Int32) (H : Heap) (locs : List Loc) (ls : Array Slot) (cells d : Nat), q_S G ad N X τ [] A s.heap H locs → lv_has ls 5 [(2, .int v2)] → f_L_held_56 τ v2 = some (res.1, res.2, d) → cells + d = n → W p l e { frames := 3, cells := n, slots := 6 * n, locals := 53 } s m args below meth c H locs cells (6 * cells) (MQ below (k_Q (some (.int res.1)) (q_V G ad N res.2 A) A) args s n (6 * n) A) (F0 m 56 ls []) := by
  intro τ v2 H locs ls cells d S hl hf hd
  unfold f_L_held_56 at hf
  refine lv_iload_n C.1 C.2.1 dL_held_56 rfl (lv_at hl 0 rfl) ?_
  exact q_iretF C S hf hd dL_held_57
set_option maxHeartbeats 4000000 in
set_option maxRecDepth 100000 in
theorem w_L_held_51 {p : Program} {l : Launch} {e : Env} {s : State} {m : MethodId} {args : Array Value} {below : List Frame} {meth : Method} {c : Code} {G : Gx} {ad : Ad} {N : Nn} {X : Ex} {A : Nat → Prop} {res : Int32 × Sg} {n : Nat} (C : Cx p s m args meth c yL_held.cls cL_held 5 (Option.some FieldType.int) G) (k12 : Sg → Int32 → Int32 → Nat → Int32 → Option (Int32 × Sg × Nat)) (hk12 : ∀ (τ : Sg) (v1 : Int32) (v2 : Int32) (k3 : Nat) (m3 : Int32) (a3 : Nat) (H : Heap) (locs : List Loc) (ls : Array Slot) (cells d : Nat), q_S G ad N X τ [(a3, 1, k3, m3)] A s.heap H locs → lv_has ls 5 [(1, .int v1), (2, .int v2), (3, .ref a3)] → k12 τ v1 v2 k3 m3 = some (res.1, res.2, d) → cells + d = n → W p l e { frames := 3, cells := n, slots := 6 * n, locals := 53 } s m args below meth c H locs cells (6 * cells) (MQ below (k_Q (some (.int res.1)) (q_V G ad N res.2 A) A) args s n (6 * n) A) (F0 m 12 ls [])) : ∀ (τ : Sg) (v1 : Int32) (k3 : Nat) (m3 : Int32) (v100 : Int32) (v101 : Int32) (a3 : Nat) (H : Heap) (locs : List Loc) (ls : Array Slot) (cells d : Nat), q_S G ad N X τ [(a3, 1, k3, m3)] A s.heap H locs → lv_has ls 5 [(1, .int v1), (3, .ref a3)] → f_L_held_51 k12 τ v1 k3 m3 v100 v101 = some (res.1, res.2, d) → cells + d = n → W p l e { frames := 3, cells := n, slots := 6 * n, locals := 53 } s m args below meth c H locs cells (6 * cells) (MQ below (k_Q (some (.int res.1)) (q_V G ad N res.2 A) A) args s n (6 * n) A) (F0 m 51 ls [.int v101, .int v100]) := by
  intro τ v1 k3 m3 v100 v101 a3 H locs ls cells d S hl hf hd
  unfold f_L_held_51 at hf
  refine lv_iadd C.1 C.2.1 dL_held_51 ?_
  refine lv_istore_n (lv' := [(2, .int (v100 + v101)), (1, .int v1), (3, .ref a3)]) C.1 C.2.1 dL_held_52 rfl hl (by decide) rfl (fun ls hl => ?_)
  refine lv_goto (tgt := 12) C.1 C.2.1 dL_held_53 (by decide) ?_
  exact hk12 _ v1 (v100 + v101) k3 m3 a3 _ _ _ _ _ S (lv_sub hl [1, 0, 2] rfl) hf hd
set_option maxHeartbeats 4000000 in
set_option maxRecDepth 100000 in
theorem w_L_held_12 {p : Program} {l : Launch} {e : Env} {s : State} {m : MethodId} {args : Array Value} {below : List Frame} {meth : Method} {c : Code} {G : Gx} {ad : Ad} {N : Nn} {X : Ex} {A : Nat → Prop} {res : Int32 × Sg} {n : Nat} (C : Cx p s m args meth c yL_held.cls cL_held 5 (Option.some FieldType.int) G) : ∀ n9 : Nat, ∀ (τ : Sg) (v1 : Int32) (v2 : Int32) (k3 : Nat) (m3 : Int32) (a3 : Nat) (H : Heap) (locs : List Loc) (ls : Array Slot) (cells d : Nat), q_S G ad N X τ [(a3, 1, k3, m3)] A s.heap H locs → lv_has ls 5 [(1, .int v1), (2, .int v2), (3, .ref a3)] → f_L_held_12 n9 τ v1 v2 k3 m3 = some (res.1, res.2, d) → cells + d = n → W p l e { frames := 3, cells := n, slots := 6 * n, locals := 53 } s m args below meth c H locs cells (6 * cells) (MQ below (k_Q (some (.int res.1)) (q_V G ad N res.2 A) A) args s n (6 * n) A) (F0 m 12 ls []) := by
  intro n9
  induction n9 with
  | zero => intro τ v1 v2 k3 m3 a3 H locs ls cells d S hl hf hd; cases hf
  | succ n9 ih =>
    intro τ v1 v2 k3 m3 a3 H locs ls cells d S hl hf hd
    rw [f_L_held_12_s] at hf
    refine lv_aload_n C.1 C.2.1 dL_held_12 rfl (lv_at hl 2 rfl) ?_
    refine q_hasN C S (List.mem_singleton.mpr rfl) (Or.inl (by decide)) (by decide) tw_5_148 ⟨(Nat.le_of_ble_eq_true rfl), (Nat.le_of_ble_eq_true rfl)⟩ (Nat.le_of_ble_eq_true rfl) hl.1 ⟨(show _ ≤ n from by omega), (show _ ≤ 6 * n from by omega)⟩ dL_held_13 (fun H locs S => ?_)
    refine lv_if_eq (tgt := 56) C.1 C.2.1 dL_held_18 (by decide) (fun c_18 => ?_) (fun c_18 => ?_)
    · rw [if_pos c_18] at hf
      exact w_L_held_56 C _ v2 _ _ _ _ _ (S.drop (fun x hx => absurd hx List.not_mem_nil)) (lv_sub hl [1] rfl) hf hd
    · rw [if_neg c_18] at hf
      refine lv_aload_n C.1 C.2.1 dL_held_21 rfl (lv_at hl 2 rfl) ?_
      obtain ⟨g_22, hf⟩ := gd hf
      replace g_22 := Decidable.not_not.mp g_22
      have ob_22 := q_ltN S (Or.inl (by decide)) g_22.1
      refine q_next C S (Or.inl (by decide)) (by decide) g_22.1 g_22.2 tw_5_158 ⟨(Nat.le_of_ble_eq_true rfl), (Nat.le_of_ble_eq_true rfl)⟩ (Nat.le_of_ble_eq_true rfl) hl.1 ⟨(show _ ≤ n from by omega), (show _ ≤ 6 * n from by omega)⟩ dL_held_22 (fun H locs S => ?_)
      refine q_cast C S 42 k3 rfl ob_22 "BusLiftsLaw$Call" (fun _ => Or.inl ⟨_, _, _, _, rfl, rfl⟩) tw_4_19 dL_held_27 ?_
      refine lv_astore (lv' := [(4, .ref (ad 42 k3)), (1, .int v1), (2, .int v2), (3, .ref a3)]) C.1 C.2.1 dL_held_30 hl (by decide) rfl (fun ls hl => ?_)
      refine lv_iload_n C.1 C.2.1 dL_held_32 rfl (lv_at hl 2 rfl) ?_
      refine lv_aload C.1 C.2.1 dL_held_33 (lv_at hl 0 rfl) ?_
      refine q_getRN C S 42 k3 45 k3 rfl rfl ob_22 cf_8 11 (by decide) (qr_42_11 G τ k3) (List.mem_of_getElem? (i := 38) rfl) dL_held_35 ?_
      refine lv_iload_n C.1 C.2.1 dL_held_38 rfl (lv_at hl 1 rfl) ?_
      obtain ⟨g_39, hf⟩ := gd hf
      refine q_by C S k3 ob_22 g_39 dL_held_39 ?_
      refine q_getIN C S 43 (4 * k3 + (v1).toNatClampNeg) rfl (q_lt4 ob_22 g_39) cf_10 0 (by decide) (qi_43_0 G τ (4 * k3 + (v1).toNatClampNeg)) (List.mem_of_getElem? (i := 22) rfl) dL_held_40 ?_
      refine lv_if_eq (tgt := 50) C.1 C.2.1 dL_held_43 (by decide) (fun c_43 => ?_) (fun c_43 => ?_)
      · rw [if_pos c_43] at hf
        refine lv_iconst (v := 0) C.1 C.2.1 dL_held_50 (by decide) ?_
        exact w_L_held_51 C (f_L_held_12 n9) ih _ v1 (k3 + 1) m3 v2 0 a3 _ _ _ _ _ S (lv_sub hl [1, 3] rfl) hf hd
      · rw [if_neg c_43] at hf
        refine lv_iconst (v := 1) C.1 C.2.1 dL_held_46 (by decide) ?_
        refine lv_goto (tgt := 51) C.1 C.2.1 dL_held_47 (by decide) ?_
        exact w_L_held_51 C (f_L_held_12 n9) ih _ v1 (k3 + 1) m3 v2 1 a3 _ _ _ _ _ S (lv_sub hl [1, 3] rfl) hf hd
set_option maxHeartbeats 4000000 in
set_option maxRecDepth 100000 in
theorem w_L_held_0 {p : Program} {l : Launch} {e : Env} {s : State} {m : MethodId} {args : Array Value} {below : List Frame} {meth : Method} {c : Code} {G : Gx} {ad : Ad} {N : Nn} {X : Ex} {A : Nat → Prop} {res : Int32 × Sg} {n : Nat} (C : Cx p s m args meth c yL_held.cls cL_held 5 (Option.some FieldType.int) G) : ∀ (τ : Sg) (v1 : Int32) (H : Heap) (locs : List Loc) (ls : Array Slot) (cells d : Nat), q_S G ad N X τ [] A s.heap H locs → lv_has ls 5 [(0, .ref (ad 40 0)), (1, .int v1)] → f_L_held τ v1 = some (res.1, res.2, d) → cells + d = n → W p l e { frames := 3, cells := n, slots := 6 * n, locals := 53 } s m args below meth c H locs cells (6 * cells) (MQ below (k_Q (some (.int res.1)) (q_V G ad N res.2 A) A) args s n (6 * n) A) (F0 m 0 ls []) := by
  intro τ v1 H locs ls cells d S hl hf hd
  unfold f_L_held at hf
  refine lv_iconst (v := 0) C.1 C.2.1 dL_held_0 (by decide) ?_
  refine lv_istore_n (lv' := [(2, .int 0), (0, .ref (ad 40 0)), (1, .int v1)]) C.1 C.2.1 dL_held_1 rfl hl (by decide) rfl (fun ls hl => ?_)
  refine lv_aload_n C.1 C.2.1 dL_held_2 rfl (lv_at hl 1 rfl) ?_
  refine q_getR C S 40 0 50 1 rfl rfl rfl cf_11 1 (by decide) (qr_40_1 G τ 0) tw_4_97 dL_held_3 ?_
  obtain ⟨d_6, hf, e_6⟩ := acb hf
  refine q_iter C S 1 (Or.inl (by decide)) (by decide) tw_5_120 ⟨(Nat.le_of_ble_eq_true rfl), (Nat.le_of_ble_eq_true rfl)⟩ (Nat.le_of_ble_eq_true rfl) hl.1 ⟨(show _ ≤ n from by omega), (show _ ≤ 6 * n from by omega)⟩ dL_held_6 (fun it1 H locs S => ?_)
  refine q_wid ?_
  replace hd := q_hd1 hd e_6
  refine lv_astore_n (lv' := [(3, .ref it1), (2, .int 0), (0, .ref (ad 40 0)), (1, .int v1)]) C.1 C.2.1 dL_held_11 rfl hl (by decide) rfl (fun ls hl => ?_)
  exact w_L_held_12 C FU _ v1 0 0 (τ 50 1 0) it1 _ _ _ _ _ S (lv_sub hl [3, 1, 0] rfl) hf hd
theorem kv_L_held : KV yL_held cL_held 5 (Option.some FieldType.int) 1 := ⟨tw_6_78, tw_6_77, tw_p_21, tw_1_0, by decide, by decide, by decide +kernel⟩
theorem m_L_held (l : Launch) (G : Gx) (ad : Ad) (N : Nn) (τ : Sg) (v1 : Int32) (res : Int32 × Sg) (n : Nat) (hf : f_L_held τ v1 = some (res.1, res.2, n)) (sz : Nat) : q_M l yL_held cL_held 5 (Option.some FieldType.int) 3 53 n G ad N τ sz [.ref (ad 40 0), .int v1] (some (.int res.1)) res.2 := by
  refine q_begin (by decide +kernel) (Nat.le_of_ble_eq_true rfl) [(0, .ref (ad 40 0)), (1, .int v1)] rfl (fun p e s m args below meth c ls C hz S hl => ?_)
  subst hz
  exact w_L_held_0 C _ v1 _ _ _ _ _ S hl hf (Nat.zero_add _)

theorem dL_aboard_0 : decode cL_aboard 0 = .ok (.iconst 0, 1) := by decide +kernel
theorem dL_aboard_1 : decode cL_aboard 1 = .ok (.istore_n 2, 1) := by decide +kernel
theorem dL_aboard_2 : decode cL_aboard 2 = .ok (.aload_n 0, 1) := by decide +kernel
theorem dL_aboard_3 : decode cL_aboard 3 = .ok (.getfield 36, 3) := by decide +kernel
theorem dL_aboard_6 : decode cL_aboard 6 = .ok (.invokeinterface 133 1, 5) := by decide +kernel
theorem dL_aboard_11 : decode cL_aboard 11 = .ok (.astore_n 3, 1) := by decide +kernel
theorem dL_aboard_12 : decode cL_aboard 12 = .ok (.aload_n 3, 1) := by decide +kernel
theorem dL_aboard_13 : decode cL_aboard 13 = .ok (.invokeinterface 137 1, 5) := by decide +kernel
theorem dL_aboard_18 : decode cL_aboard 18 = .ok (.ifCond .eq 43, 3) := by decide +kernel
theorem dL_aboard_21 : decode cL_aboard 21 = .ok (.aload_n 3, 1) := by decide +kernel
theorem dL_aboard_22 : decode cL_aboard 22 = .ok (.invokeinterface 143 1, 5) := by decide +kernel
theorem dL_aboard_27 : decode cL_aboard 27 = .ok (.checkcast 97, 3) := by decide +kernel
theorem dL_aboard_30 : decode cL_aboard 30 = .ok (.astore 4, 2) := by decide +kernel
theorem dL_aboard_32 : decode cL_aboard 32 = .ok (.iload_n 2, 1) := by decide +kernel
theorem dL_aboard_33 : decode cL_aboard 33 = .ok (.aload 4, 2) := by decide +kernel
theorem dL_aboard_35 : decode cL_aboard 35 = .ok (.getfield 173, 3) := by decide +kernel
theorem dL_aboard_38 : decode cL_aboard 38 = .ok (.iconst 2, 1) := by decide +kernel
theorem dL_aboard_39 : decode cL_aboard 39 = .ok (.if_icmp .ne 16, 3) := by decide +kernel
theorem dL_aboard_42 : decode cL_aboard 42 = .ok (.aload 4, 2) := by decide +kernel
theorem dL_aboard_44 : decode cL_aboard 44 = .ok (.getfield 176, 3) := by decide +kernel
theorem dL_aboard_47 : decode cL_aboard 47 = .ok (.iload_n 1, 1) := by decide +kernel
theorem dL_aboard_48 : decode cL_aboard 48 = .ok (.if_icmp .ne 7, 3) := by decide +kernel
theorem dL_aboard_51 : decode cL_aboard 51 = .ok (.iconst 1, 1) := by decide +kernel
theorem dL_aboard_52 : decode cL_aboard 52 = .ok (.goto 4, 3) := by decide +kernel
theorem dL_aboard_55 : decode cL_aboard 55 = .ok (.iconst 0, 1) := by decide +kernel
theorem dL_aboard_56 : decode cL_aboard 56 = .ok (.iadd, 1) := by decide +kernel
theorem dL_aboard_57 : decode cL_aboard 57 = .ok (.istore_n 2, 1) := by decide +kernel
theorem dL_aboard_58 : decode cL_aboard 58 = .ok (.goto (-46), 3) := by decide +kernel
theorem dL_aboard_61 : decode cL_aboard 61 = .ok (.iload_n 2, 1) := by decide +kernel
theorem dL_aboard_62 : decode cL_aboard 62 = .ok (.ireturn, 1) := by decide +kernel
/-! BusLiftsLaw.aboard(I)I -/
noncomputable def f_L_aboard_61 (τ : Sg) (v2 : Int32) : Option (Int32 × Sg × Nat) := some (v2, τ, 0)
noncomputable def f_L_aboard_56 (k12 : Sg → Int32 → Int32 → Nat → Int32 → Option (Int32 × Sg × Nat)) (τ : Sg) (v1 : Int32) (k3 : Nat) (m3 : Int32) (v100 : Int32) (v101 : Int32) : Option (Int32 × Sg × Nat) := k12 τ v1 (v100 + v101) k3 m3
noncomputable def f_L_aboard_55 (k12 : Sg → Int32 → Int32 → Nat → Int32 → Option (Int32 × Sg × Nat)) (τ : Sg) (v1 : Int32) (k3 : Nat) (m3 : Int32) (v100 : Int32) : Option (Int32 × Sg × Nat) := f_L_aboard_56 k12 τ v1 k3 m3 v100 0
noncomputable def f_L_aboard_12 : Nat → Sg → Int32 → Int32 → Nat → Int32 → Option (Int32 × Sg × Nat)
  | 0, _, _, _, _, _ => none
  | n + 1, τ, v1, v2, k3, m3 => if (it_z (nI k3) (τ 50 1 2)) = 0 then (f_L_aboard_61 τ v2) else (if ¬ (k3 < q_nn τ 1 ∧ m3 = τ 50 1 0) then none else (if (τ 42 k3 3) = 2 then (if (τ 42 k3 4) = v1 then (f_L_aboard_56 (f_L_aboard_12 n) τ v1 (k3 + 1) m3 v2 1) else (f_L_aboard_55 (f_L_aboard_12 n) τ v1 (k3 + 1) m3 v2)) else (f_L_aboard_55 (f_L_aboard_12 n) τ v1 (k3 + 1) m3 v2)))
theorem f_L_aboard_12_s (n : Nat) (τ : Sg) (v1 : Int32) (v2 : Int32) (k3 : Nat) (m3 : Int32) : f_L_aboard_12 (n + 1) τ v1 v2 k3 m3 = (if (it_z (nI k3) (τ 50 1 2)) = 0 then (f_L_aboard_61 τ v2) else (if ¬ (k3 < q_nn τ 1 ∧ m3 = τ 50 1 0) then none else (if (τ 42 k3 3) = 2 then (if (τ 42 k3 4) = v1 then (f_L_aboard_56 (f_L_aboard_12 n) τ v1 (k3 + 1) m3 v2 1) else (f_L_aboard_55 (f_L_aboard_12 n) τ v1 (k3 + 1) m3 v2)) else (f_L_aboard_55 (f_L_aboard_12 n) τ v1 (k3 + 1) m3 v2)))) := rfl
noncomputable def f_L_aboard (τ : Sg) (v1 : Int32) : Option (Int32 × Sg × Nat) := ac 1 (f_L_aboard_12 FU τ v1 0 0 (τ 50 1 0))
set_option maxHeartbeats 4000000 in
set_option maxRecDepth 100000 in
theorem w_L_aboard_61 {p : Program} {l : Launch} {e : Env} {s : State} {m : MethodId} {args : Array Value} {below : List Frame} {meth : Method} {c : Code} {G : Gx} {ad : Ad} {N : Nn} {X : Ex} {A : Nat → Prop} {res : Int32 × Sg} {n : Nat} (C : Cx p s m args meth c yL_aboard.cls cL_aboard 5 (Option.some FieldType.int) G) : ∀ (τ : Sg) (v2 : Int32) (H : Heap) (locs : List Loc) (ls : Array Slot) (cells d : Nat), q_S G ad N X τ [] A s.heap H locs → lv_has ls 5 [(2, .int v2)] → f_L_aboard_61 τ v2 = some (res.1, res.2, d) → cells + d = n → W p l e { frames := 3, cells := n, slots := 6 * n, locals := 53 } s m args below meth c H locs cells (6 * cells) (MQ below (k_Q (some (.int res.1)) (q_V G ad N res.2 A) A) args s n (6 * n) A) (F0 m 61 ls []) := by
  intro τ v2 H locs ls cells d S hl hf hd
  unfold f_L_aboard_61 at hf
  refine lv_iload_n C.1 C.2.1 dL_aboard_61 rfl (lv_at hl 0 rfl) ?_
  exact q_iretF C S hf hd dL_aboard_62
set_option maxHeartbeats 4000000 in
set_option maxRecDepth 100000 in
theorem w_L_aboard_56 {p : Program} {l : Launch} {e : Env} {s : State} {m : MethodId} {args : Array Value} {below : List Frame} {meth : Method} {c : Code} {G : Gx} {ad : Ad} {N : Nn} {X : Ex} {A : Nat → Prop} {res : Int32 × Sg} {n : Nat} (C : Cx p s m args meth c yL_aboard.cls cL_aboard 5 (Option.some FieldType.int) G) (k12 : Sg → Int32 → Int32 → Nat → Int32 → Option (Int32 × Sg × Nat)) (hk12 : ∀ (τ : Sg) (v1 : Int32) (v2 : Int32) (k3 : Nat) (m3 : Int32) (a3 : Nat) (H : Heap) (locs : List Loc) (ls : Array Slot) (cells d : Nat), q_S G ad N X τ [(a3, 1, k3, m3)] A s.heap H locs → lv_has ls 5 [(1, .int v1), (2, .int v2), (3, .ref a3)] → k12 τ v1 v2 k3 m3 = some (res.1, res.2, d) → cells + d = n → W p l e { frames := 3, cells := n, slots := 6 * n, locals := 53 } s m args below meth c H locs cells (6 * cells) (MQ below (k_Q (some (.int res.1)) (q_V G ad N res.2 A) A) args s n (6 * n) A) (F0 m 12 ls [])) : ∀ (τ : Sg) (v1 : Int32) (k3 : Nat) (m3 : Int32) (v100 : Int32) (v101 : Int32) (a3 : Nat) (H : Heap) (locs : List Loc) (ls : Array Slot) (cells d : Nat), q_S G ad N X τ [(a3, 1, k3, m3)] A s.heap H locs → lv_has ls 5 [(1, .int v1), (3, .ref a3)] → f_L_aboard_56 k12 τ v1 k3 m3 v100 v101 = some (res.1, res.2, d) → cells + d = n → W p l e { frames := 3, cells := n, slots := 6 * n, locals := 53 } s m args below meth c H locs cells (6 * cells) (MQ below (k_Q (some (.int res.1)) (q_V G ad N res.2 A) A) args s n (6 * n) A) (F0 m 56 ls [.int v101, .int v100]) := by
  intro τ v1 k3 m3 v100 v101 a3 H locs ls cells d S hl hf hd
  unfold f_L_aboard_56 at hf
  refine lv_iadd C.1 C.2.1 dL_aboard_56 ?_
  refine lv_istore_n (lv' := [(2, .int (v100 + v101)), (1, .int v1), (3, .ref a3)]) C.1 C.2.1 dL_aboard_57 rfl hl (by decide) rfl (fun ls hl => ?_)
  refine lv_goto (tgt := 12) C.1 C.2.1 dL_aboard_58 (by decide) ?_
  exact hk12 _ v1 (v100 + v101) k3 m3 a3 _ _ _ _ _ S (lv_sub hl [1, 0, 2] rfl) hf hd
set_option maxHeartbeats 4000000 in
set_option maxRecDepth 100000 in
theorem w_L_aboard_55 {p : Program} {l : Launch} {e : Env} {s : State} {m : MethodId} {args : Array Value} {below : List Frame} {meth : Method} {c : Code} {G : Gx} {ad : Ad} {N : Nn} {X : Ex} {A : Nat → Prop} {res : Int32 × Sg} {n : Nat} (C : Cx p s m args meth c yL_aboard.cls cL_aboard 5 (Option.some FieldType.int) G) (k12 : Sg → Int32 → Int32 → Nat → Int32 → Option (Int32 × Sg × Nat)) (hk12 : ∀ (τ : Sg) (v1 : Int32) (v2 : Int32) (k3 : Nat) (m3 : Int32) (a3 : Nat) (H : Heap) (locs : List Loc) (ls : Array Slot) (cells d : Nat), q_S G ad N X τ [(a3, 1, k3, m3)] A s.heap H locs → lv_has ls 5 [(1, .int v1), (2, .int v2), (3, .ref a3)] → k12 τ v1 v2 k3 m3 = some (res.1, res.2, d) → cells + d = n → W p l e { frames := 3, cells := n, slots := 6 * n, locals := 53 } s m args below meth c H locs cells (6 * cells) (MQ below (k_Q (some (.int res.1)) (q_V G ad N res.2 A) A) args s n (6 * n) A) (F0 m 12 ls [])) : ∀ (τ : Sg) (v1 : Int32) (k3 : Nat) (m3 : Int32) (v100 : Int32) (a3 : Nat) (H : Heap) (locs : List Loc) (ls : Array Slot) (cells d : Nat), q_S G ad N X τ [(a3, 1, k3, m3)] A s.heap H locs → lv_has ls 5 [(1, .int v1), (3, .ref a3)] → f_L_aboard_55 k12 τ v1 k3 m3 v100 = some (res.1, res.2, d) → cells + d = n → W p l e { frames := 3, cells := n, slots := 6 * n, locals := 53 } s m args below meth c H locs cells (6 * cells) (MQ below (k_Q (some (.int res.1)) (q_V G ad N res.2 A) A) args s n (6 * n) A) (F0 m 55 ls [.int v100]) := by
  intro τ v1 k3 m3 v100 a3 H locs ls cells d S hl hf hd
  unfold f_L_aboard_55 at hf
  refine lv_iconst (v := 0) C.1 C.2.1 dL_aboard_55 (by decide) ?_
  exact w_L_aboard_56 C k12 hk12 _ v1 k3 m3 v100 0 a3 _ _ _ _ _ S (lv_sub hl [0, 1] rfl) hf hd
set_option maxHeartbeats 4000000 in
set_option maxRecDepth 100000 in
theorem w_L_aboard_12 {p : Program} {l : Launch} {e : Env} {s : State} {m : MethodId} {args : Array Value} {below : List Frame} {meth : Method} {c : Code} {G : Gx} {ad : Ad} {N : Nn} {X : Ex} {A : Nat → Prop} {res : Int32 × Sg} {n : Nat} (C : Cx p s m args meth c yL_aboard.cls cL_aboard 5 (Option.some FieldType.int) G) : ∀ n9 : Nat, ∀ (τ : Sg) (v1 : Int32) (v2 : Int32) (k3 : Nat) (m3 : Int32) (a3 : Nat) (H : Heap) (locs : List Loc) (ls : Array Slot) (cells d : Nat), q_S G ad N X τ [(a3, 1, k3, m3)] A s.heap H locs → lv_has ls 5 [(1, .int v1), (2, .int v2), (3, .ref a3)] → f_L_aboard_12 n9 τ v1 v2 k3 m3 = some (res.1, res.2, d) → cells + d = n → W p l e { frames := 3, cells := n, slots := 6 * n, locals := 53 } s m args below meth c H locs cells (6 * cells) (MQ below (k_Q (some (.int res.1)) (q_V G ad N res.2 A) A) args s n (6 * n) A) (F0 m 12 ls []) := by
  intro n9
  induction n9 with
  | zero => intro τ v1 v2 k3 m3 a3 H locs ls cells d S hl hf hd; cases hf
  | succ n9 ih =>
    intro τ v1 v2 k3 m3 a3 H locs ls cells d S hl hf hd
    rw [f_L_aboard_12_s] at hf
    refine lv_aload_n C.1 C.2.1 dL_aboard_12 rfl (lv_at hl 2 rfl) ?_
    refine q_hasN C S (List.mem_singleton.mpr rfl) (Or.inl (by decide)) (by decide) tw_5_148 ⟨(Nat.le_of_ble_eq_true rfl), (Nat.le_of_ble_eq_true rfl)⟩ (Nat.le_of_ble_eq_true rfl) hl.1 ⟨(show _ ≤ n from by omega), (show _ ≤ 6 * n from by omega)⟩ dL_aboard_13 (fun H locs S => ?_)
    refine lv_if_eq (tgt := 61) C.1 C.2.1 dL_aboard_18 (by decide) (fun c_18 => ?_) (fun c_18 => ?_)
    · rw [if_pos c_18] at hf
      exact w_L_aboard_61 C _ v2 _ _ _ _ _ (S.drop (fun x hx => absurd hx List.not_mem_nil)) (lv_sub hl [1] rfl) hf hd
    · rw [if_neg c_18] at hf
      refine lv_aload_n C.1 C.2.1 dL_aboard_21 rfl (lv_at hl 2 rfl) ?_
      obtain ⟨g_22, hf⟩ := gd hf
      replace g_22 := Decidable.not_not.mp g_22
      have ob_22 := q_ltN S (Or.inl (by decide)) g_22.1
      refine q_next C S (Or.inl (by decide)) (by decide) g_22.1 g_22.2 tw_5_158 ⟨(Nat.le_of_ble_eq_true rfl), (Nat.le_of_ble_eq_true rfl)⟩ (Nat.le_of_ble_eq_true rfl) hl.1 ⟨(show _ ≤ n from by omega), (show _ ≤ 6 * n from by omega)⟩ dL_aboard_22 (fun H locs S => ?_)
      refine q_cast C S 42 k3 rfl ob_22 "BusLiftsLaw$Call" (fun _ => Or.inl ⟨_, _, _, _, rfl, rfl⟩) tw_4_19 dL_aboard_27 ?_
      refine lv_astore (lv' := [(4, .ref (ad 42 k3)), (1, .int v1), (2, .int v2), (3, .ref a3)]) C.1 C.2.1 dL_aboard_30 hl (by decide) rfl (fun ls hl => ?_)
      refine lv_iload_n C.1 C.2.1 dL_aboard_32 rfl (lv_at hl 2 rfl) ?_
      refine lv_aload C.1 C.2.1 dL_aboard_33 (lv_at hl 0 rfl) ?_
      refine q_getIN C S 42 k3 rfl ob_22 cf_8 3 (by decide) (qi_42_3 G τ k3) (List.mem_of_getElem? (i := 30) rfl) dL_aboard_35 ?_
      refine lv_iconst (v := 2) C.1 C.2.1 dL_aboard_38 (by decide) ?_
      refine lv_icmp_ne (tgt := 55) C.1 C.2.1 dL_aboard_39 (by decide) (fun c_39 => ?_) (fun c_39 => ?_)
      · rw [if_neg c_39] at hf
        exact w_L_aboard_55 C (f_L_aboard_12 n9) ih _ v1 (k3 + 1) m3 v2 a3 _ _ _ _ _ S (lv_sub hl [1, 3] rfl) hf hd
      · rw [if_pos c_39] at hf
        refine lv_aload C.1 C.2.1 dL_aboard_42 (lv_at hl 0 rfl) ?_
        refine q_getIN C S 42 k3 rfl ob_22 cf_8 4 (by decide) (qi_42_4 G τ k3) (List.mem_of_getElem? (i := 31) rfl) dL_aboard_44 ?_
        refine lv_iload_n C.1 C.2.1 dL_aboard_47 rfl (lv_at hl 1 rfl) ?_
        refine lv_icmp_ne (tgt := 55) C.1 C.2.1 dL_aboard_48 (by decide) (fun c_48 => ?_) (fun c_48 => ?_)
        · rw [if_neg c_48] at hf
          exact w_L_aboard_55 C (f_L_aboard_12 n9) ih _ v1 (k3 + 1) m3 v2 a3 _ _ _ _ _ S (lv_sub hl [1, 3] rfl) hf hd
        · rw [if_pos c_48] at hf
          refine lv_iconst (v := 1) C.1 C.2.1 dL_aboard_51 (by decide) ?_
          refine lv_goto (tgt := 56) C.1 C.2.1 dL_aboard_52 (by decide) ?_
          exact w_L_aboard_56 C (f_L_aboard_12 n9) ih _ v1 (k3 + 1) m3 v2 1 a3 _ _ _ _ _ S (lv_sub hl [1, 3] rfl) hf hd
set_option maxHeartbeats 4000000 in
set_option maxRecDepth 100000 in
theorem w_L_aboard_0 {p : Program} {l : Launch} {e : Env} {s : State} {m : MethodId} {args : Array Value} {below : List Frame} {meth : Method} {c : Code} {G : Gx} {ad : Ad} {N : Nn} {X : Ex} {A : Nat → Prop} {res : Int32 × Sg} {n : Nat} (C : Cx p s m args meth c yL_aboard.cls cL_aboard 5 (Option.some FieldType.int) G) : ∀ (τ : Sg) (v1 : Int32) (H : Heap) (locs : List Loc) (ls : Array Slot) (cells d : Nat), q_S G ad N X τ [] A s.heap H locs → lv_has ls 5 [(0, .ref (ad 40 0)), (1, .int v1)] → f_L_aboard τ v1 = some (res.1, res.2, d) → cells + d = n → W p l e { frames := 3, cells := n, slots := 6 * n, locals := 53 } s m args below meth c H locs cells (6 * cells) (MQ below (k_Q (some (.int res.1)) (q_V G ad N res.2 A) A) args s n (6 * n) A) (F0 m 0 ls []) := by
  intro τ v1 H locs ls cells d S hl hf hd
  unfold f_L_aboard at hf
  refine lv_iconst (v := 0) C.1 C.2.1 dL_aboard_0 (by decide) ?_
  refine lv_istore_n (lv' := [(2, .int 0), (0, .ref (ad 40 0)), (1, .int v1)]) C.1 C.2.1 dL_aboard_1 rfl hl (by decide) rfl (fun ls hl => ?_)
  refine lv_aload_n C.1 C.2.1 dL_aboard_2 rfl (lv_at hl 1 rfl) ?_
  refine q_getR C S 40 0 50 1 rfl rfl rfl cf_11 1 (by decide) (qr_40_1 G τ 0) tw_4_97 dL_aboard_3 ?_
  obtain ⟨d_6, hf, e_6⟩ := acb hf
  refine q_iter C S 1 (Or.inl (by decide)) (by decide) tw_5_120 ⟨(Nat.le_of_ble_eq_true rfl), (Nat.le_of_ble_eq_true rfl)⟩ (Nat.le_of_ble_eq_true rfl) hl.1 ⟨(show _ ≤ n from by omega), (show _ ≤ 6 * n from by omega)⟩ dL_aboard_6 (fun it1 H locs S => ?_)
  refine q_wid ?_
  replace hd := q_hd1 hd e_6
  refine lv_astore_n (lv' := [(3, .ref it1), (2, .int 0), (0, .ref (ad 40 0)), (1, .int v1)]) C.1 C.2.1 dL_aboard_11 rfl hl (by decide) rfl (fun ls hl => ?_)
  exact w_L_aboard_12 C FU _ v1 0 0 (τ 50 1 0) it1 _ _ _ _ _ S (lv_sub hl [3, 1, 0] rfl) hf hd
theorem kv_L_aboard : KV yL_aboard cL_aboard 5 (Option.some FieldType.int) 1 := ⟨tw_6_82, tw_6_81, tw_p_22, tw_1_0, by decide, by decide, by decide +kernel⟩
theorem m_L_aboard (l : Launch) (G : Gx) (ad : Ad) (N : Nn) (τ : Sg) (v1 : Int32) (res : Int32 × Sg) (n : Nat) (hf : f_L_aboard τ v1 = some (res.1, res.2, n)) (sz : Nat) : q_M l yL_aboard cL_aboard 5 (Option.some FieldType.int) 3 53 n G ad N τ sz [.ref (ad 40 0), .int v1] (some (.int res.1)) res.2 := by
  refine q_begin (by decide +kernel) (Nat.le_of_ble_eq_true rfl) [(0, .ref (ad 40 0)), (1, .int v1)] rfl (fun p e s m args below meth c ls C hz S hl => ?_)
  subst hz
  exact w_L_aboard_0 C _ v1 _ _ _ _ _ S hl hf (Nat.zero_add _)

theorem dL_cost_0 : decode cL_cost 0 = .ok (.aload_n 0, 1) := by decide +kernel
theorem dL_cost_1 : decode cL_cost 1 = .ok (.getfield 30, 3) := by decide +kernel
theorem dL_cost_4 : decode cL_cost 4 = .ok (.iload_n 1, 1) := by decide +kernel
theorem dL_cost_5 : decode cL_cost 5 = .ok (.invokeinterface 179 2, 5) := by decide +kernel
theorem dL_cost_10 : decode cL_cost 10 = .ok (.checkcast 82, 3) := by decide +kernel
theorem dL_cost_13 : decode cL_cost 13 = .ok (.getfield 85, 3) := by decide +kernel
theorem dL_cost_16 : decode cL_cost 16 = .ok (.aload_n 2, 1) := by decide +kernel
theorem dL_cost_17 : decode cL_cost 17 = .ok (.getfield 157, 3) := by decide +kernel
theorem dL_cost_20 : decode cL_cost 20 = .ok (.isub, 1) := by decide +kernel
theorem dL_cost_21 : decode cL_cost 21 = .ok (.invokestatic 183, 3) := by decide +kernel
theorem dL_cost_24 : decode cL_cost 24 = .ok (.aload_n 0, 1) := by decide +kernel
theorem dL_cost_25 : decode cL_cost 25 = .ok (.getfield 73, 3) := by decide +kernel
theorem dL_cost_28 : decode cL_cost 28 = .ok (.aload_n 0, 1) := by decide +kernel
theorem dL_cost_29 : decode cL_cost 29 = .ok (.iload_n 1, 1) := by decide +kernel
theorem dL_cost_30 : decode cL_cost 30 = .ok (.invokevirtual 189, 3) := by decide +kernel
theorem dL_cost_33 : decode cL_cost 33 = .ok (.aload_n 0, 1) := by decide +kernel
theorem dL_cost_34 : decode cL_cost 34 = .ok (.iload_n 1, 1) := by decide +kernel
theorem dL_cost_35 : decode cL_cost 35 = .ok (.invokevirtual 192, 3) := by decide +kernel
theorem dL_cost_38 : decode cL_cost 38 = .ok (.iadd, 1) := by decide +kernel
theorem dL_cost_39 : decode cL_cost 39 = .ok (.imul, 1) := by decide +kernel
theorem dL_cost_40 : decode cL_cost 40 = .ok (.iadd, 1) := by decide +kernel
theorem dL_cost_41 : decode cL_cost 41 = .ok (.ireturn, 1) := by decide +kernel
/-! BusLiftsLaw.cost(ILBusLiftsLaw$Call;)I -/
noncomputable def f_L_cost (τ : Sg) (v1 : Int32) (o2 : Nat) : Option (Int32 × Sg × Nat) := if v1 < 0 ∨ q_nn τ 0 ≤ (v1).toNatClampNeg then none else (bq (f_L_held τ v1) fun r1 τ2 => (bq (f_L_aboard τ2 v1) fun r3 τ4 => (some (((jabs ((τ 41 ((v1).toNatClampNeg) 0) - (τ 42 o2 0))) + ((τ 40 0 10) * (r1 + r3))), τ4, 0))))
set_option maxHeartbeats 4000000 in
set_option maxRecDepth 100000 in
theorem w_L_cost_0 {p : Program} {l : Launch} {e : Env} {s : State} {m : MethodId} {args : Array Value} {below : List Frame} {meth : Method} {c : Code} {G : Gx} {ad : Ad} {N : Nn} {X : Ex} {A : Nat → Prop} {res : Int32 × Sg} {n : Nat} (C : Cx p s m args meth c yL_cost.cls cL_cost 3 (Option.some FieldType.int) G) : ∀ (τ : Sg) (v1 : Int32) (o2 : Nat) (H : Heap) (locs : List Loc) (ls : Array Slot) (cells d : Nat), q_S G ad N X τ [] A s.heap H locs → lv_has ls 3 [(0, .ref (ad 40 0)), (1, .int v1), (2, .ref (ad 42 o2))] → (o2 < N.2.1) → f_L_cost τ v1 o2 = some (res.1, res.2, d) → cells + d = n → W p l e { frames := 4, cells := n, slots := 6 * n, locals := 77 } s m args below meth c H locs cells (6 * cells) (MQ below (k_Q (some (.int res.1)) (q_V G ad N res.2 A) A) args s n (6 * n) A) (F0 m 0 ls []) := by
  intro τ v1 o2 H locs ls cells d S hl ho2 hf hd
  unfold f_L_cost at hf
  refine lv_aload_n C.1 C.2.1 dL_cost_0 rfl (lv_at hl 0 rfl) ?_
  refine q_getR C S 40 0 50 0 rfl rfl rfl cf_11 0 (by decide) (qr_40_0 G τ 0) tw_4_96 dL_cost_1 ?_
  refine lv_iload_n C.1 C.2.1 dL_cost_4 rfl (lv_at hl 1 rfl) ?_
  obtain ⟨g_5, hf⟩ := gd hf
  have ob_5 := q_ltN S (Or.inl (by decide)) (q_glt g_5)
  refine q_get C S 0 (Or.inl (by decide)) (by decide) g_5 tw_5_199 ⟨(Nat.le_of_ble_eq_true rfl), (Nat.le_of_ble_eq_true rfl)⟩ (Nat.le_of_ble_eq_true rfl) hl.1 ⟨(show _ ≤ n from by omega), (show _ ≤ 6 * n from by omega)⟩ dL_cost_5 (fun H locs S => ?_)
  refine q_cast C S 41 ((v1).toNatClampNeg) rfl ob_5 "BusLiftsLaw$Car" (fun _ => Or.inl ⟨_, _, _, _, rfl, rfl⟩) tw_3_162 dL_cost_10 ?_
  refine q_getIN C S 41 ((v1).toNatClampNeg) rfl ob_5 cf_9 0 (by decide) (qi_41_0 G τ ((v1).toNatClampNeg)) (List.mem_of_getElem? (i := 11) rfl) dL_cost_13 ?_
  refine lv_aload_n C.1 C.2.1 dL_cost_16 rfl (lv_at hl 2 rfl) ?_
  refine q_getIN C S 42 o2 rfl ho2 cf_8 0 (by decide) (qi_42_0 G τ o2) (List.mem_of_getElem? (i := 27) rfl) dL_cost_17 ?_
  refine lv_isub C.1 C.2.1 dL_cost_20 ?_
  refine z_abs C hl.1 tw_6_114 (Nat.le_of_ble_eq_true rfl) (Nat.le_of_ble_eq_true rfl) ⟨(show _ ≤ n from by omega), (show _ ≤ 6 * n from by omega)⟩ dL_cost_21 ?_
  refine lv_aload_n C.1 C.2.1 dL_cost_24 rfl (lv_at hl 0 rfl) ?_
  refine q_getI C S 40 0 rfl rfl cf_11 10 (by decide) (qi_40_10 G τ 0) tw_4_106 dL_cost_25 ?_
  refine lv_aload_n C.1 C.2.1 dL_cost_28 rfl (lv_at hl 0 rfl) ?_
  refine lv_iload_n C.1 C.2.1 dL_cost_29 rfl (lv_at hl 1 rfl) ?_
  obtain ⟨r1, τ2, c_30, d_30, q_30, hf, e_30⟩ := bqb hf
  refine q_callV (τ' := τ2) (v := (some (.int r1))) C S [.int v1] rfl (fun ad' he => by have h := m_L_held l G ad' N τ v1 (r1, τ2) c_30 q_30 H.size; rw [he 40 0 rfl] at h; exact h) kv_L_held tw_6_75 ⟨(Nat.le_of_ble_eq_true rfl), (Nat.le_of_ble_eq_true rfl)⟩ rfl rfl (Nat.le_of_ble_eq_true rfl) hl.1 ⟨(show _ ≤ n from by omega), (show _ ≤ 6 * n from by omega)⟩ dL_cost_30 (fun H locs S => ?_)
  replace hd := q_hd2 hd e_30
  refine lv_aload_n C.1 C.2.1 dL_cost_33 rfl (lv_at hl 0 rfl) ?_
  refine lv_iload_n C.1 C.2.1 dL_cost_34 rfl (lv_at hl 1 rfl) ?_
  obtain ⟨r3, τ4, c_35, d_35, q_35, hf, e_35⟩ := bqb hf
  refine q_callV (τ' := τ4) (v := (some (.int r3))) C S [.int v1] rfl (fun ad' he => by have h := m_L_aboard l G ad' N τ2 v1 (r3, τ4) c_35 q_35 H.size; rw [he 40 0 rfl] at h; exact h) kv_L_aboard tw_6_79 ⟨(Nat.le_of_ble_eq_true rfl), (Nat.le_of_ble_eq_true rfl)⟩ rfl rfl (Nat.le_of_ble_eq_true rfl) hl.1 ⟨(show _ ≤ n from by omega), (show _ ≤ 6 * n from by omega)⟩ dL_cost_35 (fun H locs S => ?_)
  replace hd := q_hd2 hd e_35
  refine lv_iadd C.1 C.2.1 dL_cost_38 ?_
  refine lv_imul C.1 C.2.1 dL_cost_39 ?_
  refine lv_iadd C.1 C.2.1 dL_cost_40 ?_
  exact q_iretF C S hf hd dL_cost_41
theorem kv_L_cost : KV yL_cost cL_cost 3 (Option.some FieldType.int) 2 := ⟨tw_6_149, tw_6_148, tw_p_25, tw_1_0, by decide, by decide, by decide +kernel⟩
theorem m_L_cost (l : Launch) (G : Gx) (ad : Ad) (N : Nn) (τ : Sg) (v1 : Int32) (o2 : Nat) (res : Int32 × Sg) (n : Nat) (ho2 : o2 < N.2.1) (hf : f_L_cost τ v1 o2 = some (res.1, res.2, n)) (sz : Nat) : q_M l yL_cost cL_cost 3 (Option.some FieldType.int) 4 77 n G ad N τ sz [.ref (ad 40 0), .int v1, .ref (ad 42 o2)] (some (.int res.1)) res.2 := by
  refine q_begin (by decide +kernel) (Nat.le_of_ble_eq_true rfl) [(0, .ref (ad 40 0)), (1, .int v1), (2, .ref (ad 42 o2))] rfl (fun p e s m args below meth c ls C hz S hl => ?_)
  subst hz
  exact w_L_cost_0 C _ v1 o2 _ _ _ _ _ S hl ho2 hf (Nat.zero_add _)
