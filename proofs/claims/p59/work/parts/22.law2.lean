/-! the law: what it hears, decides, does -/
theorem dJ6_signum_0f7a4_0 : decode cJ6_signum_0f7a4 0 = .ok (.iload_n 0, 1) := by decide +kernel
theorem dJ6_signum_0f7a4_1 : decode cJ6_signum_0f7a4 1 = .ok (.bipush 31, 2) := by decide +kernel
theorem dJ6_signum_0f7a4_3 : decode cJ6_signum_0f7a4 3 = .ok (.ishr, 1) := by decide +kernel
theorem dJ6_signum_0f7a4_4 : decode cJ6_signum_0f7a4 4 = .ok (.iload_n 0, 1) := by decide +kernel
theorem dJ6_signum_0f7a4_5 : decode cJ6_signum_0f7a4 5 = .ok (.ineg, 1) := by decide +kernel
theorem dJ6_signum_0f7a4_6 : decode cJ6_signum_0f7a4 6 = .ok (.bipush 31, 2) := by decide +kernel
theorem dJ6_signum_0f7a4_8 : decode cJ6_signum_0f7a4 8 = .ok (.iushr, 1) := by decide +kernel
theorem dJ6_signum_0f7a4_9 : decode cJ6_signum_0f7a4 9 = .ok (.ior, 1) := by decide +kernel
theorem dJ6_signum_0f7a4_10 : decode cJ6_signum_0f7a4 10 = .ok (.ireturn, 1) := by decide +kernel
theorem kv_J6_signum_0f7a4 : KS yJ6_signum_0f7a4 cJ6_signum_0f7a4 1 (Option.some FieldType.int) 1 := ⟨tw_7_62, tw_7_61, tw_1_26, by decide, by decide, by decide +kernel⟩
def jsig (x : Int32) : Int32 := (x >>> ((31 : Int32) &&& 31)) ||| jush (-x) 31
set_option maxHeartbeats 4000000 in
set_option maxRecDepth 100000 in
theorem k_signum (l : Launch) (G : Gx) (x : Int32) (sz : Nat) : k_M l yJ6_signum_0f7a4 cJ6_signum_0f7a4 1 (Option.some FieldType.int) 0 0 0 0 G (fun H => True) sz [.int x] (some (.int (jsig x))) (fun H => H.size = sz) (fun q => False) := by
  refine k_begin (by decide +kernel) (Nat.le_of_ble_eq_true rfl) [(0, .int x)] rfl (fun p e s m args below meth c ls C hnm hsz hP hO hl => ?_)
  have S : va_S (fun q => False) s.heap s.heap [] := va_S.rf
  refine lv_iload_n C.1 C.2.1 dJ6_signum_0f7a4_0 rfl (lv_at hl 0 rfl) ?_
  refine lv_bipush (v := 31) C.1 C.2.1 dJ6_signum_0f7a4_1 (by decide) ?_
  refine lv_ishr C.1 C.2.1 dJ6_signum_0f7a4_3 ?_
  refine lv_iload_n C.1 C.2.1 dJ6_signum_0f7a4_4 rfl (lv_at hl 0 rfl) ?_
  refine lv_ineg C.1 C.2.1 dJ6_signum_0f7a4_5 ?_
  refine lv_bipush (v := 31) C.1 C.2.1 dJ6_signum_0f7a4_6 (by decide) ?_
  refine lv_iushr (v := jush (-x) 31) C.1 C.2.1 dJ6_signum_0f7a4_8 rfl ?_
  refine lv_ior C.1 C.2.1 dJ6_signum_0f7a4_9 ?_
  exact k_iret C S hsz (Nat.le_of_ble_eq_true rfl) (Nat.le_of_ble_eq_true rfl) dJ6_signum_0f7a4_10
theorem dL_bits_0 : decode cL_bits 0 = .ok (.iload_n 0, 1) := by decide +kernel
theorem dL_bits_1 : decode cL_bits 1 = .ok (.iload_n 1, 1) := by decide +kernel
theorem dL_bits_2 : decode cL_bits 2 = .ok (.iushr, 1) := by decide +kernel
theorem dL_bits_3 : decode cL_bits 3 = .ok (.iconst 1, 1) := by decide +kernel
theorem dL_bits_4 : decode cL_bits 4 = .ok (.iload_n 2, 1) := by decide +kernel
theorem dL_bits_5 : decode cL_bits 5 = .ok (.ishl, 1) := by decide +kernel
theorem dL_bits_6 : decode cL_bits 6 = .ok (.iconst 1, 1) := by decide +kernel
theorem dL_bits_7 : decode cL_bits 7 = .ok (.isub, 1) := by decide +kernel
theorem dL_bits_8 : decode cL_bits 8 = .ok (.iand, 1) := by decide +kernel
theorem dL_bits_9 : decode cL_bits 9 = .ok (.ireturn, 1) := by decide +kernel
theorem kv_L_bits : KS yL_bits cL_bits 3 (Option.some FieldType.int) 3 := ⟨tw_3_161, tw_3_160, tw_1_0, by decide, by decide, by decide +kernel⟩
def jbits (x y z : Int32) : Int32 := jush x y &&& ((1 <<< (z &&& 31)) - 1)
set_option maxHeartbeats 4000000 in
set_option maxRecDepth 100000 in
theorem k_bits (l : Launch) (G : Gx) (x y z : Int32) (sz : Nat) : k_M l yL_bits cL_bits 3 (Option.some FieldType.int) 0 0 0 0 G (fun H => True) sz [.int x, .int y, .int z] (some (.int (jbits x y z))) (fun H => H.size = sz) (fun q => False) := by
  refine k_begin (by decide +kernel) (Nat.le_of_ble_eq_true rfl) [(0, .int x), (1, .int y), (2, .int z)] rfl (fun p e s m args below meth c ls C hnm hsz hP hO hl => ?_)
  have S : va_S (fun q => False) s.heap s.heap [] := va_S.rf
  refine lv_iload_n C.1 C.2.1 dL_bits_0 rfl (lv_at hl 0 rfl) ?_
  refine lv_iload_n C.1 C.2.1 dL_bits_1 rfl (lv_at hl 1 rfl) ?_
  refine lv_iushr (v := jush x y) C.1 C.2.1 dL_bits_2 rfl ?_
  refine lv_iconst (v := 1) C.1 C.2.1 dL_bits_3 (by decide) ?_
  refine lv_iload_n C.1 C.2.1 dL_bits_4 rfl (lv_at hl 2 rfl) ?_
  refine lv_ishl C.1 C.2.1 dL_bits_5 ?_
  refine lv_iconst (v := 1) C.1 C.2.1 dL_bits_6 (by decide) ?_
  refine lv_isub C.1 C.2.1 dL_bits_7 ?_
  refine lv_iand C.1 C.2.1 dL_bits_8 ?_
  exact k_iret C S hsz (Nat.le_of_ble_eq_true rfl) (Nat.le_of_ble_eq_true rfl) dL_bits_9
section QK
variable {p : Program} {l : Launch} {e : Env} {R : Room} {s : State} {m : MethodId} {args : Array Value} {below : List Frame} {meth : Method} {c : Code} {H : Heap} {locs : List Loc} {cells slots : Nat} {Q : State → Prop}
variable {cc : ByteArray} {pc : Nat} {ls : Array Slot} {rest : List Value} {own : String} {nL : Nat} {ret : Option FieldType} {G : Gx} {ad : Ad} {N : Nn} {X : Ex} {τ : Sg} {its : List It} {A : Nat → Prop} {H0 : Heap}
theorem q_callK {y : MethodName} {bytes : ByteArray} {maxL n fr lo index : Nat} {ret2 : Option FieldType} {r : Int32} {st : List Value} (C : Cx p s m args meth c own cc nL ret G) (S : q_S G ad N X τ its A H0 H locs) (As : List Value)
    (hM : k_M l y bytes maxL ret2 fr lo 0 0 G (fun _ => True) H.size As (some (.int r)) (fun H1 => H1.size = H.size) (fun _ => False)) (kv : KS y bytes maxL ret2 n) (hl : Cond.methodLink own index y ∈ TT) (hR : fr + 1 ≤ R.frames ∧ 8 + (maxL + 11) + lo ≤ R.locals) (hn : As.length = n) (hst : st = As.reverse ++ rest) (hW8 : (rest.map fun v => v.category).sum ≤ 8) (hls : ls.size = nL) (hcs : cells ≤ R.cells ∧ slots ≤ R.slots)
    (hdg : decode cc pc = .ok (.invokestatic index, 3))
    (kk : ∀ (H1 : Heap) (locs1 : List Loc), q_S G ad N X τ its A H0 H1 locs1 → W p l e R s m args below meth c H1 locs1 cells slots Q (F0 m (pc + 3) ls (.int r :: rest))) : W p l e R s m args below meth c H locs cells slots Q (F0 m pc ls st) :=
  k_callS C S.2.1 S.O As hM rfl trivial kv hl hR hn hst hW8 hls hcs hdg (fun _ h => h.elim) (fun H1 locs1 hp hle ok S2 => kk H1 locs1 (S.keep hle (fun q hq => ok q hq id) S2))
end QK
theorem dL_isLost_0 : decode cL_isLost 0 = .ok (.aload_n 0, 1) := by decide +kernel
theorem dL_isLost_1 : decode cL_isLost 1 = .ok (.ldc 195, 2) := by decide +kernel
theorem dL_isLost_3 : decode cL_isLost 3 = .ok (.aload_n 0, 1) := by decide +kernel
theorem dL_isLost_4 : decode cL_isLost 4 = .ok (.getfield 79, 3) := by decide +kernel
theorem dL_isLost_7 : decode cL_isLost 7 = .ok (.imul, 1) := by decide +kernel
theorem dL_isLost_8 : decode cL_isLost 8 = .ok (.sipush 12345, 3) := by decide +kernel
theorem dL_isLost_11 : decode cL_isLost 11 = .ok (.iadd, 1) := by decide +kernel
theorem dL_isLost_12 : decode cL_isLost 12 = .ok (.putfield 79, 3) := by decide +kernel
theorem dL_isLost_15 : decode cL_isLost 15 = .ok (.aload_n 0, 1) := by decide +kernel
theorem dL_isLost_16 : decode cL_isLost 16 = .ok (.getfield 79, 3) := by decide +kernel
theorem dL_isLost_19 : decode cL_isLost 19 = .ok (.bipush 16, 2) := by decide +kernel
theorem dL_isLost_21 : decode cL_isLost 21 = .ok (.iushr, 1) := by decide +kernel
theorem dL_isLost_22 : decode cL_isLost 22 = .ok (.bipush 100, 2) := by decide +kernel
theorem dL_isLost_24 : decode cL_isLost 24 = .ok (.irem, 1) := by decide +kernel
theorem dL_isLost_25 : decode cL_isLost 25 = .ok (.aload_n 0, 1) := by decide +kernel
theorem dL_isLost_26 : decode cL_isLost 26 = .ok (.getfield 67, 3) := by decide +kernel
theorem dL_isLost_29 : decode cL_isLost 29 = .ok (.if_icmp .lt 49, 3) := by decide +kernel
theorem dL_isLost_32 : decode cL_isLost 32 = .ok (.iload_n 3, 1) := by decide +kernel
theorem dL_isLost_33 : decode cL_isLost 33 = .ok (.ifCond .lt 22, 3) := by decide +kernel
theorem dL_isLost_36 : decode cL_isLost 36 = .ok (.aload_n 0, 1) := by decide +kernel
theorem dL_isLost_37 : decode cL_isLost 37 = .ok (.getfield 30, 3) := by decide +kernel
theorem dL_isLost_40 : decode cL_isLost 40 = .ok (.iload_n 3, 1) := by decide +kernel
theorem dL_isLost_41 : decode cL_isLost 41 = .ok (.invokeinterface 179 2, 5) := by decide +kernel
theorem dL_isLost_46 : decode cL_isLost 46 = .ok (.checkcast 82, 3) := by decide +kernel
theorem dL_isLost_49 : decode cL_isLost 49 = .ok (.getfield 196, 3) := by decide +kernel
theorem dL_isLost_52 : decode cL_isLost 52 = .ok (.ifCond .ne 26, 3) := by decide +kernel
theorem dL_isLost_55 : decode cL_isLost 55 = .ok (.iload_n 2, 1) := by decide +kernel
theorem dL_isLost_56 : decode cL_isLost 56 = .ok (.ifCond .lt 26, 3) := by decide +kernel
theorem dL_isLost_59 : decode cL_isLost 59 = .ok (.aload_n 0, 1) := by decide +kernel
theorem dL_isLost_60 : decode cL_isLost 60 = .ok (.getfield 30, 3) := by decide +kernel
theorem dL_isLost_63 : decode cL_isLost 63 = .ok (.iload_n 2, 1) := by decide +kernel
theorem dL_isLost_64 : decode cL_isLost 64 = .ok (.invokeinterface 179 2, 5) := by decide +kernel
theorem dL_isLost_69 : decode cL_isLost 69 = .ok (.checkcast 82, 3) := by decide +kernel
theorem dL_isLost_72 : decode cL_isLost 72 = .ok (.getfield 196, 3) := by decide +kernel
theorem dL_isLost_75 : decode cL_isLost 75 = .ok (.ifCond .eq 7, 3) := by decide +kernel
theorem dL_isLost_78 : decode cL_isLost 78 = .ok (.iconst 1, 1) := by decide +kernel
theorem dL_isLost_79 : decode cL_isLost 79 = .ok (.goto 4, 3) := by decide +kernel
theorem dL_isLost_82 : decode cL_isLost 82 = .ok (.iconst 0, 1) := by decide +kernel
theorem dL_isLost_83 : decode cL_isLost 83 = .ok (.istore 4, 2) := by decide +kernel
theorem dL_isLost_85 : decode cL_isLost 85 = .ok (.aload_n 0, 1) := by decide +kernel
theorem dL_isLost_86 : decode cL_isLost 86 = .ok (.getfield 46, 3) := by decide +kernel
theorem dL_isLost_89 : decode cL_isLost 89 = .ok (.iload_n 1, 1) := by decide +kernel
theorem dL_isLost_90 : decode cL_isLost 90 = .ok (.dup2, 1) := by decide +kernel
theorem dL_isLost_91 : decode cL_isLost 91 = .ok (.iaload, 1) := by decide +kernel
theorem dL_isLost_92 : decode cL_isLost 92 = .ok (.iload 4, 2) := by decide +kernel
theorem dL_isLost_94 : decode cL_isLost 94 = .ok (.ifCond .eq 7, 3) := by decide +kernel
theorem dL_isLost_97 : decode cL_isLost 97 = .ok (.iconst 1, 1) := by decide +kernel
theorem dL_isLost_98 : decode cL_isLost 98 = .ok (.goto 4, 3) := by decide +kernel
theorem dL_isLost_101 : decode cL_isLost 101 = .ok (.iconst 0, 1) := by decide +kernel
theorem dL_isLost_102 : decode cL_isLost 102 = .ok (.iadd, 1) := by decide +kernel
theorem dL_isLost_103 : decode cL_isLost 103 = .ok (.iastore, 1) := by decide +kernel
theorem dL_isLost_104 : decode cL_isLost 104 = .ok (.iload 4, 2) := by decide +kernel
theorem dL_isLost_106 : decode cL_isLost 106 = .ok (.ireturn, 1) := by decide +kernel
/-! BusLiftsLaw.isLost(III)Z -/
noncomputable def f_L_isLost_102 (τ : Sg) (v4 : Int32) (v101 : Int32) (v102 : Int32) (v103 : Int32) : Option (Int32 × Sg × Nat) := if v101 < 0 ∨ 4 ≤ (v101).toNatClampNeg then none else (st (sup τ 47 0 (v101).toNatClampNeg (v102 + v103)) fun τ1 => (if ¬ (v4 = 0 ∨ v4 = 1) then none else (some (v4, τ1, 0))))
noncomputable def f_L_isLost_83 (τ : Sg) (v1 : Int32) (v100 : Int32) : Option (Int32 × Sg × Nat) := if v1 < 0 ∨ 4 ≤ (v1).toNatClampNeg then none else (if v100 = 0 then (f_L_isLost_102 τ v100 v1 (τ 47 0 (v1).toNatClampNeg) 0) else (f_L_isLost_102 τ v100 v1 (τ 47 0 (v1).toNatClampNeg) 1))
noncomputable def f_L_isLost_78 (τ : Sg) (v1 : Int32) : Option (Int32 × Sg × Nat) := f_L_isLost_83 τ v1 1
noncomputable def f_L_isLost_82 (τ : Sg) (v1 : Int32) : Option (Int32 × Sg × Nat) := f_L_isLost_83 τ v1 0
noncomputable def f_L_isLost_55 (τ : Sg) (v1 : Int32) (v2 : Int32) : Option (Int32 × Sg × Nat) := if v2 < 0 then (f_L_isLost_82 τ v1) else (if v2 < 0 ∨ q_nn τ 0 ≤ (v2).toNatClampNeg then none else (if (τ 41 ((v2).toNatClampNeg) 4) = 0 then (f_L_isLost_82 τ v1) else (f_L_isLost_78 τ v1)))
noncomputable def f_L_isLost (τ : Sg) (v1 : Int32) (v2 : Int32) (v3 : Int32) : Option (Int32 × Sg × Nat) := st (sup τ 40 0 13 ((1103515245 * (τ 40 0 13)) + 12345)) fun τ1 => (if (jrem (jush (τ1 40 0 13) 16) 100) < (τ1 40 0 8) then (f_L_isLost_78 τ1 v1) else (if v3 < 0 then (f_L_isLost_55 τ1 v1 v2) else (if v3 < 0 ∨ q_nn τ1 0 ≤ (v3).toNatClampNeg then none else (if (τ1 41 ((v3).toNatClampNeg) 4) = 0 then (f_L_isLost_55 τ1 v1 v2) else (f_L_isLost_78 τ1 v1)))))
set_option maxHeartbeats 4000000 in
set_option maxRecDepth 100000 in
theorem w_L_isLost_102 {p : Program} {l : Launch} {e : Env} {s : State} {m : MethodId} {args : Array Value} {below : List Frame} {meth : Method} {c : Code} {G : Gx} {ad : Ad} {N : Nn} {X : Ex} {A : Nat → Prop} {res : Int32 × Sg} {n : Nat} (C : Cx p s m args meth c yL_isLost.cls cL_isLost 5 (Option.some FieldType.boolean) G) : ∀ (τ : Sg) (v4 : Int32) (v101 : Int32) (v102 : Int32) (v103 : Int32) (H : Heap) (locs : List Loc) (ls : Array Slot) (cells d : Nat), q_S G ad N X τ [] A s.heap H locs → lv_has ls 5 [(4, .int v4)] → f_L_isLost_102 τ v4 v101 v102 v103 = some (res.1, res.2, d) → cells + d = n → W p l e { frames := 3, cells := n, slots := 6 * n, locals := 64 } s m args below meth c H locs cells (6 * cells) (MQ below (k_Q (some (.int res.1)) (q_V G ad N res.2 A) A) args s n (6 * n) A) (F0 m 102 ls [.int v103, .int v102, .int v101, .ref (ad 47 0)]) := by
  intro τ v4 v101 v102 v103 H locs ls cells d S hl hf hd
  unfold f_L_isLost_102 at hf
  refine lv_iadd C.1 C.2.1 dL_isLost_102 ?_
  obtain ⟨g_103, hf⟩ := gd hf
  obtain ⟨τ1, e_103, hf⟩ := stb hf
  refine q_iast C S 47 0 4 rfl rfl rfl (fun _ _ => rfl) g_103 dL_isLost_103 (fun H locs S => ?_)
  rw [← e_103] at S
  refine lv_iload C.1 C.2.1 dL_isLost_104 (lv_at hl 0 rfl) ?_
  obtain ⟨g_106, hf⟩ := gd hf
  exact q_zretF C S (nbz g_106).1 hf hd dL_isLost_106
set_option maxHeartbeats 4000000 in
set_option maxRecDepth 100000 in
theorem w_L_isLost_83 {p : Program} {l : Launch} {e : Env} {s : State} {m : MethodId} {args : Array Value} {below : List Frame} {meth : Method} {c : Code} {G : Gx} {ad : Ad} {N : Nn} {X : Ex} {A : Nat → Prop} {res : Int32 × Sg} {n : Nat} (C : Cx p s m args meth c yL_isLost.cls cL_isLost 5 (Option.some FieldType.boolean) G) : ∀ (τ : Sg) (v1 : Int32) (v100 : Int32) (H : Heap) (locs : List Loc) (ls : Array Slot) (cells d : Nat), q_S G ad N X τ [] A s.heap H locs → lv_has ls 5 [(0, .ref (ad 40 0)), (1, .int v1)] → f_L_isLost_83 τ v1 v100 = some (res.1, res.2, d) → cells + d = n → W p l e { frames := 3, cells := n, slots := 6 * n, locals := 64 } s m args below meth c H locs cells (6 * cells) (MQ below (k_Q (some (.int res.1)) (q_V G ad N res.2 A) A) args s n (6 * n) A) (F0 m 83 ls [.int v100]) := by
  intro τ v1 v100 H locs ls cells d S hl hf hd
  unfold f_L_isLost_83 at hf
  refine lv_istore (lv' := [(4, .int v100), (0, .ref (ad 40 0)), (1, .int v1)]) C.1 C.2.1 dL_isLost_83 hl (by decide) rfl (fun ls hl => ?_)
  refine lv_aload_n C.1 C.2.1 dL_isLost_85 rfl (lv_at hl 1 rfl) ?_
  refine q_getR C S 40 0 47 0 rfl rfl rfl cf_11 5 (by decide) (qr_40_5 G τ 0) tw_4_101 dL_isLost_86 ?_
  refine lv_iload_n C.1 C.2.1 dL_isLost_89 rfl (lv_at hl 2 rfl) ?_
  refine lv_dup2_11 C.1 C.2.1 dL_isLost_90 rfl rfl ?_
  obtain ⟨g_91, hf⟩ := gd hf
  refine q_iald C S 47 0 4 rfl rfl (fun _ => rfl) g_91 dL_isLost_91 ?_
  refine lv_iload C.1 C.2.1 dL_isLost_92 (lv_at hl 0 rfl) ?_
  refine lv_if_eq (tgt := 101) C.1 C.2.1 dL_isLost_94 (by decide) (fun c_94 => ?_) (fun c_94 => ?_)
  · rw [if_pos c_94] at hf
    refine lv_iconst (v := 0) C.1 C.2.1 dL_isLost_101 (by decide) ?_
    exact w_L_isLost_102 C _ v100 v1 (τ 47 0 (v1).toNatClampNeg) 0 _ _ _ _ _ S (lv_sub hl [0] rfl) hf hd
  · rw [if_neg c_94] at hf
    refine lv_iconst (v := 1) C.1 C.2.1 dL_isLost_97 (by decide) ?_
    refine lv_goto (tgt := 102) C.1 C.2.1 dL_isLost_98 (by decide) ?_
    exact w_L_isLost_102 C _ v100 v1 (τ 47 0 (v1).toNatClampNeg) 1 _ _ _ _ _ S (lv_sub hl [0] rfl) hf hd
set_option maxHeartbeats 4000000 in
set_option maxRecDepth 100000 in
theorem w_L_isLost_78 {p : Program} {l : Launch} {e : Env} {s : State} {m : MethodId} {args : Array Value} {below : List Frame} {meth : Method} {c : Code} {G : Gx} {ad : Ad} {N : Nn} {X : Ex} {A : Nat → Prop} {res : Int32 × Sg} {n : Nat} (C : Cx p s m args meth c yL_isLost.cls cL_isLost 5 (Option.some FieldType.boolean) G) : ∀ (τ : Sg) (v1 : Int32) (H : Heap) (locs : List Loc) (ls : Array Slot) (cells d : Nat), q_S G ad N X τ [] A s.heap H locs → lv_has ls 5 [(0, .ref (ad 40 0)), (1, .int v1)] → f_L_isLost_78 τ v1 = some (res.1, res.2, d) → cells + d = n → W p l e { frames := 3, cells := n, slots := 6 * n, locals := 64 } s m args below meth c H locs cells (6 * cells) (MQ below (k_Q (some (.int res.1)) (q_V G ad N res.2 A) A) args s n (6 * n) A) (F0 m 78 ls []) := by
  intro τ v1 H locs ls cells d S hl hf hd
  unfold f_L_isLost_78 at hf
  refine lv_iconst (v := 1) C.1 C.2.1 dL_isLost_78 (by decide) ?_
  refine lv_goto (tgt := 83) C.1 C.2.1 dL_isLost_79 (by decide) ?_
  exact w_L_isLost_83 C _ v1 1 _ _ _ _ _ S (lv_sub hl [0, 1] rfl) hf hd
set_option maxHeartbeats 4000000 in
set_option maxRecDepth 100000 in
theorem w_L_isLost_82 {p : Program} {l : Launch} {e : Env} {s : State} {m : MethodId} {args : Array Value} {below : List Frame} {meth : Method} {c : Code} {G : Gx} {ad : Ad} {N : Nn} {X : Ex} {A : Nat → Prop} {res : Int32 × Sg} {n : Nat} (C : Cx p s m args meth c yL_isLost.cls cL_isLost 5 (Option.some FieldType.boolean) G) : ∀ (τ : Sg) (v1 : Int32) (H : Heap) (locs : List Loc) (ls : Array Slot) (cells d : Nat), q_S G ad N X τ [] A s.heap H locs → lv_has ls 5 [(0, .ref (ad 40 0)), (1, .int v1)] → f_L_isLost_82 τ v1 = some (res.1, res.2, d) → cells + d = n → W p l e { frames := 3, cells := n, slots := 6 * n, locals := 64 } s m args below meth c H locs cells (6 * cells) (MQ below (k_Q (some (.int res.1)) (q_V G ad N res.2 A) A) args s n (6 * n) A) (F0 m 82 ls []) := by
  intro τ v1 H locs ls cells d S hl hf hd
  unfold f_L_isLost_82 at hf
  refine lv_iconst (v := 0) C.1 C.2.1 dL_isLost_82 (by decide) ?_
  exact w_L_isLost_83 C _ v1 0 _ _ _ _ _ S (lv_sub hl [0, 1] rfl) hf hd
set_option maxHeartbeats 4000000 in
set_option maxRecDepth 100000 in
theorem w_L_isLost_55 {p : Program} {l : Launch} {e : Env} {s : State} {m : MethodId} {args : Array Value} {below : List Frame} {meth : Method} {c : Code} {G : Gx} {ad : Ad} {N : Nn} {X : Ex} {A : Nat → Prop} {res : Int32 × Sg} {n : Nat} (C : Cx p s m args meth c yL_isLost.cls cL_isLost 5 (Option.some FieldType.boolean) G) : ∀ (τ : Sg) (v1 : Int32) (v2 : Int32) (H : Heap) (locs : List Loc) (ls : Array Slot) (cells d : Nat), q_S G ad N X τ [] A s.heap H locs → lv_has ls 5 [(0, .ref (ad 40 0)), (1, .int v1), (2, .int v2)] → f_L_isLost_55 τ v1 v2 = some (res.1, res.2, d) → cells + d = n → W p l e { frames := 3, cells := n, slots := 6 * n, locals := 64 } s m args below meth c H locs cells (6 * cells) (MQ below (k_Q (some (.int res.1)) (q_V G ad N res.2 A) A) args s n (6 * n) A) (F0 m 55 ls []) := by
  intro τ v1 v2 H locs ls cells d S hl hf hd
  unfold f_L_isLost_55 at hf
  refine lv_iload_n C.1 C.2.1 dL_isLost_55 rfl (lv_at hl 2 rfl) ?_
  refine lv_if_lt (tgt := 82) C.1 C.2.1 dL_isLost_56 (by decide) (fun c_56 => ?_) (fun c_56 => ?_)
  · rw [if_pos c_56] at hf
    exact w_L_isLost_82 C _ v1 _ _ _ _ _ S (lv_sub hl [0, 1] rfl) hf hd
  · rw [if_neg c_56] at hf
    refine lv_aload_n C.1 C.2.1 dL_isLost_59 rfl (lv_at hl 0 rfl) ?_
    refine q_getR C S 40 0 50 0 rfl rfl rfl cf_11 0 (by decide) (qr_40_0 G τ 0) tw_4_96 dL_isLost_60 ?_
    refine lv_iload_n C.1 C.2.1 dL_isLost_63 rfl (lv_at hl 2 rfl) ?_
    obtain ⟨g_64, hf⟩ := gd hf
    have ob_64 := q_ltN S (Or.inl (by decide)) (q_glt g_64)
    refine q_get C S 0 (Or.inl (by decide)) (by decide) g_64 tw_5_199 ⟨(Nat.le_of_ble_eq_true rfl), (Nat.le_of_ble_eq_true rfl)⟩ (Nat.le_of_ble_eq_true rfl) hl.1 ⟨(show _ ≤ n from by omega), (show _ ≤ 6 * n from by omega)⟩ dL_isLost_64 (fun H locs S => ?_)
    refine q_cast C S 41 ((v2).toNatClampNeg) rfl ob_64 "BusLiftsLaw$Car" (fun _ => Or.inl ⟨_, _, _, _, rfl, rfl⟩) tw_3_162 dL_isLost_69 ?_
    refine q_getIN C S 41 ((v2).toNatClampNeg) rfl ob_64 cf_9 7 (by decide) (qi_41_7 G τ ((v2).toNatClampNeg)) (List.mem_of_getElem? (i := 18) rfl) dL_isLost_72 ?_
    refine lv_if_eq (tgt := 82) C.1 C.2.1 dL_isLost_75 (by decide) (fun c_75 => ?_) (fun c_75 => ?_)
    · rw [if_pos c_75] at hf
      exact w_L_isLost_82 C _ v1 _ _ _ _ _ S (lv_sub hl [0, 1] rfl) hf hd
    · rw [if_neg c_75] at hf
      exact w_L_isLost_78 C _ v1 _ _ _ _ _ S (lv_sub hl [0, 1] rfl) hf hd
set_option maxHeartbeats 4000000 in
set_option maxRecDepth 100000 in
theorem w_L_isLost_0 {p : Program} {l : Launch} {e : Env} {s : State} {m : MethodId} {args : Array Value} {below : List Frame} {meth : Method} {c : Code} {G : Gx} {ad : Ad} {N : Nn} {X : Ex} {A : Nat → Prop} {res : Int32 × Sg} {n : Nat} (C : Cx p s m args meth c yL_isLost.cls cL_isLost 5 (Option.some FieldType.boolean) G) : ∀ (τ : Sg) (v1 : Int32) (v2 : Int32) (v3 : Int32) (H : Heap) (locs : List Loc) (ls : Array Slot) (cells d : Nat), q_S G ad N X τ [] A s.heap H locs → lv_has ls 5 [(0, .ref (ad 40 0)), (1, .int v1), (2, .int v2), (3, .int v3)] → f_L_isLost τ v1 v2 v3 = some (res.1, res.2, d) → cells + d = n → W p l e { frames := 3, cells := n, slots := 6 * n, locals := 64 } s m args below meth c H locs cells (6 * cells) (MQ below (k_Q (some (.int res.1)) (q_V G ad N res.2 A) A) args s n (6 * n) A) (F0 m 0 ls []) := by
  intro τ v1 v2 v3 H locs ls cells d S hl hf hd
  unfold f_L_isLost at hf
  refine lv_aload_n C.1 C.2.1 dL_isLost_0 rfl (lv_at hl 0 rfl) ?_
  refine z_ldc (v := 1103515245) C tw_7_47 dL_isLost_1 ?_
  refine lv_aload_n C.1 C.2.1 dL_isLost_3 rfl (lv_at hl 0 rfl) ?_
  refine q_getI C S 40 0 rfl rfl cf_11 13 (by decide) (qi_40_13 G τ 0) tw_4_109 dL_isLost_4 ?_
  refine lv_imul C.1 C.2.1 dL_isLost_7 ?_
  refine lv_sipush (v := 12345) C.1 C.2.1 dL_isLost_8 (by decide) ?_
  refine lv_iadd C.1 C.2.1 dL_isLost_11 ?_
  obtain ⟨τ1, e_12, hf⟩ := stb hf
  refine q_putI C S 40 0 13 rfl rfl rfl cf_11 13 (by decide) (qp_40_13 G τ 0 _) rfl rfl rfl tw_4_109 dL_isLost_12 (fun H locs S => ?_)
  rw [← e_12] at S
  refine lv_aload_n C.1 C.2.1 dL_isLost_15 rfl (lv_at hl 0 rfl) ?_
  refine q_getI C S 40 0 rfl rfl cf_11 13 (by decide) (qi_40_13 G τ1 0) tw_4_109 dL_isLost_16 ?_
  refine lv_bipush (v := 16) C.1 C.2.1 dL_isLost_19 (by decide) ?_
  refine lv_iushr (v := (jush (τ1 40 0 13) 16)) C.1 C.2.1 dL_isLost_21 rfl ?_
  refine lv_bipush (v := 100) C.1 C.2.1 dL_isLost_22 (by decide) ?_
  refine lv_irem C.1 C.2.1 dL_isLost_24 (by decide) ?_
  show W _ _ _ _ _ _ _ _ _ _ _ _ _ _ _ (F0 m _ ls (.int (jrem (jush (τ1 40 0 13) 16) 100) :: _))
  refine lv_aload_n C.1 C.2.1 dL_isLost_25 rfl (lv_at hl 0 rfl) ?_
  refine q_getI C S 40 0 rfl rfl cf_11 8 (by decide) (qi_40_8 G τ1 0) tw_4_104 dL_isLost_26 ?_
  refine lv_icmp_lt (tgt := 78) C.1 C.2.1 dL_isLost_29 (by decide) (fun c_29 => ?_) (fun c_29 => ?_)
  · rw [if_pos c_29] at hf
    exact w_L_isLost_78 C _ v1 _ _ _ _ _ S (lv_sub hl [0, 1] rfl) hf hd
  · rw [if_neg c_29] at hf
    refine lv_iload_n C.1 C.2.1 dL_isLost_32 rfl (lv_at hl 3 rfl) ?_
    refine lv_if_lt (tgt := 55) C.1 C.2.1 dL_isLost_33 (by decide) (fun c_33 => ?_) (fun c_33 => ?_)
    · rw [if_pos c_33] at hf
      exact w_L_isLost_55 C _ v1 v2 _ _ _ _ _ S (lv_sub hl [0, 1, 2] rfl) hf hd
    · rw [if_neg c_33] at hf
      refine lv_aload_n C.1 C.2.1 dL_isLost_36 rfl (lv_at hl 0 rfl) ?_
      refine q_getR C S 40 0 50 0 rfl rfl rfl cf_11 0 (by decide) (qr_40_0 G τ1 0) tw_4_96 dL_isLost_37 ?_
      refine lv_iload_n C.1 C.2.1 dL_isLost_40 rfl (lv_at hl 3 rfl) ?_
      obtain ⟨g_41, hf⟩ := gd hf
      have ob_41 := q_ltN S (Or.inl (by decide)) (q_glt g_41)
      refine q_get C S 0 (Or.inl (by decide)) (by decide) g_41 tw_5_199 ⟨(Nat.le_of_ble_eq_true rfl), (Nat.le_of_ble_eq_true rfl)⟩ (Nat.le_of_ble_eq_true rfl) hl.1 ⟨(show _ ≤ n from by omega), (show _ ≤ 6 * n from by omega)⟩ dL_isLost_41 (fun H locs S => ?_)
      refine q_cast C S 41 ((v3).toNatClampNeg) rfl ob_41 "BusLiftsLaw$Car" (fun _ => Or.inl ⟨_, _, _, _, rfl, rfl⟩) tw_3_162 dL_isLost_46 ?_
      refine q_getIN C S 41 ((v3).toNatClampNeg) rfl ob_41 cf_9 7 (by decide) (qi_41_7 G τ1 ((v3).toNatClampNeg)) (List.mem_of_getElem? (i := 18) rfl) dL_isLost_49 ?_
      refine lv_if_ne (tgt := 78) C.1 C.2.1 dL_isLost_52 (by decide) (fun c_52 => ?_) (fun c_52 => ?_)
      · rw [if_neg c_52] at hf
        exact w_L_isLost_78 C _ v1 _ _ _ _ _ S (lv_sub hl [0, 1] rfl) hf hd
      · rw [if_pos c_52] at hf
        exact w_L_isLost_55 C _ v1 v2 _ _ _ _ _ S (lv_sub hl [0, 1, 2] rfl) hf hd
theorem kv_L_isLost : KV yL_isLost cL_isLost 5 (Option.some FieldType.boolean) 3 := ⟨tw_7_46, tw_7_45, tw_p_33, tw_1_0, by decide, by decide, by decide +kernel⟩
theorem m_L_isLost (l : Launch) (G : Gx) (ad : Ad) (N : Nn) (τ : Sg) (v1 : Int32) (v2 : Int32) (v3 : Int32) (res : Int32 × Sg) (n : Nat) (hf : f_L_isLost τ v1 v2 v3 = some (res.1, res.2, n)) (sz : Nat) : q_M l yL_isLost cL_isLost 5 (Option.some FieldType.boolean) 3 64 n G ad N τ sz [.ref (ad 40 0), .int v1, .int v2, .int v3] (some (.int res.1)) res.2 := by
  refine q_begin (by decide +kernel) (Nat.le_of_ble_eq_true rfl) [(0, .ref (ad 40 0)), (1, .int v1), (2, .int v2), (3, .int v3)] rfl (fun p e s m args below meth c ls C hz S hl => ?_)
  subst hz
  exact w_L_isLost_0 C _ v1 v2 v3 _ _ _ _ _ S hl hf (Nat.zero_add _)

theorem dL_hear_0 : decode cL_hear 0 = .ok (.aload_n 0, 1) := by decide +kernel
theorem dL_hear_1 : decode cL_hear 1 = .ok (.getfield 36, 3) := by decide +kernel
theorem dL_hear_4 : decode cL_hear 4 = .ok (.aload_n 2, 1) := by decide +kernel
theorem dL_hear_5 : decode cL_hear 5 = .ok (.iconst 1, 1) := by decide +kernel
theorem dL_hear_6 : decode cL_hear 6 = .ok (.iaload, 1) := by decide +kernel
theorem dL_hear_7 : decode cL_hear 7 = .ok (.invokeinterface 179 2, 5) := by decide +kernel
theorem dL_hear_12 : decode cL_hear 12 = .ok (.checkcast 97, 3) := by decide +kernel
theorem dL_hear_15 : decode cL_hear 15 = .ok (.astore_n 3, 1) := by decide +kernel
theorem dL_hear_16 : decode cL_hear 16 = .ok (.aload_n 3, 1) := by decide +kernel
theorem dL_hear_17 : decode cL_hear 17 = .ok (.getfield 163, 3) := by decide +kernel
theorem dL_hear_20 : decode cL_hear 20 = .ok (.iload_n 1, 1) := by decide +kernel
theorem dL_hear_21 : decode cL_hear 21 = .ok (.aaload, 1) := by decide +kernel
theorem dL_hear_22 : decode cL_hear 22 = .ok (.astore 4, 2) := by decide +kernel
theorem dL_hear_24 : decode cL_hear 24 = .ok (.aload_n 2, 1) := by decide +kernel
theorem dL_hear_25 : decode cL_hear 25 = .ok (.iconst 0, 1) := by decide +kernel
theorem dL_hear_26 : decode cL_hear 26 = .ok (.iaload, 1) := by decide +kernel
theorem dL_hear_27 : decode cL_hear 27 = .ok (.ifCond .ne 119, 3) := by decide +kernel
theorem dL_hear_30 : decode cL_hear 30 = .ok (.aload_n 0, 1) := by decide +kernel
theorem dL_hear_31 : decode cL_hear 31 = .ok (.getfield 30, 3) := by decide +kernel
theorem dL_hear_34 : decode cL_hear 34 = .ok (.iload_n 1, 1) := by decide +kernel
theorem dL_hear_35 : decode cL_hear 35 = .ok (.invokeinterface 179 2, 5) := by decide +kernel
theorem dL_hear_40 : decode cL_hear 40 = .ok (.checkcast 82, 3) := by decide +kernel
theorem dL_hear_43 : decode cL_hear 43 = .ok (.getfield 199, 3) := by decide +kernel
theorem dL_hear_46 : decode cL_hear 46 = .ok (.ifCond .eq 4, 3) := by decide +kernel
theorem dL_hear_49 : decode cL_hear 49 = .ok (.return_, 1) := by decide +kernel
theorem dL_hear_50 : decode cL_hear 50 = .ok (.aload 4, 2) := by decide +kernel
theorem dL_hear_52 : decode cL_hear 52 = .ok (.getfield 167, 3) := by decide +kernel
theorem dL_hear_55 : decode cL_hear 55 = .ok (.ifCond .eq 20, 3) := by decide +kernel
theorem dL_hear_58 : decode cL_hear 58 = .ok (.aload_n 0, 1) := by decide +kernel
theorem dL_hear_59 : decode cL_hear 59 = .ok (.iconst 2, 1) := by decide +kernel
theorem dL_hear_60 : decode cL_hear 60 = .ok (.aload_n 2, 1) := by decide +kernel
theorem dL_hear_61 : decode cL_hear 61 = .ok (.iconst 1, 1) := by decide +kernel
theorem dL_hear_62 : decode cL_hear 62 = .ok (.iaload, 1) := by decide +kernel
theorem dL_hear_63 : decode cL_hear 63 = .ok (.iload_n 1, 1) := by decide +kernel
theorem dL_hear_64 : decode cL_hear 64 = .ok (.aload 4, 2) := by decide +kernel
theorem dL_hear_66 : decode cL_hear 66 = .ok (.getfield 202, 3) := by decide +kernel
theorem dL_hear_69 : decode cL_hear 69 = .ok (.invokevirtual 205, 3) := by decide +kernel
theorem dL_hear_72 : decode cL_hear 72 = .ok (.goto 144, 3) := by decide +kernel
theorem dL_hear_75 : decode cL_hear 75 = .ok (.aload_n 3, 1) := by decide +kernel
theorem dL_hear_76 : decode cL_hear 76 = .ok (.getfield 173, 3) := by decide +kernel
theorem dL_hear_79 : decode cL_hear 79 = .ok (.iconst 1, 1) := by decide +kernel
theorem dL_hear_80 : decode cL_hear 80 = .ok (.if_icmp .ne 136, 3) := by decide +kernel
theorem dL_hear_83 : decode cL_hear 83 = .ok (.iconst 0, 1) := by decide +kernel
theorem dL_hear_84 : decode cL_hear 84 = .ok (.istore 5, 2) := by decide +kernel
theorem dL_hear_86 : decode cL_hear 86 = .ok (.iload 5, 2) := by decide +kernel
theorem dL_hear_88 : decode cL_hear 88 = .ok (.iconst 4, 1) := by decide +kernel
theorem dL_hear_89 : decode cL_hear 89 = .ok (.if_icmp .ge 18, 3) := by decide +kernel
theorem dL_hear_92 : decode cL_hear 92 = .ok (.aload 4, 2) := by decide +kernel
theorem dL_hear_94 : decode cL_hear 94 = .ok (.getfield 209, 3) := by decide +kernel
theorem dL_hear_97 : decode cL_hear 97 = .ok (.iload 5, 2) := by decide +kernel
theorem dL_hear_99 : decode cL_hear 99 = .ok (.iconst (-1), 1) := by decide +kernel
theorem dL_hear_100 : decode cL_hear 100 = .ok (.iastore, 1) := by decide +kernel
theorem dL_hear_101 : decode cL_hear 101 = .ok (.iinc 5 1, 3) := by decide +kernel
theorem dL_hear_104 : decode cL_hear 104 = .ok (.goto (-18), 3) := by decide +kernel
theorem dL_hear_107 : decode cL_hear 107 = .ok (.aload 4, 2) := by decide +kernel
theorem dL_hear_109 : decode cL_hear 109 = .ok (.aload_n 0, 1) := by decide +kernel
theorem dL_hear_110 : decode cL_hear 110 = .ok (.iload_n 1, 1) := by decide +kernel
theorem dL_hear_111 : decode cL_hear 111 = .ok (.aload_n 3, 1) := by decide +kernel
theorem dL_hear_112 : decode cL_hear 112 = .ok (.invokevirtual 212, 3) := by decide +kernel
theorem dL_hear_115 : decode cL_hear 115 = .ok (.putfield 202, 3) := by decide +kernel
theorem dL_hear_118 : decode cL_hear 118 = .ok (.aload 4, 2) := by decide +kernel
theorem dL_hear_120 : decode cL_hear 120 = .ok (.aload_n 0, 1) := by decide +kernel
theorem dL_hear_121 : decode cL_hear 121 = .ok (.getfield 215, 3) := by decide +kernel
theorem dL_hear_124 : decode cL_hear 124 = .ok (.iconst 2, 1) := by decide +kernel
theorem dL_hear_125 : decode cL_hear 125 = .ok (.iadd, 1) := by decide +kernel
theorem dL_hear_126 : decode cL_hear 126 = .ok (.putfield 218, 3) := by decide +kernel
theorem dL_hear_129 : decode cL_hear 129 = .ok (.aload_n 0, 1) := by decide +kernel
theorem dL_hear_130 : decode cL_hear 130 = .ok (.iconst 1, 1) := by decide +kernel
theorem dL_hear_131 : decode cL_hear 131 = .ok (.aload_n 2, 1) := by decide +kernel
theorem dL_hear_132 : decode cL_hear 132 = .ok (.iconst 1, 1) := by decide +kernel
theorem dL_hear_133 : decode cL_hear 133 = .ok (.iaload, 1) := by decide +kernel
theorem dL_hear_134 : decode cL_hear 134 = .ok (.iload_n 1, 1) := by decide +kernel
theorem dL_hear_135 : decode cL_hear 135 = .ok (.aload 4, 2) := by decide +kernel
theorem dL_hear_137 : decode cL_hear 137 = .ok (.getfield 202, 3) := by decide +kernel
theorem dL_hear_140 : decode cL_hear 140 = .ok (.invokevirtual 205, 3) := by decide +kernel
theorem dL_hear_143 : decode cL_hear 143 = .ok (.goto 73, 3) := by decide +kernel
theorem dL_hear_146 : decode cL_hear 146 = .ok (.aload_n 2, 1) := by decide +kernel
theorem dL_hear_147 : decode cL_hear 147 = .ok (.iconst 0, 1) := by decide +kernel
theorem dL_hear_148 : decode cL_hear 148 = .ok (.iaload, 1) := by decide +kernel
theorem dL_hear_149 : decode cL_hear 149 = .ok (.iconst 1, 1) := by decide +kernel
theorem dL_hear_150 : decode cL_hear 150 = .ok (.if_icmp .ne 18, 3) := by decide +kernel
theorem dL_hear_153 : decode cL_hear 153 = .ok (.aload 4, 2) := by decide +kernel
theorem dL_hear_155 : decode cL_hear 155 = .ok (.getfield 209, 3) := by decide +kernel
theorem dL_hear_158 : decode cL_hear 158 = .ok (.aload_n 2, 1) := by decide +kernel
theorem dL_hear_159 : decode cL_hear 159 = .ok (.iconst 2, 1) := by decide +kernel
theorem dL_hear_160 : decode cL_hear 160 = .ok (.iaload, 1) := by decide +kernel
theorem dL_hear_161 : decode cL_hear 161 = .ok (.aload_n 2, 1) := by decide +kernel
theorem dL_hear_162 : decode cL_hear 162 = .ok (.iconst 3, 1) := by decide +kernel
theorem dL_hear_163 : decode cL_hear 163 = .ok (.iaload, 1) := by decide +kernel
theorem dL_hear_164 : decode cL_hear 164 = .ok (.iastore, 1) := by decide +kernel
theorem dL_hear_165 : decode cL_hear 165 = .ok (.goto 51, 3) := by decide +kernel
theorem dL_hear_168 : decode cL_hear 168 = .ok (.aload 4, 2) := by decide +kernel
theorem dL_hear_170 : decode cL_hear 170 = .ok (.iconst (-1), 1) := by decide +kernel
theorem dL_hear_171 : decode cL_hear 171 = .ok (.putfield 218, 3) := by decide +kernel
theorem dL_hear_174 : decode cL_hear 174 = .ok (.aload_n 2, 1) := by decide +kernel
theorem dL_hear_175 : decode cL_hear 175 = .ok (.iconst 0, 1) := by decide +kernel
theorem dL_hear_176 : decode cL_hear 176 = .ok (.iaload, 1) := by decide +kernel
theorem dL_hear_177 : decode cL_hear 177 = .ok (.iconst 3, 1) := by decide +kernel
theorem dL_hear_178 : decode cL_hear 178 = .ok (.if_icmp .eq 32, 3) := by decide +kernel
theorem dL_hear_181 : decode cL_hear 181 = .ok (.aload_n 2, 1) := by decide +kernel
theorem dL_hear_182 : decode cL_hear 182 = .ok (.iconst 3, 1) := by decide +kernel
theorem dL_hear_183 : decode cL_hear 183 = .ok (.iaload, 1) := by decide +kernel
theorem dL_hear_184 : decode cL_hear 184 = .ok (.aload 4, 2) := by decide +kernel
theorem dL_hear_186 : decode cL_hear 186 = .ok (.getfield 202, 3) := by decide +kernel
theorem dL_hear_189 : decode cL_hear 189 = .ok (.if_icmp .lt 21, 3) := by decide +kernel
theorem dL_hear_192 : decode cL_hear 192 = .ok (.aload_n 2, 1) := by decide +kernel
theorem dL_hear_193 : decode cL_hear 193 = .ok (.iconst 3, 1) := by decide +kernel
theorem dL_hear_194 : decode cL_hear 194 = .ok (.iaload, 1) := by decide +kernel
theorem dL_hear_195 : decode cL_hear 195 = .ok (.aload 4, 2) := by decide +kernel
theorem dL_hear_197 : decode cL_hear 197 = .ok (.getfield 202, 3) := by decide +kernel
theorem dL_hear_200 : decode cL_hear 200 = .ok (.if_icmp .ne 16, 3) := by decide +kernel
theorem dL_hear_203 : decode cL_hear 203 = .ok (.aload_n 2, 1) := by decide +kernel
theorem dL_hear_204 : decode cL_hear 204 = .ok (.iconst 2, 1) := by decide +kernel
theorem dL_hear_205 : decode cL_hear 205 = .ok (.iaload, 1) := by decide +kernel
theorem dL_hear_206 : decode cL_hear 206 = .ok (.iload_n 1, 1) := by decide +kernel
theorem dL_hear_207 : decode cL_hear 207 = .ok (.if_icmp .ge 9, 3) := by decide +kernel
theorem dL_hear_210 : decode cL_hear 210 = .ok (.aload 4, 2) := by decide +kernel
theorem dL_hear_212 : decode cL_hear 212 = .ok (.iconst 0, 1) := by decide +kernel
theorem dL_hear_213 : decode cL_hear 213 = .ok (.putfield 167, 3) := by decide +kernel
theorem dL_hear_216 : decode cL_hear 216 = .ok (.return_, 1) := by decide +kernel
/-! BusLiftsLaw.hear(I[I)V -/
noncomputable def f_L_hear_216 (τ : Sg) : Option (Int32 × Sg × Nat) := some (0, τ, 0)
noncomputable def f_L_hear_210 (τ : Sg) (o4 : Nat) : Option (Int32 × Sg × Nat) := st (sup τ 43 o4 0 0) fun τ1 => (f_L_hear_216 τ1)
noncomputable def f_L_hear_107 (τ : Sg) (v1 : Int32) (o2 : Nat) (o3 : Nat) (o4 : Nat) : Option (Int32 × Sg × Nat) := bq (f_L_cost τ v1 o3) fun r1 τ2 => (st (sup τ2 43 o4 1 r1) fun τ3 => (st (sup τ3 43 o4 2 ((τ3 40 0 7) + 2)) fun τ4 => (bq (f_L_send τ4 1 (τ4 51 o2 ((1 : Int32)).toNatClampNeg) v1 (τ4 43 o4 1)) fun r5 τ6 => (f_L_hear_216 τ6))))
noncomputable def f_L_hear_86 : Nat → Sg → Int32 → Nat → Nat → Nat → Int32 → Option (Int32 × Sg × Nat)
  | 0, _, _, _, _, _, _ => none
  | n + 1, τ, v1, o2, o3, o4, v5 => if 4 ≤ v5 then (f_L_hear_107 τ v1 o2 o3 o4) else (if v5 < 0 ∨ 4 ≤ (v5).toNatClampNeg then none else (st (sup τ 44 o4 (v5).toNatClampNeg (-1)) fun τ1 => (f_L_hear_86 n τ1 v1 o2 o3 o4 (v5 + 1))))
theorem f_L_hear_86_s (n : Nat) (τ : Sg) (v1 : Int32) (o2 : Nat) (o3 : Nat) (o4 : Nat) (v5 : Int32) : f_L_hear_86 (n + 1) τ v1 o2 o3 o4 v5 = (if 4 ≤ v5 then (f_L_hear_107 τ v1 o2 o3 o4) else (if v5 < 0 ∨ 4 ≤ (v5).toNatClampNeg then none else (st (sup τ 44 o4 (v5).toNatClampNeg (-1)) fun τ1 => (f_L_hear_86 n τ1 v1 o2 o3 o4 (v5 + 1))))) := rfl
noncomputable def f_L_hear (τ : Sg) (v1 : Int32) (o2 : Nat) : Option (Int32 × Sg × Nat) := if (τ 51 o2 ((1 : Int32)).toNatClampNeg) < 0 ∨ q_nn τ 1 ≤ ((τ 51 o2 ((1 : Int32)).toNatClampNeg)).toNatClampNeg then none else (if v1 < 0 ∨ 4 ≤ (v1).toNatClampNeg then none else (if (τ 51 o2 ((0 : Int32)).toNatClampNeg) = 0 then (if v1 < 0 ∨ q_nn τ 0 ≤ (v1).toNatClampNeg then none else (if (τ 41 ((v1).toNatClampNeg) 3) = 0 then (if (τ 43 (4 * (((τ 51 o2 ((1 : Int32)).toNatClampNeg)).toNatClampNeg) + (v1).toNatClampNeg) 0) = 0 then (if (τ 42 (((τ 51 o2 ((1 : Int32)).toNatClampNeg)).toNatClampNeg) 3) = 1 then (f_L_hear_86 FU τ v1 o2 (((τ 51 o2 ((1 : Int32)).toNatClampNeg)).toNatClampNeg) (4 * (((τ 51 o2 ((1 : Int32)).toNatClampNeg)).toNatClampNeg) + (v1).toNatClampNeg) 0) else (f_L_hear_216 τ)) else (bq (f_L_send τ 2 (τ 51 o2 ((1 : Int32)).toNatClampNeg) v1 (τ 43 (4 * (((τ 51 o2 ((1 : Int32)).toNatClampNeg)).toNatClampNeg) + (v1).toNatClampNeg) 1)) fun r3 τ4 => (f_L_hear_216 τ4))) else (some (0, τ, 0)))) else (if (τ 51 o2 ((0 : Int32)).toNatClampNeg) = 1 then (if (τ 51 o2 ((2 : Int32)).toNatClampNeg) < 0 ∨ 4 ≤ ((τ 51 o2 ((2 : Int32)).toNatClampNeg)).toNatClampNeg then none else (st (sup τ 44 (4 * (((τ 51 o2 ((1 : Int32)).toNatClampNeg)).toNatClampNeg) + (v1).toNatClampNeg) ((τ 51 o2 ((2 : Int32)).toNatClampNeg)).toNatClampNeg (τ 51 o2 ((3 : Int32)).toNatClampNeg)) fun τ2 => (f_L_hear_216 τ2))) else (st (sup τ 43 (4 * (((τ 51 o2 ((1 : Int32)).toNatClampNeg)).toNatClampNeg) + (v1).toNatClampNeg) 2 (-1)) fun τ1 => (if (τ1 51 o2 ((0 : Int32)).toNatClampNeg) = 3 then (f_L_hear_210 τ1 (4 * (((τ 51 o2 ((1 : Int32)).toNatClampNeg)).toNatClampNeg) + (v1).toNatClampNeg)) else (if (τ1 51 o2 ((3 : Int32)).toNatClampNeg) < (τ1 43 (4 * (((τ 51 o2 ((1 : Int32)).toNatClampNeg)).toNatClampNeg) + (v1).toNatClampNeg) 1) then (f_L_hear_210 τ1 (4 * (((τ 51 o2 ((1 : Int32)).toNatClampNeg)).toNatClampNeg) + (v1).toNatClampNeg)) else (if (τ1 51 o2 ((3 : Int32)).toNatClampNeg) = (τ1 43 (4 * (((τ 51 o2 ((1 : Int32)).toNatClampNeg)).toNatClampNeg) + (v1).toNatClampNeg) 1) then (if v1 ≤ (τ1 51 o2 ((2 : Int32)).toNatClampNeg) then (f_L_hear_216 τ1) else (f_L_hear_210 τ1 (4 * (((τ 51 o2 ((1 : Int32)).toNatClampNeg)).toNatClampNeg) + (v1).toNatClampNeg))) else (f_L_hear_216 τ1))))))))
set_option maxHeartbeats 4000000 in
set_option maxRecDepth 100000 in
theorem w_L_hear_216 {p : Program} {l : Launch} {e : Env} {s : State} {m : MethodId} {args : Array Value} {below : List Frame} {meth : Method} {c : Code} {G : Gx} {ad : Ad} {N : Nn} {X : Ex} {A : Nat → Prop} {res : Int32 × Sg} {n : Nat} (C : Cx p s m args meth c yL_hear.cls cL_hear 6 none G) : ∀ (τ : Sg) (H : Heap) (locs : List Loc) (ls : Array Slot) (cells d : Nat), q_S G ad N X τ [] A s.heap H locs → lv_has ls 6 [] → f_L_hear_216 τ = some (res.1, res.2, d) → cells + d = n → W p l e { frames := 8, cells := n, slots := 6 * n, locals := 181 } s m args below meth c H locs cells (6 * cells) (MQ below (k_Q none (q_V G ad N res.2 A) A) args s n (6 * n) A) (F0 m 216 ls []) := by
  intro τ H locs ls cells d S hl hf hd
  unfold f_L_hear_216 at hf
  exact q_vretF C S hf hd dL_hear_216
set_option maxHeartbeats 4000000 in
set_option maxRecDepth 100000 in
theorem w_L_hear_210 {p : Program} {l : Launch} {e : Env} {s : State} {m : MethodId} {args : Array Value} {below : List Frame} {meth : Method} {c : Code} {G : Gx} {ad : Ad} {N : Nn} {X : Ex} {A : Nat → Prop} {res : Int32 × Sg} {n : Nat} (C : Cx p s m args meth c yL_hear.cls cL_hear 6 none G) : ∀ (τ : Sg) (o4 : Nat) (H : Heap) (locs : List Loc) (ls : Array Slot) (cells d : Nat), q_S G ad N X τ [] A s.heap H locs → lv_has ls 6 [(4, .ref (ad 43 o4))] → (o4 < 4 * N.2.1) → f_L_hear_210 τ o4 = some (res.1, res.2, d) → cells + d = n → W p l e { frames := 8, cells := n, slots := 6 * n, locals := 181 } s m args below meth c H locs cells (6 * cells) (MQ below (k_Q none (q_V G ad N res.2 A) A) args s n (6 * n) A) (F0 m 210 ls []) := by
  intro τ o4 H locs ls cells d S hl ho4 hf hd
  unfold f_L_hear_210 at hf
  refine lv_aload C.1 C.2.1 dL_hear_210 (lv_at hl 0 rfl) ?_
  refine lv_iconst (v := 0) C.1 C.2.1 dL_hear_212 (by decide) ?_
  obtain ⟨τ1, e_213, hf⟩ := stb hf
  refine q_putIN C S 43 o4 0 rfl rfl ho4 cf_10 0 (by decide) (qp_43_0 G τ o4 _) rfl rfl rfl (List.mem_of_getElem? (i := 22) rfl) dL_hear_213 (fun H locs S => ?_)
  rw [← e_213] at S
  exact w_L_hear_216 C _ _ _ _ _ _ S (lv_sub hl [] rfl) hf hd
set_option maxHeartbeats 4000000 in
set_option maxRecDepth 100000 in
theorem w_L_hear_107 {p : Program} {l : Launch} {e : Env} {s : State} {m : MethodId} {args : Array Value} {below : List Frame} {meth : Method} {c : Code} {G : Gx} {ad : Ad} {N : Nn} {X : Ex} {A : Nat → Prop} {res : Int32 × Sg} {n : Nat} (C : Cx p s m args meth c yL_hear.cls cL_hear 6 none G) : ∀ (τ : Sg) (v1 : Int32) (o2 : Nat) (o3 : Nat) (o4 : Nat) (H : Heap) (locs : List Loc) (ls : Array Slot) (cells d : Nat), q_S G ad N X τ [] A s.heap H locs → lv_has ls 6 [(0, .ref (ad 40 0)), (1, .int v1), (2, .ref (ad 51 o2)), (3, .ref (ad 42 o3)), (4, .ref (ad 43 o4))] → (o2 < N.2.2.1) → (o3 < N.2.1) → (o4 < 4 * N.2.1) → f_L_hear_107 τ v1 o2 o3 o4 = some (res.1, res.2, d) → cells + d = n → W p l e { frames := 8, cells := n, slots := 6 * n, locals := 181 } s m args below meth c H locs cells (6 * cells) (MQ below (k_Q none (q_V G ad N res.2 A) A) args s n (6 * n) A) (F0 m 107 ls []) := by
  intro τ v1 o2 o3 o4 H locs ls cells d S hl ho2 ho3 ho4 hf hd
  unfold f_L_hear_107 at hf
  refine lv_aload C.1 C.2.1 dL_hear_107 (lv_at hl 4 rfl) ?_
  refine lv_aload_n C.1 C.2.1 dL_hear_109 rfl (lv_at hl 0 rfl) ?_
  refine lv_iload_n C.1 C.2.1 dL_hear_110 rfl (lv_at hl 1 rfl) ?_
  refine lv_aload_n C.1 C.2.1 dL_hear_111 rfl (lv_at hl 3 rfl) ?_
  obtain ⟨r1, τ2, c_112, d_112, q_112, hf, e_112⟩ := bqb hf
  refine q_callV (τ' := τ2) (v := (some (.int r1))) C S [.int v1, .ref (ad 42 o3)] rfl (fun ad' he => by have h := m_L_cost l G ad' N τ v1 o3 (r1, τ2) c_112 ho3 q_112 H.size; rw [he 40 0 rfl, he 42 o3 rfl] at h; exact h) kv_L_cost tw_6_146 ⟨(Nat.le_of_ble_eq_true rfl), (Nat.le_of_ble_eq_true rfl)⟩ rfl rfl (Nat.le_of_ble_eq_true rfl) hl.1 ⟨(show _ ≤ n from by omega), (show _ ≤ 6 * n from by omega)⟩ dL_hear_112 (fun H locs S => ?_)
  replace hd := q_hd2 hd e_112
  obtain ⟨τ3, e_115, hf⟩ := stb hf
  refine q_putIN C S 43 o4 1 rfl rfl ho4 cf_10 1 (by decide) (qp_43_1 G τ2 o4 _) rfl rfl rfl (List.mem_of_getElem? (i := 23) rfl) dL_hear_115 (fun H locs S => ?_)
  rw [← e_115] at S
  refine lv_aload C.1 C.2.1 dL_hear_118 (lv_at hl 4 rfl) ?_
  refine lv_aload_n C.1 C.2.1 dL_hear_120 rfl (lv_at hl 0 rfl) ?_
  refine q_getI C S 40 0 rfl rfl cf_11 7 (by decide) (qi_40_7 G τ3 0) tw_4_103 dL_hear_121 ?_
  refine lv_iconst (v := 2) C.1 C.2.1 dL_hear_124 (by decide) ?_
  refine lv_iadd C.1 C.2.1 dL_hear_125 ?_
  obtain ⟨τ4, e_126, hf⟩ := stb hf
  refine q_putIN C S 43 o4 2 rfl rfl ho4 cf_10 2 (by decide) (qp_43_2 G τ3 o4 _) rfl rfl rfl (List.mem_of_getElem? (i := 24) rfl) dL_hear_126 (fun H locs S => ?_)
  rw [← e_126] at S
  refine lv_aload_n C.1 C.2.1 dL_hear_129 rfl (lv_at hl 0 rfl) ?_
  refine lv_iconst (v := 1) C.1 C.2.1 dL_hear_130 (by decide) ?_
  refine lv_aload_n C.1 C.2.1 dL_hear_131 rfl (lv_at hl 2 rfl) ?_
  refine lv_iconst (v := 1) C.1 C.2.1 dL_hear_132 (by decide) ?_
  refine q_iald C S 51 o2 4 rfl ho2 (fun _ => rfl) (i := 1) (by decide) dL_hear_133 ?_
  refine lv_iload_n C.1 C.2.1 dL_hear_134 rfl (lv_at hl 1 rfl) ?_
  refine lv_aload C.1 C.2.1 dL_hear_135 (lv_at hl 4 rfl) ?_
  refine q_getIN C S 43 o4 rfl ho4 cf_10 1 (by decide) (qi_43_1 G τ4 o4) (List.mem_of_getElem? (i := 23) rfl) dL_hear_137 ?_
  obtain ⟨r5, τ6, c_140, d_140, q_140, hf, e_140⟩ := bqb hf
  refine q_callV (τ' := τ6) (v := none) C S [.int 1, .int (τ4 51 o2 ((1 : Int32)).toNatClampNeg), .int v1, .int (τ4 43 o4 1)] rfl (fun ad' he => by have h := m_L_send l G ad' N τ4 1 (τ4 51 o2 ((1 : Int32)).toNatClampNeg) v1 (τ4 43 o4 1) (r5, τ6) c_140 q_140 H.size; rw [he 40 0 rfl] at h; exact h) kv_L_send tw_7_38 ⟨(Nat.le_of_ble_eq_true rfl), (Nat.le_of_ble_eq_true rfl)⟩ rfl rfl (Nat.le_of_ble_eq_true rfl) hl.1 ⟨(show _ ≤ n from by omega), (show _ ≤ 6 * n from by omega)⟩ dL_hear_140 (fun H locs S => ?_)
  replace hd := q_hd2 hd e_140
  refine lv_goto (tgt := 216) C.1 C.2.1 dL_hear_143 (by decide) ?_
  exact w_L_hear_216 C _ _ _ _ _ _ S (lv_sub hl [] rfl) hf hd
set_option maxHeartbeats 4000000 in
set_option maxRecDepth 100000 in
theorem w_L_hear_86 {p : Program} {l : Launch} {e : Env} {s : State} {m : MethodId} {args : Array Value} {below : List Frame} {meth : Method} {c : Code} {G : Gx} {ad : Ad} {N : Nn} {X : Ex} {A : Nat → Prop} {res : Int32 × Sg} {n : Nat} (C : Cx p s m args meth c yL_hear.cls cL_hear 6 none G) : ∀ n9 : Nat, ∀ (τ : Sg) (v1 : Int32) (o2 : Nat) (o3 : Nat) (o4 : Nat) (v5 : Int32) (H : Heap) (locs : List Loc) (ls : Array Slot) (cells d : Nat), q_S G ad N X τ [] A s.heap H locs → lv_has ls 6 [(0, .ref (ad 40 0)), (1, .int v1), (2, .ref (ad 51 o2)), (3, .ref (ad 42 o3)), (4, .ref (ad 43 o4)), (5, .int v5)] → (o2 < N.2.2.1) → (o3 < N.2.1) → (o4 < 4 * N.2.1) → f_L_hear_86 n9 τ v1 o2 o3 o4 v5 = some (res.1, res.2, d) → cells + d = n → W p l e { frames := 8, cells := n, slots := 6 * n, locals := 181 } s m args below meth c H locs cells (6 * cells) (MQ below (k_Q none (q_V G ad N res.2 A) A) args s n (6 * n) A) (F0 m 86 ls []) := by
  intro n9
  induction n9 with
  | zero => intro τ v1 o2 o3 o4 v5 H locs ls cells d S hl ho2 ho3 ho4 hf hd; cases hf
  | succ n9 ih =>
    intro τ v1 o2 o3 o4 v5 H locs ls cells d S hl ho2 ho3 ho4 hf hd
    rw [f_L_hear_86_s] at hf
    refine lv_iload C.1 C.2.1 dL_hear_86 (lv_at hl 5 rfl) ?_
    refine lv_iconst (v := 4) C.1 C.2.1 dL_hear_88 (by decide) ?_
    refine lv_icmp_ge (tgt := 107) C.1 C.2.1 dL_hear_89 (by decide) (fun c_89 => ?_) (fun c_89 => ?_)
    · rw [if_pos c_89] at hf
      exact w_L_hear_107 C _ v1 o2 o3 o4 _ _ _ _ _ S (lv_sub hl [0, 1, 2, 3, 4] rfl) ho2 ho3 ho4 hf hd
    · rw [if_neg c_89] at hf
      refine lv_aload C.1 C.2.1 dL_hear_92 (lv_at hl 4 rfl) ?_
      refine q_getRN C S 43 o4 44 o4 rfl rfl ho4 cf_10 4 (by decide) (qr_43_4 G τ o4) (List.mem_of_getElem? (i := 26) rfl) dL_hear_94 ?_
      refine lv_iload C.1 C.2.1 dL_hear_97 (lv_at hl 5 rfl) ?_
      refine lv_iconst (v := (-1)) C.1 C.2.1 dL_hear_99 (by decide) ?_
      obtain ⟨g_100, hf⟩ := gd hf
      obtain ⟨τ1, e_100, hf⟩ := stb hf
      refine q_iast C S 44 o4 4 rfl rfl ho4 (fun _ _ => rfl) g_100 dL_hear_100 (fun H locs S => ?_)
      rw [← e_100] at S
      refine lv_iinc (v := (v5 + 1)) (lv' := [(5, .int (v5 + 1)), (0, .ref (ad 40 0)), (1, .int v1), (2, .ref (ad 51 o2)), (3, .ref (ad 42 o3)), (4, .ref (ad 43 o4))]) C.1 C.2.1 dL_hear_101 hl (k := 5) rfl rfl (by decide) rfl (fun ls hl => ?_)
      refine lv_goto (tgt := 86) C.1 C.2.1 dL_hear_104 (by decide) ?_
      exact ih _ v1 o2 o3 o4 (v5 + 1) _ _ _ _ _ S (lv_sub hl [1, 2, 3, 4, 5, 0] rfl) ho2 ho3 ho4 hf hd
set_option maxHeartbeats 4000000 in
set_option maxRecDepth 100000 in
theorem w_L_hear_0 {p : Program} {l : Launch} {e : Env} {s : State} {m : MethodId} {args : Array Value} {below : List Frame} {meth : Method} {c : Code} {G : Gx} {ad : Ad} {N : Nn} {X : Ex} {A : Nat → Prop} {res : Int32 × Sg} {n : Nat} (C : Cx p s m args meth c yL_hear.cls cL_hear 6 none G) : ∀ (τ : Sg) (v1 : Int32) (o2 : Nat) (H : Heap) (locs : List Loc) (ls : Array Slot) (cells d : Nat), q_S G ad N X τ [] A s.heap H locs → lv_has ls 6 [(0, .ref (ad 40 0)), (1, .int v1), (2, .ref (ad 51 o2))] → (o2 < N.2.2.1) → f_L_hear τ v1 o2 = some (res.1, res.2, d) → cells + d = n → W p l e { frames := 8, cells := n, slots := 6 * n, locals := 181 } s m args below meth c H locs cells (6 * cells) (MQ below (k_Q none (q_V G ad N res.2 A) A) args s n (6 * n) A) (F0 m 0 ls []) := by
  intro τ v1 o2 H locs ls cells d S hl ho2 hf hd
  unfold f_L_hear at hf
  refine lv_aload_n C.1 C.2.1 dL_hear_0 rfl (lv_at hl 0 rfl) ?_
  refine q_getR C S 40 0 50 1 rfl rfl rfl cf_11 1 (by decide) (qr_40_1 G τ 0) tw_4_97 dL_hear_1 ?_
  refine lv_aload_n C.1 C.2.1 dL_hear_4 rfl (lv_at hl 2 rfl) ?_
  refine lv_iconst (v := 1) C.1 C.2.1 dL_hear_5 (by decide) ?_
  refine q_iald C S 51 o2 4 rfl ho2 (fun _ => rfl) (i := 1) (by decide) dL_hear_6 ?_
  obtain ⟨g_7, hf⟩ := gd hf
  have ob_7 := q_ltN S (Or.inl (by decide)) (q_glt g_7)
  refine q_get C S 1 (Or.inl (by decide)) (by decide) g_7 tw_5_199 ⟨(Nat.le_of_ble_eq_true rfl), (Nat.le_of_ble_eq_true rfl)⟩ (Nat.le_of_ble_eq_true rfl) hl.1 ⟨(show _ ≤ n from by omega), (show _ ≤ 6 * n from by omega)⟩ dL_hear_7 (fun H locs S => ?_)
  refine q_cast C S 42 (((τ 51 o2 ((1 : Int32)).toNatClampNeg)).toNatClampNeg) rfl ob_7 "BusLiftsLaw$Call" (fun _ => Or.inl ⟨_, _, _, _, rfl, rfl⟩) tw_4_19 dL_hear_12 ?_
  refine lv_astore_n (lv' := [(3, .ref (ad 42 (((τ 51 o2 ((1 : Int32)).toNatClampNeg)).toNatClampNeg))), (0, .ref (ad 40 0)), (1, .int v1), (2, .ref (ad 51 o2))]) C.1 C.2.1 dL_hear_15 rfl hl (by decide) rfl (fun ls hl => ?_)
  refine lv_aload_n C.1 C.2.1 dL_hear_16 rfl (lv_at hl 0 rfl) ?_
  refine q_getRN C S 42 (((τ 51 o2 ((1 : Int32)).toNatClampNeg)).toNatClampNeg) 45 (((τ 51 o2 ((1 : Int32)).toNatClampNeg)).toNatClampNeg) rfl rfl ob_7 cf_8 11 (by decide) (qr_42_11 G τ (((τ 51 o2 ((1 : Int32)).toNatClampNeg)).toNatClampNeg)) (List.mem_of_getElem? (i := 38) rfl) dL_hear_17 ?_
  refine lv_iload_n C.1 C.2.1 dL_hear_20 rfl (lv_at hl 2 rfl) ?_
  obtain ⟨g_21, hf⟩ := gd hf
  refine q_by C S (((τ 51 o2 ((1 : Int32)).toNatClampNeg)).toNatClampNeg) ob_7 g_21 dL_hear_21 ?_
  refine lv_astore (lv' := [(4, .ref (ad 43 (4 * (((τ 51 o2 ((1 : Int32)).toNatClampNeg)).toNatClampNeg) + (v1).toNatClampNeg))), (3, .ref (ad 42 (((τ 51 o2 ((1 : Int32)).toNatClampNeg)).toNatClampNeg))), (0, .ref (ad 40 0)), (1, .int v1), (2, .ref (ad 51 o2))]) C.1 C.2.1 dL_hear_22 hl (by decide) rfl (fun ls hl => ?_)
  refine lv_aload_n C.1 C.2.1 dL_hear_24 rfl (lv_at hl 4 rfl) ?_
  refine lv_iconst (v := 0) C.1 C.2.1 dL_hear_25 (by decide) ?_
  refine q_iald C S 51 o2 4 rfl ho2 (fun _ => rfl) (i := 0) (by decide) dL_hear_26 ?_
  refine lv_if_ne (tgt := 146) C.1 C.2.1 dL_hear_27 (by decide) (fun c_27 => ?_) (fun c_27 => ?_)
  · rw [if_neg c_27] at hf
    refine lv_aload_n C.1 C.2.1 dL_hear_146 rfl (lv_at hl 4 rfl) ?_
    refine lv_iconst (v := 0) C.1 C.2.1 dL_hear_147 (by decide) ?_
    refine q_iald C S 51 o2 4 rfl ho2 (fun _ => rfl) (i := 0) (by decide) dL_hear_148 ?_
    refine lv_iconst (v := 1) C.1 C.2.1 dL_hear_149 (by decide) ?_
    refine lv_icmp_ne (tgt := 168) C.1 C.2.1 dL_hear_150 (by decide) (fun c_150 => ?_) (fun c_150 => ?_)
    · rw [if_neg c_150] at hf
      refine lv_aload C.1 C.2.1 dL_hear_168 (lv_at hl 0 rfl) ?_
      refine lv_iconst (v := (-1)) C.1 C.2.1 dL_hear_170 (by decide) ?_
      obtain ⟨τ1, e_171, hf⟩ := stb hf
      refine q_putIN C S 43 (4 * (((τ 51 o2 ((1 : Int32)).toNatClampNeg)).toNatClampNeg) + (v1).toNatClampNeg) 2 rfl rfl (q_lt4 ob_7 g_21) cf_10 2 (by decide) (qp_43_2 G τ (4 * (((τ 51 o2 ((1 : Int32)).toNatClampNeg)).toNatClampNeg) + (v1).toNatClampNeg) _) rfl rfl rfl (List.mem_of_getElem? (i := 24) rfl) dL_hear_171 (fun H locs S => ?_)
      rw [← e_171] at S
      refine lv_aload_n C.1 C.2.1 dL_hear_174 rfl (lv_at hl 4 rfl) ?_
      refine lv_iconst (v := 0) C.1 C.2.1 dL_hear_175 (by decide) ?_
      refine q_iald C S 51 o2 4 rfl ho2 (fun _ => rfl) (i := 0) (by decide) dL_hear_176 ?_
      refine lv_iconst (v := 3) C.1 C.2.1 dL_hear_177 (by decide) ?_
      refine lv_icmp_eq (tgt := 210) C.1 C.2.1 dL_hear_178 (by decide) (fun c_178 => ?_) (fun c_178 => ?_)
      · rw [if_pos c_178] at hf
        exact w_L_hear_210 C _ (4 * (((τ 51 o2 ((1 : Int32)).toNatClampNeg)).toNatClampNeg) + (v1).toNatClampNeg) _ _ _ _ _ S (lv_sub hl [0] rfl) (q_lt4 ob_7 g_21) hf hd
      · rw [if_neg c_178] at hf
        refine lv_aload_n C.1 C.2.1 dL_hear_181 rfl (lv_at hl 4 rfl) ?_
        refine lv_iconst (v := 3) C.1 C.2.1 dL_hear_182 (by decide) ?_
        refine q_iald C S 51 o2 4 rfl ho2 (fun _ => rfl) (i := 3) (by decide) dL_hear_183 ?_
        refine lv_aload C.1 C.2.1 dL_hear_184 (lv_at hl 0 rfl) ?_
        refine q_getIN C S 43 (4 * (((τ 51 o2 ((1 : Int32)).toNatClampNeg)).toNatClampNeg) + (v1).toNatClampNeg) rfl (q_lt4 ob_7 g_21) cf_10 1 (by decide) (qi_43_1 G τ1 (4 * (((τ 51 o2 ((1 : Int32)).toNatClampNeg)).toNatClampNeg) + (v1).toNatClampNeg)) (List.mem_of_getElem? (i := 23) rfl) dL_hear_186 ?_
        refine lv_icmp_lt (tgt := 210) C.1 C.2.1 dL_hear_189 (by decide) (fun c_189 => ?_) (fun c_189 => ?_)
        · rw [if_pos c_189] at hf
          exact w_L_hear_210 C _ (4 * (((τ 51 o2 ((1 : Int32)).toNatClampNeg)).toNatClampNeg) + (v1).toNatClampNeg) _ _ _ _ _ S (lv_sub hl [0] rfl) (q_lt4 ob_7 g_21) hf hd
        · rw [if_neg c_189] at hf
          refine lv_aload_n C.1 C.2.1 dL_hear_192 rfl (lv_at hl 4 rfl) ?_
          refine lv_iconst (v := 3) C.1 C.2.1 dL_hear_193 (by decide) ?_
          refine q_iald C S 51 o2 4 rfl ho2 (fun _ => rfl) (i := 3) (by decide) dL_hear_194 ?_
          refine lv_aload C.1 C.2.1 dL_hear_195 (lv_at hl 0 rfl) ?_
          refine q_getIN C S 43 (4 * (((τ 51 o2 ((1 : Int32)).toNatClampNeg)).toNatClampNeg) + (v1).toNatClampNeg) rfl (q_lt4 ob_7 g_21) cf_10 1 (by decide) (qi_43_1 G τ1 (4 * (((τ 51 o2 ((1 : Int32)).toNatClampNeg)).toNatClampNeg) + (v1).toNatClampNeg)) (List.mem_of_getElem? (i := 23) rfl) dL_hear_197 ?_
          refine lv_icmp_ne (tgt := 216) C.1 C.2.1 dL_hear_200 (by decide) (fun c_200 => ?_) (fun c_200 => ?_)
          · rw [if_neg c_200] at hf
            exact w_L_hear_216 C _ _ _ _ _ _ S (lv_sub hl [] rfl) hf hd
          · rw [if_pos c_200] at hf
            refine lv_aload_n C.1 C.2.1 dL_hear_203 rfl (lv_at hl 4 rfl) ?_
            refine lv_iconst (v := 2) C.1 C.2.1 dL_hear_204 (by decide) ?_
            refine q_iald C S 51 o2 4 rfl ho2 (fun _ => rfl) (i := 2) (by decide) dL_hear_205 ?_
            refine lv_iload_n C.1 C.2.1 dL_hear_206 rfl (lv_at hl 3 rfl) ?_
            refine lv_icmp_ge (tgt := 216) C.1 C.2.1 dL_hear_207 (by decide) (fun c_207 => ?_) (fun c_207 => ?_)
            · rw [if_pos c_207] at hf
              exact w_L_hear_216 C _ _ _ _ _ _ S (lv_sub hl [] rfl) hf hd
            · rw [if_neg c_207] at hf
              exact w_L_hear_210 C _ (4 * (((τ 51 o2 ((1 : Int32)).toNatClampNeg)).toNatClampNeg) + (v1).toNatClampNeg) _ _ _ _ _ S (lv_sub hl [0] rfl) (q_lt4 ob_7 g_21) hf hd
    · rw [if_pos c_150] at hf
      refine lv_aload C.1 C.2.1 dL_hear_153 (lv_at hl 0 rfl) ?_
      refine q_getRN C S 43 (4 * (((τ 51 o2 ((1 : Int32)).toNatClampNeg)).toNatClampNeg) + (v1).toNatClampNeg) 44 (4 * (((τ 51 o2 ((1 : Int32)).toNatClampNeg)).toNatClampNeg) + (v1).toNatClampNeg) rfl rfl (q_lt4 ob_7 g_21) cf_10 4 (by decide) (qr_43_4 G τ (4 * (((τ 51 o2 ((1 : Int32)).toNatClampNeg)).toNatClampNeg) + (v1).toNatClampNeg)) (List.mem_of_getElem? (i := 26) rfl) dL_hear_155 ?_
      refine lv_aload_n C.1 C.2.1 dL_hear_158 rfl (lv_at hl 4 rfl) ?_
      refine lv_iconst (v := 2) C.1 C.2.1 dL_hear_159 (by decide) ?_
      refine q_iald C S 51 o2 4 rfl ho2 (fun _ => rfl) (i := 2) (by decide) dL_hear_160 ?_
      refine lv_aload_n C.1 C.2.1 dL_hear_161 rfl (lv_at hl 4 rfl) ?_
      refine lv_iconst (v := 3) C.1 C.2.1 dL_hear_162 (by decide) ?_
      refine q_iald C S 51 o2 4 rfl ho2 (fun _ => rfl) (i := 3) (by decide) dL_hear_163 ?_
      obtain ⟨g_164, hf⟩ := gd hf
      obtain ⟨τ2, e_164, hf⟩ := stb hf
      refine q_iast C S 44 (4 * (((τ 51 o2 ((1 : Int32)).toNatClampNeg)).toNatClampNeg) + (v1).toNatClampNeg) 4 rfl rfl (q_lt4 ob_7 g_21) (fun _ _ => rfl) g_164 dL_hear_164 (fun H locs S => ?_)
      rw [← e_164] at S
      refine lv_goto (tgt := 216) C.1 C.2.1 dL_hear_165 (by decide) ?_
      exact w_L_hear_216 C _ _ _ _ _ _ S (lv_sub hl [] rfl) hf hd
  · rw [if_pos c_27] at hf
    refine lv_aload_n C.1 C.2.1 dL_hear_30 rfl (lv_at hl 2 rfl) ?_
    refine q_getR C S 40 0 50 0 rfl rfl rfl cf_11 0 (by decide) (qr_40_0 G τ 0) tw_4_96 dL_hear_31 ?_
    refine lv_iload_n C.1 C.2.1 dL_hear_34 rfl (lv_at hl 3 rfl) ?_
    obtain ⟨g_35, hf⟩ := gd hf
    have ob_35 := q_ltN S (Or.inl (by decide)) (q_glt g_35)
    refine q_get C S 0 (Or.inl (by decide)) (by decide) g_35 tw_5_199 ⟨(Nat.le_of_ble_eq_true rfl), (Nat.le_of_ble_eq_true rfl)⟩ (Nat.le_of_ble_eq_true rfl) hl.1 ⟨(show _ ≤ n from by omega), (show _ ≤ 6 * n from by omega)⟩ dL_hear_35 (fun H locs S => ?_)
    refine q_cast C S 41 ((v1).toNatClampNeg) rfl ob_35 "BusLiftsLaw$Car" (fun _ => Or.inl ⟨_, _, _, _, rfl, rfl⟩) tw_3_162 dL_hear_40 ?_
    refine q_getIN C S 41 ((v1).toNatClampNeg) rfl ob_35 cf_9 6 (by decide) (qi_41_6 G τ ((v1).toNatClampNeg)) (List.mem_of_getElem? (i := 17) rfl) dL_hear_43 ?_
    refine lv_if_eq (tgt := 50) C.1 C.2.1 dL_hear_46 (by decide) (fun c_46 => ?_) (fun c_46 => ?_)
    · rw [if_pos c_46] at hf
      refine lv_aload C.1 C.2.1 dL_hear_50 (lv_at hl 0 rfl) ?_
      refine q_getIN C S 43 (4 * (((τ 51 o2 ((1 : Int32)).toNatClampNeg)).toNatClampNeg) + (v1).toNatClampNeg) rfl (q_lt4 ob_7 g_21) cf_10 0 (by decide) (qi_43_0 G τ (4 * (((τ 51 o2 ((1 : Int32)).toNatClampNeg)).toNatClampNeg) + (v1).toNatClampNeg)) (List.mem_of_getElem? (i := 22) rfl) dL_hear_52 ?_
      refine lv_if_eq (tgt := 75) C.1 C.2.1 dL_hear_55 (by decide) (fun c_55 => ?_) (fun c_55 => ?_)
      · rw [if_pos c_55] at hf
        refine lv_aload_n C.1 C.2.1 dL_hear_75 rfl (lv_at hl 1 rfl) ?_
        refine q_getIN C S 42 (((τ 51 o2 ((1 : Int32)).toNatClampNeg)).toNatClampNeg) rfl ob_7 cf_8 3 (by decide) (qi_42_3 G τ (((τ 51 o2 ((1 : Int32)).toNatClampNeg)).toNatClampNeg)) (List.mem_of_getElem? (i := 30) rfl) dL_hear_76 ?_
        refine lv_iconst (v := 1) C.1 C.2.1 dL_hear_79 (by decide) ?_
        refine lv_icmp_ne (tgt := 216) C.1 C.2.1 dL_hear_80 (by decide) (fun c_80 => ?_) (fun c_80 => ?_)
        · rw [if_neg c_80] at hf
          exact w_L_hear_216 C _ _ _ _ _ _ S (lv_sub hl [] rfl) hf hd
        · rw [if_pos c_80] at hf
          refine lv_iconst (v := 0) C.1 C.2.1 dL_hear_83 (by decide) ?_
          refine lv_istore (lv' := [(5, .int 0), (4, .ref (ad 43 (4 * (((τ 51 o2 ((1 : Int32)).toNatClampNeg)).toNatClampNeg) + (v1).toNatClampNeg))), (3, .ref (ad 42 (((τ 51 o2 ((1 : Int32)).toNatClampNeg)).toNatClampNeg))), (0, .ref (ad 40 0)), (1, .int v1), (2, .ref (ad 51 o2))]) C.1 C.2.1 dL_hear_84 hl (by decide) rfl (fun ls hl => ?_)
          exact w_L_hear_86 C FU _ v1 o2 (((τ 51 o2 ((1 : Int32)).toNatClampNeg)).toNatClampNeg) (4 * (((τ 51 o2 ((1 : Int32)).toNatClampNeg)).toNatClampNeg) + (v1).toNatClampNeg) 0 _ _ _ _ _ S (lv_sub hl [3, 4, 5, 2, 1, 0] rfl) ho2 ob_7 (q_lt4 ob_7 g_21) hf hd
      · rw [if_neg c_55] at hf
        refine lv_aload_n C.1 C.2.1 dL_hear_58 rfl (lv_at hl 2 rfl) ?_
        refine lv_iconst (v := 2) C.1 C.2.1 dL_hear_59 (by decide) ?_
        refine lv_aload_n C.1 C.2.1 dL_hear_60 rfl (lv_at hl 4 rfl) ?_
        refine lv_iconst (v := 1) C.1 C.2.1 dL_hear_61 (by decide) ?_
        refine q_iald C S 51 o2 4 rfl ho2 (fun _ => rfl) (i := 1) (by decide) dL_hear_62 ?_
        refine lv_iload_n C.1 C.2.1 dL_hear_63 rfl (lv_at hl 3 rfl) ?_
        refine lv_aload C.1 C.2.1 dL_hear_64 (lv_at hl 0 rfl) ?_
        refine q_getIN C S 43 (4 * (((τ 51 o2 ((1 : Int32)).toNatClampNeg)).toNatClampNeg) + (v1).toNatClampNeg) rfl (q_lt4 ob_7 g_21) cf_10 1 (by decide) (qi_43_1 G τ (4 * (((τ 51 o2 ((1 : Int32)).toNatClampNeg)).toNatClampNeg) + (v1).toNatClampNeg)) (List.mem_of_getElem? (i := 23) rfl) dL_hear_66 ?_
        obtain ⟨r3, τ4, c_69, d_69, q_69, hf, e_69⟩ := bqb hf
        refine q_callV (τ' := τ4) (v := none) C S [.int 2, .int (τ 51 o2 ((1 : Int32)).toNatClampNeg), .int v1, .int (τ 43 (4 * (((τ 51 o2 ((1 : Int32)).toNatClampNeg)).toNatClampNeg) + (v1).toNatClampNeg) 1)] rfl (fun ad' he => by have h := m_L_send l G ad' N τ 2 (τ 51 o2 ((1 : Int32)).toNatClampNeg) v1 (τ 43 (4 * (((τ 51 o2 ((1 : Int32)).toNatClampNeg)).toNatClampNeg) + (v1).toNatClampNeg) 1) (r3, τ4) c_69 q_69 H.size; rw [he 40 0 rfl] at h; exact h) kv_L_send tw_7_38 ⟨(Nat.le_of_ble_eq_true rfl), (Nat.le_of_ble_eq_true rfl)⟩ rfl rfl (Nat.le_of_ble_eq_true rfl) hl.1 ⟨(show _ ≤ n from by omega), (show _ ≤ 6 * n from by omega)⟩ dL_hear_69 (fun H locs S => ?_)
        replace hd := q_hd2 hd e_69
        refine lv_goto (tgt := 216) C.1 C.2.1 dL_hear_72 (by decide) ?_
        exact w_L_hear_216 C _ _ _ _ _ _ S (lv_sub hl [] rfl) hf hd
    · rw [if_neg c_46] at hf
      exact q_vretF C S hf hd dL_hear_49
theorem kv_L_hear : KV yL_hear cL_hear 6 none 2 := ⟨tw_7_51, tw_7_50, tw_p_34, tw_1_0, by decide, by decide, by decide +kernel⟩
theorem m_L_hear (l : Launch) (G : Gx) (ad : Ad) (N : Nn) (τ : Sg) (v1 : Int32) (o2 : Nat) (res : Int32 × Sg) (n : Nat) (ho2 : o2 < N.2.2.1) (hf : f_L_hear τ v1 o2 = some (res.1, res.2, n)) (sz : Nat) : q_M l yL_hear cL_hear 6 none 8 181 n G ad N τ sz [.ref (ad 40 0), .int v1, .ref (ad 51 o2)] none res.2 := by
  refine q_begin (by decide +kernel) (Nat.le_of_ble_eq_true rfl) [(0, .ref (ad 40 0)), (1, .int v1), (2, .ref (ad 51 o2))] rfl (fun p e s m args below meth c ls C hz S hl => ?_)
  subst hz
  exact w_L_hear_0 C _ v1 o2 _ _ _ _ _ S hl ho2 hf (Nat.zero_add _)

theorem dL_announce_0 : decode cL_announce 0 = .ok (.aload_n 0, 1) := by decide +kernel
theorem dL_announce_1 : decode cL_announce 1 = .ok (.getfield 36, 3) := by decide +kernel
theorem dL_announce_4 : decode cL_announce 4 = .ok (.iload_n 1, 1) := by decide +kernel
theorem dL_announce_5 : decode cL_announce 5 = .ok (.invokeinterface 179 2, 5) := by decide +kernel
theorem dL_announce_10 : decode cL_announce 10 = .ok (.checkcast 97, 3) := by decide +kernel
theorem dL_announce_13 : decode cL_announce 13 = .ok (.astore_n 2, 1) := by decide +kernel
theorem dL_announce_14 : decode cL_announce 14 = .ok (.aload_n 2, 1) := by decide +kernel
theorem dL_announce_15 : decode cL_announce 15 = .ok (.dup, 1) := by decide +kernel
theorem dL_announce_16 : decode cL_announce 16 = .ok (.getfield 221, 3) := by decide +kernel
theorem dL_announce_19 : decode cL_announce 19 = .ok (.iconst 1, 1) := by decide +kernel
theorem dL_announce_20 : decode cL_announce 20 = .ok (.iadd, 1) := by decide +kernel
theorem dL_announce_21 : decode cL_announce 21 = .ok (.putfield 221, 3) := by decide +kernel
theorem dL_announce_24 : decode cL_announce 24 = .ok (.aload_n 2, 1) := by decide +kernel
theorem dL_announce_25 : decode cL_announce 25 = .ok (.aload_n 0, 1) := by decide +kernel
theorem dL_announce_26 : decode cL_announce 26 = .ok (.getfield 215, 3) := by decide +kernel
theorem dL_announce_29 : decode cL_announce 29 = .ok (.putfield 224, 3) := by decide +kernel
theorem dL_announce_32 : decode cL_announce 32 = .ok (.aload_n 0, 1) := by decide +kernel
theorem dL_announce_33 : decode cL_announce 33 = .ok (.iconst 0, 1) := by decide +kernel
theorem dL_announce_34 : decode cL_announce 34 = .ok (.iload_n 1, 1) := by decide +kernel
theorem dL_announce_35 : decode cL_announce 35 = .ok (.iconst (-1), 1) := by decide +kernel
theorem dL_announce_36 : decode cL_announce 36 = .ok (.iconst 0, 1) := by decide +kernel
theorem dL_announce_37 : decode cL_announce 37 = .ok (.invokevirtual 205, 3) := by decide +kernel
theorem dL_announce_40 : decode cL_announce 40 = .ok (.return_, 1) := by decide +kernel
/-! BusLiftsLaw.announce(I)V -/
noncomputable def f_L_announce (τ : Sg) (v1 : Int32) : Option (Int32 × Sg × Nat) := if v1 < 0 ∨ q_nn τ 1 ≤ (v1).toNatClampNeg then none else (st (sup τ 42 ((v1).toNatClampNeg) 7 ((τ 42 ((v1).toNatClampNeg) 7) + 1)) fun τ1 => (st (sup τ1 42 ((v1).toNatClampNeg) 10 (τ1 40 0 7)) fun τ2 => (bq (f_L_send τ2 0 v1 (-1) 0) fun r3 τ4 => (some (0, τ4, 0)))))
set_option maxHeartbeats 4000000 in
set_option maxRecDepth 100000 in
theorem w_L_announce_0 {p : Program} {l : Launch} {e : Env} {s : State} {m : MethodId} {args : Array Value} {below : List Frame} {meth : Method} {c : Code} {G : Gx} {ad : Ad} {N : Nn} {X : Ex} {A : Nat → Prop} {res : Int32 × Sg} {n : Nat} (C : Cx p s m args meth c yL_announce.cls cL_announce 3 none G) : ∀ (τ : Sg) (v1 : Int32) (H : Heap) (locs : List Loc) (ls : Array Slot) (cells d : Nat), q_S G ad N X τ [] A s.heap H locs → lv_has ls 3 [(0, .ref (ad 40 0)), (1, .int v1)] → f_L_announce τ v1 = some (res.1, res.2, d) → cells + d = n → W p l e { frames := 8, cells := n, slots := 6 * n, locals := 181 } s m args below meth c H locs cells (6 * cells) (MQ below (k_Q none (q_V G ad N res.2 A) A) args s n (6 * n) A) (F0 m 0 ls []) := by
  intro τ v1 H locs ls cells d S hl hf hd
  unfold f_L_announce at hf
  refine lv_aload_n C.1 C.2.1 dL_announce_0 rfl (lv_at hl 0 rfl) ?_
  refine q_getR C S 40 0 50 1 rfl rfl rfl cf_11 1 (by decide) (qr_40_1 G τ 0) tw_4_97 dL_announce_1 ?_
  refine lv_iload_n C.1 C.2.1 dL_announce_4 rfl (lv_at hl 1 rfl) ?_
  obtain ⟨g_5, hf⟩ := gd hf
  have ob_5 := q_ltN S (Or.inl (by decide)) (q_glt g_5)
  refine q_get C S 1 (Or.inl (by decide)) (by decide) g_5 tw_5_199 ⟨(Nat.le_of_ble_eq_true rfl), (Nat.le_of_ble_eq_true rfl)⟩ (Nat.le_of_ble_eq_true rfl) hl.1 ⟨(show _ ≤ n from by omega), (show _ ≤ 6 * n from by omega)⟩ dL_announce_5 (fun H locs S => ?_)
  refine q_cast C S 42 ((v1).toNatClampNeg) rfl ob_5 "BusLiftsLaw$Call" (fun _ => Or.inl ⟨_, _, _, _, rfl, rfl⟩) tw_4_19 dL_announce_10 ?_
  refine lv_astore_n (lv' := [(2, .ref (ad 42 ((v1).toNatClampNeg))), (0, .ref (ad 40 0)), (1, .int v1)]) C.1 C.2.1 dL_announce_13 rfl hl (by decide) rfl (fun ls hl => ?_)
  refine lv_aload_n C.1 C.2.1 dL_announce_14 rfl (lv_at hl 0 rfl) ?_
  refine lv_dup C.1 C.2.1 dL_announce_15 rfl ?_
  refine q_getIN C S 42 ((v1).toNatClampNeg) rfl ob_5 cf_8 7 (by decide) (qi_42_7 G τ ((v1).toNatClampNeg)) (List.mem_of_getElem? (i := 34) rfl) dL_announce_16 ?_
  refine lv_iconst (v := 1) C.1 C.2.1 dL_announce_19 (by decide) ?_
  refine lv_iadd C.1 C.2.1 dL_announce_20 ?_
  obtain ⟨τ1, e_21, hf⟩ := stb hf
  refine q_putIN C S 42 ((v1).toNatClampNeg) 7 rfl rfl ob_5 cf_8 7 (by decide) (qp_42_7 G τ ((v1).toNatClampNeg) _) rfl rfl rfl (List.mem_of_getElem? (i := 34) rfl) dL_announce_21 (fun H locs S => ?_)
  rw [← e_21] at S
  refine lv_aload_n C.1 C.2.1 dL_announce_24 rfl (lv_at hl 0 rfl) ?_
  refine lv_aload_n C.1 C.2.1 dL_announce_25 rfl (lv_at hl 1 rfl) ?_
  refine q_getI C S 40 0 rfl rfl cf_11 7 (by decide) (qi_40_7 G τ1 0) tw_4_103 dL_announce_26 ?_
  obtain ⟨τ2, e_29, hf⟩ := stb hf
  refine q_putIN C S 42 ((v1).toNatClampNeg) 10 rfl rfl ob_5 cf_8 10 (by decide) (qp_42_10 G τ1 ((v1).toNatClampNeg) _) rfl rfl rfl (List.mem_of_getElem? (i := 37) rfl) dL_announce_29 (fun H locs S => ?_)
  rw [← e_29] at S
  refine lv_aload_n C.1 C.2.1 dL_announce_32 rfl (lv_at hl 1 rfl) ?_
  refine lv_iconst (v := 0) C.1 C.2.1 dL_announce_33 (by decide) ?_
  refine lv_iload_n C.1 C.2.1 dL_announce_34 rfl (lv_at hl 2 rfl) ?_
  refine lv_iconst (v := (-1)) C.1 C.2.1 dL_announce_35 (by decide) ?_
  refine lv_iconst (v := 0) C.1 C.2.1 dL_announce_36 (by decide) ?_
  obtain ⟨r3, τ4, c_37, d_37, q_37, hf, e_37⟩ := bqb hf
  refine q_callV (τ' := τ4) (v := none) C S [.int 0, .int v1, .int (-1), .int 0] rfl (fun ad' he => by have h := m_L_send l G ad' N τ2 0 v1 (-1) 0 (r3, τ4) c_37 q_37 H.size; rw [he 40 0 rfl] at h; exact h) kv_L_send tw_7_38 ⟨(Nat.le_of_ble_eq_true rfl), (Nat.le_of_ble_eq_true rfl)⟩ rfl rfl (Nat.le_of_ble_eq_true rfl) hl.1 ⟨(show _ ≤ n from by omega), (show _ ≤ 6 * n from by omega)⟩ dL_announce_37 (fun H locs S => ?_)
  replace hd := q_hd2 hd e_37
  exact q_vretF C S hf hd dL_announce_40
theorem kv_L_announce : KV yL_announce cL_announce 3 none 1 := ⟨tw_7_37, tw_7_36, tw_p_31, tw_1_0, by decide, by decide, by decide +kernel⟩
theorem m_L_announce (l : Launch) (G : Gx) (ad : Ad) (N : Nn) (τ : Sg) (v1 : Int32) (res : Int32 × Sg) (n : Nat) (hf : f_L_announce τ v1 = some (res.1, res.2, n)) (sz : Nat) : q_M l yL_announce cL_announce 3 none 8 181 n G ad N τ sz [.ref (ad 40 0), .int v1] none res.2 := by
  refine q_begin (by decide +kernel) (Nat.le_of_ble_eq_true rfl) [(0, .ref (ad 40 0)), (1, .int v1)] rfl (fun p e s m args below meth c ls C hz S hl => ?_)
  subst hz
  exact w_L_announce_0 C _ v1 _ _ _ _ _ S hl hf (Nat.zero_add _)

theorem dL_decide_0 : decode cL_decide 0 = .ok (.iconst 0, 1) := by decide +kernel
theorem dL_decide_1 : decode cL_decide 1 = .ok (.istore_n 2, 1) := by decide +kernel
theorem dL_decide_2 : decode cL_decide 2 = .ok (.iload_n 2, 1) := by decide +kernel
theorem dL_decide_3 : decode cL_decide 3 = .ok (.aload_n 0, 1) := by decide +kernel
theorem dL_decide_4 : decode cL_decide 4 = .ok (.getfield 36, 3) := by decide +kernel
theorem dL_decide_7 : decode cL_decide 7 = .ok (.invokeinterface 227 1, 5) := by decide +kernel
theorem dL_decide_12 : decode cL_decide 12 = .ok (.if_icmp .ge 168, 3) := by decide +kernel
theorem dL_decide_15 : decode cL_decide 15 = .ok (.aload_n 0, 1) := by decide +kernel
theorem dL_decide_16 : decode cL_decide 16 = .ok (.getfield 36, 3) := by decide +kernel
theorem dL_decide_19 : decode cL_decide 19 = .ok (.iload_n 2, 1) := by decide +kernel
theorem dL_decide_20 : decode cL_decide 20 = .ok (.invokeinterface 179 2, 5) := by decide +kernel
theorem dL_decide_25 : decode cL_decide 25 = .ok (.checkcast 97, 3) := by decide +kernel
theorem dL_decide_28 : decode cL_decide 28 = .ok (.astore_n 3, 1) := by decide +kernel
theorem dL_decide_29 : decode cL_decide 29 = .ok (.aload_n 3, 1) := by decide +kernel
theorem dL_decide_30 : decode cL_decide 30 = .ok (.getfield 163, 3) := by decide +kernel
theorem dL_decide_33 : decode cL_decide 33 = .ok (.iload_n 1, 1) := by decide +kernel
theorem dL_decide_34 : decode cL_decide 34 = .ok (.aaload, 1) := by decide +kernel
theorem dL_decide_35 : decode cL_decide 35 = .ok (.astore 4, 2) := by decide +kernel
theorem dL_decide_37 : decode cL_decide 37 = .ok (.aload 4, 2) := by decide +kernel
theorem dL_decide_39 : decode cL_decide 39 = .ok (.getfield 218, 3) := by decide +kernel
theorem dL_decide_42 : decode cL_decide 42 = .ok (.aload_n 0, 1) := by decide +kernel
theorem dL_decide_43 : decode cL_decide 43 = .ok (.getfield 215, 3) := by decide +kernel
theorem dL_decide_46 : decode cL_decide 46 = .ok (.if_icmp .eq 6, 3) := by decide +kernel
theorem dL_decide_49 : decode cL_decide 49 = .ok (.goto 125, 3) := by decide +kernel
theorem dL_decide_52 : decode cL_decide 52 = .ok (.aload 4, 2) := by decide +kernel
theorem dL_decide_54 : decode cL_decide 54 = .ok (.iconst (-1), 1) := by decide +kernel
theorem dL_decide_55 : decode cL_decide 55 = .ok (.putfield 218, 3) := by decide +kernel
theorem dL_decide_58 : decode cL_decide 58 = .ok (.aload_n 3, 1) := by decide +kernel
theorem dL_decide_59 : decode cL_decide 59 = .ok (.getfield 173, 3) := by decide +kernel
theorem dL_decide_62 : decode cL_decide 62 = .ok (.iconst 1, 1) := by decide +kernel
theorem dL_decide_63 : decode cL_decide 63 = .ok (.if_icmp .ne 7, 3) := by decide +kernel
theorem dL_decide_66 : decode cL_decide 66 = .ok (.iconst 1, 1) := by decide +kernel
theorem dL_decide_67 : decode cL_decide 67 = .ok (.goto 4, 3) := by decide +kernel
theorem dL_decide_70 : decode cL_decide 70 = .ok (.iconst 0, 1) := by decide +kernel
theorem dL_decide_71 : decode cL_decide 71 = .ok (.istore 5, 2) := by decide +kernel
theorem dL_decide_73 : decode cL_decide 73 = .ok (.iconst 0, 1) := by decide +kernel
theorem dL_decide_74 : decode cL_decide 74 = .ok (.istore 6, 2) := by decide +kernel
theorem dL_decide_76 : decode cL_decide 76 = .ok (.iload 6, 2) := by decide +kernel
theorem dL_decide_78 : decode cL_decide 78 = .ok (.aload_n 0, 1) := by decide +kernel
theorem dL_decide_79 : decode cL_decide 79 = .ok (.getfield 30, 3) := by decide +kernel
theorem dL_decide_82 : decode cL_decide 82 = .ok (.invokeinterface 227 1, 5) := by decide +kernel
theorem dL_decide_87 : decode cL_decide 87 = .ok (.if_icmp .ge 61, 3) := by decide +kernel
theorem dL_decide_90 : decode cL_decide 90 = .ok (.aload 4, 2) := by decide +kernel
theorem dL_decide_92 : decode cL_decide 92 = .ok (.getfield 209, 3) := by decide +kernel
theorem dL_decide_95 : decode cL_decide 95 = .ok (.iload 6, 2) := by decide +kernel
theorem dL_decide_97 : decode cL_decide 97 = .ok (.iaload, 1) := by decide +kernel
theorem dL_decide_98 : decode cL_decide 98 = .ok (.ifCond .lt 44, 3) := by decide +kernel
theorem dL_decide_101 : decode cL_decide 101 = .ok (.aload 4, 2) := by decide +kernel
theorem dL_decide_103 : decode cL_decide 103 = .ok (.getfield 209, 3) := by decide +kernel
theorem dL_decide_106 : decode cL_decide 106 = .ok (.iload 6, 2) := by decide +kernel
theorem dL_decide_108 : decode cL_decide 108 = .ok (.iaload, 1) := by decide +kernel
theorem dL_decide_109 : decode cL_decide 109 = .ok (.aload 4, 2) := by decide +kernel
theorem dL_decide_111 : decode cL_decide 111 = .ok (.getfield 202, 3) := by decide +kernel
theorem dL_decide_114 : decode cL_decide 114 = .ok (.if_icmp .lt 25, 3) := by decide +kernel
theorem dL_decide_117 : decode cL_decide 117 = .ok (.aload 4, 2) := by decide +kernel
theorem dL_decide_119 : decode cL_decide 119 = .ok (.getfield 209, 3) := by decide +kernel
theorem dL_decide_122 : decode cL_decide 122 = .ok (.iload 6, 2) := by decide +kernel
theorem dL_decide_124 : decode cL_decide 124 = .ok (.iaload, 1) := by decide +kernel
theorem dL_decide_125 : decode cL_decide 125 = .ok (.aload 4, 2) := by decide +kernel
theorem dL_decide_127 : decode cL_decide 127 = .ok (.getfield 202, 3) := by decide +kernel
theorem dL_decide_130 : decode cL_decide 130 = .ok (.if_icmp .ne 12, 3) := by decide +kernel
theorem dL_decide_133 : decode cL_decide 133 = .ok (.iload 6, 2) := by decide +kernel
theorem dL_decide_135 : decode cL_decide 135 = .ok (.iload_n 1, 1) := by decide +kernel
theorem dL_decide_136 : decode cL_decide 136 = .ok (.if_icmp .ge 6, 3) := by decide +kernel
theorem dL_decide_139 : decode cL_decide 139 = .ok (.iconst 0, 1) := by decide +kernel
theorem dL_decide_140 : decode cL_decide 140 = .ok (.istore 5, 2) := by decide +kernel
theorem dL_decide_142 : decode cL_decide 142 = .ok (.iinc 6 1, 3) := by decide +kernel
theorem dL_decide_145 : decode cL_decide 145 = .ok (.goto (-69), 3) := by decide +kernel
theorem dL_decide_148 : decode cL_decide 148 = .ok (.iload 5, 2) := by decide +kernel
theorem dL_decide_150 : decode cL_decide 150 = .ok (.ifCond .ne 6, 3) := by decide +kernel
theorem dL_decide_153 : decode cL_decide 153 = .ok (.goto 21, 3) := by decide +kernel
theorem dL_decide_156 : decode cL_decide 156 = .ok (.aload 4, 2) := by decide +kernel
theorem dL_decide_158 : decode cL_decide 158 = .ok (.iconst 1, 1) := by decide +kernel
theorem dL_decide_159 : decode cL_decide 159 = .ok (.putfield 167, 3) := by decide +kernel
theorem dL_decide_162 : decode cL_decide 162 = .ok (.aload_n 0, 1) := by decide +kernel
theorem dL_decide_163 : decode cL_decide 163 = .ok (.iconst 2, 1) := by decide +kernel
theorem dL_decide_164 : decode cL_decide 164 = .ok (.iload_n 2, 1) := by decide +kernel
theorem dL_decide_165 : decode cL_decide 165 = .ok (.iload_n 1, 1) := by decide +kernel
theorem dL_decide_166 : decode cL_decide 166 = .ok (.aload 4, 2) := by decide +kernel
theorem dL_decide_168 : decode cL_decide 168 = .ok (.getfield 202, 3) := by decide +kernel
theorem dL_decide_171 : decode cL_decide 171 = .ok (.invokevirtual 205, 3) := by decide +kernel
theorem dL_decide_174 : decode cL_decide 174 = .ok (.iinc 2 1, 3) := by decide +kernel
theorem dL_decide_177 : decode cL_decide 177 = .ok (.goto (-175), 3) := by decide +kernel
theorem dL_decide_180 : decode cL_decide 180 = .ok (.return_, 1) := by decide +kernel
/-! BusLiftsLaw.decide(I)V -/
noncomputable def f_L_decide_180 (τ : Sg) : Option (Int32 × Sg × Nat) := some (0, τ, 0)
noncomputable def f_L_decide_174 (k2 : Sg → Int32 → Int32 → Option (Int32 × Sg × Nat)) (τ : Sg) (v1 : Int32) (v2 : Int32) : Option (Int32 × Sg × Nat) := k2 τ v1 (v2 + 1)
noncomputable def f_L_decide_148 (k2 : Sg → Int32 → Int32 → Option (Int32 × Sg × Nat)) (τ : Sg) (v1 : Int32) (v2 : Int32) (o4 : Nat) (v5 : Int32) : Option (Int32 × Sg × Nat) := if v5 = 0 then (f_L_decide_174 k2 τ v1 v2) else (st (sup τ 43 o4 0 1) fun τ1 => (bq (f_L_send τ1 2 v2 v1 (τ1 43 o4 1)) fun r2 τ3 => (f_L_decide_174 k2 τ3 v1 v2)))
noncomputable def f_L_decide_142 (k2 : Sg → Int32 → Int32 → Option (Int32 × Sg × Nat)) (k76 : Sg → Int32 → Int32 → Nat → Int32 → Int32 → Option (Int32 × Sg × Nat)) (τ : Sg) (v1 : Int32) (v2 : Int32) (o4 : Nat) (v5 : Int32) (v6 : Int32) : Option (Int32 × Sg × Nat) := k76 τ v1 v2 o4 v5 (v6 + 1)
noncomputable def f_L_decide_139 (k2 : Sg → Int32 → Int32 → Option (Int32 × Sg × Nat)) (k76 : Sg → Int32 → Int32 → Nat → Int32 → Int32 → Option (Int32 × Sg × Nat)) (τ : Sg) (v1 : Int32) (v2 : Int32) (o4 : Nat) (v6 : Int32) : Option (Int32 × Sg × Nat) := f_L_decide_142 k2 k76 τ v1 v2 o4 0 v6
noncomputable def f_L_decide_76 (k2 : Sg → Int32 → Int32 → Option (Int32 × Sg × Nat)) : Nat → Sg → Int32 → Int32 → Nat → Int32 → Int32 → Option (Int32 × Sg × Nat)
  | 0, _, _, _, _, _, _ => none
  | n + 1, τ, v1, v2, o4, v5, v6 => if (τ 50 0 2) ≤ v6 then (f_L_decide_148 k2 τ v1 v2 o4 v5) else (if v6 < 0 ∨ 4 ≤ (v6).toNatClampNeg then none else (if (τ 44 o4 (v6).toNatClampNeg) < 0 then (f_L_decide_142 k2 (f_L_decide_76 k2 n) τ v1 v2 o4 v5 v6) else (if v6 < 0 ∨ 4 ≤ (v6).toNatClampNeg then none else (if (τ 44 o4 (v6).toNatClampNeg) < (τ 43 o4 1) then (f_L_decide_139 k2 (f_L_decide_76 k2 n) τ v1 v2 o4 v6) else (if v6 < 0 ∨ 4 ≤ (v6).toNatClampNeg then none else (if (τ 44 o4 (v6).toNatClampNeg) = (τ 43 o4 1) then (if v1 ≤ v6 then (f_L_decide_142 k2 (f_L_decide_76 k2 n) τ v1 v2 o4 v5 v6) else (f_L_decide_139 k2 (f_L_decide_76 k2 n) τ v1 v2 o4 v6)) else (f_L_decide_142 k2 (f_L_decide_76 k2 n) τ v1 v2 o4 v5 v6)))))))
theorem f_L_decide_76_s (k2 : Sg → Int32 → Int32 → Option (Int32 × Sg × Nat)) (n : Nat) (τ : Sg) (v1 : Int32) (v2 : Int32) (o4 : Nat) (v5 : Int32) (v6 : Int32) : f_L_decide_76 k2 (n + 1) τ v1 v2 o4 v5 v6 = (if (τ 50 0 2) ≤ v6 then (f_L_decide_148 k2 τ v1 v2 o4 v5) else (if v6 < 0 ∨ 4 ≤ (v6).toNatClampNeg then none else (if (τ 44 o4 (v6).toNatClampNeg) < 0 then (f_L_decide_142 k2 (f_L_decide_76 k2 n) τ v1 v2 o4 v5 v6) else (if v6 < 0 ∨ 4 ≤ (v6).toNatClampNeg then none else (if (τ 44 o4 (v6).toNatClampNeg) < (τ 43 o4 1) then (f_L_decide_139 k2 (f_L_decide_76 k2 n) τ v1 v2 o4 v6) else (if v6 < 0 ∨ 4 ≤ (v6).toNatClampNeg then none else (if (τ 44 o4 (v6).toNatClampNeg) = (τ 43 o4 1) then (if v1 ≤ v6 then (f_L_decide_142 k2 (f_L_decide_76 k2 n) τ v1 v2 o4 v5 v6) else (f_L_decide_139 k2 (f_L_decide_76 k2 n) τ v1 v2 o4 v6)) else (f_L_decide_142 k2 (f_L_decide_76 k2 n) τ v1 v2 o4 v5 v6)))))))) := rfl
noncomputable def f_L_decide_71 (k2 : Sg → Int32 → Int32 → Option (Int32 × Sg × Nat)) (τ : Sg) (v1 : Int32) (v2 : Int32) (o4 : Nat) (v100 : Int32) : Option (Int32 × Sg × Nat) := f_L_decide_76 k2 FU τ v1 v2 o4 v100 0
noncomputable def f_L_decide_2 : Nat → Sg → Int32 → Int32 → Option (Int32 × Sg × Nat)
  | 0, _, _, _ => none
  | n + 1, τ, v1, v2 => if (τ 50 1 2) ≤ v2 then (f_L_decide_180 τ) else (if v2 < 0 ∨ q_nn τ 1 ≤ (v2).toNatClampNeg then none else (if v1 < 0 ∨ 4 ≤ (v1).toNatClampNeg then none else (if (τ 43 (4 * ((v2).toNatClampNeg) + (v1).toNatClampNeg) 2) = (τ 40 0 7) then (st (sup τ 43 (4 * ((v2).toNatClampNeg) + (v1).toNatClampNeg) 2 (-1)) fun τ1 => (if (τ1 42 ((v2).toNatClampNeg) 3) = 1 then (f_L_decide_71 (f_L_decide_2 n) τ1 v1 v2 (4 * ((v2).toNatClampNeg) + (v1).toNatClampNeg) 1) else (f_L_decide_71 (f_L_decide_2 n) τ1 v1 v2 (4 * ((v2).toNatClampNeg) + (v1).toNatClampNeg) 0))) else (f_L_decide_174 (f_L_decide_2 n) τ v1 v2))))
theorem f_L_decide_2_s (n : Nat) (τ : Sg) (v1 : Int32) (v2 : Int32) : f_L_decide_2 (n + 1) τ v1 v2 = (if (τ 50 1 2) ≤ v2 then (f_L_decide_180 τ) else (if v2 < 0 ∨ q_nn τ 1 ≤ (v2).toNatClampNeg then none else (if v1 < 0 ∨ 4 ≤ (v1).toNatClampNeg then none else (if (τ 43 (4 * ((v2).toNatClampNeg) + (v1).toNatClampNeg) 2) = (τ 40 0 7) then (st (sup τ 43 (4 * ((v2).toNatClampNeg) + (v1).toNatClampNeg) 2 (-1)) fun τ1 => (if (τ1 42 ((v2).toNatClampNeg) 3) = 1 then (f_L_decide_71 (f_L_decide_2 n) τ1 v1 v2 (4 * ((v2).toNatClampNeg) + (v1).toNatClampNeg) 1) else (f_L_decide_71 (f_L_decide_2 n) τ1 v1 v2 (4 * ((v2).toNatClampNeg) + (v1).toNatClampNeg) 0))) else (f_L_decide_174 (f_L_decide_2 n) τ v1 v2))))) := rfl
noncomputable def f_L_decide (τ : Sg) (v1 : Int32) : Option (Int32 × Sg × Nat) := f_L_decide_2 FU τ v1 0
set_option maxHeartbeats 4000000 in
set_option maxRecDepth 100000 in
theorem w_L_decide_180 {p : Program} {l : Launch} {e : Env} {s : State} {m : MethodId} {args : Array Value} {below : List Frame} {meth : Method} {c : Code} {G : Gx} {ad : Ad} {N : Nn} {X : Ex} {A : Nat → Prop} {res : Int32 × Sg} {n : Nat} (C : Cx p s m args meth c yL_decide.cls cL_decide 7 none G) : ∀ (τ : Sg) (H : Heap) (locs : List Loc) (ls : Array Slot) (cells d : Nat), q_S G ad N X τ [] A s.heap H locs → lv_has ls 7 [] → f_L_decide_180 τ = some (res.1, res.2, d) → cells + d = n → W p l e { frames := 8, cells := n, slots := 6 * n, locals := 181 } s m args below meth c H locs cells (6 * cells) (MQ below (k_Q none (q_V G ad N res.2 A) A) args s n (6 * n) A) (F0 m 180 ls []) := by
  intro τ H locs ls cells d S hl hf hd
  unfold f_L_decide_180 at hf
  exact q_vretF C S hf hd dL_decide_180
set_option maxHeartbeats 4000000 in
set_option maxRecDepth 100000 in
theorem w_L_decide_174 {p : Program} {l : Launch} {e : Env} {s : State} {m : MethodId} {args : Array Value} {below : List Frame} {meth : Method} {c : Code} {G : Gx} {ad : Ad} {N : Nn} {X : Ex} {A : Nat → Prop} {res : Int32 × Sg} {n : Nat} (C : Cx p s m args meth c yL_decide.cls cL_decide 7 none G) (k2 : Sg → Int32 → Int32 → Option (Int32 × Sg × Nat)) (hk2 : ∀ (τ : Sg) (v1 : Int32) (v2 : Int32) (H : Heap) (locs : List Loc) (ls : Array Slot) (cells d : Nat), q_S G ad N X τ [] A s.heap H locs → lv_has ls 7 [(0, .ref (ad 40 0)), (1, .int v1), (2, .int v2)] → k2 τ v1 v2 = some (res.1, res.2, d) → cells + d = n → W p l e { frames := 8, cells := n, slots := 6 * n, locals := 181 } s m args below meth c H locs cells (6 * cells) (MQ below (k_Q none (q_V G ad N res.2 A) A) args s n (6 * n) A) (F0 m 2 ls [])) : ∀ (τ : Sg) (v1 : Int32) (v2 : Int32) (H : Heap) (locs : List Loc) (ls : Array Slot) (cells d : Nat), q_S G ad N X τ [] A s.heap H locs → lv_has ls 7 [(0, .ref (ad 40 0)), (1, .int v1), (2, .int v2)] → f_L_decide_174 k2 τ v1 v2 = some (res.1, res.2, d) → cells + d = n → W p l e { frames := 8, cells := n, slots := 6 * n, locals := 181 } s m args below meth c H locs cells (6 * cells) (MQ below (k_Q none (q_V G ad N res.2 A) A) args s n (6 * n) A) (F0 m 174 ls []) := by
  intro τ v1 v2 H locs ls cells d S hl hf hd
  unfold f_L_decide_174 at hf
  refine lv_iinc (v := (v2 + 1)) (lv' := [(2, .int (v2 + 1)), (0, .ref (ad 40 0)), (1, .int v1)]) C.1 C.2.1 dL_decide_174 hl (k := 2) rfl rfl (by decide) rfl (fun ls hl => ?_)
  refine lv_goto (tgt := 2) C.1 C.2.1 dL_decide_177 (by decide) ?_
  exact hk2 _ v1 (v2 + 1) _ _ _ _ _ S (lv_sub hl [1, 2, 0] rfl) hf hd
set_option maxHeartbeats 4000000 in
set_option maxRecDepth 100000 in
theorem w_L_decide_148 {p : Program} {l : Launch} {e : Env} {s : State} {m : MethodId} {args : Array Value} {below : List Frame} {meth : Method} {c : Code} {G : Gx} {ad : Ad} {N : Nn} {X : Ex} {A : Nat → Prop} {res : Int32 × Sg} {n : Nat} (C : Cx p s m args meth c yL_decide.cls cL_decide 7 none G) (k2 : Sg → Int32 → Int32 → Option (Int32 × Sg × Nat)) (hk2 : ∀ (τ : Sg) (v1 : Int32) (v2 : Int32) (H : Heap) (locs : List Loc) (ls : Array Slot) (cells d : Nat), q_S G ad N X τ [] A s.heap H locs → lv_has ls 7 [(0, .ref (ad 40 0)), (1, .int v1), (2, .int v2)] → k2 τ v1 v2 = some (res.1, res.2, d) → cells + d = n → W p l e { frames := 8, cells := n, slots := 6 * n, locals := 181 } s m args below meth c H locs cells (6 * cells) (MQ below (k_Q none (q_V G ad N res.2 A) A) args s n (6 * n) A) (F0 m 2 ls [])) : ∀ (τ : Sg) (v1 : Int32) (v2 : Int32) (o4 : Nat) (v5 : Int32) (H : Heap) (locs : List Loc) (ls : Array Slot) (cells d : Nat), q_S G ad N X τ [] A s.heap H locs → lv_has ls 7 [(0, .ref (ad 40 0)), (1, .int v1), (2, .int v2), (4, .ref (ad 43 o4)), (5, .int v5)] → (o4 < 4 * N.2.1) → f_L_decide_148 k2 τ v1 v2 o4 v5 = some (res.1, res.2, d) → cells + d = n → W p l e { frames := 8, cells := n, slots := 6 * n, locals := 181 } s m args below meth c H locs cells (6 * cells) (MQ below (k_Q none (q_V G ad N res.2 A) A) args s n (6 * n) A) (F0 m 148 ls []) := by
  intro τ v1 v2 o4 v5 H locs ls cells d S hl ho4 hf hd
  unfold f_L_decide_148 at hf
  refine lv_iload C.1 C.2.1 dL_decide_148 (lv_at hl 4 rfl) ?_
  refine lv_if_ne (tgt := 156) C.1 C.2.1 dL_decide_150 (by decide) (fun c_150 => ?_) (fun c_150 => ?_)
  · rw [if_neg c_150] at hf
    refine lv_aload C.1 C.2.1 dL_decide_156 (lv_at hl 3 rfl) ?_
    refine lv_iconst (v := 1) C.1 C.2.1 dL_decide_158 (by decide) ?_
    obtain ⟨τ1, e_159, hf⟩ := stb hf
    refine q_putIN C S 43 o4 0 rfl rfl ho4 cf_10 0 (by decide) (qp_43_0 G τ o4 _) rfl rfl rfl (List.mem_of_getElem? (i := 22) rfl) dL_decide_159 (fun H locs S => ?_)
    rw [← e_159] at S
    refine lv_aload_n C.1 C.2.1 dL_decide_162 rfl (lv_at hl 0 rfl) ?_
    refine lv_iconst (v := 2) C.1 C.2.1 dL_decide_163 (by decide) ?_
    refine lv_iload_n C.1 C.2.1 dL_decide_164 rfl (lv_at hl 2 rfl) ?_
    refine lv_iload_n C.1 C.2.1 dL_decide_165 rfl (lv_at hl 1 rfl) ?_
    refine lv_aload C.1 C.2.1 dL_decide_166 (lv_at hl 3 rfl) ?_
    refine q_getIN C S 43 o4 rfl ho4 cf_10 1 (by decide) (qi_43_1 G τ1 o4) (List.mem_of_getElem? (i := 23) rfl) dL_decide_168 ?_
    obtain ⟨r2, τ3, c_171, d_171, q_171, hf, e_171⟩ := bqb hf
    refine q_callV (τ' := τ3) (v := none) C S [.int 2, .int v2, .int v1, .int (τ1 43 o4 1)] rfl (fun ad' he => by have h := m_L_send l G ad' N τ1 2 v2 v1 (τ1 43 o4 1) (r2, τ3) c_171 q_171 H.size; rw [he 40 0 rfl] at h; exact h) kv_L_send tw_7_38 ⟨(Nat.le_of_ble_eq_true rfl), (Nat.le_of_ble_eq_true rfl)⟩ rfl rfl (Nat.le_of_ble_eq_true rfl) hl.1 ⟨(show _ ≤ n from by omega), (show _ ≤ 6 * n from by omega)⟩ dL_decide_171 (fun H locs S => ?_)
    replace hd := q_hd2 hd e_171
    exact w_L_decide_174 C k2 hk2 _ v1 v2 _ _ _ _ _ S (lv_sub hl [0, 1, 2] rfl) hf hd
  · rw [if_pos c_150] at hf
    refine lv_goto (tgt := 174) C.1 C.2.1 dL_decide_153 (by decide) ?_
    exact w_L_decide_174 C k2 hk2 _ v1 v2 _ _ _ _ _ S (lv_sub hl [0, 1, 2] rfl) hf hd
set_option maxHeartbeats 4000000 in
set_option maxRecDepth 100000 in
theorem w_L_decide_142 {p : Program} {l : Launch} {e : Env} {s : State} {m : MethodId} {args : Array Value} {below : List Frame} {meth : Method} {c : Code} {G : Gx} {ad : Ad} {N : Nn} {X : Ex} {A : Nat → Prop} {res : Int32 × Sg} {n : Nat} (C : Cx p s m args meth c yL_decide.cls cL_decide 7 none G) (k2 : Sg → Int32 → Int32 → Option (Int32 × Sg × Nat)) (hk2 : ∀ (τ : Sg) (v1 : Int32) (v2 : Int32) (H : Heap) (locs : List Loc) (ls : Array Slot) (cells d : Nat), q_S G ad N X τ [] A s.heap H locs → lv_has ls 7 [(0, .ref (ad 40 0)), (1, .int v1), (2, .int v2)] → k2 τ v1 v2 = some (res.1, res.2, d) → cells + d = n → W p l e { frames := 8, cells := n, slots := 6 * n, locals := 181 } s m args below meth c H locs cells (6 * cells) (MQ below (k_Q none (q_V G ad N res.2 A) A) args s n (6 * n) A) (F0 m 2 ls [])) (k76 : Sg → Int32 → Int32 → Nat → Int32 → Int32 → Option (Int32 × Sg × Nat)) (hk76 : ∀ (τ : Sg) (v1 : Int32) (v2 : Int32) (o4 : Nat) (v5 : Int32) (v6 : Int32) (H : Heap) (locs : List Loc) (ls : Array Slot) (cells d : Nat), q_S G ad N X τ [] A s.heap H locs → lv_has ls 7 [(0, .ref (ad 40 0)), (1, .int v1), (2, .int v2), (4, .ref (ad 43 o4)), (5, .int v5), (6, .int v6)] → (o4 < 4 * N.2.1) → k76 τ v1 v2 o4 v5 v6 = some (res.1, res.2, d) → cells + d = n → W p l e { frames := 8, cells := n, slots := 6 * n, locals := 181 } s m args below meth c H locs cells (6 * cells) (MQ below (k_Q none (q_V G ad N res.2 A) A) args s n (6 * n) A) (F0 m 76 ls [])) : ∀ (τ : Sg) (v1 : Int32) (v2 : Int32) (o4 : Nat) (v5 : Int32) (v6 : Int32) (H : Heap) (locs : List Loc) (ls : Array Slot) (cells d : Nat), q_S G ad N X τ [] A s.heap H locs → lv_has ls 7 [(0, .ref (ad 40 0)), (1, .int v1), (2, .int v2), (4, .ref (ad 43 o4)), (5, .int v5), (6, .int v6)] → (o4 < 4 * N.2.1) → f_L_decide_142 k2 k76 τ v1 v2 o4 v5 v6 = some (res.1, res.2, d) → cells + d = n → W p l e { frames := 8, cells := n, slots := 6 * n, locals := 181 } s m args below meth c H locs cells (6 * cells) (MQ below (k_Q none (q_V G ad N res.2 A) A) args s n (6 * n) A) (F0 m 142 ls []) := by
  intro τ v1 v2 o4 v5 v6 H locs ls cells d S hl ho4 hf hd
  unfold f_L_decide_142 at hf
  refine lv_iinc (v := (v6 + 1)) (lv' := [(6, .int (v6 + 1)), (0, .ref (ad 40 0)), (1, .int v1), (2, .int v2), (4, .ref (ad 43 o4)), (5, .int v5)]) C.1 C.2.1 dL_decide_142 hl (k := 5) rfl rfl (by decide) rfl (fun ls hl => ?_)
  refine lv_goto (tgt := 76) C.1 C.2.1 dL_decide_145 (by decide) ?_
  exact hk76 _ v1 v2 o4 v5 (v6 + 1) _ _ _ _ _ S (lv_sub hl [1, 2, 3, 4, 5, 0] rfl) ho4 hf hd
set_option maxHeartbeats 4000000 in
set_option maxRecDepth 100000 in
theorem w_L_decide_139 {p : Program} {l : Launch} {e : Env} {s : State} {m : MethodId} {args : Array Value} {below : List Frame} {meth : Method} {c : Code} {G : Gx} {ad : Ad} {N : Nn} {X : Ex} {A : Nat → Prop} {res : Int32 × Sg} {n : Nat} (C : Cx p s m args meth c yL_decide.cls cL_decide 7 none G) (k2 : Sg → Int32 → Int32 → Option (Int32 × Sg × Nat)) (hk2 : ∀ (τ : Sg) (v1 : Int32) (v2 : Int32) (H : Heap) (locs : List Loc) (ls : Array Slot) (cells d : Nat), q_S G ad N X τ [] A s.heap H locs → lv_has ls 7 [(0, .ref (ad 40 0)), (1, .int v1), (2, .int v2)] → k2 τ v1 v2 = some (res.1, res.2, d) → cells + d = n → W p l e { frames := 8, cells := n, slots := 6 * n, locals := 181 } s m args below meth c H locs cells (6 * cells) (MQ below (k_Q none (q_V G ad N res.2 A) A) args s n (6 * n) A) (F0 m 2 ls [])) (k76 : Sg → Int32 → Int32 → Nat → Int32 → Int32 → Option (Int32 × Sg × Nat)) (hk76 : ∀ (τ : Sg) (v1 : Int32) (v2 : Int32) (o4 : Nat) (v5 : Int32) (v6 : Int32) (H : Heap) (locs : List Loc) (ls : Array Slot) (cells d : Nat), q_S G ad N X τ [] A s.heap H locs → lv_has ls 7 [(0, .ref (ad 40 0)), (1, .int v1), (2, .int v2), (4, .ref (ad 43 o4)), (5, .int v5), (6, .int v6)] → (o4 < 4 * N.2.1) → k76 τ v1 v2 o4 v5 v6 = some (res.1, res.2, d) → cells + d = n → W p l e { frames := 8, cells := n, slots := 6 * n, locals := 181 } s m args below meth c H locs cells (6 * cells) (MQ below (k_Q none (q_V G ad N res.2 A) A) args s n (6 * n) A) (F0 m 76 ls [])) : ∀ (τ : Sg) (v1 : Int32) (v2 : Int32) (o4 : Nat) (v6 : Int32) (H : Heap) (locs : List Loc) (ls : Array Slot) (cells d : Nat), q_S G ad N X τ [] A s.heap H locs → lv_has ls 7 [(0, .ref (ad 40 0)), (1, .int v1), (2, .int v2), (4, .ref (ad 43 o4)), (6, .int v6)] → (o4 < 4 * N.2.1) → f_L_decide_139 k2 k76 τ v1 v2 o4 v6 = some (res.1, res.2, d) → cells + d = n → W p l e { frames := 8, cells := n, slots := 6 * n, locals := 181 } s m args below meth c H locs cells (6 * cells) (MQ below (k_Q none (q_V G ad N res.2 A) A) args s n (6 * n) A) (F0 m 139 ls []) := by
  intro τ v1 v2 o4 v6 H locs ls cells d S hl ho4 hf hd
  unfold f_L_decide_139 at hf
  refine lv_iconst (v := 0) C.1 C.2.1 dL_decide_139 (by decide) ?_
  refine lv_istore (lv' := [(5, .int 0), (0, .ref (ad 40 0)), (1, .int v1), (2, .int v2), (4, .ref (ad 43 o4)), (6, .int v6)]) C.1 C.2.1 dL_decide_140 hl (by decide) rfl (fun ls hl => ?_)
  exact w_L_decide_142 C k2 hk2 k76 hk76 _ v1 v2 o4 0 v6 _ _ _ _ _ S (lv_sub hl [1, 2, 3, 4, 0, 5] rfl) ho4 hf hd
set_option maxHeartbeats 4000000 in
set_option maxRecDepth 100000 in
theorem w_L_decide_76 {p : Program} {l : Launch} {e : Env} {s : State} {m : MethodId} {args : Array Value} {below : List Frame} {meth : Method} {c : Code} {G : Gx} {ad : Ad} {N : Nn} {X : Ex} {A : Nat → Prop} {res : Int32 × Sg} {n : Nat} (C : Cx p s m args meth c yL_decide.cls cL_decide 7 none G) (k2 : Sg → Int32 → Int32 → Option (Int32 × Sg × Nat)) (hk2 : ∀ (τ : Sg) (v1 : Int32) (v2 : Int32) (H : Heap) (locs : List Loc) (ls : Array Slot) (cells d : Nat), q_S G ad N X τ [] A s.heap H locs → lv_has ls 7 [(0, .ref (ad 40 0)), (1, .int v1), (2, .int v2)] → k2 τ v1 v2 = some (res.1, res.2, d) → cells + d = n → W p l e { frames := 8, cells := n, slots := 6 * n, locals := 181 } s m args below meth c H locs cells (6 * cells) (MQ below (k_Q none (q_V G ad N res.2 A) A) args s n (6 * n) A) (F0 m 2 ls [])) : ∀ n9 : Nat, ∀ (τ : Sg) (v1 : Int32) (v2 : Int32) (o4 : Nat) (v5 : Int32) (v6 : Int32) (H : Heap) (locs : List Loc) (ls : Array Slot) (cells d : Nat), q_S G ad N X τ [] A s.heap H locs → lv_has ls 7 [(0, .ref (ad 40 0)), (1, .int v1), (2, .int v2), (4, .ref (ad 43 o4)), (5, .int v5), (6, .int v6)] → (o4 < 4 * N.2.1) → f_L_decide_76 k2 n9 τ v1 v2 o4 v5 v6 = some (res.1, res.2, d) → cells + d = n → W p l e { frames := 8, cells := n, slots := 6 * n, locals := 181 } s m args below meth c H locs cells (6 * cells) (MQ below (k_Q none (q_V G ad N res.2 A) A) args s n (6 * n) A) (F0 m 76 ls []) := by
  intro n9
  induction n9 with
  | zero => intro τ v1 v2 o4 v5 v6 H locs ls cells d S hl ho4 hf hd; cases hf
  | succ n9 ih =>
    intro τ v1 v2 o4 v5 v6 H locs ls cells d S hl ho4 hf hd
    rw [f_L_decide_76_s] at hf
    refine lv_iload C.1 C.2.1 dL_decide_76 (lv_at hl 5 rfl) ?_
    refine lv_aload_n C.1 C.2.1 dL_decide_78 rfl (lv_at hl 0 rfl) ?_
    refine q_getR C S 40 0 50 0 rfl rfl rfl cf_11 0 (by decide) (qr_40_0 G τ 0) tw_4_96 dL_decide_79 ?_
    refine q_size C S 0 (Or.inl (by decide)) (by decide) tw_5_190 ⟨(Nat.le_of_ble_eq_true rfl), (Nat.le_of_ble_eq_true rfl)⟩ (Nat.le_of_ble_eq_true rfl) hl.1 ⟨(show _ ≤ n from by omega), (show _ ≤ 6 * n from by omega)⟩ dL_decide_82 (fun H locs S => ?_)
    refine lv_icmp_ge (tgt := 148) C.1 C.2.1 dL_decide_87 (by decide) (fun c_87 => ?_) (fun c_87 => ?_)
    · rw [if_pos c_87] at hf
      exact w_L_decide_148 C k2 hk2 _ v1 v2 o4 v5 _ _ _ _ _ S (lv_sub hl [0, 1, 2, 3, 4] rfl) ho4 hf hd
    · rw [if_neg c_87] at hf
      refine lv_aload C.1 C.2.1 dL_decide_90 (lv_at hl 3 rfl) ?_
      refine q_getRN C S 43 o4 44 o4 rfl rfl ho4 cf_10 4 (by decide) (qr_43_4 G τ o4) (List.mem_of_getElem? (i := 26) rfl) dL_decide_92 ?_
      refine lv_iload C.1 C.2.1 dL_decide_95 (lv_at hl 5 rfl) ?_
      obtain ⟨g_97, hf⟩ := gd hf
      refine q_iald C S 44 o4 4 rfl ho4 (fun _ => rfl) g_97 dL_decide_97 ?_
      refine lv_if_lt (tgt := 142) C.1 C.2.1 dL_decide_98 (by decide) (fun c_98 => ?_) (fun c_98 => ?_)
      · rw [if_pos c_98] at hf
        exact w_L_decide_142 C k2 hk2 (f_L_decide_76 k2 n9) ih _ v1 v2 o4 v5 v6 _ _ _ _ _ S (lv_sub hl [0, 1, 2, 3, 4, 5] rfl) ho4 hf hd
      · rw [if_neg c_98] at hf
        refine lv_aload C.1 C.2.1 dL_decide_101 (lv_at hl 3 rfl) ?_
        refine q_getRN C S 43 o4 44 o4 rfl rfl ho4 cf_10 4 (by decide) (qr_43_4 G τ o4) (List.mem_of_getElem? (i := 26) rfl) dL_decide_103 ?_
        refine lv_iload C.1 C.2.1 dL_decide_106 (lv_at hl 5 rfl) ?_
        obtain ⟨g_108, hf⟩ := gd hf
        refine q_iald C S 44 o4 4 rfl ho4 (fun _ => rfl) g_108 dL_decide_108 ?_
        refine lv_aload C.1 C.2.1 dL_decide_109 (lv_at hl 3 rfl) ?_
        refine q_getIN C S 43 o4 rfl ho4 cf_10 1 (by decide) (qi_43_1 G τ o4) (List.mem_of_getElem? (i := 23) rfl) dL_decide_111 ?_
        refine lv_icmp_lt (tgt := 139) C.1 C.2.1 dL_decide_114 (by decide) (fun c_114 => ?_) (fun c_114 => ?_)
        · rw [if_pos c_114] at hf
          exact w_L_decide_139 C k2 hk2 (f_L_decide_76 k2 n9) ih _ v1 v2 o4 v6 _ _ _ _ _ S (lv_sub hl [0, 1, 2, 3, 5] rfl) ho4 hf hd
        · rw [if_neg c_114] at hf
          refine lv_aload C.1 C.2.1 dL_decide_117 (lv_at hl 3 rfl) ?_
          refine q_getRN C S 43 o4 44 o4 rfl rfl ho4 cf_10 4 (by decide) (qr_43_4 G τ o4) (List.mem_of_getElem? (i := 26) rfl) dL_decide_119 ?_
          refine lv_iload C.1 C.2.1 dL_decide_122 (lv_at hl 5 rfl) ?_
          obtain ⟨g_124, hf⟩ := gd hf
          refine q_iald C S 44 o4 4 rfl ho4 (fun _ => rfl) g_124 dL_decide_124 ?_
          refine lv_aload C.1 C.2.1 dL_decide_125 (lv_at hl 3 rfl) ?_
          refine q_getIN C S 43 o4 rfl ho4 cf_10 1 (by decide) (qi_43_1 G τ o4) (List.mem_of_getElem? (i := 23) rfl) dL_decide_127 ?_
          refine lv_icmp_ne (tgt := 142) C.1 C.2.1 dL_decide_130 (by decide) (fun c_130 => ?_) (fun c_130 => ?_)
          · rw [if_neg c_130] at hf
            exact w_L_decide_142 C k2 hk2 (f_L_decide_76 k2 n9) ih _ v1 v2 o4 v5 v6 _ _ _ _ _ S (lv_sub hl [0, 1, 2, 3, 4, 5] rfl) ho4 hf hd
          · rw [if_pos c_130] at hf
            refine lv_iload C.1 C.2.1 dL_decide_133 (lv_at hl 5 rfl) ?_
            refine lv_iload_n C.1 C.2.1 dL_decide_135 rfl (lv_at hl 1 rfl) ?_
            refine lv_icmp_ge (tgt := 142) C.1 C.2.1 dL_decide_136 (by decide) (fun c_136 => ?_) (fun c_136 => ?_)
            · rw [if_pos c_136] at hf
              exact w_L_decide_142 C k2 hk2 (f_L_decide_76 k2 n9) ih _ v1 v2 o4 v5 v6 _ _ _ _ _ S (lv_sub hl [0, 1, 2, 3, 4, 5] rfl) ho4 hf hd
            · rw [if_neg c_136] at hf
              exact w_L_decide_139 C k2 hk2 (f_L_decide_76 k2 n9) ih _ v1 v2 o4 v6 _ _ _ _ _ S (lv_sub hl [0, 1, 2, 3, 5] rfl) ho4 hf hd
set_option maxHeartbeats 4000000 in
set_option maxRecDepth 100000 in
theorem w_L_decide_71 {p : Program} {l : Launch} {e : Env} {s : State} {m : MethodId} {args : Array Value} {below : List Frame} {meth : Method} {c : Code} {G : Gx} {ad : Ad} {N : Nn} {X : Ex} {A : Nat → Prop} {res : Int32 × Sg} {n : Nat} (C : Cx p s m args meth c yL_decide.cls cL_decide 7 none G) (k2 : Sg → Int32 → Int32 → Option (Int32 × Sg × Nat)) (hk2 : ∀ (τ : Sg) (v1 : Int32) (v2 : Int32) (H : Heap) (locs : List Loc) (ls : Array Slot) (cells d : Nat), q_S G ad N X τ [] A s.heap H locs → lv_has ls 7 [(0, .ref (ad 40 0)), (1, .int v1), (2, .int v2)] → k2 τ v1 v2 = some (res.1, res.2, d) → cells + d = n → W p l e { frames := 8, cells := n, slots := 6 * n, locals := 181 } s m args below meth c H locs cells (6 * cells) (MQ below (k_Q none (q_V G ad N res.2 A) A) args s n (6 * n) A) (F0 m 2 ls [])) : ∀ (τ : Sg) (v1 : Int32) (v2 : Int32) (o4 : Nat) (v100 : Int32) (H : Heap) (locs : List Loc) (ls : Array Slot) (cells d : Nat), q_S G ad N X τ [] A s.heap H locs → lv_has ls 7 [(0, .ref (ad 40 0)), (1, .int v1), (2, .int v2), (4, .ref (ad 43 o4))] → (o4 < 4 * N.2.1) → f_L_decide_71 k2 τ v1 v2 o4 v100 = some (res.1, res.2, d) → cells + d = n → W p l e { frames := 8, cells := n, slots := 6 * n, locals := 181 } s m args below meth c H locs cells (6 * cells) (MQ below (k_Q none (q_V G ad N res.2 A) A) args s n (6 * n) A) (F0 m 71 ls [.int v100]) := by
  intro τ v1 v2 o4 v100 H locs ls cells d S hl ho4 hf hd
  unfold f_L_decide_71 at hf
  refine lv_istore (lv' := [(5, .int v100), (0, .ref (ad 40 0)), (1, .int v1), (2, .int v2), (4, .ref (ad 43 o4))]) C.1 C.2.1 dL_decide_71 hl (by decide) rfl (fun ls hl => ?_)
  refine lv_iconst (v := 0) C.1 C.2.1 dL_decide_73 (by decide) ?_
  refine lv_istore (lv' := [(6, .int 0), (5, .int v100), (0, .ref (ad 40 0)), (1, .int v1), (2, .int v2), (4, .ref (ad 43 o4))]) C.1 C.2.1 dL_decide_74 hl (by decide) rfl (fun ls hl => ?_)
  exact w_L_decide_76 C k2 hk2 FU _ v1 v2 o4 v100 0 _ _ _ _ _ S (lv_sub hl [2, 3, 4, 5, 1, 0] rfl) ho4 hf hd
set_option maxHeartbeats 4000000 in
set_option maxRecDepth 100000 in
theorem w_L_decide_2 {p : Program} {l : Launch} {e : Env} {s : State} {m : MethodId} {args : Array Value} {below : List Frame} {meth : Method} {c : Code} {G : Gx} {ad : Ad} {N : Nn} {X : Ex} {A : Nat → Prop} {res : Int32 × Sg} {n : Nat} (C : Cx p s m args meth c yL_decide.cls cL_decide 7 none G) : ∀ n9 : Nat, ∀ (τ : Sg) (v1 : Int32) (v2 : Int32) (H : Heap) (locs : List Loc) (ls : Array Slot) (cells d : Nat), q_S G ad N X τ [] A s.heap H locs → lv_has ls 7 [(0, .ref (ad 40 0)), (1, .int v1), (2, .int v2)] → f_L_decide_2 n9 τ v1 v2 = some (res.1, res.2, d) → cells + d = n → W p l e { frames := 8, cells := n, slots := 6 * n, locals := 181 } s m args below meth c H locs cells (6 * cells) (MQ below (k_Q none (q_V G ad N res.2 A) A) args s n (6 * n) A) (F0 m 2 ls []) := by
  intro n9
  induction n9 with
  | zero => intro τ v1 v2 H locs ls cells d S hl hf hd; cases hf
  | succ n9 ih =>
    intro τ v1 v2 H locs ls cells d S hl hf hd
    rw [f_L_decide_2_s] at hf
    refine lv_iload_n C.1 C.2.1 dL_decide_2 rfl (lv_at hl 2 rfl) ?_
    refine lv_aload_n C.1 C.2.1 dL_decide_3 rfl (lv_at hl 0 rfl) ?_
    refine q_getR C S 40 0 50 1 rfl rfl rfl cf_11 1 (by decide) (qr_40_1 G τ 0) tw_4_97 dL_decide_4 ?_
    refine q_size C S 1 (Or.inl (by decide)) (by decide) tw_5_190 ⟨(Nat.le_of_ble_eq_true rfl), (Nat.le_of_ble_eq_true rfl)⟩ (Nat.le_of_ble_eq_true rfl) hl.1 ⟨(show _ ≤ n from by omega), (show _ ≤ 6 * n from by omega)⟩ dL_decide_7 (fun H locs S => ?_)
    refine lv_icmp_ge (tgt := 180) C.1 C.2.1 dL_decide_12 (by decide) (fun c_12 => ?_) (fun c_12 => ?_)
    · rw [if_pos c_12] at hf
      exact w_L_decide_180 C _ _ _ _ _ _ S (lv_sub hl [] rfl) hf hd
    · rw [if_neg c_12] at hf
      refine lv_aload_n C.1 C.2.1 dL_decide_15 rfl (lv_at hl 0 rfl) ?_
      refine q_getR C S 40 0 50 1 rfl rfl rfl cf_11 1 (by decide) (qr_40_1 G τ 0) tw_4_97 dL_decide_16 ?_
      refine lv_iload_n C.1 C.2.1 dL_decide_19 rfl (lv_at hl 2 rfl) ?_
      obtain ⟨g_20, hf⟩ := gd hf
      have ob_20 := q_ltN S (Or.inl (by decide)) (q_glt g_20)
      refine q_get C S 1 (Or.inl (by decide)) (by decide) g_20 tw_5_199 ⟨(Nat.le_of_ble_eq_true rfl), (Nat.le_of_ble_eq_true rfl)⟩ (Nat.le_of_ble_eq_true rfl) hl.1 ⟨(show _ ≤ n from by omega), (show _ ≤ 6 * n from by omega)⟩ dL_decide_20 (fun H locs S => ?_)
      refine q_cast C S 42 ((v2).toNatClampNeg) rfl ob_20 "BusLiftsLaw$Call" (fun _ => Or.inl ⟨_, _, _, _, rfl, rfl⟩) tw_4_19 dL_decide_25 ?_
      refine lv_astore_n (lv' := [(3, .ref (ad 42 ((v2).toNatClampNeg))), (0, .ref (ad 40 0)), (1, .int v1), (2, .int v2)]) C.1 C.2.1 dL_decide_28 rfl hl (by decide) rfl (fun ls hl => ?_)
      refine lv_aload_n C.1 C.2.1 dL_decide_29 rfl (lv_at hl 0 rfl) ?_
      refine q_getRN C S 42 ((v2).toNatClampNeg) 45 ((v2).toNatClampNeg) rfl rfl ob_20 cf_8 11 (by decide) (qr_42_11 G τ ((v2).toNatClampNeg)) (List.mem_of_getElem? (i := 38) rfl) dL_decide_30 ?_
      refine lv_iload_n C.1 C.2.1 dL_decide_33 rfl (lv_at hl 2 rfl) ?_
      obtain ⟨g_34, hf⟩ := gd hf
      refine q_by C S ((v2).toNatClampNeg) ob_20 g_34 dL_decide_34 ?_
      refine lv_astore (lv' := [(4, .ref (ad 43 (4 * ((v2).toNatClampNeg) + (v1).toNatClampNeg))), (3, .ref (ad 42 ((v2).toNatClampNeg))), (0, .ref (ad 40 0)), (1, .int v1), (2, .int v2)]) C.1 C.2.1 dL_decide_35 hl (by decide) rfl (fun ls hl => ?_)
      refine lv_aload C.1 C.2.1 dL_decide_37 (lv_at hl 0 rfl) ?_
      refine q_getIN C S 43 (4 * ((v2).toNatClampNeg) + (v1).toNatClampNeg) rfl (q_lt4 ob_20 g_34) cf_10 2 (by decide) (qi_43_2 G τ (4 * ((v2).toNatClampNeg) + (v1).toNatClampNeg)) (List.mem_of_getElem? (i := 24) rfl) dL_decide_39 ?_
      refine lv_aload_n C.1 C.2.1 dL_decide_42 rfl (lv_at hl 2 rfl) ?_
      refine q_getI C S 40 0 rfl rfl cf_11 7 (by decide) (qi_40_7 G τ 0) tw_4_103 dL_decide_43 ?_
      refine lv_icmp_eq (tgt := 52) C.1 C.2.1 dL_decide_46 (by decide) (fun c_46 => ?_) (fun c_46 => ?_)
      · rw [if_pos c_46] at hf
        refine lv_aload C.1 C.2.1 dL_decide_52 (lv_at hl 0 rfl) ?_
        refine lv_iconst (v := (-1)) C.1 C.2.1 dL_decide_54 (by decide) ?_
        obtain ⟨τ1, e_55, hf⟩ := stb hf
        refine q_putIN C S 43 (4 * ((v2).toNatClampNeg) + (v1).toNatClampNeg) 2 rfl rfl (q_lt4 ob_20 g_34) cf_10 2 (by decide) (qp_43_2 G τ (4 * ((v2).toNatClampNeg) + (v1).toNatClampNeg) _) rfl rfl rfl (List.mem_of_getElem? (i := 24) rfl) dL_decide_55 (fun H locs S => ?_)
        rw [← e_55] at S
        refine lv_aload_n C.1 C.2.1 dL_decide_58 rfl (lv_at hl 1 rfl) ?_
        refine q_getIN C S 42 ((v2).toNatClampNeg) rfl ob_20 cf_8 3 (by decide) (qi_42_3 G τ1 ((v2).toNatClampNeg)) (List.mem_of_getElem? (i := 30) rfl) dL_decide_59 ?_
        refine lv_iconst (v := 1) C.1 C.2.1 dL_decide_62 (by decide) ?_
        refine lv_icmp_ne (tgt := 70) C.1 C.2.1 dL_decide_63 (by decide) (fun c_63 => ?_) (fun c_63 => ?_)
        · rw [if_neg c_63] at hf
          refine lv_iconst (v := 0) C.1 C.2.1 dL_decide_70 (by decide) ?_
          exact w_L_decide_71 C (f_L_decide_2 n9) ih _ v1 v2 (4 * ((v2).toNatClampNeg) + (v1).toNatClampNeg) 0 _ _ _ _ _ S (lv_sub hl [2, 3, 4, 0] rfl) (q_lt4 ob_20 g_34) hf hd
        · rw [if_pos c_63] at hf
          refine lv_iconst (v := 1) C.1 C.2.1 dL_decide_66 (by decide) ?_
          refine lv_goto (tgt := 71) C.1 C.2.1 dL_decide_67 (by decide) ?_
          exact w_L_decide_71 C (f_L_decide_2 n9) ih _ v1 v2 (4 * ((v2).toNatClampNeg) + (v1).toNatClampNeg) 1 _ _ _ _ _ S (lv_sub hl [2, 3, 4, 0] rfl) (q_lt4 ob_20 g_34) hf hd
      · rw [if_neg c_46] at hf
        refine lv_goto (tgt := 174) C.1 C.2.1 dL_decide_49 (by decide) ?_
        exact w_L_decide_174 C (f_L_decide_2 n9) ih _ v1 v2 _ _ _ _ _ S (lv_sub hl [2, 3, 4] rfl) hf hd
set_option maxHeartbeats 4000000 in
set_option maxRecDepth 100000 in
theorem w_L_decide_0 {p : Program} {l : Launch} {e : Env} {s : State} {m : MethodId} {args : Array Value} {below : List Frame} {meth : Method} {c : Code} {G : Gx} {ad : Ad} {N : Nn} {X : Ex} {A : Nat → Prop} {res : Int32 × Sg} {n : Nat} (C : Cx p s m args meth c yL_decide.cls cL_decide 7 none G) : ∀ (τ : Sg) (v1 : Int32) (H : Heap) (locs : List Loc) (ls : Array Slot) (cells d : Nat), q_S G ad N X τ [] A s.heap H locs → lv_has ls 7 [(0, .ref (ad 40 0)), (1, .int v1)] → f_L_decide τ v1 = some (res.1, res.2, d) → cells + d = n → W p l e { frames := 8, cells := n, slots := 6 * n, locals := 181 } s m args below meth c H locs cells (6 * cells) (MQ below (k_Q none (q_V G ad N res.2 A) A) args s n (6 * n) A) (F0 m 0 ls []) := by
  intro τ v1 H locs ls cells d S hl hf hd
  unfold f_L_decide at hf
  refine lv_iconst (v := 0) C.1 C.2.1 dL_decide_0 (by decide) ?_
  refine lv_istore_n (lv' := [(2, .int 0), (0, .ref (ad 40 0)), (1, .int v1)]) C.1 C.2.1 dL_decide_1 rfl hl (by decide) rfl (fun ls hl => ?_)
  exact w_L_decide_2 C FU _ v1 0 _ _ _ _ _ S (lv_sub hl [1, 2, 0] rfl) hf hd
theorem kv_L_decide : KV yL_decide cL_decide 7 none 1 := ⟨tw_7_55, tw_7_54, tw_p_35, tw_1_0, by decide, by decide, by decide +kernel⟩
theorem m_L_decide (l : Launch) (G : Gx) (ad : Ad) (N : Nn) (τ : Sg) (v1 : Int32) (res : Int32 × Sg) (n : Nat) (hf : f_L_decide τ v1 = some (res.1, res.2, n)) (sz : Nat) : q_M l yL_decide cL_decide 7 none 8 181 n G ad N τ sz [.ref (ad 40 0), .int v1] none res.2 := by
  refine q_begin (by decide +kernel) (Nat.le_of_ble_eq_true rfl) [(0, .ref (ad 40 0)), (1, .int v1)] rfl (fun p e s m args below meth c ls C hz S hl => ?_)
  subst hz
  exact w_L_decide_0 C _ v1 _ _ _ _ _ S hl hf (Nat.zero_add _)

theorem dL_goal_0 : decode cL_goal 0 = .ok (.aload_n 0, 1) := by decide +kernel
theorem dL_goal_1 : decode cL_goal 1 = .ok (.getfield 30, 3) := by decide +kernel
theorem dL_goal_4 : decode cL_goal 4 = .ok (.iload_n 1, 1) := by decide +kernel
theorem dL_goal_5 : decode cL_goal 5 = .ok (.invokeinterface 179 2, 5) := by decide +kernel
theorem dL_goal_10 : decode cL_goal 10 = .ok (.checkcast 82, 3) := by decide +kernel
theorem dL_goal_13 : decode cL_goal 13 = .ok (.getfield 85, 3) := by decide +kernel
theorem dL_goal_16 : decode cL_goal 16 = .ok (.istore_n 2, 1) := by decide +kernel
theorem dL_goal_17 : decode cL_goal 17 = .ok (.aload_n 0, 1) := by decide +kernel
theorem dL_goal_18 : decode cL_goal 18 = .ok (.iload_n 1, 1) := by decide +kernel
theorem dL_goal_19 : decode cL_goal 19 = .ok (.invokevirtual 192, 3) := by decide +kernel
theorem dL_goal_22 : decode cL_goal 22 = .ok (.aload_n 0, 1) := by decide +kernel
theorem dL_goal_23 : decode cL_goal 23 = .ok (.getfield 30, 3) := by decide +kernel
theorem dL_goal_26 : decode cL_goal 26 = .ok (.iload_n 1, 1) := by decide +kernel
theorem dL_goal_27 : decode cL_goal 27 = .ok (.invokeinterface 179 2, 5) := by decide +kernel
theorem dL_goal_32 : decode cL_goal 32 = .ok (.checkcast 82, 3) := by decide +kernel
theorem dL_goal_35 : decode cL_goal 35 = .ok (.getfield 88, 3) := by decide +kernel
theorem dL_goal_38 : decode cL_goal 38 = .ok (.if_icmp .ge 7, 3) := by decide +kernel
theorem dL_goal_41 : decode cL_goal 41 = .ok (.iconst 1, 1) := by decide +kernel
theorem dL_goal_42 : decode cL_goal 42 = .ok (.goto 4, 3) := by decide +kernel
theorem dL_goal_45 : decode cL_goal 45 = .ok (.iconst 0, 1) := by decide +kernel
theorem dL_goal_46 : decode cL_goal 46 = .ok (.istore_n 3, 1) := by decide +kernel
theorem dL_goal_47 : decode cL_goal 47 = .ok (.iconst (-1), 1) := by decide +kernel
theorem dL_goal_48 : decode cL_goal 48 = .ok (.istore 4, 2) := by decide +kernel
theorem dL_goal_50 : decode cL_goal 50 = .ok (.aload_n 0, 1) := by decide +kernel
theorem dL_goal_51 : decode cL_goal 51 = .ok (.getfield 36, 3) := by decide +kernel
theorem dL_goal_54 : decode cL_goal 54 = .ok (.invokeinterface 133 1, 5) := by decide +kernel
theorem dL_goal_59 : decode cL_goal 59 = .ok (.astore 5, 2) := by decide +kernel
theorem dL_goal_61 : decode cL_goal 61 = .ok (.aload 5, 2) := by decide +kernel
theorem dL_goal_63 : decode cL_goal 63 = .ok (.invokeinterface 137 1, 5) := by decide +kernel
theorem dL_goal_68 : decode cL_goal 68 = .ok (.ifCond .eq 219, 3) := by decide +kernel
theorem dL_goal_71 : decode cL_goal 71 = .ok (.aload 5, 2) := by decide +kernel
theorem dL_goal_73 : decode cL_goal 73 = .ok (.invokeinterface 143 1, 5) := by decide +kernel
theorem dL_goal_78 : decode cL_goal 78 = .ok (.checkcast 97, 3) := by decide +kernel
theorem dL_goal_81 : decode cL_goal 81 = .ok (.astore 6, 2) := by decide +kernel
theorem dL_goal_83 : decode cL_goal 83 = .ok (.aload 6, 2) := by decide +kernel
theorem dL_goal_85 : decode cL_goal 85 = .ok (.getfield 173, 3) := by decide +kernel
theorem dL_goal_88 : decode cL_goal 88 = .ok (.iconst 2, 1) := by decide +kernel
theorem dL_goal_89 : decode cL_goal 89 = .ok (.if_icmp .ne 20, 3) := by decide +kernel
theorem dL_goal_92 : decode cL_goal 92 = .ok (.aload 6, 2) := by decide +kernel
theorem dL_goal_94 : decode cL_goal 94 = .ok (.getfield 176, 3) := by decide +kernel
theorem dL_goal_97 : decode cL_goal 97 = .ok (.iload_n 1, 1) := by decide +kernel
theorem dL_goal_98 : decode cL_goal 98 = .ok (.if_icmp .ne 11, 3) := by decide +kernel
theorem dL_goal_101 : decode cL_goal 101 = .ok (.aload 6, 2) := by decide +kernel
theorem dL_goal_103 : decode cL_goal 103 = .ok (.getfield 160, 3) := by decide +kernel
theorem dL_goal_106 : decode cL_goal 106 = .ok (.goto 29, 3) := by decide +kernel
theorem dL_goal_109 : decode cL_goal 109 = .ok (.iload_n 3, 1) := by decide +kernel
theorem dL_goal_110 : decode cL_goal 110 = .ok (.ifCond .eq 24, 3) := by decide +kernel
theorem dL_goal_113 : decode cL_goal 113 = .ok (.aload 6, 2) := by decide +kernel
theorem dL_goal_115 : decode cL_goal 115 = .ok (.getfield 163, 3) := by decide +kernel
theorem dL_goal_118 : decode cL_goal 118 = .ok (.iload_n 1, 1) := by decide +kernel
theorem dL_goal_119 : decode cL_goal 119 = .ok (.aaload, 1) := by decide +kernel
theorem dL_goal_120 : decode cL_goal 120 = .ok (.getfield 167, 3) := by decide +kernel
theorem dL_goal_123 : decode cL_goal 123 = .ok (.ifCond .eq 11, 3) := by decide +kernel
theorem dL_goal_126 : decode cL_goal 126 = .ok (.aload 6, 2) := by decide +kernel
theorem dL_goal_128 : decode cL_goal 128 = .ok (.getfield 157, 3) := by decide +kernel
theorem dL_goal_131 : decode cL_goal 131 = .ok (.goto 4, 3) := by decide +kernel
theorem dL_goal_134 : decode cL_goal 134 = .ok (.iconst (-1), 1) := by decide +kernel
theorem dL_goal_135 : decode cL_goal 135 = .ok (.istore 7, 2) := by decide +kernel
theorem dL_goal_137 : decode cL_goal 137 = .ok (.iload 7, 2) := by decide +kernel
theorem dL_goal_139 : decode cL_goal 139 = .ok (.ifCond .lt 53, 3) := by decide +kernel
theorem dL_goal_142 : decode cL_goal 142 = .ok (.iload 4, 2) := by decide +kernel
theorem dL_goal_144 : decode cL_goal 144 = .ok (.ifCond .lt 44, 3) := by decide +kernel
theorem dL_goal_147 : decode cL_goal 147 = .ok (.iload 7, 2) := by decide +kernel
theorem dL_goal_149 : decode cL_goal 149 = .ok (.iload_n 2, 1) := by decide +kernel
theorem dL_goal_150 : decode cL_goal 150 = .ok (.isub, 1) := by decide +kernel
theorem dL_goal_151 : decode cL_goal 151 = .ok (.invokestatic 183, 3) := by decide +kernel
theorem dL_goal_154 : decode cL_goal 154 = .ok (.iload 4, 2) := by decide +kernel
theorem dL_goal_156 : decode cL_goal 156 = .ok (.iload_n 2, 1) := by decide +kernel
theorem dL_goal_157 : decode cL_goal 157 = .ok (.isub, 1) := by decide +kernel
theorem dL_goal_158 : decode cL_goal 158 = .ok (.invokestatic 183, 3) := by decide +kernel
theorem dL_goal_161 : decode cL_goal 161 = .ok (.if_icmp .lt 27, 3) := by decide +kernel
theorem dL_goal_164 : decode cL_goal 164 = .ok (.iload 7, 2) := by decide +kernel
theorem dL_goal_166 : decode cL_goal 166 = .ok (.iload_n 2, 1) := by decide +kernel
theorem dL_goal_167 : decode cL_goal 167 = .ok (.isub, 1) := by decide +kernel
theorem dL_goal_168 : decode cL_goal 168 = .ok (.invokestatic 183, 3) := by decide +kernel
theorem dL_goal_171 : decode cL_goal 171 = .ok (.iload 4, 2) := by decide +kernel
theorem dL_goal_173 : decode cL_goal 173 = .ok (.iload_n 2, 1) := by decide +kernel
theorem dL_goal_174 : decode cL_goal 174 = .ok (.isub, 1) := by decide +kernel
theorem dL_goal_175 : decode cL_goal 175 = .ok (.invokestatic 183, 3) := by decide +kernel
theorem dL_goal_178 : decode cL_goal 178 = .ok (.if_icmp .ne 14, 3) := by decide +kernel
theorem dL_goal_181 : decode cL_goal 181 = .ok (.iload 7, 2) := by decide +kernel
theorem dL_goal_183 : decode cL_goal 183 = .ok (.iload 4, 2) := by decide +kernel
theorem dL_goal_185 : decode cL_goal 185 = .ok (.if_icmp .ge 7, 3) := by decide +kernel
theorem dL_goal_188 : decode cL_goal 188 = .ok (.iload 7, 2) := by decide +kernel
theorem dL_goal_190 : decode cL_goal 190 = .ok (.istore 4, 2) := by decide +kernel
theorem dL_goal_192 : decode cL_goal 192 = .ok (.aload 6, 2) := by decide +kernel
theorem dL_goal_194 : decode cL_goal 194 = .ok (.getfield 173, 3) := by decide +kernel
theorem dL_goal_197 : decode cL_goal 197 = .ok (.iconst 2, 1) := by decide +kernel
theorem dL_goal_198 : decode cL_goal 198 = .ok (.if_icmp .ne 86, 3) := by decide +kernel
theorem dL_goal_201 : decode cL_goal 201 = .ok (.aload 6, 2) := by decide +kernel
theorem dL_goal_203 : decode cL_goal 203 = .ok (.getfield 176, 3) := by decide +kernel
theorem dL_goal_206 : decode cL_goal 206 = .ok (.iload_n 1, 1) := by decide +kernel
theorem dL_goal_207 : decode cL_goal 207 = .ok (.if_icmp .ne 77, 3) := by decide +kernel
theorem dL_goal_210 : decode cL_goal 210 = .ok (.iload_n 3, 1) := by decide +kernel
theorem dL_goal_211 : decode cL_goal 211 = .ok (.ifCond .eq 73, 3) := by decide +kernel
theorem dL_goal_214 : decode cL_goal 214 = .ok (.aload 6, 2) := by decide +kernel
theorem dL_goal_216 : decode cL_goal 216 = .ok (.getfield 163, 3) := by decide +kernel
theorem dL_goal_219 : decode cL_goal 219 = .ok (.iload_n 1, 1) := by decide +kernel
theorem dL_goal_220 : decode cL_goal 220 = .ok (.aaload, 1) := by decide +kernel
theorem dL_goal_221 : decode cL_goal 221 = .ok (.getfield 167, 3) := by decide +kernel
theorem dL_goal_224 : decode cL_goal 224 = .ok (.ifCond .eq 60, 3) := by decide +kernel
theorem dL_goal_227 : decode cL_goal 227 = .ok (.aload 6, 2) := by decide +kernel
theorem dL_goal_229 : decode cL_goal 229 = .ok (.getfield 157, 3) := by decide +kernel
theorem dL_goal_232 : decode cL_goal 232 = .ok (.iload_n 2, 1) := by decide +kernel
theorem dL_goal_233 : decode cL_goal 233 = .ok (.isub, 1) := by decide +kernel
theorem dL_goal_234 : decode cL_goal 234 = .ok (.invokestatic 183, 3) := by decide +kernel
theorem dL_goal_237 : decode cL_goal 237 = .ok (.iload 4, 2) := by decide +kernel
theorem dL_goal_239 : decode cL_goal 239 = .ok (.iload_n 2, 1) := by decide +kernel
theorem dL_goal_240 : decode cL_goal 240 = .ok (.isub, 1) := by decide +kernel
theorem dL_goal_241 : decode cL_goal 241 = .ok (.invokestatic 183, 3) := by decide +kernel
theorem dL_goal_244 : decode cL_goal 244 = .ok (.if_icmp .lt 33, 3) := by decide +kernel
theorem dL_goal_247 : decode cL_goal 247 = .ok (.aload 6, 2) := by decide +kernel
theorem dL_goal_249 : decode cL_goal 249 = .ok (.getfield 157, 3) := by decide +kernel
theorem dL_goal_252 : decode cL_goal 252 = .ok (.iload_n 2, 1) := by decide +kernel
theorem dL_goal_253 : decode cL_goal 253 = .ok (.isub, 1) := by decide +kernel
theorem dL_goal_254 : decode cL_goal 254 = .ok (.invokestatic 183, 3) := by decide +kernel
theorem dL_goal_257 : decode cL_goal 257 = .ok (.iload 4, 2) := by decide +kernel
theorem dL_goal_259 : decode cL_goal 259 = .ok (.iload_n 2, 1) := by decide +kernel
theorem dL_goal_260 : decode cL_goal 260 = .ok (.isub, 1) := by decide +kernel
theorem dL_goal_261 : decode cL_goal 261 = .ok (.invokestatic 183, 3) := by decide +kernel
theorem dL_goal_264 : decode cL_goal 264 = .ok (.if_icmp .ne 20, 3) := by decide +kernel
theorem dL_goal_267 : decode cL_goal 267 = .ok (.aload 6, 2) := by decide +kernel
theorem dL_goal_269 : decode cL_goal 269 = .ok (.getfield 157, 3) := by decide +kernel
theorem dL_goal_272 : decode cL_goal 272 = .ok (.iload 4, 2) := by decide +kernel
theorem dL_goal_274 : decode cL_goal 274 = .ok (.if_icmp .ge 10, 3) := by decide +kernel
theorem dL_goal_277 : decode cL_goal 277 = .ok (.aload 6, 2) := by decide +kernel
theorem dL_goal_279 : decode cL_goal 279 = .ok (.getfield 157, 3) := by decide +kernel
theorem dL_goal_282 : decode cL_goal 282 = .ok (.istore 4, 2) := by decide +kernel
theorem dL_goal_284 : decode cL_goal 284 = .ok (.goto (-223), 3) := by decide +kernel
theorem dL_goal_287 : decode cL_goal 287 = .ok (.iload 4, 2) := by decide +kernel
theorem dL_goal_289 : decode cL_goal 289 = .ok (.ireturn, 1) := by decide +kernel
/-! BusLiftsLaw.goal(I)I -/
noncomputable def f_L_goal_287 (τ : Sg) (v4 : Int32) : Option (Int32 × Sg × Nat) := some (v4, τ, 0)
noncomputable def f_L_goal_284 (k61 : Sg → Int32 → Int32 → Int32 → Int32 → Nat → Int32 → Option (Int32 × Sg × Nat)) (τ : Sg) (v1 : Int32) (v2 : Int32) (v3 : Int32) (v4 : Int32) (k5 : Nat) (m5 : Int32) : Option (Int32 × Sg × Nat) := k61 τ v1 v2 v3 v4 k5 m5
noncomputable def f_L_goal_277 (k61 : Sg → Int32 → Int32 → Int32 → Int32 → Nat → Int32 → Option (Int32 × Sg × Nat)) (τ : Sg) (v1 : Int32) (v2 : Int32) (v3 : Int32) (k5 : Nat) (m5 : Int32) (o6 : Nat) : Option (Int32 × Sg × Nat) := f_L_goal_284 k61 τ v1 v2 v3 (τ 42 o6 0) k5 m5
noncomputable def f_L_goal_192 (k61 : Sg → Int32 → Int32 → Int32 → Int32 → Nat → Int32 → Option (Int32 × Sg × Nat)) (τ : Sg) (v1 : Int32) (v2 : Int32) (v3 : Int32) (v4 : Int32) (k5 : Nat) (m5 : Int32) (o6 : Nat) : Option (Int32 × Sg × Nat) := if (τ 42 o6 3) = 2 then (if (τ 42 o6 4) = v1 then (if v3 = 0 then (f_L_goal_284 k61 τ v1 v2 v3 v4 k5 m5) else (if v1 < 0 ∨ 4 ≤ (v1).toNatClampNeg then none else (if (τ 43 (4 * o6 + (v1).toNatClampNeg) 0) = 0 then (f_L_goal_284 k61 τ v1 v2 v3 v4 k5 m5) else (if (jabs ((τ 42 o6 0) - v2)) < (jabs (v4 - v2)) then (f_L_goal_277 k61 τ v1 v2 v3 k5 m5 o6) else (if (jabs ((τ 42 o6 0) - v2)) = (jabs (v4 - v2)) then (if v4 ≤ (τ 42 o6 0) then (f_L_goal_284 k61 τ v1 v2 v3 v4 k5 m5) else (f_L_goal_277 k61 τ v1 v2 v3 k5 m5 o6)) else (f_L_goal_284 k61 τ v1 v2 v3 v4 k5 m5)))))) else (f_L_goal_284 k61 τ v1 v2 v3 v4 k5 m5)) else (f_L_goal_284 k61 τ v1 v2 v3 v4 k5 m5)
noncomputable def f_L_goal_188 (k61 : Sg → Int32 → Int32 → Int32 → Int32 → Nat → Int32 → Option (Int32 × Sg × Nat)) (τ : Sg) (v1 : Int32) (v2 : Int32) (v3 : Int32) (k5 : Nat) (m5 : Int32) (o6 : Nat) (v7 : Int32) : Option (Int32 × Sg × Nat) := f_L_goal_192 k61 τ v1 v2 v3 v7 k5 m5 o6
noncomputable def f_L_goal_135 (k61 : Sg → Int32 → Int32 → Int32 → Int32 → Nat → Int32 → Option (Int32 × Sg × Nat)) (τ : Sg) (v1 : Int32) (v2 : Int32) (v3 : Int32) (v4 : Int32) (k5 : Nat) (m5 : Int32) (o6 : Nat) (v100 : Int32) : Option (Int32 × Sg × Nat) := if v100 < 0 then (f_L_goal_192 k61 τ v1 v2 v3 v4 k5 m5 o6) else (if v4 < 0 then (f_L_goal_188 k61 τ v1 v2 v3 k5 m5 o6 v100) else (if (jabs (v100 - v2)) < (jabs (v4 - v2)) then (f_L_goal_188 k61 τ v1 v2 v3 k5 m5 o6 v100) else (if (jabs (v100 - v2)) = (jabs (v4 - v2)) then (if v4 ≤ v100 then (f_L_goal_192 k61 τ v1 v2 v3 v4 k5 m5 o6) else (f_L_goal_188 k61 τ v1 v2 v3 k5 m5 o6 v100)) else (f_L_goal_192 k61 τ v1 v2 v3 v4 k5 m5 o6))))
noncomputable def f_L_goal_134 (k61 : Sg → Int32 → Int32 → Int32 → Int32 → Nat → Int32 → Option (Int32 × Sg × Nat)) (τ : Sg) (v1 : Int32) (v2 : Int32) (v3 : Int32) (v4 : Int32) (k5 : Nat) (m5 : Int32) (o6 : Nat) : Option (Int32 × Sg × Nat) := f_L_goal_135 k61 τ v1 v2 v3 v4 k5 m5 o6 (-1)
noncomputable def f_L_goal_109 (k61 : Sg → Int32 → Int32 → Int32 → Int32 → Nat → Int32 → Option (Int32 × Sg × Nat)) (τ : Sg) (v1 : Int32) (v2 : Int32) (v3 : Int32) (v4 : Int32) (k5 : Nat) (m5 : Int32) (o6 : Nat) : Option (Int32 × Sg × Nat) := if v3 = 0 then (f_L_goal_134 k61 τ v1 v2 v3 v4 k5 m5 o6) else (if v1 < 0 ∨ 4 ≤ (v1).toNatClampNeg then none else (if (τ 43 (4 * o6 + (v1).toNatClampNeg) 0) = 0 then (f_L_goal_134 k61 τ v1 v2 v3 v4 k5 m5 o6) else (f_L_goal_135 k61 τ v1 v2 v3 v4 k5 m5 o6 (τ 42 o6 0))))
noncomputable def f_L_goal_61 : Nat → Sg → Int32 → Int32 → Int32 → Int32 → Nat → Int32 → Option (Int32 × Sg × Nat)
  | 0, _, _, _, _, _, _, _ => none
  | n + 1, τ, v1, v2, v3, v4, k5, m5 => if (it_z (nI k5) (τ 50 1 2)) = 0 then (f_L_goal_287 τ v4) else (if ¬ (k5 < q_nn τ 1 ∧ m5 = τ 50 1 0) then none else (if (τ 42 k5 3) = 2 then (if (τ 42 k5 4) = v1 then (f_L_goal_135 (f_L_goal_61 n) τ v1 v2 v3 v4 (k5 + 1) m5 k5 (τ 42 k5 1)) else (f_L_goal_109 (f_L_goal_61 n) τ v1 v2 v3 v4 (k5 + 1) m5 k5)) else (f_L_goal_109 (f_L_goal_61 n) τ v1 v2 v3 v4 (k5 + 1) m5 k5)))
theorem f_L_goal_61_s (n : Nat) (τ : Sg) (v1 : Int32) (v2 : Int32) (v3 : Int32) (v4 : Int32) (k5 : Nat) (m5 : Int32) : f_L_goal_61 (n + 1) τ v1 v2 v3 v4 k5 m5 = (if (it_z (nI k5) (τ 50 1 2)) = 0 then (f_L_goal_287 τ v4) else (if ¬ (k5 < q_nn τ 1 ∧ m5 = τ 50 1 0) then none else (if (τ 42 k5 3) = 2 then (if (τ 42 k5 4) = v1 then (f_L_goal_135 (f_L_goal_61 n) τ v1 v2 v3 v4 (k5 + 1) m5 k5 (τ 42 k5 1)) else (f_L_goal_109 (f_L_goal_61 n) τ v1 v2 v3 v4 (k5 + 1) m5 k5)) else (f_L_goal_109 (f_L_goal_61 n) τ v1 v2 v3 v4 (k5 + 1) m5 k5)))) := rfl
noncomputable def f_L_goal_46 (τ : Sg) (v1 : Int32) (v2 : Int32) (v100 : Int32) : Option (Int32 × Sg × Nat) := ac 1 (f_L_goal_61 FU τ v1 v2 v100 (-1) 0 (τ 50 1 0))
noncomputable def f_L_goal (τ : Sg) (v1 : Int32) : Option (Int32 × Sg × Nat) := if v1 < 0 ∨ q_nn τ 0 ≤ (v1).toNatClampNeg then none else (bq (f_L_aboard τ v1) fun r1 τ2 => (if v1 < 0 ∨ q_nn τ2 0 ≤ (v1).toNatClampNeg then none else (if (τ2 41 ((v1).toNatClampNeg) 1) ≤ r1 then (f_L_goal_46 τ2 v1 (τ 41 ((v1).toNatClampNeg) 0) 0) else (f_L_goal_46 τ2 v1 (τ 41 ((v1).toNatClampNeg) 0) 1))))
set_option maxHeartbeats 4000000 in
set_option maxRecDepth 100000 in
theorem w_L_goal_287 {p : Program} {l : Launch} {e : Env} {s : State} {m : MethodId} {args : Array Value} {below : List Frame} {meth : Method} {c : Code} {G : Gx} {ad : Ad} {N : Nn} {X : Ex} {A : Nat → Prop} {res : Int32 × Sg} {n : Nat} (C : Cx p s m args meth c yL_goal.cls cL_goal 8 (Option.some FieldType.int) G) : ∀ (τ : Sg) (v4 : Int32) (H : Heap) (locs : List Loc) (ls : Array Slot) (cells d : Nat), q_S G ad N X τ [] A s.heap H locs → lv_has ls 8 [(4, .int v4)] → f_L_goal_287 τ v4 = some (res.1, res.2, d) → cells + d = n → W p l e { frames := 4, cells := n, slots := 6 * n, locals := 77 } s m args below meth c H locs cells (6 * cells) (MQ below (k_Q (some (.int res.1)) (q_V G ad N res.2 A) A) args s n (6 * n) A) (F0 m 287 ls []) := by
  intro τ v4 H locs ls cells d S hl hf hd
  unfold f_L_goal_287 at hf
  refine lv_iload C.1 C.2.1 dL_goal_287 (lv_at hl 0 rfl) ?_
  exact q_iretF C S hf hd dL_goal_289
set_option maxHeartbeats 4000000 in
set_option maxRecDepth 100000 in
theorem w_L_goal_284 {p : Program} {l : Launch} {e : Env} {s : State} {m : MethodId} {args : Array Value} {below : List Frame} {meth : Method} {c : Code} {G : Gx} {ad : Ad} {N : Nn} {X : Ex} {A : Nat → Prop} {res : Int32 × Sg} {n : Nat} (C : Cx p s m args meth c yL_goal.cls cL_goal 8 (Option.some FieldType.int) G) (k61 : Sg → Int32 → Int32 → Int32 → Int32 → Nat → Int32 → Option (Int32 × Sg × Nat)) (hk61 : ∀ (τ : Sg) (v1 : Int32) (v2 : Int32) (v3 : Int32) (v4 : Int32) (k5 : Nat) (m5 : Int32) (a5 : Nat) (H : Heap) (locs : List Loc) (ls : Array Slot) (cells d : Nat), q_S G ad N X τ [(a5, 1, k5, m5)] A s.heap H locs → lv_has ls 8 [(1, .int v1), (2, .int v2), (3, .int v3), (4, .int v4), (5, .ref a5)] → k61 τ v1 v2 v3 v4 k5 m5 = some (res.1, res.2, d) → cells + d = n → W p l e { frames := 4, cells := n, slots := 6 * n, locals := 77 } s m args below meth c H locs cells (6 * cells) (MQ below (k_Q (some (.int res.1)) (q_V G ad N res.2 A) A) args s n (6 * n) A) (F0 m 61 ls [])) : ∀ (τ : Sg) (v1 : Int32) (v2 : Int32) (v3 : Int32) (v4 : Int32) (k5 : Nat) (m5 : Int32) (a5 : Nat) (H : Heap) (locs : List Loc) (ls : Array Slot) (cells d : Nat), q_S G ad N X τ [(a5, 1, k5, m5)] A s.heap H locs → lv_has ls 8 [(1, .int v1), (2, .int v2), (3, .int v3), (4, .int v4), (5, .ref a5)] → f_L_goal_284 k61 τ v1 v2 v3 v4 k5 m5 = some (res.1, res.2, d) → cells + d = n → W p l e { frames := 4, cells := n, slots := 6 * n, locals := 77 } s m args below meth c H locs cells (6 * cells) (MQ below (k_Q (some (.int res.1)) (q_V G ad N res.2 A) A) args s n (6 * n) A) (F0 m 284 ls []) := by
  intro τ v1 v2 v3 v4 k5 m5 a5 H locs ls cells d S hl hf hd
  unfold f_L_goal_284 at hf
  refine lv_goto (tgt := 61) C.1 C.2.1 dL_goal_284 (by decide) ?_
  exact hk61 _ v1 v2 v3 v4 k5 m5 a5 _ _ _ _ _ S (lv_sub hl [0, 1, 2, 3, 4] rfl) hf hd
set_option maxHeartbeats 4000000 in
set_option maxRecDepth 100000 in
theorem w_L_goal_277 {p : Program} {l : Launch} {e : Env} {s : State} {m : MethodId} {args : Array Value} {below : List Frame} {meth : Method} {c : Code} {G : Gx} {ad : Ad} {N : Nn} {X : Ex} {A : Nat → Prop} {res : Int32 × Sg} {n : Nat} (C : Cx p s m args meth c yL_goal.cls cL_goal 8 (Option.some FieldType.int) G) (k61 : Sg → Int32 → Int32 → Int32 → Int32 → Nat → Int32 → Option (Int32 × Sg × Nat)) (hk61 : ∀ (τ : Sg) (v1 : Int32) (v2 : Int32) (v3 : Int32) (v4 : Int32) (k5 : Nat) (m5 : Int32) (a5 : Nat) (H : Heap) (locs : List Loc) (ls : Array Slot) (cells d : Nat), q_S G ad N X τ [(a5, 1, k5, m5)] A s.heap H locs → lv_has ls 8 [(1, .int v1), (2, .int v2), (3, .int v3), (4, .int v4), (5, .ref a5)] → k61 τ v1 v2 v3 v4 k5 m5 = some (res.1, res.2, d) → cells + d = n → W p l e { frames := 4, cells := n, slots := 6 * n, locals := 77 } s m args below meth c H locs cells (6 * cells) (MQ below (k_Q (some (.int res.1)) (q_V G ad N res.2 A) A) args s n (6 * n) A) (F0 m 61 ls [])) : ∀ (τ : Sg) (v1 : Int32) (v2 : Int32) (v3 : Int32) (k5 : Nat) (m5 : Int32) (o6 : Nat) (a5 : Nat) (H : Heap) (locs : List Loc) (ls : Array Slot) (cells d : Nat), q_S G ad N X τ [(a5, 1, k5, m5)] A s.heap H locs → lv_has ls 8 [(1, .int v1), (2, .int v2), (3, .int v3), (5, .ref a5), (6, .ref (ad 42 o6))] → (o6 < N.2.1) → f_L_goal_277 k61 τ v1 v2 v3 k5 m5 o6 = some (res.1, res.2, d) → cells + d = n → W p l e { frames := 4, cells := n, slots := 6 * n, locals := 77 } s m args below meth c H locs cells (6 * cells) (MQ below (k_Q (some (.int res.1)) (q_V G ad N res.2 A) A) args s n (6 * n) A) (F0 m 277 ls []) := by
  intro τ v1 v2 v3 k5 m5 o6 a5 H locs ls cells d S hl ho6 hf hd
  unfold f_L_goal_277 at hf
  refine lv_aload C.1 C.2.1 dL_goal_277 (lv_at hl 4 rfl) ?_
  refine q_getIN C S 42 o6 rfl ho6 cf_8 0 (by decide) (qi_42_0 G τ o6) (List.mem_of_getElem? (i := 27) rfl) dL_goal_279 ?_
  refine lv_istore (lv' := [(4, .int (τ 42 o6 0)), (1, .int v1), (2, .int v2), (3, .int v3), (5, .ref a5), (6, .ref (ad 42 o6))]) C.1 C.2.1 dL_goal_282 hl (by decide) rfl (fun ls hl => ?_)
  exact w_L_goal_284 C k61 hk61 _ v1 v2 v3 (τ 42 o6 0) k5 m5 a5 _ _ _ _ _ S (lv_sub hl [1, 2, 3, 0, 4] rfl) hf hd
set_option maxHeartbeats 4000000 in
set_option maxRecDepth 100000 in
theorem w_L_goal_192 {p : Program} {l : Launch} {e : Env} {s : State} {m : MethodId} {args : Array Value} {below : List Frame} {meth : Method} {c : Code} {G : Gx} {ad : Ad} {N : Nn} {X : Ex} {A : Nat → Prop} {res : Int32 × Sg} {n : Nat} (C : Cx p s m args meth c yL_goal.cls cL_goal 8 (Option.some FieldType.int) G) (k61 : Sg → Int32 → Int32 → Int32 → Int32 → Nat → Int32 → Option (Int32 × Sg × Nat)) (hk61 : ∀ (τ : Sg) (v1 : Int32) (v2 : Int32) (v3 : Int32) (v4 : Int32) (k5 : Nat) (m5 : Int32) (a5 : Nat) (H : Heap) (locs : List Loc) (ls : Array Slot) (cells d : Nat), q_S G ad N X τ [(a5, 1, k5, m5)] A s.heap H locs → lv_has ls 8 [(1, .int v1), (2, .int v2), (3, .int v3), (4, .int v4), (5, .ref a5)] → k61 τ v1 v2 v3 v4 k5 m5 = some (res.1, res.2, d) → cells + d = n → W p l e { frames := 4, cells := n, slots := 6 * n, locals := 77 } s m args below meth c H locs cells (6 * cells) (MQ below (k_Q (some (.int res.1)) (q_V G ad N res.2 A) A) args s n (6 * n) A) (F0 m 61 ls [])) : ∀ (τ : Sg) (v1 : Int32) (v2 : Int32) (v3 : Int32) (v4 : Int32) (k5 : Nat) (m5 : Int32) (o6 : Nat) (a5 : Nat) (H : Heap) (locs : List Loc) (ls : Array Slot) (cells d : Nat), q_S G ad N X τ [(a5, 1, k5, m5)] A s.heap H locs → lv_has ls 8 [(1, .int v1), (2, .int v2), (3, .int v3), (4, .int v4), (5, .ref a5), (6, .ref (ad 42 o6))] → (o6 < N.2.1) → f_L_goal_192 k61 τ v1 v2 v3 v4 k5 m5 o6 = some (res.1, res.2, d) → cells + d = n → W p l e { frames := 4, cells := n, slots := 6 * n, locals := 77 } s m args below meth c H locs cells (6 * cells) (MQ below (k_Q (some (.int res.1)) (q_V G ad N res.2 A) A) args s n (6 * n) A) (F0 m 192 ls []) := by
  intro τ v1 v2 v3 v4 k5 m5 o6 a5 H locs ls cells d S hl ho6 hf hd
  unfold f_L_goal_192 at hf
  refine lv_aload C.1 C.2.1 dL_goal_192 (lv_at hl 5 rfl) ?_
  refine q_getIN C S 42 o6 rfl ho6 cf_8 3 (by decide) (qi_42_3 G τ o6) (List.mem_of_getElem? (i := 30) rfl) dL_goal_194 ?_
  refine lv_iconst (v := 2) C.1 C.2.1 dL_goal_197 (by decide) ?_
  refine lv_icmp_ne (tgt := 284) C.1 C.2.1 dL_goal_198 (by decide) (fun c_198 => ?_) (fun c_198 => ?_)
  · rw [if_neg c_198] at hf
    exact w_L_goal_284 C k61 hk61 _ v1 v2 v3 v4 k5 m5 a5 _ _ _ _ _ S (lv_sub hl [0, 1, 2, 3, 4] rfl) hf hd
  · rw [if_pos c_198] at hf
    refine lv_aload C.1 C.2.1 dL_goal_201 (lv_at hl 5 rfl) ?_
    refine q_getIN C S 42 o6 rfl ho6 cf_8 4 (by decide) (qi_42_4 G τ o6) (List.mem_of_getElem? (i := 31) rfl) dL_goal_203 ?_
    refine lv_iload_n C.1 C.2.1 dL_goal_206 rfl (lv_at hl 0 rfl) ?_
    refine lv_icmp_ne (tgt := 284) C.1 C.2.1 dL_goal_207 (by decide) (fun c_207 => ?_) (fun c_207 => ?_)
    · rw [if_neg c_207] at hf
      exact w_L_goal_284 C k61 hk61 _ v1 v2 v3 v4 k5 m5 a5 _ _ _ _ _ S (lv_sub hl [0, 1, 2, 3, 4] rfl) hf hd
    · rw [if_pos c_207] at hf
      refine lv_iload_n C.1 C.2.1 dL_goal_210 rfl (lv_at hl 2 rfl) ?_
      refine lv_if_eq (tgt := 284) C.1 C.2.1 dL_goal_211 (by decide) (fun c_211 => ?_) (fun c_211 => ?_)
      · rw [if_pos c_211] at hf
        exact w_L_goal_284 C k61 hk61 _ v1 v2 v3 v4 k5 m5 a5 _ _ _ _ _ S (lv_sub hl [0, 1, 2, 3, 4] rfl) hf hd
      · rw [if_neg c_211] at hf
        refine lv_aload C.1 C.2.1 dL_goal_214 (lv_at hl 5 rfl) ?_
        refine q_getRN C S 42 o6 45 o6 rfl rfl ho6 cf_8 11 (by decide) (qr_42_11 G τ o6) (List.mem_of_getElem? (i := 38) rfl) dL_goal_216 ?_
        refine lv_iload_n C.1 C.2.1 dL_goal_219 rfl (lv_at hl 0 rfl) ?_
        obtain ⟨g_220, hf⟩ := gd hf
        refine q_by C S o6 ho6 g_220 dL_goal_220 ?_
        refine q_getIN C S 43 (4 * o6 + (v1).toNatClampNeg) rfl (q_lt4 ho6 g_220) cf_10 0 (by decide) (qi_43_0 G τ (4 * o6 + (v1).toNatClampNeg)) (List.mem_of_getElem? (i := 22) rfl) dL_goal_221 ?_
        refine lv_if_eq (tgt := 284) C.1 C.2.1 dL_goal_224 (by decide) (fun c_224 => ?_) (fun c_224 => ?_)
        · rw [if_pos c_224] at hf
          exact w_L_goal_284 C k61 hk61 _ v1 v2 v3 v4 k5 m5 a5 _ _ _ _ _ S (lv_sub hl [0, 1, 2, 3, 4] rfl) hf hd
        · rw [if_neg c_224] at hf
          refine lv_aload C.1 C.2.1 dL_goal_227 (lv_at hl 5 rfl) ?_
          refine q_getIN C S 42 o6 rfl ho6 cf_8 0 (by decide) (qi_42_0 G τ o6) (List.mem_of_getElem? (i := 27) rfl) dL_goal_229 ?_
          refine lv_iload_n C.1 C.2.1 dL_goal_232 rfl (lv_at hl 1 rfl) ?_
          refine lv_isub C.1 C.2.1 dL_goal_233 ?_
          refine z_abs C hl.1 tw_6_114 (Nat.le_of_ble_eq_true rfl) (Nat.le_of_ble_eq_true rfl) ⟨(show _ ≤ n from by omega), (show _ ≤ 6 * n from by omega)⟩ dL_goal_234 ?_
          refine lv_iload C.1 C.2.1 dL_goal_237 (lv_at hl 3 rfl) ?_
          refine lv_iload_n C.1 C.2.1 dL_goal_239 rfl (lv_at hl 1 rfl) ?_
          refine lv_isub C.1 C.2.1 dL_goal_240 ?_
          refine z_abs C hl.1 tw_6_114 (Nat.le_of_ble_eq_true rfl) (Nat.le_of_ble_eq_true rfl) ⟨(show _ ≤ n from by omega), (show _ ≤ 6 * n from by omega)⟩ dL_goal_241 ?_
          refine lv_icmp_lt (tgt := 277) C.1 C.2.1 dL_goal_244 (by decide) (fun c_244 => ?_) (fun c_244 => ?_)
          · rw [if_pos c_244] at hf
            exact w_L_goal_277 C k61 hk61 _ v1 v2 v3 k5 m5 o6 a5 _ _ _ _ _ S (lv_sub hl [0, 1, 2, 4, 5] rfl) ho6 hf hd
          · rw [if_neg c_244] at hf
            refine lv_aload C.1 C.2.1 dL_goal_247 (lv_at hl 5 rfl) ?_
            refine q_getIN C S 42 o6 rfl ho6 cf_8 0 (by decide) (qi_42_0 G τ o6) (List.mem_of_getElem? (i := 27) rfl) dL_goal_249 ?_
            refine lv_iload_n C.1 C.2.1 dL_goal_252 rfl (lv_at hl 1 rfl) ?_
            refine lv_isub C.1 C.2.1 dL_goal_253 ?_
            refine z_abs C hl.1 tw_6_114 (Nat.le_of_ble_eq_true rfl) (Nat.le_of_ble_eq_true rfl) ⟨(show _ ≤ n from by omega), (show _ ≤ 6 * n from by omega)⟩ dL_goal_254 ?_
            refine lv_iload C.1 C.2.1 dL_goal_257 (lv_at hl 3 rfl) ?_
            refine lv_iload_n C.1 C.2.1 dL_goal_259 rfl (lv_at hl 1 rfl) ?_
            refine lv_isub C.1 C.2.1 dL_goal_260 ?_
            refine z_abs C hl.1 tw_6_114 (Nat.le_of_ble_eq_true rfl) (Nat.le_of_ble_eq_true rfl) ⟨(show _ ≤ n from by omega), (show _ ≤ 6 * n from by omega)⟩ dL_goal_261 ?_
            refine lv_icmp_ne (tgt := 284) C.1 C.2.1 dL_goal_264 (by decide) (fun c_264 => ?_) (fun c_264 => ?_)
            · rw [if_neg c_264] at hf
              exact w_L_goal_284 C k61 hk61 _ v1 v2 v3 v4 k5 m5 a5 _ _ _ _ _ S (lv_sub hl [0, 1, 2, 3, 4] rfl) hf hd
            · rw [if_pos c_264] at hf
              refine lv_aload C.1 C.2.1 dL_goal_267 (lv_at hl 5 rfl) ?_
              refine q_getIN C S 42 o6 rfl ho6 cf_8 0 (by decide) (qi_42_0 G τ o6) (List.mem_of_getElem? (i := 27) rfl) dL_goal_269 ?_
              refine lv_iload C.1 C.2.1 dL_goal_272 (lv_at hl 3 rfl) ?_
              refine lv_icmp_ge (tgt := 284) C.1 C.2.1 dL_goal_274 (by decide) (fun c_274 => ?_) (fun c_274 => ?_)
              · rw [if_pos c_274] at hf
                exact w_L_goal_284 C k61 hk61 _ v1 v2 v3 v4 k5 m5 a5 _ _ _ _ _ S (lv_sub hl [0, 1, 2, 3, 4] rfl) hf hd
              · rw [if_neg c_274] at hf
                exact w_L_goal_277 C k61 hk61 _ v1 v2 v3 k5 m5 o6 a5 _ _ _ _ _ S (lv_sub hl [0, 1, 2, 4, 5] rfl) ho6 hf hd
set_option maxHeartbeats 4000000 in
set_option maxRecDepth 100000 in
theorem w_L_goal_188 {p : Program} {l : Launch} {e : Env} {s : State} {m : MethodId} {args : Array Value} {below : List Frame} {meth : Method} {c : Code} {G : Gx} {ad : Ad} {N : Nn} {X : Ex} {A : Nat → Prop} {res : Int32 × Sg} {n : Nat} (C : Cx p s m args meth c yL_goal.cls cL_goal 8 (Option.some FieldType.int) G) (k61 : Sg → Int32 → Int32 → Int32 → Int32 → Nat → Int32 → Option (Int32 × Sg × Nat)) (hk61 : ∀ (τ : Sg) (v1 : Int32) (v2 : Int32) (v3 : Int32) (v4 : Int32) (k5 : Nat) (m5 : Int32) (a5 : Nat) (H : Heap) (locs : List Loc) (ls : Array Slot) (cells d : Nat), q_S G ad N X τ [(a5, 1, k5, m5)] A s.heap H locs → lv_has ls 8 [(1, .int v1), (2, .int v2), (3, .int v3), (4, .int v4), (5, .ref a5)] → k61 τ v1 v2 v3 v4 k5 m5 = some (res.1, res.2, d) → cells + d = n → W p l e { frames := 4, cells := n, slots := 6 * n, locals := 77 } s m args below meth c H locs cells (6 * cells) (MQ below (k_Q (some (.int res.1)) (q_V G ad N res.2 A) A) args s n (6 * n) A) (F0 m 61 ls [])) : ∀ (τ : Sg) (v1 : Int32) (v2 : Int32) (v3 : Int32) (k5 : Nat) (m5 : Int32) (o6 : Nat) (v7 : Int32) (a5 : Nat) (H : Heap) (locs : List Loc) (ls : Array Slot) (cells d : Nat), q_S G ad N X τ [(a5, 1, k5, m5)] A s.heap H locs → lv_has ls 8 [(1, .int v1), (2, .int v2), (3, .int v3), (5, .ref a5), (6, .ref (ad 42 o6)), (7, .int v7)] → (o6 < N.2.1) → f_L_goal_188 k61 τ v1 v2 v3 k5 m5 o6 v7 = some (res.1, res.2, d) → cells + d = n → W p l e { frames := 4, cells := n, slots := 6 * n, locals := 77 } s m args below meth c H locs cells (6 * cells) (MQ below (k_Q (some (.int res.1)) (q_V G ad N res.2 A) A) args s n (6 * n) A) (F0 m 188 ls []) := by
  intro τ v1 v2 v3 k5 m5 o6 v7 a5 H locs ls cells d S hl ho6 hf hd
  unfold f_L_goal_188 at hf
  refine lv_iload C.1 C.2.1 dL_goal_188 (lv_at hl 5 rfl) ?_
  refine lv_istore (lv' := [(4, .int v7), (1, .int v1), (2, .int v2), (3, .int v3), (5, .ref a5), (6, .ref (ad 42 o6)), (7, .int v7)]) C.1 C.2.1 dL_goal_190 hl (by decide) rfl (fun ls hl => ?_)
  exact w_L_goal_192 C k61 hk61 _ v1 v2 v3 v7 k5 m5 o6 a5 _ _ _ _ _ S (lv_sub hl [1, 2, 3, 0, 4, 5] rfl) ho6 hf hd
set_option maxHeartbeats 4000000 in
set_option maxRecDepth 100000 in
theorem w_L_goal_135 {p : Program} {l : Launch} {e : Env} {s : State} {m : MethodId} {args : Array Value} {below : List Frame} {meth : Method} {c : Code} {G : Gx} {ad : Ad} {N : Nn} {X : Ex} {A : Nat → Prop} {res : Int32 × Sg} {n : Nat} (C : Cx p s m args meth c yL_goal.cls cL_goal 8 (Option.some FieldType.int) G) (k61 : Sg → Int32 → Int32 → Int32 → Int32 → Nat → Int32 → Option (Int32 × Sg × Nat)) (hk61 : ∀ (τ : Sg) (v1 : Int32) (v2 : Int32) (v3 : Int32) (v4 : Int32) (k5 : Nat) (m5 : Int32) (a5 : Nat) (H : Heap) (locs : List Loc) (ls : Array Slot) (cells d : Nat), q_S G ad N X τ [(a5, 1, k5, m5)] A s.heap H locs → lv_has ls 8 [(1, .int v1), (2, .int v2), (3, .int v3), (4, .int v4), (5, .ref a5)] → k61 τ v1 v2 v3 v4 k5 m5 = some (res.1, res.2, d) → cells + d = n → W p l e { frames := 4, cells := n, slots := 6 * n, locals := 77 } s m args below meth c H locs cells (6 * cells) (MQ below (k_Q (some (.int res.1)) (q_V G ad N res.2 A) A) args s n (6 * n) A) (F0 m 61 ls [])) : ∀ (τ : Sg) (v1 : Int32) (v2 : Int32) (v3 : Int32) (v4 : Int32) (k5 : Nat) (m5 : Int32) (o6 : Nat) (v100 : Int32) (a5 : Nat) (H : Heap) (locs : List Loc) (ls : Array Slot) (cells d : Nat), q_S G ad N X τ [(a5, 1, k5, m5)] A s.heap H locs → lv_has ls 8 [(1, .int v1), (2, .int v2), (3, .int v3), (4, .int v4), (5, .ref a5), (6, .ref (ad 42 o6))] → (o6 < N.2.1) → f_L_goal_135 k61 τ v1 v2 v3 v4 k5 m5 o6 v100 = some (res.1, res.2, d) → cells + d = n → W p l e { frames := 4, cells := n, slots := 6 * n, locals := 77 } s m args below meth c H locs cells (6 * cells) (MQ below (k_Q (some (.int res.1)) (q_V G ad N res.2 A) A) args s n (6 * n) A) (F0 m 135 ls [.int v100]) := by
  intro τ v1 v2 v3 v4 k5 m5 o6 v100 a5 H locs ls cells d S hl ho6 hf hd
  unfold f_L_goal_135 at hf
  refine lv_istore (lv' := [(7, .int v100), (1, .int v1), (2, .int v2), (3, .int v3), (4, .int v4), (5, .ref a5), (6, .ref (ad 42 o6))]) C.1 C.2.1 dL_goal_135 hl (by decide) rfl (fun ls hl => ?_)
  refine lv_iload C.1 C.2.1 dL_goal_137 (lv_at hl 0 rfl) ?_
  refine lv_if_lt (tgt := 192) C.1 C.2.1 dL_goal_139 (by decide) (fun c_139 => ?_) (fun c_139 => ?_)
  · rw [if_pos c_139] at hf
    exact w_L_goal_192 C k61 hk61 _ v1 v2 v3 v4 k5 m5 o6 a5 _ _ _ _ _ S (lv_sub hl [1, 2, 3, 4, 5, 6] rfl) ho6 hf hd
  · rw [if_neg c_139] at hf
    refine lv_iload C.1 C.2.1 dL_goal_142 (lv_at hl 4 rfl) ?_
    refine lv_if_lt (tgt := 188) C.1 C.2.1 dL_goal_144 (by decide) (fun c_144 => ?_) (fun c_144 => ?_)
    · rw [if_pos c_144] at hf
      exact w_L_goal_188 C k61 hk61 _ v1 v2 v3 k5 m5 o6 v100 a5 _ _ _ _ _ S (lv_sub hl [1, 2, 3, 5, 6, 0] rfl) ho6 hf hd
    · rw [if_neg c_144] at hf
      refine lv_iload C.1 C.2.1 dL_goal_147 (lv_at hl 0 rfl) ?_
      refine lv_iload_n C.1 C.2.1 dL_goal_149 rfl (lv_at hl 2 rfl) ?_
      refine lv_isub C.1 C.2.1 dL_goal_150 ?_
      refine z_abs C hl.1 tw_6_114 (Nat.le_of_ble_eq_true rfl) (Nat.le_of_ble_eq_true rfl) ⟨(show _ ≤ n from by omega), (show _ ≤ 6 * n from by omega)⟩ dL_goal_151 ?_
      refine lv_iload C.1 C.2.1 dL_goal_154 (lv_at hl 4 rfl) ?_
      refine lv_iload_n C.1 C.2.1 dL_goal_156 rfl (lv_at hl 2 rfl) ?_
      refine lv_isub C.1 C.2.1 dL_goal_157 ?_
      refine z_abs C hl.1 tw_6_114 (Nat.le_of_ble_eq_true rfl) (Nat.le_of_ble_eq_true rfl) ⟨(show _ ≤ n from by omega), (show _ ≤ 6 * n from by omega)⟩ dL_goal_158 ?_
      refine lv_icmp_lt (tgt := 188) C.1 C.2.1 dL_goal_161 (by decide) (fun c_161 => ?_) (fun c_161 => ?_)
      · rw [if_pos c_161] at hf
        exact w_L_goal_188 C k61 hk61 _ v1 v2 v3 k5 m5 o6 v100 a5 _ _ _ _ _ S (lv_sub hl [1, 2, 3, 5, 6, 0] rfl) ho6 hf hd
      · rw [if_neg c_161] at hf
        refine lv_iload C.1 C.2.1 dL_goal_164 (lv_at hl 0 rfl) ?_
        refine lv_iload_n C.1 C.2.1 dL_goal_166 rfl (lv_at hl 2 rfl) ?_
        refine lv_isub C.1 C.2.1 dL_goal_167 ?_
        refine z_abs C hl.1 tw_6_114 (Nat.le_of_ble_eq_true rfl) (Nat.le_of_ble_eq_true rfl) ⟨(show _ ≤ n from by omega), (show _ ≤ 6 * n from by omega)⟩ dL_goal_168 ?_
        refine lv_iload C.1 C.2.1 dL_goal_171 (lv_at hl 4 rfl) ?_
        refine lv_iload_n C.1 C.2.1 dL_goal_173 rfl (lv_at hl 2 rfl) ?_
        refine lv_isub C.1 C.2.1 dL_goal_174 ?_
        refine z_abs C hl.1 tw_6_114 (Nat.le_of_ble_eq_true rfl) (Nat.le_of_ble_eq_true rfl) ⟨(show _ ≤ n from by omega), (show _ ≤ 6 * n from by omega)⟩ dL_goal_175 ?_
        refine lv_icmp_ne (tgt := 192) C.1 C.2.1 dL_goal_178 (by decide) (fun c_178 => ?_) (fun c_178 => ?_)
        · rw [if_neg c_178] at hf
          exact w_L_goal_192 C k61 hk61 _ v1 v2 v3 v4 k5 m5 o6 a5 _ _ _ _ _ S (lv_sub hl [1, 2, 3, 4, 5, 6] rfl) ho6 hf hd
        · rw [if_pos c_178] at hf
          refine lv_iload C.1 C.2.1 dL_goal_181 (lv_at hl 0 rfl) ?_
          refine lv_iload C.1 C.2.1 dL_goal_183 (lv_at hl 4 rfl) ?_
          refine lv_icmp_ge (tgt := 192) C.1 C.2.1 dL_goal_185 (by decide) (fun c_185 => ?_) (fun c_185 => ?_)
          · rw [if_pos c_185] at hf
            exact w_L_goal_192 C k61 hk61 _ v1 v2 v3 v4 k5 m5 o6 a5 _ _ _ _ _ S (lv_sub hl [1, 2, 3, 4, 5, 6] rfl) ho6 hf hd
          · rw [if_neg c_185] at hf
            exact w_L_goal_188 C k61 hk61 _ v1 v2 v3 k5 m5 o6 v100 a5 _ _ _ _ _ S (lv_sub hl [1, 2, 3, 5, 6, 0] rfl) ho6 hf hd
set_option maxHeartbeats 4000000 in
set_option maxRecDepth 100000 in
theorem w_L_goal_134 {p : Program} {l : Launch} {e : Env} {s : State} {m : MethodId} {args : Array Value} {below : List Frame} {meth : Method} {c : Code} {G : Gx} {ad : Ad} {N : Nn} {X : Ex} {A : Nat → Prop} {res : Int32 × Sg} {n : Nat} (C : Cx p s m args meth c yL_goal.cls cL_goal 8 (Option.some FieldType.int) G) (k61 : Sg → Int32 → Int32 → Int32 → Int32 → Nat → Int32 → Option (Int32 × Sg × Nat)) (hk61 : ∀ (τ : Sg) (v1 : Int32) (v2 : Int32) (v3 : Int32) (v4 : Int32) (k5 : Nat) (m5 : Int32) (a5 : Nat) (H : Heap) (locs : List Loc) (ls : Array Slot) (cells d : Nat), q_S G ad N X τ [(a5, 1, k5, m5)] A s.heap H locs → lv_has ls 8 [(1, .int v1), (2, .int v2), (3, .int v3), (4, .int v4), (5, .ref a5)] → k61 τ v1 v2 v3 v4 k5 m5 = some (res.1, res.2, d) → cells + d = n → W p l e { frames := 4, cells := n, slots := 6 * n, locals := 77 } s m args below meth c H locs cells (6 * cells) (MQ below (k_Q (some (.int res.1)) (q_V G ad N res.2 A) A) args s n (6 * n) A) (F0 m 61 ls [])) : ∀ (τ : Sg) (v1 : Int32) (v2 : Int32) (v3 : Int32) (v4 : Int32) (k5 : Nat) (m5 : Int32) (o6 : Nat) (a5 : Nat) (H : Heap) (locs : List Loc) (ls : Array Slot) (cells d : Nat), q_S G ad N X τ [(a5, 1, k5, m5)] A s.heap H locs → lv_has ls 8 [(1, .int v1), (2, .int v2), (3, .int v3), (4, .int v4), (5, .ref a5), (6, .ref (ad 42 o6))] → (o6 < N.2.1) → f_L_goal_134 k61 τ v1 v2 v3 v4 k5 m5 o6 = some (res.1, res.2, d) → cells + d = n → W p l e { frames := 4, cells := n, slots := 6 * n, locals := 77 } s m args below meth c H locs cells (6 * cells) (MQ below (k_Q (some (.int res.1)) (q_V G ad N res.2 A) A) args s n (6 * n) A) (F0 m 134 ls []) := by
  intro τ v1 v2 v3 v4 k5 m5 o6 a5 H locs ls cells d S hl ho6 hf hd
  unfold f_L_goal_134 at hf
  refine lv_iconst (v := (-1)) C.1 C.2.1 dL_goal_134 (by decide) ?_
  exact w_L_goal_135 C k61 hk61 _ v1 v2 v3 v4 k5 m5 o6 (-1) a5 _ _ _ _ _ S (lv_sub hl [0, 1, 2, 3, 4, 5] rfl) ho6 hf hd
set_option maxHeartbeats 4000000 in
set_option maxRecDepth 100000 in
theorem w_L_goal_109 {p : Program} {l : Launch} {e : Env} {s : State} {m : MethodId} {args : Array Value} {below : List Frame} {meth : Method} {c : Code} {G : Gx} {ad : Ad} {N : Nn} {X : Ex} {A : Nat → Prop} {res : Int32 × Sg} {n : Nat} (C : Cx p s m args meth c yL_goal.cls cL_goal 8 (Option.some FieldType.int) G) (k61 : Sg → Int32 → Int32 → Int32 → Int32 → Nat → Int32 → Option (Int32 × Sg × Nat)) (hk61 : ∀ (τ : Sg) (v1 : Int32) (v2 : Int32) (v3 : Int32) (v4 : Int32) (k5 : Nat) (m5 : Int32) (a5 : Nat) (H : Heap) (locs : List Loc) (ls : Array Slot) (cells d : Nat), q_S G ad N X τ [(a5, 1, k5, m5)] A s.heap H locs → lv_has ls 8 [(1, .int v1), (2, .int v2), (3, .int v3), (4, .int v4), (5, .ref a5)] → k61 τ v1 v2 v3 v4 k5 m5 = some (res.1, res.2, d) → cells + d = n → W p l e { frames := 4, cells := n, slots := 6 * n, locals := 77 } s m args below meth c H locs cells (6 * cells) (MQ below (k_Q (some (.int res.1)) (q_V G ad N res.2 A) A) args s n (6 * n) A) (F0 m 61 ls [])) : ∀ (τ : Sg) (v1 : Int32) (v2 : Int32) (v3 : Int32) (v4 : Int32) (k5 : Nat) (m5 : Int32) (o6 : Nat) (a5 : Nat) (H : Heap) (locs : List Loc) (ls : Array Slot) (cells d : Nat), q_S G ad N X τ [(a5, 1, k5, m5)] A s.heap H locs → lv_has ls 8 [(1, .int v1), (2, .int v2), (3, .int v3), (4, .int v4), (5, .ref a5), (6, .ref (ad 42 o6))] → (o6 < N.2.1) → f_L_goal_109 k61 τ v1 v2 v3 v4 k5 m5 o6 = some (res.1, res.2, d) → cells + d = n → W p l e { frames := 4, cells := n, slots := 6 * n, locals := 77 } s m args below meth c H locs cells (6 * cells) (MQ below (k_Q (some (.int res.1)) (q_V G ad N res.2 A) A) args s n (6 * n) A) (F0 m 109 ls []) := by
  intro τ v1 v2 v3 v4 k5 m5 o6 a5 H locs ls cells d S hl ho6 hf hd
  unfold f_L_goal_109 at hf
  refine lv_iload_n C.1 C.2.1 dL_goal_109 rfl (lv_at hl 2 rfl) ?_
  refine lv_if_eq (tgt := 134) C.1 C.2.1 dL_goal_110 (by decide) (fun c_110 => ?_) (fun c_110 => ?_)
  · rw [if_pos c_110] at hf
    exact w_L_goal_134 C k61 hk61 _ v1 v2 v3 v4 k5 m5 o6 a5 _ _ _ _ _ S (lv_sub hl [0, 1, 2, 3, 4, 5] rfl) ho6 hf hd
  · rw [if_neg c_110] at hf
    refine lv_aload C.1 C.2.1 dL_goal_113 (lv_at hl 5 rfl) ?_
    refine q_getRN C S 42 o6 45 o6 rfl rfl ho6 cf_8 11 (by decide) (qr_42_11 G τ o6) (List.mem_of_getElem? (i := 38) rfl) dL_goal_115 ?_
    refine lv_iload_n C.1 C.2.1 dL_goal_118 rfl (lv_at hl 0 rfl) ?_
    obtain ⟨g_119, hf⟩ := gd hf
    refine q_by C S o6 ho6 g_119 dL_goal_119 ?_
    refine q_getIN C S 43 (4 * o6 + (v1).toNatClampNeg) rfl (q_lt4 ho6 g_119) cf_10 0 (by decide) (qi_43_0 G τ (4 * o6 + (v1).toNatClampNeg)) (List.mem_of_getElem? (i := 22) rfl) dL_goal_120 ?_
    refine lv_if_eq (tgt := 134) C.1 C.2.1 dL_goal_123 (by decide) (fun c_123 => ?_) (fun c_123 => ?_)
    · rw [if_pos c_123] at hf
      exact w_L_goal_134 C k61 hk61 _ v1 v2 v3 v4 k5 m5 o6 a5 _ _ _ _ _ S (lv_sub hl [0, 1, 2, 3, 4, 5] rfl) ho6 hf hd
    · rw [if_neg c_123] at hf
      refine lv_aload C.1 C.2.1 dL_goal_126 (lv_at hl 5 rfl) ?_
      refine q_getIN C S 42 o6 rfl ho6 cf_8 0 (by decide) (qi_42_0 G τ o6) (List.mem_of_getElem? (i := 27) rfl) dL_goal_128 ?_
      refine lv_goto (tgt := 135) C.1 C.2.1 dL_goal_131 (by decide) ?_
      exact w_L_goal_135 C k61 hk61 _ v1 v2 v3 v4 k5 m5 o6 (τ 42 o6 0) a5 _ _ _ _ _ S (lv_sub hl [0, 1, 2, 3, 4, 5] rfl) ho6 hf hd
set_option maxHeartbeats 4000000 in
set_option maxRecDepth 100000 in
theorem w_L_goal_61 {p : Program} {l : Launch} {e : Env} {s : State} {m : MethodId} {args : Array Value} {below : List Frame} {meth : Method} {c : Code} {G : Gx} {ad : Ad} {N : Nn} {X : Ex} {A : Nat → Prop} {res : Int32 × Sg} {n : Nat} (C : Cx p s m args meth c yL_goal.cls cL_goal 8 (Option.some FieldType.int) G) : ∀ n9 : Nat, ∀ (τ : Sg) (v1 : Int32) (v2 : Int32) (v3 : Int32) (v4 : Int32) (k5 : Nat) (m5 : Int32) (a5 : Nat) (H : Heap) (locs : List Loc) (ls : Array Slot) (cells d : Nat), q_S G ad N X τ [(a5, 1, k5, m5)] A s.heap H locs → lv_has ls 8 [(1, .int v1), (2, .int v2), (3, .int v3), (4, .int v4), (5, .ref a5)] → f_L_goal_61 n9 τ v1 v2 v3 v4 k5 m5 = some (res.1, res.2, d) → cells + d = n → W p l e { frames := 4, cells := n, slots := 6 * n, locals := 77 } s m args below meth c H locs cells (6 * cells) (MQ below (k_Q (some (.int res.1)) (q_V G ad N res.2 A) A) args s n (6 * n) A) (F0 m 61 ls []) := by
  intro n9
  induction n9 with
  | zero => intro τ v1 v2 v3 v4 k5 m5 a5 H locs ls cells d S hl hf hd; cases hf
  | succ n9 ih =>
    intro τ v1 v2 v3 v4 k5 m5 a5 H locs ls cells d S hl hf hd
    rw [f_L_goal_61_s] at hf
    refine lv_aload C.1 C.2.1 dL_goal_61 (lv_at hl 4 rfl) ?_
    refine q_hasN C S (List.mem_singleton.mpr rfl) (Or.inl (by decide)) (by decide) tw_5_148 ⟨(Nat.le_of_ble_eq_true rfl), (Nat.le_of_ble_eq_true rfl)⟩ (Nat.le_of_ble_eq_true rfl) hl.1 ⟨(show _ ≤ n from by omega), (show _ ≤ 6 * n from by omega)⟩ dL_goal_63 (fun H locs S => ?_)
    refine lv_if_eq (tgt := 287) C.1 C.2.1 dL_goal_68 (by decide) (fun c_68 => ?_) (fun c_68 => ?_)
    · rw [if_pos c_68] at hf
      exact w_L_goal_287 C _ v4 _ _ _ _ _ (S.drop (fun x hx => absurd hx List.not_mem_nil)) (lv_sub hl [3] rfl) hf hd
    · rw [if_neg c_68] at hf
      refine lv_aload C.1 C.2.1 dL_goal_71 (lv_at hl 4 rfl) ?_
      obtain ⟨g_73, hf⟩ := gd hf
      replace g_73 := Decidable.not_not.mp g_73
      have ob_73 := q_ltN S (Or.inl (by decide)) g_73.1
      refine q_next C S (Or.inl (by decide)) (by decide) g_73.1 g_73.2 tw_5_158 ⟨(Nat.le_of_ble_eq_true rfl), (Nat.le_of_ble_eq_true rfl)⟩ (Nat.le_of_ble_eq_true rfl) hl.1 ⟨(show _ ≤ n from by omega), (show _ ≤ 6 * n from by omega)⟩ dL_goal_73 (fun H locs S => ?_)
      refine q_cast C S 42 k5 rfl ob_73 "BusLiftsLaw$Call" (fun _ => Or.inl ⟨_, _, _, _, rfl, rfl⟩) tw_4_19 dL_goal_78 ?_
      refine lv_astore (lv' := [(6, .ref (ad 42 k5)), (1, .int v1), (2, .int v2), (3, .int v3), (4, .int v4), (5, .ref a5)]) C.1 C.2.1 dL_goal_81 hl (by decide) rfl (fun ls hl => ?_)
      refine lv_aload C.1 C.2.1 dL_goal_83 (lv_at hl 0 rfl) ?_
      refine q_getIN C S 42 k5 rfl ob_73 cf_8 3 (by decide) (qi_42_3 G τ k5) (List.mem_of_getElem? (i := 30) rfl) dL_goal_85 ?_
      refine lv_iconst (v := 2) C.1 C.2.1 dL_goal_88 (by decide) ?_
      refine lv_icmp_ne (tgt := 109) C.1 C.2.1 dL_goal_89 (by decide) (fun c_89 => ?_) (fun c_89 => ?_)
      · rw [if_neg c_89] at hf
        exact w_L_goal_109 C (f_L_goal_61 n9) ih _ v1 v2 v3 v4 (k5 + 1) m5 k5 a5 _ _ _ _ _ S (lv_sub hl [1, 2, 3, 4, 5, 0] rfl) ob_73 hf hd
      · rw [if_pos c_89] at hf
        refine lv_aload C.1 C.2.1 dL_goal_92 (lv_at hl 0 rfl) ?_
        refine q_getIN C S 42 k5 rfl ob_73 cf_8 4 (by decide) (qi_42_4 G τ k5) (List.mem_of_getElem? (i := 31) rfl) dL_goal_94 ?_
        refine lv_iload_n C.1 C.2.1 dL_goal_97 rfl (lv_at hl 1 rfl) ?_
        refine lv_icmp_ne (tgt := 109) C.1 C.2.1 dL_goal_98 (by decide) (fun c_98 => ?_) (fun c_98 => ?_)
        · rw [if_neg c_98] at hf
          exact w_L_goal_109 C (f_L_goal_61 n9) ih _ v1 v2 v3 v4 (k5 + 1) m5 k5 a5 _ _ _ _ _ S (lv_sub hl [1, 2, 3, 4, 5, 0] rfl) ob_73 hf hd
        · rw [if_pos c_98] at hf
          refine lv_aload C.1 C.2.1 dL_goal_101 (lv_at hl 0 rfl) ?_
          refine q_getIN C S 42 k5 rfl ob_73 cf_8 1 (by decide) (qi_42_1 G τ k5) (List.mem_of_getElem? (i := 28) rfl) dL_goal_103 ?_
          refine lv_goto (tgt := 135) C.1 C.2.1 dL_goal_106 (by decide) ?_
          exact w_L_goal_135 C (f_L_goal_61 n9) ih _ v1 v2 v3 v4 (k5 + 1) m5 k5 (τ 42 k5 1) a5 _ _ _ _ _ S (lv_sub hl [1, 2, 3, 4, 5, 0] rfl) ob_73 hf hd
set_option maxHeartbeats 4000000 in
set_option maxRecDepth 100000 in
theorem w_L_goal_46 {p : Program} {l : Launch} {e : Env} {s : State} {m : MethodId} {args : Array Value} {below : List Frame} {meth : Method} {c : Code} {G : Gx} {ad : Ad} {N : Nn} {X : Ex} {A : Nat → Prop} {res : Int32 × Sg} {n : Nat} (C : Cx p s m args meth c yL_goal.cls cL_goal 8 (Option.some FieldType.int) G) : ∀ (τ : Sg) (v1 : Int32) (v2 : Int32) (v100 : Int32) (H : Heap) (locs : List Loc) (ls : Array Slot) (cells d : Nat), q_S G ad N X τ [] A s.heap H locs → lv_has ls 8 [(0, .ref (ad 40 0)), (1, .int v1), (2, .int v2)] → f_L_goal_46 τ v1 v2 v100 = some (res.1, res.2, d) → cells + d = n → W p l e { frames := 4, cells := n, slots := 6 * n, locals := 77 } s m args below meth c H locs cells (6 * cells) (MQ below (k_Q (some (.int res.1)) (q_V G ad N res.2 A) A) args s n (6 * n) A) (F0 m 46 ls [.int v100]) := by
  intro τ v1 v2 v100 H locs ls cells d S hl hf hd
  unfold f_L_goal_46 at hf
  refine lv_istore_n (lv' := [(3, .int v100), (0, .ref (ad 40 0)), (1, .int v1), (2, .int v2)]) C.1 C.2.1 dL_goal_46 rfl hl (by decide) rfl (fun ls hl => ?_)
  refine lv_iconst (v := (-1)) C.1 C.2.1 dL_goal_47 (by decide) ?_
  refine lv_istore (lv' := [(4, .int (-1)), (3, .int v100), (0, .ref (ad 40 0)), (1, .int v1), (2, .int v2)]) C.1 C.2.1 dL_goal_48 hl (by decide) rfl (fun ls hl => ?_)
  refine lv_aload_n C.1 C.2.1 dL_goal_50 rfl (lv_at hl 2 rfl) ?_
  refine q_getR C S 40 0 50 1 rfl rfl rfl cf_11 1 (by decide) (qr_40_1 G τ 0) tw_4_97 dL_goal_51 ?_
  obtain ⟨d_54, hf, e_54⟩ := acb hf
  refine q_iter C S 1 (Or.inl (by decide)) (by decide) tw_5_120 ⟨(Nat.le_of_ble_eq_true rfl), (Nat.le_of_ble_eq_true rfl)⟩ (Nat.le_of_ble_eq_true rfl) hl.1 ⟨(show _ ≤ n from by omega), (show _ ≤ 6 * n from by omega)⟩ dL_goal_54 (fun it1 H locs S => ?_)
  refine q_wid ?_
  replace hd := q_hd1 hd e_54
  refine lv_astore (lv' := [(5, .ref it1), (4, .int (-1)), (3, .int v100), (0, .ref (ad 40 0)), (1, .int v1), (2, .int v2)]) C.1 C.2.1 dL_goal_59 hl (by decide) rfl (fun ls hl => ?_)
  exact w_L_goal_61 C FU _ v1 v2 v100 (-1) 0 (τ 50 1 0) it1 _ _ _ _ _ S (lv_sub hl [4, 5, 2, 1, 0] rfl) hf hd
set_option maxHeartbeats 4000000 in
set_option maxRecDepth 100000 in
theorem w_L_goal_0 {p : Program} {l : Launch} {e : Env} {s : State} {m : MethodId} {args : Array Value} {below : List Frame} {meth : Method} {c : Code} {G : Gx} {ad : Ad} {N : Nn} {X : Ex} {A : Nat → Prop} {res : Int32 × Sg} {n : Nat} (C : Cx p s m args meth c yL_goal.cls cL_goal 8 (Option.some FieldType.int) G) : ∀ (τ : Sg) (v1 : Int32) (H : Heap) (locs : List Loc) (ls : Array Slot) (cells d : Nat), q_S G ad N X τ [] A s.heap H locs → lv_has ls 8 [(0, .ref (ad 40 0)), (1, .int v1)] → f_L_goal τ v1 = some (res.1, res.2, d) → cells + d = n → W p l e { frames := 4, cells := n, slots := 6 * n, locals := 77 } s m args below meth c H locs cells (6 * cells) (MQ below (k_Q (some (.int res.1)) (q_V G ad N res.2 A) A) args s n (6 * n) A) (F0 m 0 ls []) := by
  intro τ v1 H locs ls cells d S hl hf hd
  unfold f_L_goal at hf
  refine lv_aload_n C.1 C.2.1 dL_goal_0 rfl (lv_at hl 0 rfl) ?_
  refine q_getR C S 40 0 50 0 rfl rfl rfl cf_11 0 (by decide) (qr_40_0 G τ 0) tw_4_96 dL_goal_1 ?_
  refine lv_iload_n C.1 C.2.1 dL_goal_4 rfl (lv_at hl 1 rfl) ?_
  obtain ⟨g_5, hf⟩ := gd hf
  have ob_5 := q_ltN S (Or.inl (by decide)) (q_glt g_5)
  refine q_get C S 0 (Or.inl (by decide)) (by decide) g_5 tw_5_199 ⟨(Nat.le_of_ble_eq_true rfl), (Nat.le_of_ble_eq_true rfl)⟩ (Nat.le_of_ble_eq_true rfl) hl.1 ⟨(show _ ≤ n from by omega), (show _ ≤ 6 * n from by omega)⟩ dL_goal_5 (fun H locs S => ?_)
  refine q_cast C S 41 ((v1).toNatClampNeg) rfl ob_5 "BusLiftsLaw$Car" (fun _ => Or.inl ⟨_, _, _, _, rfl, rfl⟩) tw_3_162 dL_goal_10 ?_
  refine q_getIN C S 41 ((v1).toNatClampNeg) rfl ob_5 cf_9 0 (by decide) (qi_41_0 G τ ((v1).toNatClampNeg)) (List.mem_of_getElem? (i := 11) rfl) dL_goal_13 ?_
  refine lv_istore_n (lv' := [(2, .int (τ 41 ((v1).toNatClampNeg) 0)), (0, .ref (ad 40 0)), (1, .int v1)]) C.1 C.2.1 dL_goal_16 rfl hl (by decide) rfl (fun ls hl => ?_)
  refine lv_aload_n C.1 C.2.1 dL_goal_17 rfl (lv_at hl 1 rfl) ?_
  refine lv_iload_n C.1 C.2.1 dL_goal_18 rfl (lv_at hl 2 rfl) ?_
  obtain ⟨r1, τ2, c_19, d_19, q_19, hf, e_19⟩ := bqb hf
  refine q_callV (τ' := τ2) (v := (some (.int r1))) C S [.int v1] rfl (fun ad' he => by have h := m_L_aboard l G ad' N τ v1 (r1, τ2) c_19 q_19 H.size; rw [he 40 0 rfl] at h; exact h) kv_L_aboard tw_6_79 ⟨(Nat.le_of_ble_eq_true rfl), (Nat.le_of_ble_eq_true rfl)⟩ rfl rfl (Nat.le_of_ble_eq_true rfl) hl.1 ⟨(show _ ≤ n from by omega), (show _ ≤ 6 * n from by omega)⟩ dL_goal_19 (fun H locs S => ?_)
  replace hd := q_hd2 hd e_19
  refine lv_aload_n C.1 C.2.1 dL_goal_22 rfl (lv_at hl 1 rfl) ?_
  refine q_getR C S 40 0 50 0 rfl rfl rfl cf_11 0 (by decide) (qr_40_0 G τ2 0) tw_4_96 dL_goal_23 ?_
  refine lv_iload_n C.1 C.2.1 dL_goal_26 rfl (lv_at hl 2 rfl) ?_
  obtain ⟨g_27, hf⟩ := gd hf
  have ob_27 := q_ltN S (Or.inl (by decide)) (q_glt g_27)
  refine q_get C S 0 (Or.inl (by decide)) (by decide) g_27 tw_5_199 ⟨(Nat.le_of_ble_eq_true rfl), (Nat.le_of_ble_eq_true rfl)⟩ (Nat.le_of_ble_eq_true rfl) hl.1 ⟨(show _ ≤ n from by omega), (show _ ≤ 6 * n from by omega)⟩ dL_goal_27 (fun H locs S => ?_)
  refine q_cast C S 41 ((v1).toNatClampNeg) rfl ob_27 "BusLiftsLaw$Car" (fun _ => Or.inl ⟨_, _, _, _, rfl, rfl⟩) tw_3_162 dL_goal_32 ?_
  refine q_getIN C S 41 ((v1).toNatClampNeg) rfl ob_27 cf_9 1 (by decide) (qi_41_1 G τ2 ((v1).toNatClampNeg)) (List.mem_of_getElem? (i := 12) rfl) dL_goal_35 ?_
  refine lv_icmp_ge (tgt := 45) C.1 C.2.1 dL_goal_38 (by decide) (fun c_38 => ?_) (fun c_38 => ?_)
  · rw [if_pos c_38] at hf
    refine lv_iconst (v := 0) C.1 C.2.1 dL_goal_45 (by decide) ?_
    exact w_L_goal_46 C _ v1 (τ 41 ((v1).toNatClampNeg) 0) 0 _ _ _ _ _ S (lv_sub hl [1, 2, 0] rfl) hf hd
  · rw [if_neg c_38] at hf
    refine lv_iconst (v := 1) C.1 C.2.1 dL_goal_41 (by decide) ?_
    refine lv_goto (tgt := 46) C.1 C.2.1 dL_goal_42 (by decide) ?_
    exact w_L_goal_46 C _ v1 (τ 41 ((v1).toNatClampNeg) 0) 1 _ _ _ _ _ S (lv_sub hl [1, 2, 0] rfl) hf hd
theorem kv_L_goal : KV yL_goal cL_goal 8 (Option.some FieldType.int) 1 := ⟨tw_6_113, tw_6_112, tw_p_23, tw_1_0, by decide, by decide, by decide +kernel⟩
theorem m_L_goal (l : Launch) (G : Gx) (ad : Ad) (N : Nn) (τ : Sg) (v1 : Int32) (res : Int32 × Sg) (n : Nat) (hf : f_L_goal τ v1 = some (res.1, res.2, n)) (sz : Nat) : q_M l yL_goal cL_goal 8 (Option.some FieldType.int) 4 77 n G ad N τ sz [.ref (ad 40 0), .int v1] (some (.int res.1)) res.2 := by
  refine q_begin (by decide +kernel) (Nat.le_of_ble_eq_true rfl) [(0, .ref (ad 40 0)), (1, .int v1)] rfl (fun p e s m args below meth c ls C hz S hl => ?_)
  subst hz
  exact w_L_goal_0 C _ v1 _ _ _ _ _ S hl hf (Nat.zero_add _)

theorem dL_act_0 : decode cL_act 0 = .ok (.aload_n 0, 1) := by decide +kernel
theorem dL_act_1 : decode cL_act 1 = .ok (.getfield 30, 3) := by decide +kernel
theorem dL_act_4 : decode cL_act 4 = .ok (.iload_n 1, 1) := by decide +kernel
theorem dL_act_5 : decode cL_act 5 = .ok (.invokeinterface 179 2, 5) := by decide +kernel
theorem dL_act_10 : decode cL_act 10 = .ok (.checkcast 82, 3) := by decide +kernel
theorem dL_act_13 : decode cL_act 13 = .ok (.astore_n 2, 1) := by decide +kernel
theorem dL_act_14 : decode cL_act 14 = .ok (.aload_n 2, 1) := by decide +kernel
theorem dL_act_15 : decode cL_act 15 = .ok (.getfield 199, 3) := by decide +kernel
theorem dL_act_18 : decode cL_act 18 = .ok (.ifCond .eq 4, 3) := by decide +kernel
theorem dL_act_21 : decode cL_act 21 = .ok (.return_, 1) := by decide +kernel
theorem dL_act_22 : decode cL_act 22 = .ok (.aload_n 2, 1) := by decide +kernel
theorem dL_act_23 : decode cL_act 23 = .ok (.getfield 230, 3) := by decide +kernel
theorem dL_act_26 : decode cL_act 26 = .ok (.ifCond .le 14, 3) := by decide +kernel
theorem dL_act_29 : decode cL_act 29 = .ok (.aload_n 2, 1) := by decide +kernel
theorem dL_act_30 : decode cL_act 30 = .ok (.dup, 1) := by decide +kernel
theorem dL_act_31 : decode cL_act 31 = .ok (.getfield 230, 3) := by decide +kernel
theorem dL_act_34 : decode cL_act 34 = .ok (.iconst 1, 1) := by decide +kernel
theorem dL_act_35 : decode cL_act 35 = .ok (.isub, 1) := by decide +kernel
theorem dL_act_36 : decode cL_act 36 = .ok (.putfield 230, 3) := by decide +kernel
theorem dL_act_39 : decode cL_act 39 = .ok (.return_, 1) := by decide +kernel
theorem dL_act_40 : decode cL_act 40 = .ok (.iconst 0, 1) := by decide +kernel
theorem dL_act_41 : decode cL_act 41 = .ok (.istore_n 3, 1) := by decide +kernel
theorem dL_act_42 : decode cL_act 42 = .ok (.aload_n 0, 1) := by decide +kernel
theorem dL_act_43 : decode cL_act 43 = .ok (.getfield 36, 3) := by decide +kernel
theorem dL_act_46 : decode cL_act 46 = .ok (.invokeinterface 133 1, 5) := by decide +kernel
theorem dL_act_51 : decode cL_act 51 = .ok (.astore 4, 2) := by decide +kernel
theorem dL_act_53 : decode cL_act 53 = .ok (.aload 4, 2) := by decide +kernel
theorem dL_act_55 : decode cL_act 55 = .ok (.invokeinterface 137 1, 5) := by decide +kernel
theorem dL_act_60 : decode cL_act 60 = .ok (.ifCond .eq 58, 3) := by decide +kernel
theorem dL_act_63 : decode cL_act 63 = .ok (.aload 4, 2) := by decide +kernel
theorem dL_act_65 : decode cL_act 65 = .ok (.invokeinterface 143 1, 5) := by decide +kernel
theorem dL_act_70 : decode cL_act 70 = .ok (.checkcast 97, 3) := by decide +kernel
theorem dL_act_73 : decode cL_act 73 = .ok (.astore 5, 2) := by decide +kernel
theorem dL_act_75 : decode cL_act 75 = .ok (.iload_n 3, 1) := by decide +kernel
theorem dL_act_76 : decode cL_act 76 = .ok (.ifCond .ne 33, 3) := by decide +kernel
theorem dL_act_79 : decode cL_act 79 = .ok (.aload 5, 2) := by decide +kernel
theorem dL_act_81 : decode cL_act 81 = .ok (.getfield 173, 3) := by decide +kernel
theorem dL_act_84 : decode cL_act 84 = .ok (.iconst 2, 1) := by decide +kernel
theorem dL_act_85 : decode cL_act 85 = .ok (.if_icmp .ne 28, 3) := by decide +kernel
theorem dL_act_88 : decode cL_act 88 = .ok (.aload 5, 2) := by decide +kernel
theorem dL_act_90 : decode cL_act 90 = .ok (.getfield 176, 3) := by decide +kernel
theorem dL_act_93 : decode cL_act 93 = .ok (.iload_n 1, 1) := by decide +kernel
theorem dL_act_94 : decode cL_act 94 = .ok (.if_icmp .ne 19, 3) := by decide +kernel
theorem dL_act_97 : decode cL_act 97 = .ok (.aload 5, 2) := by decide +kernel
theorem dL_act_99 : decode cL_act 99 = .ok (.getfield 160, 3) := by decide +kernel
theorem dL_act_102 : decode cL_act 102 = .ok (.aload_n 2, 1) := by decide +kernel
theorem dL_act_103 : decode cL_act 103 = .ok (.getfield 85, 3) := by decide +kernel
theorem dL_act_106 : decode cL_act 106 = .ok (.if_icmp .ne 7, 3) := by decide +kernel
theorem dL_act_109 : decode cL_act 109 = .ok (.iconst 1, 1) := by decide +kernel
theorem dL_act_110 : decode cL_act 110 = .ok (.goto 4, 3) := by decide +kernel
theorem dL_act_113 : decode cL_act 113 = .ok (.iconst 0, 1) := by decide +kernel
theorem dL_act_114 : decode cL_act 114 = .ok (.istore_n 3, 1) := by decide +kernel
theorem dL_act_115 : decode cL_act 115 = .ok (.goto (-62), 3) := by decide +kernel
theorem dL_act_118 : decode cL_act 118 = .ok (.iload_n 3, 1) := by decide +kernel
theorem dL_act_119 : decode cL_act 119 = .ok (.istore 4, 2) := by decide +kernel
theorem dL_act_121 : decode cL_act 121 = .ok (.aload_n 0, 1) := by decide +kernel
theorem dL_act_122 : decode cL_act 122 = .ok (.getfield 36, 3) := by decide +kernel
theorem dL_act_125 : decode cL_act 125 = .ok (.invokeinterface 133 1, 5) := by decide +kernel
theorem dL_act_130 : decode cL_act 130 = .ok (.astore 5, 2) := by decide +kernel
theorem dL_act_132 : decode cL_act 132 = .ok (.aload 5, 2) := by decide +kernel
theorem dL_act_134 : decode cL_act 134 = .ok (.invokeinterface 137 1, 5) := by decide +kernel
theorem dL_act_139 : decode cL_act 139 = .ok (.ifCond .eq 71, 3) := by decide +kernel
theorem dL_act_142 : decode cL_act 142 = .ok (.aload 5, 2) := by decide +kernel
theorem dL_act_144 : decode cL_act 144 = .ok (.invokeinterface 143 1, 5) := by decide +kernel
theorem dL_act_149 : decode cL_act 149 = .ok (.checkcast 97, 3) := by decide +kernel
theorem dL_act_152 : decode cL_act 152 = .ok (.astore 6, 2) := by decide +kernel
theorem dL_act_154 : decode cL_act 154 = .ok (.aload 6, 2) := by decide +kernel
theorem dL_act_156 : decode cL_act 156 = .ok (.getfield 163, 3) := by decide +kernel
theorem dL_act_159 : decode cL_act 159 = .ok (.iload_n 1, 1) := by decide +kernel
theorem dL_act_160 : decode cL_act 160 = .ok (.aaload, 1) := by decide +kernel
theorem dL_act_161 : decode cL_act 161 = .ok (.getfield 167, 3) := by decide +kernel
theorem dL_act_164 : decode cL_act 164 = .ok (.ifCond .eq 43, 3) := by decide +kernel
theorem dL_act_167 : decode cL_act 167 = .ok (.aload 6, 2) := by decide +kernel
theorem dL_act_169 : decode cL_act 169 = .ok (.getfield 157, 3) := by decide +kernel
theorem dL_act_172 : decode cL_act 172 = .ok (.aload_n 2, 1) := by decide +kernel
theorem dL_act_173 : decode cL_act 173 = .ok (.getfield 85, 3) := by decide +kernel
theorem dL_act_176 : decode cL_act 176 = .ok (.if_icmp .ne 31, 3) := by decide +kernel
theorem dL_act_179 : decode cL_act 179 = .ok (.aload 6, 2) := by decide +kernel
theorem dL_act_181 : decode cL_act 181 = .ok (.getfield 173, 3) := by decide +kernel
theorem dL_act_184 : decode cL_act 184 = .ok (.iconst 1, 1) := by decide +kernel
theorem dL_act_185 : decode cL_act 185 = .ok (.if_icmp .ne 19, 3) := by decide +kernel
theorem dL_act_188 : decode cL_act 188 = .ok (.iload_n 3, 1) := by decide +kernel
theorem dL_act_189 : decode cL_act 189 = .ok (.ifCond .ne 15, 3) := by decide +kernel
theorem dL_act_192 : decode cL_act 192 = .ok (.aload_n 0, 1) := by decide +kernel
theorem dL_act_193 : decode cL_act 193 = .ok (.iload_n 1, 1) := by decide +kernel
theorem dL_act_194 : decode cL_act 194 = .ok (.invokevirtual 192, 3) := by decide +kernel
theorem dL_act_197 : decode cL_act 197 = .ok (.aload_n 2, 1) := by decide +kernel
theorem dL_act_198 : decode cL_act 198 = .ok (.getfield 88, 3) := by decide +kernel
theorem dL_act_201 : decode cL_act 201 = .ok (.if_icmp .ge 6, 3) := by decide +kernel
theorem dL_act_204 : decode cL_act 204 = .ok (.iconst 1, 1) := by decide +kernel
theorem dL_act_205 : decode cL_act 205 = .ok (.istore 4, 2) := by decide +kernel
theorem dL_act_207 : decode cL_act 207 = .ok (.goto (-75), 3) := by decide +kernel
theorem dL_act_210 : decode cL_act 210 = .ok (.iload 4, 2) := by decide +kernel
theorem dL_act_212 : decode cL_act 212 = .ok (.ifCond .ne 46, 3) := by decide +kernel
theorem dL_act_215 : decode cL_act 215 = .ok (.aload_n 0, 1) := by decide +kernel
theorem dL_act_216 : decode cL_act 216 = .ok (.iload_n 1, 1) := by decide +kernel
theorem dL_act_217 : decode cL_act 217 = .ok (.invokevirtual 231, 3) := by decide +kernel
theorem dL_act_220 : decode cL_act 220 = .ok (.istore 5, 2) := by decide +kernel
theorem dL_act_222 : decode cL_act 222 = .ok (.iload 5, 2) := by decide +kernel
theorem dL_act_224 : decode cL_act 224 = .ok (.ifCond .ge 4, 3) := by decide +kernel
theorem dL_act_227 : decode cL_act 227 = .ok (.return_, 1) := by decide +kernel
theorem dL_act_228 : decode cL_act 228 = .ok (.aload_n 2, 1) := by decide +kernel
theorem dL_act_229 : decode cL_act 229 = .ok (.dup, 1) := by decide +kernel
theorem dL_act_230 : decode cL_act 230 = .ok (.getfield 85, 3) := by decide +kernel
theorem dL_act_233 : decode cL_act 233 = .ok (.iload 5, 2) := by decide +kernel
theorem dL_act_235 : decode cL_act 235 = .ok (.aload_n 2, 1) := by decide +kernel
theorem dL_act_236 : decode cL_act 236 = .ok (.getfield 85, 3) := by decide +kernel
theorem dL_act_239 : decode cL_act 239 = .ok (.isub, 1) := by decide +kernel
theorem dL_act_240 : decode cL_act 240 = .ok (.invokestatic 234, 3) := by decide +kernel
theorem dL_act_243 : decode cL_act 243 = .ok (.iadd, 1) := by decide +kernel
theorem dL_act_244 : decode cL_act 244 = .ok (.putfield 85, 3) := by decide +kernel
theorem dL_act_247 : decode cL_act 247 = .ok (.aload_n 2, 1) := by decide +kernel
theorem dL_act_248 : decode cL_act 248 = .ok (.dup, 1) := by decide +kernel
theorem dL_act_249 : decode cL_act 249 = .ok (.getfield 239, 3) := by decide +kernel
theorem dL_act_252 : decode cL_act 252 = .ok (.iconst 1, 1) := by decide +kernel
theorem dL_act_253 : decode cL_act 253 = .ok (.iadd, 1) := by decide +kernel
theorem dL_act_254 : decode cL_act 254 = .ok (.putfield 239, 3) := by decide +kernel
theorem dL_act_257 : decode cL_act 257 = .ok (.return_, 1) := by decide +kernel
theorem dL_act_258 : decode cL_act 258 = .ok (.aload_n 2, 1) := by decide +kernel
theorem dL_act_259 : decode cL_act 259 = .ok (.dup, 1) := by decide +kernel
theorem dL_act_260 : decode cL_act 260 = .ok (.getfield 242, 3) := by decide +kernel
theorem dL_act_263 : decode cL_act 263 = .ok (.iconst 1, 1) := by decide +kernel
theorem dL_act_264 : decode cL_act 264 = .ok (.iadd, 1) := by decide +kernel
theorem dL_act_265 : decode cL_act 265 = .ok (.putfield 242, 3) := by decide +kernel
theorem dL_act_268 : decode cL_act 268 = .ok (.aload_n 2, 1) := by decide +kernel
theorem dL_act_269 : decode cL_act 269 = .ok (.aload_n 0, 1) := by decide +kernel
theorem dL_act_270 : decode cL_act 270 = .ok (.getfield 76, 3) := by decide +kernel
theorem dL_act_273 : decode cL_act 273 = .ok (.putfield 230, 3) := by decide +kernel
theorem dL_act_276 : decode cL_act 276 = .ok (.aload_n 0, 1) := by decide +kernel
theorem dL_act_277 : decode cL_act 277 = .ok (.getfield 36, 3) := by decide +kernel
theorem dL_act_280 : decode cL_act 280 = .ok (.invokeinterface 133 1, 5) := by decide +kernel
theorem dL_act_285 : decode cL_act 285 = .ok (.astore 5, 2) := by decide +kernel
theorem dL_act_287 : decode cL_act 287 = .ok (.aload 5, 2) := by decide +kernel
theorem dL_act_289 : decode cL_act 289 = .ok (.invokeinterface 137 1, 5) := by decide +kernel
theorem dL_act_294 : decode cL_act 294 = .ok (.ifCond .eq 66, 3) := by decide +kernel
theorem dL_act_297 : decode cL_act 297 = .ok (.aload 5, 2) := by decide +kernel
theorem dL_act_299 : decode cL_act 299 = .ok (.invokeinterface 143 1, 5) := by decide +kernel
theorem dL_act_304 : decode cL_act 304 = .ok (.checkcast 97, 3) := by decide +kernel
theorem dL_act_307 : decode cL_act 307 = .ok (.astore 6, 2) := by decide +kernel
theorem dL_act_309 : decode cL_act 309 = .ok (.aload 6, 2) := by decide +kernel
theorem dL_act_311 : decode cL_act 311 = .ok (.getfield 173, 3) := by decide +kernel
theorem dL_act_314 : decode cL_act 314 = .ok (.iconst 2, 1) := by decide +kernel
theorem dL_act_315 : decode cL_act 315 = .ok (.if_icmp .ne (-28), 3) := by decide +kernel
theorem dL_act_318 : decode cL_act 318 = .ok (.aload 6, 2) := by decide +kernel
theorem dL_act_320 : decode cL_act 320 = .ok (.getfield 176, 3) := by decide +kernel
theorem dL_act_323 : decode cL_act 323 = .ok (.iload_n 1, 1) := by decide +kernel
theorem dL_act_324 : decode cL_act 324 = .ok (.if_icmp .ne (-37), 3) := by decide +kernel
theorem dL_act_327 : decode cL_act 327 = .ok (.aload 6, 2) := by decide +kernel
theorem dL_act_329 : decode cL_act 329 = .ok (.getfield 160, 3) := by decide +kernel
theorem dL_act_332 : decode cL_act 332 = .ok (.aload_n 2, 1) := by decide +kernel
theorem dL_act_333 : decode cL_act 333 = .ok (.getfield 85, 3) := by decide +kernel
theorem dL_act_336 : decode cL_act 336 = .ok (.if_icmp .eq 6, 3) := by decide +kernel
theorem dL_act_339 : decode cL_act 339 = .ok (.goto (-52), 3) := by decide +kernel
theorem dL_act_342 : decode cL_act 342 = .ok (.aload 6, 2) := by decide +kernel
theorem dL_act_344 : decode cL_act 344 = .ok (.iconst 3, 1) := by decide +kernel
theorem dL_act_345 : decode cL_act 345 = .ok (.putfield 173, 3) := by decide +kernel
theorem dL_act_348 : decode cL_act 348 = .ok (.aload 6, 2) := by decide +kernel
theorem dL_act_350 : decode cL_act 350 = .ok (.aload_n 0, 1) := by decide +kernel
theorem dL_act_351 : decode cL_act 351 = .ok (.getfield 215, 3) := by decide +kernel
theorem dL_act_354 : decode cL_act 354 = .ok (.putfield 245, 3) := by decide +kernel
theorem dL_act_357 : decode cL_act 357 = .ok (.goto (-70), 3) := by decide +kernel
theorem dL_act_360 : decode cL_act 360 = .ok (.iconst 0, 1) := by decide +kernel
theorem dL_act_361 : decode cL_act 361 = .ok (.istore 5, 2) := by decide +kernel
theorem dL_act_363 : decode cL_act 363 = .ok (.iload 5, 2) := by decide +kernel
theorem dL_act_365 : decode cL_act 365 = .ok (.aload_n 0, 1) := by decide +kernel
theorem dL_act_366 : decode cL_act 366 = .ok (.getfield 36, 3) := by decide +kernel
theorem dL_act_369 : decode cL_act 369 = .ok (.invokeinterface 227 1, 5) := by decide +kernel
theorem dL_act_374 : decode cL_act 374 = .ok (.if_icmp .ge 195, 3) := by decide +kernel
theorem dL_act_377 : decode cL_act 377 = .ok (.aload_n 0, 1) := by decide +kernel
theorem dL_act_378 : decode cL_act 378 = .ok (.getfield 36, 3) := by decide +kernel
theorem dL_act_381 : decode cL_act 381 = .ok (.iload 5, 2) := by decide +kernel
theorem dL_act_383 : decode cL_act 383 = .ok (.invokeinterface 179 2, 5) := by decide +kernel
theorem dL_act_388 : decode cL_act 388 = .ok (.checkcast 97, 3) := by decide +kernel
theorem dL_act_391 : decode cL_act 391 = .ok (.astore 6, 2) := by decide +kernel
theorem dL_act_393 : decode cL_act 393 = .ok (.aload 6, 2) := by decide +kernel
theorem dL_act_395 : decode cL_act 395 = .ok (.getfield 163, 3) := by decide +kernel
theorem dL_act_398 : decode cL_act 398 = .ok (.iload_n 1, 1) := by decide +kernel
theorem dL_act_399 : decode cL_act 399 = .ok (.aaload, 1) := by decide +kernel
theorem dL_act_400 : decode cL_act 400 = .ok (.getfield 167, 3) := by decide +kernel
theorem dL_act_403 : decode cL_act 403 = .ok (.ifCond .eq 160, 3) := by decide +kernel
theorem dL_act_406 : decode cL_act 406 = .ok (.aload 6, 2) := by decide +kernel
theorem dL_act_408 : decode cL_act 408 = .ok (.getfield 157, 3) := by decide +kernel
theorem dL_act_411 : decode cL_act 411 = .ok (.aload_n 2, 1) := by decide +kernel
theorem dL_act_412 : decode cL_act 412 = .ok (.getfield 85, 3) := by decide +kernel
theorem dL_act_415 : decode cL_act 415 = .ok (.if_icmp .eq 6, 3) := by decide +kernel
theorem dL_act_418 : decode cL_act 418 = .ok (.goto 145, 3) := by decide +kernel
theorem dL_act_421 : decode cL_act 421 = .ok (.aload 6, 2) := by decide +kernel
theorem dL_act_423 : decode cL_act 423 = .ok (.getfield 173, 3) := by decide +kernel
theorem dL_act_426 : decode cL_act 426 = .ok (.iconst 1, 1) := by decide +kernel
theorem dL_act_427 : decode cL_act 427 = .ok (.if_icmp .eq 83, 3) := by decide +kernel
theorem dL_act_430 : decode cL_act 430 = .ok (.aload 6, 2) := by decide +kernel
theorem dL_act_432 : decode cL_act 432 = .ok (.getfield 163, 3) := by decide +kernel
theorem dL_act_435 : decode cL_act 435 = .ok (.iload_n 1, 1) := by decide +kernel
theorem dL_act_436 : decode cL_act 436 = .ok (.aaload, 1) := by decide +kernel
theorem dL_act_437 : decode cL_act 437 = .ok (.iconst 0, 1) := by decide +kernel
theorem dL_act_438 : decode cL_act 438 = .ok (.putfield 167, 3) := by decide +kernel
theorem dL_act_441 : decode cL_act 441 = .ok (.aload_n 2, 1) := by decide +kernel
theorem dL_act_442 : decode cL_act 442 = .ok (.dup, 1) := by decide +kernel
theorem dL_act_443 : decode cL_act 443 = .ok (.getfield 248, 3) := by decide +kernel
theorem dL_act_446 : decode cL_act 446 = .ok (.iconst 1, 1) := by decide +kernel
theorem dL_act_447 : decode cL_act 447 = .ok (.iadd, 1) := by decide +kernel
theorem dL_act_448 : decode cL_act 448 = .ok (.putfield 248, 3) := by decide +kernel
theorem dL_act_451 : decode cL_act 451 = .ok (.aload 6, 2) := by decide +kernel
theorem dL_act_453 : decode cL_act 453 = .ok (.getfield 163, 3) := by decide +kernel
theorem dL_act_456 : decode cL_act 456 = .ok (.iload_n 1, 1) := by decide +kernel
theorem dL_act_457 : decode cL_act 457 = .ok (.aaload, 1) := by decide +kernel
theorem dL_act_458 : decode cL_act 458 = .ok (.getfield 251, 3) := by decide +kernel
theorem dL_act_461 : decode cL_act 461 = .ok (.istore 7, 2) := by decide +kernel
theorem dL_act_463 : decode cL_act 463 = .ok (.aload_n 0, 1) := by decide +kernel
theorem dL_act_464 : decode cL_act 464 = .ok (.getfield 49, 3) := by decide +kernel
theorem dL_act_467 : decode cL_act 467 = .ok (.iload 7, 2) := by decide +kernel
theorem dL_act_469 : decode cL_act 469 = .ok (.bipush 8, 2) := by decide +kernel
theorem dL_act_471 : decode cL_act 471 = .ok (.iand, 1) := by decide +kernel
theorem dL_act_472 : decode cL_act 472 = .ok (.ifCond .eq 7, 3) := by decide +kernel
theorem dL_act_475 : decode cL_act 475 = .ok (.iconst 1, 1) := by decide +kernel
theorem dL_act_476 : decode cL_act 476 = .ok (.goto 26, 3) := by decide +kernel
theorem dL_act_479 : decode cL_act 479 = .ok (.iload 7, 2) := by decide +kernel
theorem dL_act_481 : decode cL_act 481 = .ok (.iconst 4, 1) := by decide +kernel
theorem dL_act_482 : decode cL_act 482 = .ok (.iand, 1) := by decide +kernel
theorem dL_act_483 : decode cL_act 483 = .ok (.ifCond .eq 7, 3) := by decide +kernel
theorem dL_act_486 : decode cL_act 486 = .ok (.iconst 2, 1) := by decide +kernel
theorem dL_act_487 : decode cL_act 487 = .ok (.goto 15, 3) := by decide +kernel
theorem dL_act_490 : decode cL_act 490 = .ok (.iload 7, 2) := by decide +kernel
theorem dL_act_492 : decode cL_act 492 = .ok (.iconst 2, 1) := by decide +kernel
theorem dL_act_493 : decode cL_act 493 = .ok (.iand, 1) := by decide +kernel
theorem dL_act_494 : decode cL_act 494 = .ok (.ifCond .eq 7, 3) := by decide +kernel
theorem dL_act_497 : decode cL_act 497 = .ok (.iconst 3, 1) := by decide +kernel
theorem dL_act_498 : decode cL_act 498 = .ok (.goto 4, 3) := by decide +kernel
theorem dL_act_501 : decode cL_act 501 = .ok (.iconst 4, 1) := by decide +kernel
theorem dL_act_502 : decode cL_act 502 = .ok (.dup2, 1) := by decide +kernel
theorem dL_act_503 : decode cL_act 503 = .ok (.iaload, 1) := by decide +kernel
theorem dL_act_504 : decode cL_act 504 = .ok (.iconst 1, 1) := by decide +kernel
theorem dL_act_505 : decode cL_act 505 = .ok (.iadd, 1) := by decide +kernel
theorem dL_act_506 : decode cL_act 506 = .ok (.iastore, 1) := by decide +kernel
theorem dL_act_507 : decode cL_act 507 = .ok (.goto 56, 3) := by decide +kernel
theorem dL_act_510 : decode cL_act 510 = .ok (.aload_n 0, 1) := by decide +kernel
theorem dL_act_511 : decode cL_act 511 = .ok (.iload_n 1, 1) := by decide +kernel
theorem dL_act_512 : decode cL_act 512 = .ok (.invokevirtual 192, 3) := by decide +kernel
theorem dL_act_515 : decode cL_act 515 = .ok (.aload_n 2, 1) := by decide +kernel
theorem dL_act_516 : decode cL_act 516 = .ok (.getfield 88, 3) := by decide +kernel
theorem dL_act_519 : decode cL_act 519 = .ok (.if_icmp .ge 44, 3) := by decide +kernel
theorem dL_act_522 : decode cL_act 522 = .ok (.aload 6, 2) := by decide +kernel
theorem dL_act_524 : decode cL_act 524 = .ok (.getfield 163, 3) := by decide +kernel
theorem dL_act_527 : decode cL_act 527 = .ok (.iload_n 1, 1) := by decide +kernel
theorem dL_act_528 : decode cL_act 528 = .ok (.aaload, 1) := by decide +kernel
theorem dL_act_529 : decode cL_act 529 = .ok (.iconst 0, 1) := by decide +kernel
theorem dL_act_530 : decode cL_act 530 = .ok (.putfield 167, 3) := by decide +kernel
theorem dL_act_533 : decode cL_act 533 = .ok (.aload 6, 2) := by decide +kernel
theorem dL_act_535 : decode cL_act 535 = .ok (.iconst 2, 1) := by decide +kernel
theorem dL_act_536 : decode cL_act 536 = .ok (.putfield 173, 3) := by decide +kernel
theorem dL_act_539 : decode cL_act 539 = .ok (.aload 6, 2) := by decide +kernel
theorem dL_act_541 : decode cL_act 541 = .ok (.iload_n 1, 1) := by decide +kernel
theorem dL_act_542 : decode cL_act 542 = .ok (.putfield 176, 3) := by decide +kernel
theorem dL_act_545 : decode cL_act 545 = .ok (.aload 6, 2) := by decide +kernel
theorem dL_act_547 : decode cL_act 547 = .ok (.aload_n 0, 1) := by decide +kernel
theorem dL_act_548 : decode cL_act 548 = .ok (.getfield 215, 3) := by decide +kernel
theorem dL_act_551 : decode cL_act 551 = .ok (.putfield 254, 3) := by decide +kernel
theorem dL_act_554 : decode cL_act 554 = .ok (.aload_n 0, 1) := by decide +kernel
theorem dL_act_555 : decode cL_act 555 = .ok (.iconst 3, 1) := by decide +kernel
theorem dL_act_556 : decode cL_act 556 = .ok (.iload 5, 2) := by decide +kernel
theorem dL_act_558 : decode cL_act 558 = .ok (.iload_n 1, 1) := by decide +kernel
theorem dL_act_559 : decode cL_act 559 = .ok (.iconst 0, 1) := by decide +kernel
theorem dL_act_560 : decode cL_act 560 = .ok (.invokevirtual 205, 3) := by decide +kernel
theorem dL_act_563 : decode cL_act 563 = .ok (.iinc 5 1, 3) := by decide +kernel
theorem dL_act_566 : decode cL_act 566 = .ok (.goto (-203), 3) := by decide +kernel
theorem dL_act_569 : decode cL_act 569 = .ok (.return_, 1) := by decide +kernel
/-! BusLiftsLaw.act(I)V -/
noncomputable def f_L_act_569 (τ : Sg) : Option (Int32 × Sg × Nat) := some (0, τ, 0)
noncomputable def f_L_act_563 (k363 : Sg → Int32 → Nat → Int32 → Option (Int32 × Sg × Nat)) (τ : Sg) (v1 : Int32) (o2 : Nat) (v5 : Int32) : Option (Int32 × Sg × Nat) := k363 τ v1 o2 (v5 + 1)
noncomputable def f_L_act_502 (k363 : Sg → Int32 → Nat → Int32 → Option (Int32 × Sg × Nat)) (τ : Sg) (v1 : Int32) (o2 : Nat) (v5 : Int32) (v101 : Int32) : Option (Int32 × Sg × Nat) := if v101 < 0 ∨ 5 ≤ (v101).toNatClampNeg then none else (if v101 < 0 ∨ 5 ≤ (v101).toNatClampNeg then none else (st (sup τ 48 0 (v101).toNatClampNeg ((τ 48 0 (v101).toNatClampNeg) + 1)) fun τ1 => (f_L_act_563 k363 τ1 v1 o2 v5)))
noncomputable def f_L_act_363 : Nat → Sg → Int32 → Nat → Int32 → Option (Int32 × Sg × Nat)
  | 0, _, _, _, _ => none
  | n + 1, τ, v1, o2, v5 => if (τ 50 1 2) ≤ v5 then (f_L_act_569 τ) else (if v5 < 0 ∨ q_nn τ 1 ≤ (v5).toNatClampNeg then none else (if v1 < 0 ∨ 4 ≤ (v1).toNatClampNeg then none else (if (τ 43 (4 * ((v5).toNatClampNeg) + (v1).toNatClampNeg) 0) = 0 then (f_L_act_563 (f_L_act_363 n) τ v1 o2 v5) else (if (τ 42 ((v5).toNatClampNeg) 0) = (τ 41 o2 0) then (if (τ 42 ((v5).toNatClampNeg) 3) = 1 then (bq (f_L_aboard τ v1) fun r1 τ2 => (if (τ2 41 o2 1) ≤ r1 then (f_L_act_563 (f_L_act_363 n) τ2 v1 o2 v5) else (if v1 < 0 ∨ 4 ≤ (v1).toNatClampNeg then none else (st (sup τ2 43 (4 * ((v5).toNatClampNeg) + (v1).toNatClampNeg) 0 0) fun τ3 => (st (sup τ3 42 ((v5).toNatClampNeg) 3 2) fun τ4 => (st (sup τ4 42 ((v5).toNatClampNeg) 4 v1) fun τ5 => (st (sup τ5 42 ((v5).toNatClampNeg) 5 (τ5 40 0 7)) fun τ6 => (bq (f_L_send τ6 3 v5 v1 0) fun r7 τ8 => (f_L_act_563 (f_L_act_363 n) τ8 v1 o2 v5))))))))) else (if v1 < 0 ∨ 4 ≤ (v1).toNatClampNeg then none else (st (sup τ 43 (4 * ((v5).toNatClampNeg) + (v1).toNatClampNeg) 0 0) fun τ9 => (st (sup τ9 41 o2 7 ((τ9 41 o2 7) + 1)) fun τ10 => (if v1 < 0 ∨ 4 ≤ (v1).toNatClampNeg then none else (if ((τ10 43 (4 * ((v5).toNatClampNeg) + (v1).toNatClampNeg) 3) &&& 8) = 0 then (if ((τ10 43 (4 * ((v5).toNatClampNeg) + (v1).toNatClampNeg) 3) &&& 4) = 0 then (if ((τ10 43 (4 * ((v5).toNatClampNeg) + (v1).toNatClampNeg) 3) &&& 2) = 0 then (f_L_act_502 (f_L_act_363 n) τ10 v1 o2 v5 4) else (f_L_act_502 (f_L_act_363 n) τ10 v1 o2 v5 3)) else (f_L_act_502 (f_L_act_363 n) τ10 v1 o2 v5 2)) else (f_L_act_502 (f_L_act_363 n) τ10 v1 o2 v5 1))))))) else (f_L_act_563 (f_L_act_363 n) τ v1 o2 v5)))))
theorem f_L_act_363_s (n : Nat) (τ : Sg) (v1 : Int32) (o2 : Nat) (v5 : Int32) : f_L_act_363 (n + 1) τ v1 o2 v5 = (if (τ 50 1 2) ≤ v5 then (f_L_act_569 τ) else (if v5 < 0 ∨ q_nn τ 1 ≤ (v5).toNatClampNeg then none else (if v1 < 0 ∨ 4 ≤ (v1).toNatClampNeg then none else (if (τ 43 (4 * ((v5).toNatClampNeg) + (v1).toNatClampNeg) 0) = 0 then (f_L_act_563 (f_L_act_363 n) τ v1 o2 v5) else (if (τ 42 ((v5).toNatClampNeg) 0) = (τ 41 o2 0) then (if (τ 42 ((v5).toNatClampNeg) 3) = 1 then (bq (f_L_aboard τ v1) fun r1 τ2 => (if (τ2 41 o2 1) ≤ r1 then (f_L_act_563 (f_L_act_363 n) τ2 v1 o2 v5) else (if v1 < 0 ∨ 4 ≤ (v1).toNatClampNeg then none else (st (sup τ2 43 (4 * ((v5).toNatClampNeg) + (v1).toNatClampNeg) 0 0) fun τ3 => (st (sup τ3 42 ((v5).toNatClampNeg) 3 2) fun τ4 => (st (sup τ4 42 ((v5).toNatClampNeg) 4 v1) fun τ5 => (st (sup τ5 42 ((v5).toNatClampNeg) 5 (τ5 40 0 7)) fun τ6 => (bq (f_L_send τ6 3 v5 v1 0) fun r7 τ8 => (f_L_act_563 (f_L_act_363 n) τ8 v1 o2 v5))))))))) else (if v1 < 0 ∨ 4 ≤ (v1).toNatClampNeg then none else (st (sup τ 43 (4 * ((v5).toNatClampNeg) + (v1).toNatClampNeg) 0 0) fun τ9 => (st (sup τ9 41 o2 7 ((τ9 41 o2 7) + 1)) fun τ10 => (if v1 < 0 ∨ 4 ≤ (v1).toNatClampNeg then none else (if ((τ10 43 (4 * ((v5).toNatClampNeg) + (v1).toNatClampNeg) 3) &&& 8) = 0 then (if ((τ10 43 (4 * ((v5).toNatClampNeg) + (v1).toNatClampNeg) 3) &&& 4) = 0 then (if ((τ10 43 (4 * ((v5).toNatClampNeg) + (v1).toNatClampNeg) 3) &&& 2) = 0 then (f_L_act_502 (f_L_act_363 n) τ10 v1 o2 v5 4) else (f_L_act_502 (f_L_act_363 n) τ10 v1 o2 v5 3)) else (f_L_act_502 (f_L_act_363 n) τ10 v1 o2 v5 2)) else (f_L_act_502 (f_L_act_363 n) τ10 v1 o2 v5 1))))))) else (f_L_act_563 (f_L_act_363 n) τ v1 o2 v5)))))) := rfl
noncomputable def f_L_act_360 (τ : Sg) (v1 : Int32) (o2 : Nat) : Option (Int32 × Sg × Nat) := f_L_act_363 FU τ v1 o2 0
noncomputable def f_L_act_287 : Nat → Sg → Int32 → Nat → Nat → Int32 → Option (Int32 × Sg × Nat)
  | 0, _, _, _, _, _ => none
  | n + 1, τ, v1, o2, k5, m5 => if (it_z (nI k5) (τ 50 1 2)) = 0 then (f_L_act_360 τ v1 o2) else (if ¬ (k5 < q_nn τ 1 ∧ m5 = τ 50 1 0) then none else (if (τ 42 k5 3) = 2 then (if (τ 42 k5 4) = v1 then (if (τ 42 k5 1) = (τ 41 o2 0) then (st (sup τ 42 k5 3 3) fun τ1 => (st (sup τ1 42 k5 6 (τ1 40 0 7)) fun τ2 => (f_L_act_287 n τ2 v1 o2 (k5 + 1) m5))) else (f_L_act_287 n τ v1 o2 (k5 + 1) m5)) else (f_L_act_287 n τ v1 o2 (k5 + 1) m5)) else (f_L_act_287 n τ v1 o2 (k5 + 1) m5)))
theorem f_L_act_287_s (n : Nat) (τ : Sg) (v1 : Int32) (o2 : Nat) (k5 : Nat) (m5 : Int32) : f_L_act_287 (n + 1) τ v1 o2 k5 m5 = (if (it_z (nI k5) (τ 50 1 2)) = 0 then (f_L_act_360 τ v1 o2) else (if ¬ (k5 < q_nn τ 1 ∧ m5 = τ 50 1 0) then none else (if (τ 42 k5 3) = 2 then (if (τ 42 k5 4) = v1 then (if (τ 42 k5 1) = (τ 41 o2 0) then (st (sup τ 42 k5 3 3) fun τ1 => (st (sup τ1 42 k5 6 (τ1 40 0 7)) fun τ2 => (f_L_act_287 n τ2 v1 o2 (k5 + 1) m5))) else (f_L_act_287 n τ v1 o2 (k5 + 1) m5)) else (f_L_act_287 n τ v1 o2 (k5 + 1) m5)) else (f_L_act_287 n τ v1 o2 (k5 + 1) m5)))) := rfl
noncomputable def f_L_act_210 (τ : Sg) (v1 : Int32) (o2 : Nat) (v4 : Int32) : Option (Int32 × Sg × Nat) := if v4 = 0 then (bq (f_L_goal τ v1) fun r4 τ5 => (if 0 ≤ r4 then (st (sup τ5 41 o2 0 ((τ5 41 o2 0) + (jsig (r4 - (τ5 41 o2 0))))) fun τ6 => (st (sup τ6 41 o2 5 ((τ6 41 o2 5) + 1)) fun τ7 => (some (0, τ7, 0)))) else (some (0, τ5, 0)))) else (st (sup τ 41 o2 6 ((τ 41 o2 6) + 1)) fun τ1 => (st (sup τ1 41 o2 2 (τ1 40 0 11)) fun τ2 => (ac 1 (f_L_act_287 FU τ2 v1 o2 0 (τ2 50 1 0)))))
noncomputable def f_L_act_207 (k132 : Sg → Int32 → Nat → Int32 → Int32 → Nat → Int32 → Option (Int32 × Sg × Nat)) (τ : Sg) (v1 : Int32) (o2 : Nat) (v3 : Int32) (v4 : Int32) (k5 : Nat) (m5 : Int32) : Option (Int32 × Sg × Nat) := k132 τ v1 o2 v3 v4 k5 m5
noncomputable def f_L_act_204 (k132 : Sg → Int32 → Nat → Int32 → Int32 → Nat → Int32 → Option (Int32 × Sg × Nat)) (τ : Sg) (v1 : Int32) (o2 : Nat) (v3 : Int32) (k5 : Nat) (m5 : Int32) : Option (Int32 × Sg × Nat) := f_L_act_207 k132 τ v1 o2 v3 1 k5 m5
noncomputable def f_L_act_132 : Nat → Sg → Int32 → Nat → Int32 → Int32 → Nat → Int32 → Option (Int32 × Sg × Nat)
  | 0, _, _, _, _, _, _, _ => none
  | n + 1, τ, v1, o2, v3, v4, k5, m5 => if (it_z (nI k5) (τ 50 1 2)) = 0 then (f_L_act_210 τ v1 o2 v4) else (if ¬ (k5 < q_nn τ 1 ∧ m5 = τ 50 1 0) then none else (if v1 < 0 ∨ 4 ≤ (v1).toNatClampNeg then none else (if (τ 43 (4 * k5 + (v1).toNatClampNeg) 0) = 0 then (f_L_act_207 (f_L_act_132 n) τ v1 o2 v3 v4 (k5 + 1) m5) else (if (τ 42 k5 0) = (τ 41 o2 0) then (if (τ 42 k5 3) = 1 then (if v3 = 0 then (bq (f_L_aboard τ v1) fun r1 τ2 => (if (τ2 41 o2 1) ≤ r1 then (f_L_act_207 (f_L_act_132 n) τ2 v1 o2 v3 v4 (k5 + 1) m5) else (f_L_act_204 (f_L_act_132 n) τ2 v1 o2 v3 (k5 + 1) m5))) else (f_L_act_204 (f_L_act_132 n) τ v1 o2 v3 (k5 + 1) m5)) else (f_L_act_204 (f_L_act_132 n) τ v1 o2 v3 (k5 + 1) m5)) else (f_L_act_207 (f_L_act_132 n) τ v1 o2 v3 v4 (k5 + 1) m5)))))
theorem f_L_act_132_s (n : Nat) (τ : Sg) (v1 : Int32) (o2 : Nat) (v3 : Int32) (v4 : Int32) (k5 : Nat) (m5 : Int32) : f_L_act_132 (n + 1) τ v1 o2 v3 v4 k5 m5 = (if (it_z (nI k5) (τ 50 1 2)) = 0 then (f_L_act_210 τ v1 o2 v4) else (if ¬ (k5 < q_nn τ 1 ∧ m5 = τ 50 1 0) then none else (if v1 < 0 ∨ 4 ≤ (v1).toNatClampNeg then none else (if (τ 43 (4 * k5 + (v1).toNatClampNeg) 0) = 0 then (f_L_act_207 (f_L_act_132 n) τ v1 o2 v3 v4 (k5 + 1) m5) else (if (τ 42 k5 0) = (τ 41 o2 0) then (if (τ 42 k5 3) = 1 then (if v3 = 0 then (bq (f_L_aboard τ v1) fun r1 τ2 => (if (τ2 41 o2 1) ≤ r1 then (f_L_act_207 (f_L_act_132 n) τ2 v1 o2 v3 v4 (k5 + 1) m5) else (f_L_act_204 (f_L_act_132 n) τ2 v1 o2 v3 (k5 + 1) m5))) else (f_L_act_204 (f_L_act_132 n) τ v1 o2 v3 (k5 + 1) m5)) else (f_L_act_204 (f_L_act_132 n) τ v1 o2 v3 (k5 + 1) m5)) else (f_L_act_207 (f_L_act_132 n) τ v1 o2 v3 v4 (k5 + 1) m5)))))) := rfl
noncomputable def f_L_act_118 (τ : Sg) (v1 : Int32) (o2 : Nat) (v3 : Int32) : Option (Int32 × Sg × Nat) := ac 1 (f_L_act_132 FU τ v1 o2 v3 v3 0 (τ 50 1 0))
noncomputable def f_L_act_114 (k53 : Sg → Int32 → Nat → Int32 → Nat → Int32 → Option (Int32 × Sg × Nat)) (τ : Sg) (v1 : Int32) (o2 : Nat) (k4 : Nat) (m4 : Int32) (v100 : Int32) : Option (Int32 × Sg × Nat) := k53 τ v1 o2 v100 k4 m4
noncomputable def f_L_act_109 (k53 : Sg → Int32 → Nat → Int32 → Nat → Int32 → Option (Int32 × Sg × Nat)) (τ : Sg) (v1 : Int32) (o2 : Nat) (k4 : Nat) (m4 : Int32) : Option (Int32 × Sg × Nat) := f_L_act_114 k53 τ v1 o2 k4 m4 1
noncomputable def f_L_act_113 (k53 : Sg → Int32 → Nat → Int32 → Nat → Int32 → Option (Int32 × Sg × Nat)) (τ : Sg) (v1 : Int32) (o2 : Nat) (k4 : Nat) (m4 : Int32) : Option (Int32 × Sg × Nat) := f_L_act_114 k53 τ v1 o2 k4 m4 0
noncomputable def f_L_act_53 : Nat → Sg → Int32 → Nat → Int32 → Nat → Int32 → Option (Int32 × Sg × Nat)
  | 0, _, _, _, _, _, _ => none
  | n + 1, τ, v1, o2, v3, k4, m4 => if (it_z (nI k4) (τ 50 1 2)) = 0 then (f_L_act_118 τ v1 o2 v3) else (if ¬ (k4 < q_nn τ 1 ∧ m4 = τ 50 1 0) then none else (if v3 = 0 then (if (τ 42 k4 3) = 2 then (if (τ 42 k4 4) = v1 then (if (τ 42 k4 1) = (τ 41 o2 0) then (f_L_act_109 (f_L_act_53 n) τ v1 o2 (k4 + 1) m4) else (f_L_act_113 (f_L_act_53 n) τ v1 o2 (k4 + 1) m4)) else (f_L_act_113 (f_L_act_53 n) τ v1 o2 (k4 + 1) m4)) else (f_L_act_113 (f_L_act_53 n) τ v1 o2 (k4 + 1) m4)) else (f_L_act_109 (f_L_act_53 n) τ v1 o2 (k4 + 1) m4)))
theorem f_L_act_53_s (n : Nat) (τ : Sg) (v1 : Int32) (o2 : Nat) (v3 : Int32) (k4 : Nat) (m4 : Int32) : f_L_act_53 (n + 1) τ v1 o2 v3 k4 m4 = (if (it_z (nI k4) (τ 50 1 2)) = 0 then (f_L_act_118 τ v1 o2 v3) else (if ¬ (k4 < q_nn τ 1 ∧ m4 = τ 50 1 0) then none else (if v3 = 0 then (if (τ 42 k4 3) = 2 then (if (τ 42 k4 4) = v1 then (if (τ 42 k4 1) = (τ 41 o2 0) then (f_L_act_109 (f_L_act_53 n) τ v1 o2 (k4 + 1) m4) else (f_L_act_113 (f_L_act_53 n) τ v1 o2 (k4 + 1) m4)) else (f_L_act_113 (f_L_act_53 n) τ v1 o2 (k4 + 1) m4)) else (f_L_act_113 (f_L_act_53 n) τ v1 o2 (k4 + 1) m4)) else (f_L_act_109 (f_L_act_53 n) τ v1 o2 (k4 + 1) m4)))) := rfl
noncomputable def f_L_act (τ : Sg) (v1 : Int32) : Option (Int32 × Sg × Nat) := if v1 < 0 ∨ q_nn τ 0 ≤ (v1).toNatClampNeg then none else (if (τ 41 ((v1).toNatClampNeg) 3) = 0 then (if (τ 41 ((v1).toNatClampNeg) 2) ≤ 0 then (ac 1 (f_L_act_53 FU τ v1 ((v1).toNatClampNeg) 0 0 (τ 50 1 0))) else (st (sup τ 41 ((v1).toNatClampNeg) 2 ((τ 41 ((v1).toNatClampNeg) 2) - 1)) fun τ2 => (some (0, τ2, 0)))) else (some (0, τ, 0)))
set_option maxHeartbeats 4000000 in
set_option maxRecDepth 100000 in
theorem w_L_act_569 {p : Program} {l : Launch} {e : Env} {s : State} {m : MethodId} {args : Array Value} {below : List Frame} {meth : Method} {c : Code} {G : Gx} {ad : Ad} {N : Nn} {X : Ex} {A : Nat → Prop} {res : Int32 × Sg} {n : Nat} (C : Cx p s m args meth c yL_act.cls cL_act 8 none G) : ∀ (τ : Sg) (H : Heap) (locs : List Loc) (ls : Array Slot) (cells d : Nat), q_S G ad N X τ [] A s.heap H locs → lv_has ls 8 [] → f_L_act_569 τ = some (res.1, res.2, d) → cells + d = n → W p l e { frames := 8, cells := n, slots := 6 * n, locals := 181 } s m args below meth c H locs cells (6 * cells) (MQ below (k_Q none (q_V G ad N res.2 A) A) args s n (6 * n) A) (F0 m 569 ls []) := by
  intro τ H locs ls cells d S hl hf hd
  unfold f_L_act_569 at hf
  exact q_vretF C S hf hd dL_act_569
set_option maxHeartbeats 4000000 in
set_option maxRecDepth 100000 in
theorem w_L_act_563 {p : Program} {l : Launch} {e : Env} {s : State} {m : MethodId} {args : Array Value} {below : List Frame} {meth : Method} {c : Code} {G : Gx} {ad : Ad} {N : Nn} {X : Ex} {A : Nat → Prop} {res : Int32 × Sg} {n : Nat} (C : Cx p s m args meth c yL_act.cls cL_act 8 none G) (k363 : Sg → Int32 → Nat → Int32 → Option (Int32 × Sg × Nat)) (hk363 : ∀ (τ : Sg) (v1 : Int32) (o2 : Nat) (v5 : Int32) (H : Heap) (locs : List Loc) (ls : Array Slot) (cells d : Nat), q_S G ad N X τ [] A s.heap H locs → lv_has ls 8 [(0, .ref (ad 40 0)), (1, .int v1), (2, .ref (ad 41 o2)), (5, .int v5)] → (o2 < N.1) → k363 τ v1 o2 v5 = some (res.1, res.2, d) → cells + d = n → W p l e { frames := 8, cells := n, slots := 6 * n, locals := 181 } s m args below meth c H locs cells (6 * cells) (MQ below (k_Q none (q_V G ad N res.2 A) A) args s n (6 * n) A) (F0 m 363 ls [])) : ∀ (τ : Sg) (v1 : Int32) (o2 : Nat) (v5 : Int32) (H : Heap) (locs : List Loc) (ls : Array Slot) (cells d : Nat), q_S G ad N X τ [] A s.heap H locs → lv_has ls 8 [(0, .ref (ad 40 0)), (1, .int v1), (2, .ref (ad 41 o2)), (5, .int v5)] → (o2 < N.1) → f_L_act_563 k363 τ v1 o2 v5 = some (res.1, res.2, d) → cells + d = n → W p l e { frames := 8, cells := n, slots := 6 * n, locals := 181 } s m args below meth c H locs cells (6 * cells) (MQ below (k_Q none (q_V G ad N res.2 A) A) args s n (6 * n) A) (F0 m 563 ls []) := by
  intro τ v1 o2 v5 H locs ls cells d S hl ho2 hf hd
  unfold f_L_act_563 at hf
  refine lv_iinc (v := (v5 + 1)) (lv' := [(5, .int (v5 + 1)), (0, .ref (ad 40 0)), (1, .int v1), (2, .ref (ad 41 o2))]) C.1 C.2.1 dL_act_563 hl (k := 3) rfl rfl (by decide) rfl (fun ls hl => ?_)
  refine lv_goto (tgt := 363) C.1 C.2.1 dL_act_566 (by decide) ?_
  exact hk363 _ v1 o2 (v5 + 1) _ _ _ _ _ S (lv_sub hl [1, 2, 3, 0] rfl) ho2 hf hd
set_option maxHeartbeats 4000000 in
set_option maxRecDepth 100000 in
theorem w_L_act_502 {p : Program} {l : Launch} {e : Env} {s : State} {m : MethodId} {args : Array Value} {below : List Frame} {meth : Method} {c : Code} {G : Gx} {ad : Ad} {N : Nn} {X : Ex} {A : Nat → Prop} {res : Int32 × Sg} {n : Nat} (C : Cx p s m args meth c yL_act.cls cL_act 8 none G) (k363 : Sg → Int32 → Nat → Int32 → Option (Int32 × Sg × Nat)) (hk363 : ∀ (τ : Sg) (v1 : Int32) (o2 : Nat) (v5 : Int32) (H : Heap) (locs : List Loc) (ls : Array Slot) (cells d : Nat), q_S G ad N X τ [] A s.heap H locs → lv_has ls 8 [(0, .ref (ad 40 0)), (1, .int v1), (2, .ref (ad 41 o2)), (5, .int v5)] → (o2 < N.1) → k363 τ v1 o2 v5 = some (res.1, res.2, d) → cells + d = n → W p l e { frames := 8, cells := n, slots := 6 * n, locals := 181 } s m args below meth c H locs cells (6 * cells) (MQ below (k_Q none (q_V G ad N res.2 A) A) args s n (6 * n) A) (F0 m 363 ls [])) : ∀ (τ : Sg) (v1 : Int32) (o2 : Nat) (v5 : Int32) (v101 : Int32) (H : Heap) (locs : List Loc) (ls : Array Slot) (cells d : Nat), q_S G ad N X τ [] A s.heap H locs → lv_has ls 8 [(0, .ref (ad 40 0)), (1, .int v1), (2, .ref (ad 41 o2)), (5, .int v5)] → (o2 < N.1) → f_L_act_502 k363 τ v1 o2 v5 v101 = some (res.1, res.2, d) → cells + d = n → W p l e { frames := 8, cells := n, slots := 6 * n, locals := 181 } s m args below meth c H locs cells (6 * cells) (MQ below (k_Q none (q_V G ad N res.2 A) A) args s n (6 * n) A) (F0 m 502 ls [.int v101, .ref (ad 48 0)]) := by
  intro τ v1 o2 v5 v101 H locs ls cells d S hl ho2 hf hd
  unfold f_L_act_502 at hf
  refine lv_dup2_11 C.1 C.2.1 dL_act_502 rfl rfl ?_
  obtain ⟨g_503, hf⟩ := gd hf
  refine q_iald C S 48 0 5 rfl rfl (fun _ => rfl) g_503 dL_act_503 ?_
  refine lv_iconst (v := 1) C.1 C.2.1 dL_act_504 (by decide) ?_
  refine lv_iadd C.1 C.2.1 dL_act_505 ?_
  obtain ⟨g_506, hf⟩ := gd hf
  obtain ⟨τ1, e_506, hf⟩ := stb hf
  refine q_iast C S 48 0 5 rfl rfl rfl (fun _ _ => rfl) g_506 dL_act_506 (fun H locs S => ?_)
  rw [← e_506] at S
  refine lv_goto (tgt := 563) C.1 C.2.1 dL_act_507 (by decide) ?_
  exact w_L_act_563 C k363 hk363 _ v1 o2 v5 _ _ _ _ _ S (lv_sub hl [0, 1, 2, 3] rfl) ho2 hf hd
set_option maxHeartbeats 4000000 in
set_option maxRecDepth 100000 in
theorem w_L_act_363 {p : Program} {l : Launch} {e : Env} {s : State} {m : MethodId} {args : Array Value} {below : List Frame} {meth : Method} {c : Code} {G : Gx} {ad : Ad} {N : Nn} {X : Ex} {A : Nat → Prop} {res : Int32 × Sg} {n : Nat} (C : Cx p s m args meth c yL_act.cls cL_act 8 none G) : ∀ n9 : Nat, ∀ (τ : Sg) (v1 : Int32) (o2 : Nat) (v5 : Int32) (H : Heap) (locs : List Loc) (ls : Array Slot) (cells d : Nat), q_S G ad N X τ [] A s.heap H locs → lv_has ls 8 [(0, .ref (ad 40 0)), (1, .int v1), (2, .ref (ad 41 o2)), (5, .int v5)] → (o2 < N.1) → f_L_act_363 n9 τ v1 o2 v5 = some (res.1, res.2, d) → cells + d = n → W p l e { frames := 8, cells := n, slots := 6 * n, locals := 181 } s m args below meth c H locs cells (6 * cells) (MQ below (k_Q none (q_V G ad N res.2 A) A) args s n (6 * n) A) (F0 m 363 ls []) := by
  intro n9
  induction n9 with
  | zero => intro τ v1 o2 v5 H locs ls cells d S hl ho2 hf hd; cases hf
  | succ n9 ih =>
    intro τ v1 o2 v5 H locs ls cells d S hl ho2 hf hd
    rw [f_L_act_363_s] at hf
    refine lv_iload C.1 C.2.1 dL_act_363 (lv_at hl 3 rfl) ?_
    refine lv_aload_n C.1 C.2.1 dL_act_365 rfl (lv_at hl 0 rfl) ?_
    refine q_getR C S 40 0 50 1 rfl rfl rfl cf_11 1 (by decide) (qr_40_1 G τ 0) tw_4_97 dL_act_366 ?_
    refine q_size C S 1 (Or.inl (by decide)) (by decide) tw_5_190 ⟨(Nat.le_of_ble_eq_true rfl), (Nat.le_of_ble_eq_true rfl)⟩ (Nat.le_of_ble_eq_true rfl) hl.1 ⟨(show _ ≤ n from by omega), (show _ ≤ 6 * n from by omega)⟩ dL_act_369 (fun H locs S => ?_)
    refine lv_icmp_ge (tgt := 569) C.1 C.2.1 dL_act_374 (by decide) (fun c_374 => ?_) (fun c_374 => ?_)
    · rw [if_pos c_374] at hf
      exact w_L_act_569 C _ _ _ _ _ _ S (lv_sub hl [] rfl) hf hd
    · rw [if_neg c_374] at hf
      refine lv_aload_n C.1 C.2.1 dL_act_377 rfl (lv_at hl 0 rfl) ?_
      refine q_getR C S 40 0 50 1 rfl rfl rfl cf_11 1 (by decide) (qr_40_1 G τ 0) tw_4_97 dL_act_378 ?_
      refine lv_iload C.1 C.2.1 dL_act_381 (lv_at hl 3 rfl) ?_
      obtain ⟨g_383, hf⟩ := gd hf
      have ob_383 := q_ltN S (Or.inl (by decide)) (q_glt g_383)
      refine q_get C S 1 (Or.inl (by decide)) (by decide) g_383 tw_5_199 ⟨(Nat.le_of_ble_eq_true rfl), (Nat.le_of_ble_eq_true rfl)⟩ (Nat.le_of_ble_eq_true rfl) hl.1 ⟨(show _ ≤ n from by omega), (show _ ≤ 6 * n from by omega)⟩ dL_act_383 (fun H locs S => ?_)
      refine q_cast C S 42 ((v5).toNatClampNeg) rfl ob_383 "BusLiftsLaw$Call" (fun _ => Or.inl ⟨_, _, _, _, rfl, rfl⟩) tw_4_19 dL_act_388 ?_
      refine lv_astore (lv' := [(6, .ref (ad 42 ((v5).toNatClampNeg))), (0, .ref (ad 40 0)), (1, .int v1), (2, .ref (ad 41 o2)), (5, .int v5)]) C.1 C.2.1 dL_act_391 hl (by decide) rfl (fun ls hl => ?_)
      refine lv_aload C.1 C.2.1 dL_act_393 (lv_at hl 0 rfl) ?_
      refine q_getRN C S 42 ((v5).toNatClampNeg) 45 ((v5).toNatClampNeg) rfl rfl ob_383 cf_8 11 (by decide) (qr_42_11 G τ ((v5).toNatClampNeg)) (List.mem_of_getElem? (i := 38) rfl) dL_act_395 ?_
      refine lv_iload_n C.1 C.2.1 dL_act_398 rfl (lv_at hl 2 rfl) ?_
      obtain ⟨g_399, hf⟩ := gd hf
      refine q_by C S ((v5).toNatClampNeg) ob_383 g_399 dL_act_399 ?_
      refine q_getIN C S 43 (4 * ((v5).toNatClampNeg) + (v1).toNatClampNeg) rfl (q_lt4 ob_383 g_399) cf_10 0 (by decide) (qi_43_0 G τ (4 * ((v5).toNatClampNeg) + (v1).toNatClampNeg)) (List.mem_of_getElem? (i := 22) rfl) dL_act_400 ?_
      refine lv_if_eq (tgt := 563) C.1 C.2.1 dL_act_403 (by decide) (fun c_403 => ?_) (fun c_403 => ?_)
      · rw [if_pos c_403] at hf
        exact w_L_act_563 C (f_L_act_363 n9) ih _ v1 o2 v5 _ _ _ _ _ S (lv_sub hl [1, 2, 3, 4] rfl) ho2 hf hd
      · rw [if_neg c_403] at hf
        refine lv_aload C.1 C.2.1 dL_act_406 (lv_at hl 0 rfl) ?_
        refine q_getIN C S 42 ((v5).toNatClampNeg) rfl ob_383 cf_8 0 (by decide) (qi_42_0 G τ ((v5).toNatClampNeg)) (List.mem_of_getElem? (i := 27) rfl) dL_act_408 ?_
        refine lv_aload_n C.1 C.2.1 dL_act_411 rfl (lv_at hl 3 rfl) ?_
        refine q_getIN C S 41 o2 rfl ho2 cf_9 0 (by decide) (qi_41_0 G τ o2) (List.mem_of_getElem? (i := 11) rfl) dL_act_412 ?_
        refine lv_icmp_eq (tgt := 421) C.1 C.2.1 dL_act_415 (by decide) (fun c_415 => ?_) (fun c_415 => ?_)
        · rw [if_pos c_415] at hf
          refine lv_aload C.1 C.2.1 dL_act_421 (lv_at hl 0 rfl) ?_
          refine q_getIN C S 42 ((v5).toNatClampNeg) rfl ob_383 cf_8 3 (by decide) (qi_42_3 G τ ((v5).toNatClampNeg)) (List.mem_of_getElem? (i := 30) rfl) dL_act_423 ?_
          refine lv_iconst (v := 1) C.1 C.2.1 dL_act_426 (by decide) ?_
          refine lv_icmp_eq (tgt := 510) C.1 C.2.1 dL_act_427 (by decide) (fun c_427 => ?_) (fun c_427 => ?_)
          · rw [if_pos c_427] at hf
            refine lv_aload_n C.1 C.2.1 dL_act_510 rfl (lv_at hl 1 rfl) ?_
            refine lv_iload_n C.1 C.2.1 dL_act_511 rfl (lv_at hl 2 rfl) ?_
            obtain ⟨r1, τ2, c_512, d_512, q_512, hf, e_512⟩ := bqb hf
            refine q_callV (τ' := τ2) (v := (some (.int r1))) C S [.int v1] rfl (fun ad' he => by have h := m_L_aboard l G ad' N τ v1 (r1, τ2) c_512 q_512 H.size; rw [he 40 0 rfl] at h; exact h) kv_L_aboard tw_6_79 ⟨(Nat.le_of_ble_eq_true rfl), (Nat.le_of_ble_eq_true rfl)⟩ rfl rfl (Nat.le_of_ble_eq_true rfl) hl.1 ⟨(show _ ≤ n from by omega), (show _ ≤ 6 * n from by omega)⟩ dL_act_512 (fun H locs S => ?_)
            replace hd := q_hd2 hd e_512
            refine lv_aload_n C.1 C.2.1 dL_act_515 rfl (lv_at hl 3 rfl) ?_
            refine q_getIN C S 41 o2 rfl ho2 cf_9 1 (by decide) (qi_41_1 G τ2 o2) (List.mem_of_getElem? (i := 12) rfl) dL_act_516 ?_
            refine lv_icmp_ge (tgt := 563) C.1 C.2.1 dL_act_519 (by decide) (fun c_519 => ?_) (fun c_519 => ?_)
            · rw [if_pos c_519] at hf
              exact w_L_act_563 C (f_L_act_363 n9) ih _ v1 o2 v5 _ _ _ _ _ S (lv_sub hl [1, 2, 3, 4] rfl) ho2 hf hd
            · rw [if_neg c_519] at hf
              refine lv_aload C.1 C.2.1 dL_act_522 (lv_at hl 0 rfl) ?_
              refine q_getRN C S 42 ((v5).toNatClampNeg) 45 ((v5).toNatClampNeg) rfl rfl ob_383 cf_8 11 (by decide) (qr_42_11 G τ2 ((v5).toNatClampNeg)) (List.mem_of_getElem? (i := 38) rfl) dL_act_524 ?_
              refine lv_iload_n C.1 C.2.1 dL_act_527 rfl (lv_at hl 2 rfl) ?_
              obtain ⟨g_528, hf⟩ := gd hf
              refine q_by C S ((v5).toNatClampNeg) ob_383 g_528 dL_act_528 ?_
              refine lv_iconst (v := 0) C.1 C.2.1 dL_act_529 (by decide) ?_
              obtain ⟨τ3, e_530, hf⟩ := stb hf
              refine q_putIN C S 43 (4 * ((v5).toNatClampNeg) + (v1).toNatClampNeg) 0 rfl rfl (q_lt4 ob_383 g_399) cf_10 0 (by decide) (qp_43_0 G τ2 (4 * ((v5).toNatClampNeg) + (v1).toNatClampNeg) _) rfl rfl rfl (List.mem_of_getElem? (i := 22) rfl) dL_act_530 (fun H locs S => ?_)
              rw [← e_530] at S
              refine lv_aload C.1 C.2.1 dL_act_533 (lv_at hl 0 rfl) ?_
              refine lv_iconst (v := 2) C.1 C.2.1 dL_act_535 (by decide) ?_
              obtain ⟨τ4, e_536, hf⟩ := stb hf
              refine q_putIN C S 42 ((v5).toNatClampNeg) 3 rfl rfl ob_383 cf_8 3 (by decide) (qp_42_3 G τ3 ((v5).toNatClampNeg) _) rfl rfl rfl (List.mem_of_getElem? (i := 30) rfl) dL_act_536 (fun H locs S => ?_)
              rw [← e_536] at S
              refine lv_aload C.1 C.2.1 dL_act_539 (lv_at hl 0 rfl) ?_
              refine lv_iload_n C.1 C.2.1 dL_act_541 rfl (lv_at hl 2 rfl) ?_
              obtain ⟨τ5, e_542, hf⟩ := stb hf
              refine q_putIN C S 42 ((v5).toNatClampNeg) 4 rfl rfl ob_383 cf_8 4 (by decide) (qp_42_4 G τ4 ((v5).toNatClampNeg) _) rfl rfl rfl (List.mem_of_getElem? (i := 31) rfl) dL_act_542 (fun H locs S => ?_)
              rw [← e_542] at S
              refine lv_aload C.1 C.2.1 dL_act_545 (lv_at hl 0 rfl) ?_
              refine lv_aload_n C.1 C.2.1 dL_act_547 rfl (lv_at hl 1 rfl) ?_
              refine q_getI C S 40 0 rfl rfl cf_11 7 (by decide) (qi_40_7 G τ5 0) tw_4_103 dL_act_548 ?_
              obtain ⟨τ6, e_551, hf⟩ := stb hf
              refine q_putIN C S 42 ((v5).toNatClampNeg) 5 rfl rfl ob_383 cf_8 5 (by decide) (qp_42_5 G τ5 ((v5).toNatClampNeg) _) rfl rfl rfl (List.mem_of_getElem? (i := 32) rfl) dL_act_551 (fun H locs S => ?_)
              rw [← e_551] at S
              refine lv_aload_n C.1 C.2.1 dL_act_554 rfl (lv_at hl 1 rfl) ?_
              refine lv_iconst (v := 3) C.1 C.2.1 dL_act_555 (by decide) ?_
              refine lv_iload C.1 C.2.1 dL_act_556 (lv_at hl 4 rfl) ?_
              refine lv_iload_n C.1 C.2.1 dL_act_558 rfl (lv_at hl 2 rfl) ?_
              refine lv_iconst (v := 0) C.1 C.2.1 dL_act_559 (by decide) ?_
              obtain ⟨r7, τ8, c_560, d_560, q_560, hf, e_560⟩ := bqb hf
              refine q_callV (τ' := τ8) (v := none) C S [.int 3, .int v5, .int v1, .int 0] rfl (fun ad' he => by have h := m_L_send l G ad' N τ6 3 v5 v1 0 (r7, τ8) c_560 q_560 H.size; rw [he 40 0 rfl] at h; exact h) kv_L_send tw_7_38 ⟨(Nat.le_of_ble_eq_true rfl), (Nat.le_of_ble_eq_true rfl)⟩ rfl rfl (Nat.le_of_ble_eq_true rfl) hl.1 ⟨(show _ ≤ n from by omega), (show _ ≤ 6 * n from by omega)⟩ dL_act_560 (fun H locs S => ?_)
              replace hd := q_hd2 hd e_560
              exact w_L_act_563 C (f_L_act_363 n9) ih _ v1 o2 v5 _ _ _ _ _ S (lv_sub hl [1, 2, 3, 4] rfl) ho2 hf hd
          · rw [if_neg c_427] at hf
            refine lv_aload C.1 C.2.1 dL_act_430 (lv_at hl 0 rfl) ?_
            refine q_getRN C S 42 ((v5).toNatClampNeg) 45 ((v5).toNatClampNeg) rfl rfl ob_383 cf_8 11 (by decide) (qr_42_11 G τ ((v5).toNatClampNeg)) (List.mem_of_getElem? (i := 38) rfl) dL_act_432 ?_
            refine lv_iload_n C.1 C.2.1 dL_act_435 rfl (lv_at hl 2 rfl) ?_
            obtain ⟨g_436, hf⟩ := gd hf
            refine q_by C S ((v5).toNatClampNeg) ob_383 g_436 dL_act_436 ?_
            refine lv_iconst (v := 0) C.1 C.2.1 dL_act_437 (by decide) ?_
            obtain ⟨τ9, e_438, hf⟩ := stb hf
            refine q_putIN C S 43 (4 * ((v5).toNatClampNeg) + (v1).toNatClampNeg) 0 rfl rfl (q_lt4 ob_383 g_399) cf_10 0 (by decide) (qp_43_0 G τ (4 * ((v5).toNatClampNeg) + (v1).toNatClampNeg) _) rfl rfl rfl (List.mem_of_getElem? (i := 22) rfl) dL_act_438 (fun H locs S => ?_)
            rw [← e_438] at S
            refine lv_aload_n C.1 C.2.1 dL_act_441 rfl (lv_at hl 3 rfl) ?_
            refine lv_dup C.1 C.2.1 dL_act_442 rfl ?_
            refine q_getIN C S 41 o2 rfl ho2 cf_9 5 (by decide) (qi_41_5 G τ9 o2) (List.mem_of_getElem? (i := 16) rfl) dL_act_443 ?_
            refine lv_iconst (v := 1) C.1 C.2.1 dL_act_446 (by decide) ?_
            refine lv_iadd C.1 C.2.1 dL_act_447 ?_
            obtain ⟨τ10, e_448, hf⟩ := stb hf
            refine q_putIN C S 41 o2 7 rfl rfl ho2 cf_9 5 (by decide) (qp_41_5 G τ9 o2 _) rfl rfl rfl (List.mem_of_getElem? (i := 16) rfl) dL_act_448 (fun H locs S => ?_)
            rw [← e_448] at S
            refine lv_aload C.1 C.2.1 dL_act_451 (lv_at hl 0 rfl) ?_
            refine q_getRN C S 42 ((v5).toNatClampNeg) 45 ((v5).toNatClampNeg) rfl rfl ob_383 cf_8 11 (by decide) (qr_42_11 G τ10 ((v5).toNatClampNeg)) (List.mem_of_getElem? (i := 38) rfl) dL_act_453 ?_
            refine lv_iload_n C.1 C.2.1 dL_act_456 rfl (lv_at hl 2 rfl) ?_
            obtain ⟨g_457, hf⟩ := gd hf
            refine q_by C S ((v5).toNatClampNeg) ob_383 g_457 dL_act_457 ?_
            refine q_getIN C S 43 (4 * ((v5).toNatClampNeg) + (v1).toNatClampNeg) rfl (q_lt4 ob_383 g_399) cf_10 3 (by decide) (qi_43_3 G τ10 (4 * ((v5).toNatClampNeg) + (v1).toNatClampNeg)) (List.mem_of_getElem? (i := 25) rfl) dL_act_458 ?_
            refine lv_istore (lv' := [(7, .int (τ10 43 (4 * ((v5).toNatClampNeg) + (v1).toNatClampNeg) 3)), (6, .ref (ad 42 ((v5).toNatClampNeg))), (0, .ref (ad 40 0)), (1, .int v1), (2, .ref (ad 41 o2)), (5, .int v5)]) C.1 C.2.1 dL_act_461 hl (by decide) rfl (fun ls hl => ?_)
            refine lv_aload_n C.1 C.2.1 dL_act_463 rfl (lv_at hl 2 rfl) ?_
            refine q_getR C S 40 0 48 0 rfl rfl rfl cf_11 6 (by decide) (qr_40_6 G τ10 0) tw_4_102 dL_act_464 ?_
            refine lv_iload C.1 C.2.1 dL_act_467 (lv_at hl 0 rfl) ?_
            refine lv_bipush (v := 8) C.1 C.2.1 dL_act_469 (by decide) ?_
            refine lv_iand C.1 C.2.1 dL_act_471 ?_
            refine lv_if_eq (tgt := 479) C.1 C.2.1 dL_act_472 (by decide) (fun c_472 => ?_) (fun c_472 => ?_)
            · rw [if_pos c_472] at hf
              refine lv_iload C.1 C.2.1 dL_act_479 (lv_at hl 0 rfl) ?_
              refine lv_iconst (v := 4) C.1 C.2.1 dL_act_481 (by decide) ?_
              refine lv_iand C.1 C.2.1 dL_act_482 ?_
              refine lv_if_eq (tgt := 490) C.1 C.2.1 dL_act_483 (by decide) (fun c_483 => ?_) (fun c_483 => ?_)
              · rw [if_pos c_483] at hf
                refine lv_iload C.1 C.2.1 dL_act_490 (lv_at hl 0 rfl) ?_
                refine lv_iconst (v := 2) C.1 C.2.1 dL_act_492 (by decide) ?_
                refine lv_iand C.1 C.2.1 dL_act_493 ?_
                refine lv_if_eq (tgt := 501) C.1 C.2.1 dL_act_494 (by decide) (fun c_494 => ?_) (fun c_494 => ?_)
                · rw [if_pos c_494] at hf
                  refine lv_iconst (v := 4) C.1 C.2.1 dL_act_501 (by decide) ?_
                  exact w_L_act_502 C (f_L_act_363 n9) ih _ v1 o2 v5 4 _ _ _ _ _ S (lv_sub hl [2, 3, 4, 5] rfl) ho2 hf hd
                · rw [if_neg c_494] at hf
                  refine lv_iconst (v := 3) C.1 C.2.1 dL_act_497 (by decide) ?_
                  refine lv_goto (tgt := 502) C.1 C.2.1 dL_act_498 (by decide) ?_
                  exact w_L_act_502 C (f_L_act_363 n9) ih _ v1 o2 v5 3 _ _ _ _ _ S (lv_sub hl [2, 3, 4, 5] rfl) ho2 hf hd
              · rw [if_neg c_483] at hf
                refine lv_iconst (v := 2) C.1 C.2.1 dL_act_486 (by decide) ?_
                refine lv_goto (tgt := 502) C.1 C.2.1 dL_act_487 (by decide) ?_
                exact w_L_act_502 C (f_L_act_363 n9) ih _ v1 o2 v5 2 _ _ _ _ _ S (lv_sub hl [2, 3, 4, 5] rfl) ho2 hf hd
            · rw [if_neg c_472] at hf
              refine lv_iconst (v := 1) C.1 C.2.1 dL_act_475 (by decide) ?_
              refine lv_goto (tgt := 502) C.1 C.2.1 dL_act_476 (by decide) ?_
              exact w_L_act_502 C (f_L_act_363 n9) ih _ v1 o2 v5 1 _ _ _ _ _ S (lv_sub hl [2, 3, 4, 5] rfl) ho2 hf hd
        · rw [if_neg c_415] at hf
          refine lv_goto (tgt := 563) C.1 C.2.1 dL_act_418 (by decide) ?_
          exact w_L_act_563 C (f_L_act_363 n9) ih _ v1 o2 v5 _ _ _ _ _ S (lv_sub hl [1, 2, 3, 4] rfl) ho2 hf hd
set_option maxHeartbeats 4000000 in
set_option maxRecDepth 100000 in
theorem w_L_act_360 {p : Program} {l : Launch} {e : Env} {s : State} {m : MethodId} {args : Array Value} {below : List Frame} {meth : Method} {c : Code} {G : Gx} {ad : Ad} {N : Nn} {X : Ex} {A : Nat → Prop} {res : Int32 × Sg} {n : Nat} (C : Cx p s m args meth c yL_act.cls cL_act 8 none G) : ∀ (τ : Sg) (v1 : Int32) (o2 : Nat) (H : Heap) (locs : List Loc) (ls : Array Slot) (cells d : Nat), q_S G ad N X τ [] A s.heap H locs → lv_has ls 8 [(0, .ref (ad 40 0)), (1, .int v1), (2, .ref (ad 41 o2))] → (o2 < N.1) → f_L_act_360 τ v1 o2 = some (res.1, res.2, d) → cells + d = n → W p l e { frames := 8, cells := n, slots := 6 * n, locals := 181 } s m args below meth c H locs cells (6 * cells) (MQ below (k_Q none (q_V G ad N res.2 A) A) args s n (6 * n) A) (F0 m 360 ls []) := by
  intro τ v1 o2 H locs ls cells d S hl ho2 hf hd
  unfold f_L_act_360 at hf
  refine lv_iconst (v := 0) C.1 C.2.1 dL_act_360 (by decide) ?_
  refine lv_istore (lv' := [(5, .int 0), (0, .ref (ad 40 0)), (1, .int v1), (2, .ref (ad 41 o2))]) C.1 C.2.1 dL_act_361 hl (by decide) rfl (fun ls hl => ?_)
  exact w_L_act_363 C FU _ v1 o2 0 _ _ _ _ _ S (lv_sub hl [1, 2, 3, 0] rfl) ho2 hf hd
set_option maxHeartbeats 4000000 in
set_option maxRecDepth 100000 in
theorem w_L_act_287 {p : Program} {l : Launch} {e : Env} {s : State} {m : MethodId} {args : Array Value} {below : List Frame} {meth : Method} {c : Code} {G : Gx} {ad : Ad} {N : Nn} {X : Ex} {A : Nat → Prop} {res : Int32 × Sg} {n : Nat} (C : Cx p s m args meth c yL_act.cls cL_act 8 none G) : ∀ n9 : Nat, ∀ (τ : Sg) (v1 : Int32) (o2 : Nat) (k5 : Nat) (m5 : Int32) (a5 : Nat) (H : Heap) (locs : List Loc) (ls : Array Slot) (cells d : Nat), q_S G ad N X τ [(a5, 1, k5, m5)] A s.heap H locs → lv_has ls 8 [(0, .ref (ad 40 0)), (1, .int v1), (2, .ref (ad 41 o2)), (5, .ref a5)] → (o2 < N.1) → f_L_act_287 n9 τ v1 o2 k5 m5 = some (res.1, res.2, d) → cells + d = n → W p l e { frames := 8, cells := n, slots := 6 * n, locals := 181 } s m args below meth c H locs cells (6 * cells) (MQ below (k_Q none (q_V G ad N res.2 A) A) args s n (6 * n) A) (F0 m 287 ls []) := by
  intro n9
  induction n9 with
  | zero => intro τ v1 o2 k5 m5 a5 H locs ls cells d S hl ho2 hf hd; cases hf
  | succ n9 ih =>
    intro τ v1 o2 k5 m5 a5 H locs ls cells d S hl ho2 hf hd
    rw [f_L_act_287_s] at hf
    refine lv_aload C.1 C.2.1 dL_act_287 (lv_at hl 3 rfl) ?_
    refine q_hasN C S (List.mem_singleton.mpr rfl) (Or.inl (by decide)) (by decide) tw_5_148 ⟨(Nat.le_of_ble_eq_true rfl), (Nat.le_of_ble_eq_true rfl)⟩ (Nat.le_of_ble_eq_true rfl) hl.1 ⟨(show _ ≤ n from by omega), (show _ ≤ 6 * n from by omega)⟩ dL_act_289 (fun H locs S => ?_)
    refine lv_if_eq (tgt := 360) C.1 C.2.1 dL_act_294 (by decide) (fun c_294 => ?_) (fun c_294 => ?_)
    · rw [if_pos c_294] at hf
      exact w_L_act_360 C _ v1 o2 _ _ _ _ _ (S.drop (fun x hx => absurd hx List.not_mem_nil)) (lv_sub hl [0, 1, 2] rfl) ho2 hf hd
    · rw [if_neg c_294] at hf
      refine lv_aload C.1 C.2.1 dL_act_297 (lv_at hl 3 rfl) ?_
      obtain ⟨g_299, hf⟩ := gd hf
      replace g_299 := Decidable.not_not.mp g_299
      have ob_299 := q_ltN S (Or.inl (by decide)) g_299.1
      refine q_next C S (Or.inl (by decide)) (by decide) g_299.1 g_299.2 tw_5_158 ⟨(Nat.le_of_ble_eq_true rfl), (Nat.le_of_ble_eq_true rfl)⟩ (Nat.le_of_ble_eq_true rfl) hl.1 ⟨(show _ ≤ n from by omega), (show _ ≤ 6 * n from by omega)⟩ dL_act_299 (fun H locs S => ?_)
      refine q_cast C S 42 k5 rfl ob_299 "BusLiftsLaw$Call" (fun _ => Or.inl ⟨_, _, _, _, rfl, rfl⟩) tw_4_19 dL_act_304 ?_
      refine lv_astore (lv' := [(6, .ref (ad 42 k5)), (0, .ref (ad 40 0)), (1, .int v1), (2, .ref (ad 41 o2)), (5, .ref a5)]) C.1 C.2.1 dL_act_307 hl (by decide) rfl (fun ls hl => ?_)
      refine lv_aload C.1 C.2.1 dL_act_309 (lv_at hl 0 rfl) ?_
      refine q_getIN C S 42 k5 rfl ob_299 cf_8 3 (by decide) (qi_42_3 G τ k5) (List.mem_of_getElem? (i := 30) rfl) dL_act_311 ?_
      refine lv_iconst (v := 2) C.1 C.2.1 dL_act_314 (by decide) ?_
      refine lv_icmp_ne (tgt := 287) C.1 C.2.1 dL_act_315 (by decide) (fun c_315 => ?_) (fun c_315 => ?_)
      · rw [if_neg c_315] at hf
        exact ih _ v1 o2 (k5 + 1) m5 a5 _ _ _ _ _ S (lv_sub hl [1, 2, 3, 4] rfl) ho2 hf hd
      · rw [if_pos c_315] at hf
        refine lv_aload C.1 C.2.1 dL_act_318 (lv_at hl 0 rfl) ?_
        refine q_getIN C S 42 k5 rfl ob_299 cf_8 4 (by decide) (qi_42_4 G τ k5) (List.mem_of_getElem? (i := 31) rfl) dL_act_320 ?_
        refine lv_iload_n C.1 C.2.1 dL_act_323 rfl (lv_at hl 2 rfl) ?_
        refine lv_icmp_ne (tgt := 287) C.1 C.2.1 dL_act_324 (by decide) (fun c_324 => ?_) (fun c_324 => ?_)
        · rw [if_neg c_324] at hf
          exact ih _ v1 o2 (k5 + 1) m5 a5 _ _ _ _ _ S (lv_sub hl [1, 2, 3, 4] rfl) ho2 hf hd
        · rw [if_pos c_324] at hf
          refine lv_aload C.1 C.2.1 dL_act_327 (lv_at hl 0 rfl) ?_
          refine q_getIN C S 42 k5 rfl ob_299 cf_8 1 (by decide) (qi_42_1 G τ k5) (List.mem_of_getElem? (i := 28) rfl) dL_act_329 ?_
          refine lv_aload_n C.1 C.2.1 dL_act_332 rfl (lv_at hl 3 rfl) ?_
          refine q_getIN C S 41 o2 rfl ho2 cf_9 0 (by decide) (qi_41_0 G τ o2) (List.mem_of_getElem? (i := 11) rfl) dL_act_333 ?_
          refine lv_icmp_eq (tgt := 342) C.1 C.2.1 dL_act_336 (by decide) (fun c_336 => ?_) (fun c_336 => ?_)
          · rw [if_pos c_336] at hf
            refine lv_aload C.1 C.2.1 dL_act_342 (lv_at hl 0 rfl) ?_
            refine lv_iconst (v := 3) C.1 C.2.1 dL_act_344 (by decide) ?_
            obtain ⟨τ1, e_345, hf⟩ := stb hf
            refine q_putIN C S 42 k5 3 rfl rfl ob_299 cf_8 3 (by decide) (qp_42_3 G τ k5 _) rfl rfl rfl (List.mem_of_getElem? (i := 30) rfl) dL_act_345 (fun H locs S => ?_)
            rw [← e_345] at S
            refine lv_aload C.1 C.2.1 dL_act_348 (lv_at hl 0 rfl) ?_
            refine lv_aload_n C.1 C.2.1 dL_act_350 rfl (lv_at hl 1 rfl) ?_
            refine q_getI C S 40 0 rfl rfl cf_11 7 (by decide) (qi_40_7 G τ1 0) tw_4_103 dL_act_351 ?_
            obtain ⟨τ2, e_354, hf⟩ := stb hf
            refine q_putIN C S 42 k5 6 rfl rfl ob_299 cf_8 6 (by decide) (qp_42_6 G τ1 k5 _) rfl rfl rfl (List.mem_of_getElem? (i := 33) rfl) dL_act_354 (fun H locs S => ?_)
            rw [← e_354] at S
            refine lv_goto (tgt := 287) C.1 C.2.1 dL_act_357 (by decide) ?_
            exact ih _ v1 o2 (k5 + 1) m5 a5 _ _ _ _ _ S (lv_sub hl [1, 2, 3, 4] rfl) ho2 hf hd
          · rw [if_neg c_336] at hf
            refine lv_goto (tgt := 287) C.1 C.2.1 dL_act_339 (by decide) ?_
            exact ih _ v1 o2 (k5 + 1) m5 a5 _ _ _ _ _ S (lv_sub hl [1, 2, 3, 4] rfl) ho2 hf hd
set_option maxHeartbeats 4000000 in
set_option maxRecDepth 100000 in
theorem w_L_act_210 {p : Program} {l : Launch} {e : Env} {s : State} {m : MethodId} {args : Array Value} {below : List Frame} {meth : Method} {c : Code} {G : Gx} {ad : Ad} {N : Nn} {X : Ex} {A : Nat → Prop} {res : Int32 × Sg} {n : Nat} (C : Cx p s m args meth c yL_act.cls cL_act 8 none G) : ∀ (τ : Sg) (v1 : Int32) (o2 : Nat) (v4 : Int32) (H : Heap) (locs : List Loc) (ls : Array Slot) (cells d : Nat), q_S G ad N X τ [] A s.heap H locs → lv_has ls 8 [(0, .ref (ad 40 0)), (1, .int v1), (2, .ref (ad 41 o2)), (4, .int v4)] → (o2 < N.1) → f_L_act_210 τ v1 o2 v4 = some (res.1, res.2, d) → cells + d = n → W p l e { frames := 8, cells := n, slots := 6 * n, locals := 181 } s m args below meth c H locs cells (6 * cells) (MQ below (k_Q none (q_V G ad N res.2 A) A) args s n (6 * n) A) (F0 m 210 ls []) := by
  intro τ v1 o2 v4 H locs ls cells d S hl ho2 hf hd
  unfold f_L_act_210 at hf
  refine lv_iload C.1 C.2.1 dL_act_210 (lv_at hl 3 rfl) ?_
  refine lv_if_ne (tgt := 258) C.1 C.2.1 dL_act_212 (by decide) (fun c_212 => ?_) (fun c_212 => ?_)
  · rw [if_neg c_212] at hf
    refine lv_aload_n C.1 C.2.1 dL_act_258 rfl (lv_at hl 2 rfl) ?_
    refine lv_dup C.1 C.2.1 dL_act_259 rfl ?_
    refine q_getIN C S 41 o2 rfl ho2 cf_9 4 (by decide) (qi_41_4 G τ o2) (List.mem_of_getElem? (i := 15) rfl) dL_act_260 ?_
    refine lv_iconst (v := 1) C.1 C.2.1 dL_act_263 (by decide) ?_
    refine lv_iadd C.1 C.2.1 dL_act_264 ?_
    obtain ⟨τ1, e_265, hf⟩ := stb hf
    refine q_putIN C S 41 o2 6 rfl rfl ho2 cf_9 4 (by decide) (qp_41_4 G τ o2 _) rfl rfl rfl (List.mem_of_getElem? (i := 15) rfl) dL_act_265 (fun H locs S => ?_)
    rw [← e_265] at S
    refine lv_aload_n C.1 C.2.1 dL_act_268 rfl (lv_at hl 2 rfl) ?_
    refine lv_aload_n C.1 C.2.1 dL_act_269 rfl (lv_at hl 0 rfl) ?_
    refine q_getI C S 40 0 rfl rfl cf_11 11 (by decide) (qi_40_11 G τ1 0) tw_4_107 dL_act_270 ?_
    obtain ⟨τ2, e_273, hf⟩ := stb hf
    refine q_putIN C S 41 o2 2 rfl rfl ho2 cf_9 2 (by decide) (qp_41_2 G τ1 o2 _) rfl rfl rfl (List.mem_of_getElem? (i := 13) rfl) dL_act_273 (fun H locs S => ?_)
    rw [← e_273] at S
    refine lv_aload_n C.1 C.2.1 dL_act_276 rfl (lv_at hl 0 rfl) ?_
    refine q_getR C S 40 0 50 1 rfl rfl rfl cf_11 1 (by decide) (qr_40_1 G τ2 0) tw_4_97 dL_act_277 ?_
    obtain ⟨d_280, hf, e_280⟩ := acb hf
    refine q_iter C S 1 (Or.inl (by decide)) (by decide) tw_5_120 ⟨(Nat.le_of_ble_eq_true rfl), (Nat.le_of_ble_eq_true rfl)⟩ (Nat.le_of_ble_eq_true rfl) hl.1 ⟨(show _ ≤ n from by omega), (show _ ≤ 6 * n from by omega)⟩ dL_act_280 (fun it3 H locs S => ?_)
    refine q_wid ?_
    replace hd := q_hd1 hd e_280
    refine lv_astore (lv' := [(5, .ref it3), (0, .ref (ad 40 0)), (1, .int v1), (2, .ref (ad 41 o2)), (4, .int v4)]) C.1 C.2.1 dL_act_285 hl (by decide) rfl (fun ls hl => ?_)
    exact w_L_act_287 C FU _ v1 o2 0 (τ2 50 1 0) it3 _ _ _ _ _ S (lv_sub hl [1, 2, 3, 0] rfl) ho2 hf hd
  · rw [if_pos c_212] at hf
    refine lv_aload_n C.1 C.2.1 dL_act_215 rfl (lv_at hl 0 rfl) ?_
    refine lv_iload_n C.1 C.2.1 dL_act_216 rfl (lv_at hl 1 rfl) ?_
    obtain ⟨r4, τ5, c_217, d_217, q_217, hf, e_217⟩ := bqb hf
    refine q_callV (τ' := τ5) (v := (some (.int r4))) C S [.int v1] rfl (fun ad' he => by have h := m_L_goal l G ad' N τ v1 (r4, τ5) c_217 q_217 H.size; rw [he 40 0 rfl] at h; exact h) kv_L_goal tw_6_110 ⟨(Nat.le_of_ble_eq_true rfl), (Nat.le_of_ble_eq_true rfl)⟩ rfl rfl (Nat.le_of_ble_eq_true rfl) hl.1 ⟨(show _ ≤ n from by omega), (show _ ≤ 6 * n from by omega)⟩ dL_act_217 (fun H locs S => ?_)
    replace hd := q_hd2 hd e_217
    refine lv_istore (lv' := [(5, .int r4), (0, .ref (ad 40 0)), (1, .int v1), (2, .ref (ad 41 o2)), (4, .int v4)]) C.1 C.2.1 dL_act_220 hl (by decide) rfl (fun ls hl => ?_)
    refine lv_iload C.1 C.2.1 dL_act_222 (lv_at hl 0 rfl) ?_
    refine lv_if_ge (tgt := 228) C.1 C.2.1 dL_act_224 (by decide) (fun c_224 => ?_) (fun c_224 => ?_)
    · rw [if_pos c_224] at hf
      refine lv_aload_n C.1 C.2.1 dL_act_228 rfl (lv_at hl 3 rfl) ?_
      refine lv_dup C.1 C.2.1 dL_act_229 rfl ?_
      refine q_getIN C S 41 o2 rfl ho2 cf_9 0 (by decide) (qi_41_0 G τ5 o2) (List.mem_of_getElem? (i := 11) rfl) dL_act_230 ?_
      refine lv_iload C.1 C.2.1 dL_act_233 (lv_at hl 0 rfl) ?_
      refine lv_aload_n C.1 C.2.1 dL_act_235 rfl (lv_at hl 3 rfl) ?_
      refine q_getIN C S 41 o2 rfl ho2 cf_9 0 (by decide) (qi_41_0 G τ5 o2) (List.mem_of_getElem? (i := 11) rfl) dL_act_236 ?_
      refine lv_isub C.1 C.2.1 dL_act_239 ?_
      refine q_callK C S [.int (r4 - (τ5 41 o2 0))] (k_signum l G (r4 - (τ5 41 o2 0)) _) kv_J6_signum_0f7a4 tw_7_60 ⟨(Nat.le_of_ble_eq_true rfl), (Nat.le_of_ble_eq_true rfl)⟩ rfl rfl (Nat.le_of_ble_eq_true rfl) hl.1 ⟨(show _ ≤ n from by omega), (show _ ≤ 6 * n from by omega)⟩ dL_act_240 (fun H locs S => ?_)
      refine lv_iadd C.1 C.2.1 dL_act_243 ?_
      obtain ⟨τ6, e_244, hf⟩ := stb hf
      refine q_putIN C S 41 o2 0 rfl rfl ho2 cf_9 0 (by decide) (qp_41_0 G τ5 o2 _) rfl rfl rfl (List.mem_of_getElem? (i := 11) rfl) dL_act_244 (fun H locs S => ?_)
      rw [← e_244] at S
      refine lv_aload_n C.1 C.2.1 dL_act_247 rfl (lv_at hl 3 rfl) ?_
      refine lv_dup C.1 C.2.1 dL_act_248 rfl ?_
      refine q_getIN C S 41 o2 rfl ho2 cf_9 3 (by decide) (qi_41_3 G τ6 o2) (List.mem_of_getElem? (i := 14) rfl) dL_act_249 ?_
      refine lv_iconst (v := 1) C.1 C.2.1 dL_act_252 (by decide) ?_
      refine lv_iadd C.1 C.2.1 dL_act_253 ?_
      obtain ⟨τ7, e_254, hf⟩ := stb hf
      refine q_putIN C S 41 o2 5 rfl rfl ho2 cf_9 3 (by decide) (qp_41_3 G τ6 o2 _) rfl rfl rfl (List.mem_of_getElem? (i := 14) rfl) dL_act_254 (fun H locs S => ?_)
      rw [← e_254] at S
      exact q_vretF C S hf hd dL_act_257
    · rw [if_neg c_224] at hf
      exact q_vretF C S hf hd dL_act_227
set_option maxHeartbeats 4000000 in
set_option maxRecDepth 100000 in
theorem w_L_act_207 {p : Program} {l : Launch} {e : Env} {s : State} {m : MethodId} {args : Array Value} {below : List Frame} {meth : Method} {c : Code} {G : Gx} {ad : Ad} {N : Nn} {X : Ex} {A : Nat → Prop} {res : Int32 × Sg} {n : Nat} (C : Cx p s m args meth c yL_act.cls cL_act 8 none G) (k132 : Sg → Int32 → Nat → Int32 → Int32 → Nat → Int32 → Option (Int32 × Sg × Nat)) (hk132 : ∀ (τ : Sg) (v1 : Int32) (o2 : Nat) (v3 : Int32) (v4 : Int32) (k5 : Nat) (m5 : Int32) (a5 : Nat) (H : Heap) (locs : List Loc) (ls : Array Slot) (cells d : Nat), q_S G ad N X τ [(a5, 1, k5, m5)] A s.heap H locs → lv_has ls 8 [(0, .ref (ad 40 0)), (1, .int v1), (2, .ref (ad 41 o2)), (3, .int v3), (4, .int v4), (5, .ref a5)] → (o2 < N.1) → k132 τ v1 o2 v3 v4 k5 m5 = some (res.1, res.2, d) → cells + d = n → W p l e { frames := 8, cells := n, slots := 6 * n, locals := 181 } s m args below meth c H locs cells (6 * cells) (MQ below (k_Q none (q_V G ad N res.2 A) A) args s n (6 * n) A) (F0 m 132 ls [])) : ∀ (τ : Sg) (v1 : Int32) (o2 : Nat) (v3 : Int32) (v4 : Int32) (k5 : Nat) (m5 : Int32) (a5 : Nat) (H : Heap) (locs : List Loc) (ls : Array Slot) (cells d : Nat), q_S G ad N X τ [(a5, 1, k5, m5)] A s.heap H locs → lv_has ls 8 [(0, .ref (ad 40 0)), (1, .int v1), (2, .ref (ad 41 o2)), (3, .int v3), (4, .int v4), (5, .ref a5)] → (o2 < N.1) → f_L_act_207 k132 τ v1 o2 v3 v4 k5 m5 = some (res.1, res.2, d) → cells + d = n → W p l e { frames := 8, cells := n, slots := 6 * n, locals := 181 } s m args below meth c H locs cells (6 * cells) (MQ below (k_Q none (q_V G ad N res.2 A) A) args s n (6 * n) A) (F0 m 207 ls []) := by
  intro τ v1 o2 v3 v4 k5 m5 a5 H locs ls cells d S hl ho2 hf hd
  unfold f_L_act_207 at hf
  refine lv_goto (tgt := 132) C.1 C.2.1 dL_act_207 (by decide) ?_
  exact hk132 _ v1 o2 v3 v4 k5 m5 a5 _ _ _ _ _ S (lv_sub hl [0, 1, 2, 3, 4, 5] rfl) ho2 hf hd
set_option maxHeartbeats 4000000 in
set_option maxRecDepth 100000 in
theorem w_L_act_204 {p : Program} {l : Launch} {e : Env} {s : State} {m : MethodId} {args : Array Value} {below : List Frame} {meth : Method} {c : Code} {G : Gx} {ad : Ad} {N : Nn} {X : Ex} {A : Nat → Prop} {res : Int32 × Sg} {n : Nat} (C : Cx p s m args meth c yL_act.cls cL_act 8 none G) (k132 : Sg → Int32 → Nat → Int32 → Int32 → Nat → Int32 → Option (Int32 × Sg × Nat)) (hk132 : ∀ (τ : Sg) (v1 : Int32) (o2 : Nat) (v3 : Int32) (v4 : Int32) (k5 : Nat) (m5 : Int32) (a5 : Nat) (H : Heap) (locs : List Loc) (ls : Array Slot) (cells d : Nat), q_S G ad N X τ [(a5, 1, k5, m5)] A s.heap H locs → lv_has ls 8 [(0, .ref (ad 40 0)), (1, .int v1), (2, .ref (ad 41 o2)), (3, .int v3), (4, .int v4), (5, .ref a5)] → (o2 < N.1) → k132 τ v1 o2 v3 v4 k5 m5 = some (res.1, res.2, d) → cells + d = n → W p l e { frames := 8, cells := n, slots := 6 * n, locals := 181 } s m args below meth c H locs cells (6 * cells) (MQ below (k_Q none (q_V G ad N res.2 A) A) args s n (6 * n) A) (F0 m 132 ls [])) : ∀ (τ : Sg) (v1 : Int32) (o2 : Nat) (v3 : Int32) (k5 : Nat) (m5 : Int32) (a5 : Nat) (H : Heap) (locs : List Loc) (ls : Array Slot) (cells d : Nat), q_S G ad N X τ [(a5, 1, k5, m5)] A s.heap H locs → lv_has ls 8 [(0, .ref (ad 40 0)), (1, .int v1), (2, .ref (ad 41 o2)), (3, .int v3), (5, .ref a5)] → (o2 < N.1) → f_L_act_204 k132 τ v1 o2 v3 k5 m5 = some (res.1, res.2, d) → cells + d = n → W p l e { frames := 8, cells := n, slots := 6 * n, locals := 181 } s m args below meth c H locs cells (6 * cells) (MQ below (k_Q none (q_V G ad N res.2 A) A) args s n (6 * n) A) (F0 m 204 ls []) := by
  intro τ v1 o2 v3 k5 m5 a5 H locs ls cells d S hl ho2 hf hd
  unfold f_L_act_204 at hf
  refine lv_iconst (v := 1) C.1 C.2.1 dL_act_204 (by decide) ?_
  refine lv_istore (lv' := [(4, .int 1), (0, .ref (ad 40 0)), (1, .int v1), (2, .ref (ad 41 o2)), (3, .int v3), (5, .ref a5)]) C.1 C.2.1 dL_act_205 hl (by decide) rfl (fun ls hl => ?_)
  exact w_L_act_207 C k132 hk132 _ v1 o2 v3 1 k5 m5 a5 _ _ _ _ _ S (lv_sub hl [1, 2, 3, 4, 0, 5] rfl) ho2 hf hd
set_option maxHeartbeats 4000000 in
set_option maxRecDepth 100000 in
theorem w_L_act_132 {p : Program} {l : Launch} {e : Env} {s : State} {m : MethodId} {args : Array Value} {below : List Frame} {meth : Method} {c : Code} {G : Gx} {ad : Ad} {N : Nn} {X : Ex} {A : Nat → Prop} {res : Int32 × Sg} {n : Nat} (C : Cx p s m args meth c yL_act.cls cL_act 8 none G) : ∀ n9 : Nat, ∀ (τ : Sg) (v1 : Int32) (o2 : Nat) (v3 : Int32) (v4 : Int32) (k5 : Nat) (m5 : Int32) (a5 : Nat) (H : Heap) (locs : List Loc) (ls : Array Slot) (cells d : Nat), q_S G ad N X τ [(a5, 1, k5, m5)] A s.heap H locs → lv_has ls 8 [(0, .ref (ad 40 0)), (1, .int v1), (2, .ref (ad 41 o2)), (3, .int v3), (4, .int v4), (5, .ref a5)] → (o2 < N.1) → f_L_act_132 n9 τ v1 o2 v3 v4 k5 m5 = some (res.1, res.2, d) → cells + d = n → W p l e { frames := 8, cells := n, slots := 6 * n, locals := 181 } s m args below meth c H locs cells (6 * cells) (MQ below (k_Q none (q_V G ad N res.2 A) A) args s n (6 * n) A) (F0 m 132 ls []) := by
  intro n9
  induction n9 with
  | zero => intro τ v1 o2 v3 v4 k5 m5 a5 H locs ls cells d S hl ho2 hf hd; cases hf
  | succ n9 ih =>
    intro τ v1 o2 v3 v4 k5 m5 a5 H locs ls cells d S hl ho2 hf hd
    rw [f_L_act_132_s] at hf
    refine lv_aload C.1 C.2.1 dL_act_132 (lv_at hl 5 rfl) ?_
    refine q_hasN C S (List.mem_singleton.mpr rfl) (Or.inl (by decide)) (by decide) tw_5_148 ⟨(Nat.le_of_ble_eq_true rfl), (Nat.le_of_ble_eq_true rfl)⟩ (Nat.le_of_ble_eq_true rfl) hl.1 ⟨(show _ ≤ n from by omega), (show _ ≤ 6 * n from by omega)⟩ dL_act_134 (fun H locs S => ?_)
    refine lv_if_eq (tgt := 210) C.1 C.2.1 dL_act_139 (by decide) (fun c_139 => ?_) (fun c_139 => ?_)
    · rw [if_pos c_139] at hf
      exact w_L_act_210 C _ v1 o2 v4 _ _ _ _ _ (S.drop (fun x hx => absurd hx List.not_mem_nil)) (lv_sub hl [0, 1, 2, 4] rfl) ho2 hf hd
    · rw [if_neg c_139] at hf
      refine lv_aload C.1 C.2.1 dL_act_142 (lv_at hl 5 rfl) ?_
      obtain ⟨g_144, hf⟩ := gd hf
      replace g_144 := Decidable.not_not.mp g_144
      have ob_144 := q_ltN S (Or.inl (by decide)) g_144.1
      refine q_next C S (Or.inl (by decide)) (by decide) g_144.1 g_144.2 tw_5_158 ⟨(Nat.le_of_ble_eq_true rfl), (Nat.le_of_ble_eq_true rfl)⟩ (Nat.le_of_ble_eq_true rfl) hl.1 ⟨(show _ ≤ n from by omega), (show _ ≤ 6 * n from by omega)⟩ dL_act_144 (fun H locs S => ?_)
      refine q_cast C S 42 k5 rfl ob_144 "BusLiftsLaw$Call" (fun _ => Or.inl ⟨_, _, _, _, rfl, rfl⟩) tw_4_19 dL_act_149 ?_
      refine lv_astore (lv' := [(6, .ref (ad 42 k5)), (0, .ref (ad 40 0)), (1, .int v1), (2, .ref (ad 41 o2)), (3, .int v3), (4, .int v4), (5, .ref a5)]) C.1 C.2.1 dL_act_152 hl (by decide) rfl (fun ls hl => ?_)
      refine lv_aload C.1 C.2.1 dL_act_154 (lv_at hl 0 rfl) ?_
      refine q_getRN C S 42 k5 45 k5 rfl rfl ob_144 cf_8 11 (by decide) (qr_42_11 G τ k5) (List.mem_of_getElem? (i := 38) rfl) dL_act_156 ?_
      refine lv_iload_n C.1 C.2.1 dL_act_159 rfl (lv_at hl 2 rfl) ?_
      obtain ⟨g_160, hf⟩ := gd hf
      refine q_by C S k5 ob_144 g_160 dL_act_160 ?_
      refine q_getIN C S 43 (4 * k5 + (v1).toNatClampNeg) rfl (q_lt4 ob_144 g_160) cf_10 0 (by decide) (qi_43_0 G τ (4 * k5 + (v1).toNatClampNeg)) (List.mem_of_getElem? (i := 22) rfl) dL_act_161 ?_
      refine lv_if_eq (tgt := 207) C.1 C.2.1 dL_act_164 (by decide) (fun c_164 => ?_) (fun c_164 => ?_)
      · rw [if_pos c_164] at hf
        exact w_L_act_207 C (f_L_act_132 n9) ih _ v1 o2 v3 v4 (k5 + 1) m5 a5 _ _ _ _ _ S (lv_sub hl [1, 2, 3, 4, 5, 6] rfl) ho2 hf hd
      · rw [if_neg c_164] at hf
        refine lv_aload C.1 C.2.1 dL_act_167 (lv_at hl 0 rfl) ?_
        refine q_getIN C S 42 k5 rfl ob_144 cf_8 0 (by decide) (qi_42_0 G τ k5) (List.mem_of_getElem? (i := 27) rfl) dL_act_169 ?_
        refine lv_aload_n C.1 C.2.1 dL_act_172 rfl (lv_at hl 3 rfl) ?_
        refine q_getIN C S 41 o2 rfl ho2 cf_9 0 (by decide) (qi_41_0 G τ o2) (List.mem_of_getElem? (i := 11) rfl) dL_act_173 ?_
        refine lv_icmp_ne (tgt := 207) C.1 C.2.1 dL_act_176 (by decide) (fun c_176 => ?_) (fun c_176 => ?_)
        · rw [if_neg c_176] at hf
          exact w_L_act_207 C (f_L_act_132 n9) ih _ v1 o2 v3 v4 (k5 + 1) m5 a5 _ _ _ _ _ S (lv_sub hl [1, 2, 3, 4, 5, 6] rfl) ho2 hf hd
        · rw [if_pos c_176] at hf
          refine lv_aload C.1 C.2.1 dL_act_179 (lv_at hl 0 rfl) ?_
          refine q_getIN C S 42 k5 rfl ob_144 cf_8 3 (by decide) (qi_42_3 G τ k5) (List.mem_of_getElem? (i := 30) rfl) dL_act_181 ?_
          refine lv_iconst (v := 1) C.1 C.2.1 dL_act_184 (by decide) ?_
          refine lv_icmp_ne (tgt := 204) C.1 C.2.1 dL_act_185 (by decide) (fun c_185 => ?_) (fun c_185 => ?_)
          · rw [if_neg c_185] at hf
            exact w_L_act_204 C (f_L_act_132 n9) ih _ v1 o2 v3 (k5 + 1) m5 a5 _ _ _ _ _ S (lv_sub hl [1, 2, 3, 4, 6] rfl) ho2 hf hd
          · rw [if_pos c_185] at hf
            refine lv_iload_n C.1 C.2.1 dL_act_188 rfl (lv_at hl 4 rfl) ?_
            refine lv_if_ne (tgt := 204) C.1 C.2.1 dL_act_189 (by decide) (fun c_189 => ?_) (fun c_189 => ?_)
            · rw [if_neg c_189] at hf
              exact w_L_act_204 C (f_L_act_132 n9) ih _ v1 o2 v3 (k5 + 1) m5 a5 _ _ _ _ _ S (lv_sub hl [1, 2, 3, 4, 6] rfl) ho2 hf hd
            · rw [if_pos c_189] at hf
              refine lv_aload_n C.1 C.2.1 dL_act_192 rfl (lv_at hl 1 rfl) ?_
              refine lv_iload_n C.1 C.2.1 dL_act_193 rfl (lv_at hl 2 rfl) ?_
              obtain ⟨r1, τ2, c_194, d_194, q_194, hf, e_194⟩ := bqb hf
              refine q_callV (τ' := τ2) (v := (some (.int r1))) C S [.int v1] rfl (fun ad' he => by have h := m_L_aboard l G ad' N τ v1 (r1, τ2) c_194 q_194 H.size; rw [he 40 0 rfl] at h; exact h) kv_L_aboard tw_6_79 ⟨(Nat.le_of_ble_eq_true rfl), (Nat.le_of_ble_eq_true rfl)⟩ rfl rfl (Nat.le_of_ble_eq_true rfl) hl.1 ⟨(show _ ≤ n from by omega), (show _ ≤ 6 * n from by omega)⟩ dL_act_194 (fun H locs S => ?_)
              replace hd := q_hd2 hd e_194
              refine lv_aload_n C.1 C.2.1 dL_act_197 rfl (lv_at hl 3 rfl) ?_
              refine q_getIN C S 41 o2 rfl ho2 cf_9 1 (by decide) (qi_41_1 G τ2 o2) (List.mem_of_getElem? (i := 12) rfl) dL_act_198 ?_
              refine lv_icmp_ge (tgt := 207) C.1 C.2.1 dL_act_201 (by decide) (fun c_201 => ?_) (fun c_201 => ?_)
              · rw [if_pos c_201] at hf
                exact w_L_act_207 C (f_L_act_132 n9) ih _ v1 o2 v3 v4 (k5 + 1) m5 a5 _ _ _ _ _ S (lv_sub hl [1, 2, 3, 4, 5, 6] rfl) ho2 hf hd
              · rw [if_neg c_201] at hf
                exact w_L_act_204 C (f_L_act_132 n9) ih _ v1 o2 v3 (k5 + 1) m5 a5 _ _ _ _ _ S (lv_sub hl [1, 2, 3, 4, 6] rfl) ho2 hf hd
set_option maxHeartbeats 4000000 in
set_option maxRecDepth 100000 in
theorem w_L_act_118 {p : Program} {l : Launch} {e : Env} {s : State} {m : MethodId} {args : Array Value} {below : List Frame} {meth : Method} {c : Code} {G : Gx} {ad : Ad} {N : Nn} {X : Ex} {A : Nat → Prop} {res : Int32 × Sg} {n : Nat} (C : Cx p s m args meth c yL_act.cls cL_act 8 none G) : ∀ (τ : Sg) (v1 : Int32) (o2 : Nat) (v3 : Int32) (H : Heap) (locs : List Loc) (ls : Array Slot) (cells d : Nat), q_S G ad N X τ [] A s.heap H locs → lv_has ls 8 [(0, .ref (ad 40 0)), (1, .int v1), (2, .ref (ad 41 o2)), (3, .int v3)] → (o2 < N.1) → f_L_act_118 τ v1 o2 v3 = some (res.1, res.2, d) → cells + d = n → W p l e { frames := 8, cells := n, slots := 6 * n, locals := 181 } s m args below meth c H locs cells (6 * cells) (MQ below (k_Q none (q_V G ad N res.2 A) A) args s n (6 * n) A) (F0 m 118 ls []) := by
  intro τ v1 o2 v3 H locs ls cells d S hl ho2 hf hd
  unfold f_L_act_118 at hf
  refine lv_iload_n C.1 C.2.1 dL_act_118 rfl (lv_at hl 3 rfl) ?_
  refine lv_istore (lv' := [(4, .int v3), (0, .ref (ad 40 0)), (1, .int v1), (2, .ref (ad 41 o2)), (3, .int v3)]) C.1 C.2.1 dL_act_119 hl (by decide) rfl (fun ls hl => ?_)
  refine lv_aload_n C.1 C.2.1 dL_act_121 rfl (lv_at hl 1 rfl) ?_
  refine q_getR C S 40 0 50 1 rfl rfl rfl cf_11 1 (by decide) (qr_40_1 G τ 0) tw_4_97 dL_act_122 ?_
  obtain ⟨d_125, hf, e_125⟩ := acb hf
  refine q_iter C S 1 (Or.inl (by decide)) (by decide) tw_5_120 ⟨(Nat.le_of_ble_eq_true rfl), (Nat.le_of_ble_eq_true rfl)⟩ (Nat.le_of_ble_eq_true rfl) hl.1 ⟨(show _ ≤ n from by omega), (show _ ≤ 6 * n from by omega)⟩ dL_act_125 (fun it1 H locs S => ?_)
  refine q_wid ?_
  replace hd := q_hd1 hd e_125
  refine lv_astore (lv' := [(5, .ref it1), (4, .int v3), (0, .ref (ad 40 0)), (1, .int v1), (2, .ref (ad 41 o2)), (3, .int v3)]) C.1 C.2.1 dL_act_130 hl (by decide) rfl (fun ls hl => ?_)
  exact w_L_act_132 C FU _ v1 o2 v3 v3 0 (τ 50 1 0) it1 _ _ _ _ _ S (lv_sub hl [2, 3, 4, 5, 1, 0] rfl) ho2 hf hd
set_option maxHeartbeats 4000000 in
set_option maxRecDepth 100000 in
theorem w_L_act_114 {p : Program} {l : Launch} {e : Env} {s : State} {m : MethodId} {args : Array Value} {below : List Frame} {meth : Method} {c : Code} {G : Gx} {ad : Ad} {N : Nn} {X : Ex} {A : Nat → Prop} {res : Int32 × Sg} {n : Nat} (C : Cx p s m args meth c yL_act.cls cL_act 8 none G) (k53 : Sg → Int32 → Nat → Int32 → Nat → Int32 → Option (Int32 × Sg × Nat)) (hk53 : ∀ (τ : Sg) (v1 : Int32) (o2 : Nat) (v3 : Int32) (k4 : Nat) (m4 : Int32) (a4 : Nat) (H : Heap) (locs : List Loc) (ls : Array Slot) (cells d : Nat), q_S G ad N X τ [(a4, 1, k4, m4)] A s.heap H locs → lv_has ls 8 [(0, .ref (ad 40 0)), (1, .int v1), (2, .ref (ad 41 o2)), (3, .int v3), (4, .ref a4)] → (o2 < N.1) → k53 τ v1 o2 v3 k4 m4 = some (res.1, res.2, d) → cells + d = n → W p l e { frames := 8, cells := n, slots := 6 * n, locals := 181 } s m args below meth c H locs cells (6 * cells) (MQ below (k_Q none (q_V G ad N res.2 A) A) args s n (6 * n) A) (F0 m 53 ls [])) : ∀ (τ : Sg) (v1 : Int32) (o2 : Nat) (k4 : Nat) (m4 : Int32) (v100 : Int32) (a4 : Nat) (H : Heap) (locs : List Loc) (ls : Array Slot) (cells d : Nat), q_S G ad N X τ [(a4, 1, k4, m4)] A s.heap H locs → lv_has ls 8 [(0, .ref (ad 40 0)), (1, .int v1), (2, .ref (ad 41 o2)), (4, .ref a4)] → (o2 < N.1) → f_L_act_114 k53 τ v1 o2 k4 m4 v100 = some (res.1, res.2, d) → cells + d = n → W p l e { frames := 8, cells := n, slots := 6 * n, locals := 181 } s m args below meth c H locs cells (6 * cells) (MQ below (k_Q none (q_V G ad N res.2 A) A) args s n (6 * n) A) (F0 m 114 ls [.int v100]) := by
  intro τ v1 o2 k4 m4 v100 a4 H locs ls cells d S hl ho2 hf hd
  unfold f_L_act_114 at hf
  refine lv_istore_n (lv' := [(3, .int v100), (0, .ref (ad 40 0)), (1, .int v1), (2, .ref (ad 41 o2)), (4, .ref a4)]) C.1 C.2.1 dL_act_114 rfl hl (by decide) rfl (fun ls hl => ?_)
  refine lv_goto (tgt := 53) C.1 C.2.1 dL_act_115 (by decide) ?_
  exact hk53 _ v1 o2 v100 k4 m4 a4 _ _ _ _ _ S (lv_sub hl [1, 2, 3, 0, 4] rfl) ho2 hf hd
set_option maxHeartbeats 4000000 in
set_option maxRecDepth 100000 in
theorem w_L_act_109 {p : Program} {l : Launch} {e : Env} {s : State} {m : MethodId} {args : Array Value} {below : List Frame} {meth : Method} {c : Code} {G : Gx} {ad : Ad} {N : Nn} {X : Ex} {A : Nat → Prop} {res : Int32 × Sg} {n : Nat} (C : Cx p s m args meth c yL_act.cls cL_act 8 none G) (k53 : Sg → Int32 → Nat → Int32 → Nat → Int32 → Option (Int32 × Sg × Nat)) (hk53 : ∀ (τ : Sg) (v1 : Int32) (o2 : Nat) (v3 : Int32) (k4 : Nat) (m4 : Int32) (a4 : Nat) (H : Heap) (locs : List Loc) (ls : Array Slot) (cells d : Nat), q_S G ad N X τ [(a4, 1, k4, m4)] A s.heap H locs → lv_has ls 8 [(0, .ref (ad 40 0)), (1, .int v1), (2, .ref (ad 41 o2)), (3, .int v3), (4, .ref a4)] → (o2 < N.1) → k53 τ v1 o2 v3 k4 m4 = some (res.1, res.2, d) → cells + d = n → W p l e { frames := 8, cells := n, slots := 6 * n, locals := 181 } s m args below meth c H locs cells (6 * cells) (MQ below (k_Q none (q_V G ad N res.2 A) A) args s n (6 * n) A) (F0 m 53 ls [])) : ∀ (τ : Sg) (v1 : Int32) (o2 : Nat) (k4 : Nat) (m4 : Int32) (a4 : Nat) (H : Heap) (locs : List Loc) (ls : Array Slot) (cells d : Nat), q_S G ad N X τ [(a4, 1, k4, m4)] A s.heap H locs → lv_has ls 8 [(0, .ref (ad 40 0)), (1, .int v1), (2, .ref (ad 41 o2)), (4, .ref a4)] → (o2 < N.1) → f_L_act_109 k53 τ v1 o2 k4 m4 = some (res.1, res.2, d) → cells + d = n → W p l e { frames := 8, cells := n, slots := 6 * n, locals := 181 } s m args below meth c H locs cells (6 * cells) (MQ below (k_Q none (q_V G ad N res.2 A) A) args s n (6 * n) A) (F0 m 109 ls []) := by
  intro τ v1 o2 k4 m4 a4 H locs ls cells d S hl ho2 hf hd
  unfold f_L_act_109 at hf
  refine lv_iconst (v := 1) C.1 C.2.1 dL_act_109 (by decide) ?_
  refine lv_goto (tgt := 114) C.1 C.2.1 dL_act_110 (by decide) ?_
  exact w_L_act_114 C k53 hk53 _ v1 o2 k4 m4 1 a4 _ _ _ _ _ S (lv_sub hl [0, 1, 2, 3] rfl) ho2 hf hd
set_option maxHeartbeats 4000000 in
set_option maxRecDepth 100000 in
theorem w_L_act_113 {p : Program} {l : Launch} {e : Env} {s : State} {m : MethodId} {args : Array Value} {below : List Frame} {meth : Method} {c : Code} {G : Gx} {ad : Ad} {N : Nn} {X : Ex} {A : Nat → Prop} {res : Int32 × Sg} {n : Nat} (C : Cx p s m args meth c yL_act.cls cL_act 8 none G) (k53 : Sg → Int32 → Nat → Int32 → Nat → Int32 → Option (Int32 × Sg × Nat)) (hk53 : ∀ (τ : Sg) (v1 : Int32) (o2 : Nat) (v3 : Int32) (k4 : Nat) (m4 : Int32) (a4 : Nat) (H : Heap) (locs : List Loc) (ls : Array Slot) (cells d : Nat), q_S G ad N X τ [(a4, 1, k4, m4)] A s.heap H locs → lv_has ls 8 [(0, .ref (ad 40 0)), (1, .int v1), (2, .ref (ad 41 o2)), (3, .int v3), (4, .ref a4)] → (o2 < N.1) → k53 τ v1 o2 v3 k4 m4 = some (res.1, res.2, d) → cells + d = n → W p l e { frames := 8, cells := n, slots := 6 * n, locals := 181 } s m args below meth c H locs cells (6 * cells) (MQ below (k_Q none (q_V G ad N res.2 A) A) args s n (6 * n) A) (F0 m 53 ls [])) : ∀ (τ : Sg) (v1 : Int32) (o2 : Nat) (k4 : Nat) (m4 : Int32) (a4 : Nat) (H : Heap) (locs : List Loc) (ls : Array Slot) (cells d : Nat), q_S G ad N X τ [(a4, 1, k4, m4)] A s.heap H locs → lv_has ls 8 [(0, .ref (ad 40 0)), (1, .int v1), (2, .ref (ad 41 o2)), (4, .ref a4)] → (o2 < N.1) → f_L_act_113 k53 τ v1 o2 k4 m4 = some (res.1, res.2, d) → cells + d = n → W p l e { frames := 8, cells := n, slots := 6 * n, locals := 181 } s m args below meth c H locs cells (6 * cells) (MQ below (k_Q none (q_V G ad N res.2 A) A) args s n (6 * n) A) (F0 m 113 ls []) := by
  intro τ v1 o2 k4 m4 a4 H locs ls cells d S hl ho2 hf hd
  unfold f_L_act_113 at hf
  refine lv_iconst (v := 0) C.1 C.2.1 dL_act_113 (by decide) ?_
  exact w_L_act_114 C k53 hk53 _ v1 o2 k4 m4 0 a4 _ _ _ _ _ S (lv_sub hl [0, 1, 2, 3] rfl) ho2 hf hd
set_option maxHeartbeats 4000000 in
set_option maxRecDepth 100000 in
theorem w_L_act_53 {p : Program} {l : Launch} {e : Env} {s : State} {m : MethodId} {args : Array Value} {below : List Frame} {meth : Method} {c : Code} {G : Gx} {ad : Ad} {N : Nn} {X : Ex} {A : Nat → Prop} {res : Int32 × Sg} {n : Nat} (C : Cx p s m args meth c yL_act.cls cL_act 8 none G) : ∀ n9 : Nat, ∀ (τ : Sg) (v1 : Int32) (o2 : Nat) (v3 : Int32) (k4 : Nat) (m4 : Int32) (a4 : Nat) (H : Heap) (locs : List Loc) (ls : Array Slot) (cells d : Nat), q_S G ad N X τ [(a4, 1, k4, m4)] A s.heap H locs → lv_has ls 8 [(0, .ref (ad 40 0)), (1, .int v1), (2, .ref (ad 41 o2)), (3, .int v3), (4, .ref a4)] → (o2 < N.1) → f_L_act_53 n9 τ v1 o2 v3 k4 m4 = some (res.1, res.2, d) → cells + d = n → W p l e { frames := 8, cells := n, slots := 6 * n, locals := 181 } s m args below meth c H locs cells (6 * cells) (MQ below (k_Q none (q_V G ad N res.2 A) A) args s n (6 * n) A) (F0 m 53 ls []) := by
  intro n9
  induction n9 with
  | zero => intro τ v1 o2 v3 k4 m4 a4 H locs ls cells d S hl ho2 hf hd; cases hf
  | succ n9 ih =>
    intro τ v1 o2 v3 k4 m4 a4 H locs ls cells d S hl ho2 hf hd
    rw [f_L_act_53_s] at hf
    refine lv_aload C.1 C.2.1 dL_act_53 (lv_at hl 4 rfl) ?_
    refine q_hasN C S (List.mem_singleton.mpr rfl) (Or.inl (by decide)) (by decide) tw_5_148 ⟨(Nat.le_of_ble_eq_true rfl), (Nat.le_of_ble_eq_true rfl)⟩ (Nat.le_of_ble_eq_true rfl) hl.1 ⟨(show _ ≤ n from by omega), (show _ ≤ 6 * n from by omega)⟩ dL_act_55 (fun H locs S => ?_)
    refine lv_if_eq (tgt := 118) C.1 C.2.1 dL_act_60 (by decide) (fun c_60 => ?_) (fun c_60 => ?_)
    · rw [if_pos c_60] at hf
      exact w_L_act_118 C _ v1 o2 v3 _ _ _ _ _ (S.drop (fun x hx => absurd hx List.not_mem_nil)) (lv_sub hl [0, 1, 2, 3] rfl) ho2 hf hd
    · rw [if_neg c_60] at hf
      refine lv_aload C.1 C.2.1 dL_act_63 (lv_at hl 4 rfl) ?_
      obtain ⟨g_65, hf⟩ := gd hf
      replace g_65 := Decidable.not_not.mp g_65
      have ob_65 := q_ltN S (Or.inl (by decide)) g_65.1
      refine q_next C S (Or.inl (by decide)) (by decide) g_65.1 g_65.2 tw_5_158 ⟨(Nat.le_of_ble_eq_true rfl), (Nat.le_of_ble_eq_true rfl)⟩ (Nat.le_of_ble_eq_true rfl) hl.1 ⟨(show _ ≤ n from by omega), (show _ ≤ 6 * n from by omega)⟩ dL_act_65 (fun H locs S => ?_)
      refine q_cast C S 42 k4 rfl ob_65 "BusLiftsLaw$Call" (fun _ => Or.inl ⟨_, _, _, _, rfl, rfl⟩) tw_4_19 dL_act_70 ?_
      refine lv_astore (lv' := [(5, .ref (ad 42 k4)), (0, .ref (ad 40 0)), (1, .int v1), (2, .ref (ad 41 o2)), (3, .int v3), (4, .ref a4)]) C.1 C.2.1 dL_act_73 hl (by decide) rfl (fun ls hl => ?_)
      refine lv_iload_n C.1 C.2.1 dL_act_75 rfl (lv_at hl 4 rfl) ?_
      refine lv_if_ne (tgt := 109) C.1 C.2.1 dL_act_76 (by decide) (fun c_76 => ?_) (fun c_76 => ?_)
      · rw [if_neg c_76] at hf
        exact w_L_act_109 C (f_L_act_53 n9) ih _ v1 o2 (k4 + 1) m4 a4 _ _ _ _ _ S (lv_sub hl [1, 2, 3, 5] rfl) ho2 hf hd
      · rw [if_pos c_76] at hf
        refine lv_aload C.1 C.2.1 dL_act_79 (lv_at hl 0 rfl) ?_
        refine q_getIN C S 42 k4 rfl ob_65 cf_8 3 (by decide) (qi_42_3 G τ k4) (List.mem_of_getElem? (i := 30) rfl) dL_act_81 ?_
        refine lv_iconst (v := 2) C.1 C.2.1 dL_act_84 (by decide) ?_
        refine lv_icmp_ne (tgt := 113) C.1 C.2.1 dL_act_85 (by decide) (fun c_85 => ?_) (fun c_85 => ?_)
        · rw [if_neg c_85] at hf
          exact w_L_act_113 C (f_L_act_53 n9) ih _ v1 o2 (k4 + 1) m4 a4 _ _ _ _ _ S (lv_sub hl [1, 2, 3, 5] rfl) ho2 hf hd
        · rw [if_pos c_85] at hf
          refine lv_aload C.1 C.2.1 dL_act_88 (lv_at hl 0 rfl) ?_
          refine q_getIN C S 42 k4 rfl ob_65 cf_8 4 (by decide) (qi_42_4 G τ k4) (List.mem_of_getElem? (i := 31) rfl) dL_act_90 ?_
          refine lv_iload_n C.1 C.2.1 dL_act_93 rfl (lv_at hl 2 rfl) ?_
          refine lv_icmp_ne (tgt := 113) C.1 C.2.1 dL_act_94 (by decide) (fun c_94 => ?_) (fun c_94 => ?_)
          · rw [if_neg c_94] at hf
            exact w_L_act_113 C (f_L_act_53 n9) ih _ v1 o2 (k4 + 1) m4 a4 _ _ _ _ _ S (lv_sub hl [1, 2, 3, 5] rfl) ho2 hf hd
          · rw [if_pos c_94] at hf
            refine lv_aload C.1 C.2.1 dL_act_97 (lv_at hl 0 rfl) ?_
            refine q_getIN C S 42 k4 rfl ob_65 cf_8 1 (by decide) (qi_42_1 G τ k4) (List.mem_of_getElem? (i := 28) rfl) dL_act_99 ?_
            refine lv_aload_n C.1 C.2.1 dL_act_102 rfl (lv_at hl 3 rfl) ?_
            refine q_getIN C S 41 o2 rfl ho2 cf_9 0 (by decide) (qi_41_0 G τ o2) (List.mem_of_getElem? (i := 11) rfl) dL_act_103 ?_
            refine lv_icmp_ne (tgt := 113) C.1 C.2.1 dL_act_106 (by decide) (fun c_106 => ?_) (fun c_106 => ?_)
            · rw [if_neg c_106] at hf
              exact w_L_act_113 C (f_L_act_53 n9) ih _ v1 o2 (k4 + 1) m4 a4 _ _ _ _ _ S (lv_sub hl [1, 2, 3, 5] rfl) ho2 hf hd
            · rw [if_pos c_106] at hf
              exact w_L_act_109 C (f_L_act_53 n9) ih _ v1 o2 (k4 + 1) m4 a4 _ _ _ _ _ S (lv_sub hl [1, 2, 3, 5] rfl) ho2 hf hd
set_option maxHeartbeats 4000000 in
set_option maxRecDepth 100000 in
theorem w_L_act_0 {p : Program} {l : Launch} {e : Env} {s : State} {m : MethodId} {args : Array Value} {below : List Frame} {meth : Method} {c : Code} {G : Gx} {ad : Ad} {N : Nn} {X : Ex} {A : Nat → Prop} {res : Int32 × Sg} {n : Nat} (C : Cx p s m args meth c yL_act.cls cL_act 8 none G) : ∀ (τ : Sg) (v1 : Int32) (H : Heap) (locs : List Loc) (ls : Array Slot) (cells d : Nat), q_S G ad N X τ [] A s.heap H locs → lv_has ls 8 [(0, .ref (ad 40 0)), (1, .int v1)] → f_L_act τ v1 = some (res.1, res.2, d) → cells + d = n → W p l e { frames := 8, cells := n, slots := 6 * n, locals := 181 } s m args below meth c H locs cells (6 * cells) (MQ below (k_Q none (q_V G ad N res.2 A) A) args s n (6 * n) A) (F0 m 0 ls []) := by
  intro τ v1 H locs ls cells d S hl hf hd
  unfold f_L_act at hf
  refine lv_aload_n C.1 C.2.1 dL_act_0 rfl (lv_at hl 0 rfl) ?_
  refine q_getR C S 40 0 50 0 rfl rfl rfl cf_11 0 (by decide) (qr_40_0 G τ 0) tw_4_96 dL_act_1 ?_
  refine lv_iload_n C.1 C.2.1 dL_act_4 rfl (lv_at hl 1 rfl) ?_
  obtain ⟨g_5, hf⟩ := gd hf
  have ob_5 := q_ltN S (Or.inl (by decide)) (q_glt g_5)
  refine q_get C S 0 (Or.inl (by decide)) (by decide) g_5 tw_5_199 ⟨(Nat.le_of_ble_eq_true rfl), (Nat.le_of_ble_eq_true rfl)⟩ (Nat.le_of_ble_eq_true rfl) hl.1 ⟨(show _ ≤ n from by omega), (show _ ≤ 6 * n from by omega)⟩ dL_act_5 (fun H locs S => ?_)
  refine q_cast C S 41 ((v1).toNatClampNeg) rfl ob_5 "BusLiftsLaw$Car" (fun _ => Or.inl ⟨_, _, _, _, rfl, rfl⟩) tw_3_162 dL_act_10 ?_
  refine lv_astore_n (lv' := [(2, .ref (ad 41 ((v1).toNatClampNeg))), (0, .ref (ad 40 0)), (1, .int v1)]) C.1 C.2.1 dL_act_13 rfl hl (by decide) rfl (fun ls hl => ?_)
  refine lv_aload_n C.1 C.2.1 dL_act_14 rfl (lv_at hl 0 rfl) ?_
  refine q_getIN C S 41 ((v1).toNatClampNeg) rfl ob_5 cf_9 6 (by decide) (qi_41_6 G τ ((v1).toNatClampNeg)) (List.mem_of_getElem? (i := 17) rfl) dL_act_15 ?_
  refine lv_if_eq (tgt := 22) C.1 C.2.1 dL_act_18 (by decide) (fun c_18 => ?_) (fun c_18 => ?_)
  · rw [if_pos c_18] at hf
    refine lv_aload_n C.1 C.2.1 dL_act_22 rfl (lv_at hl 0 rfl) ?_
    refine q_getIN C S 41 ((v1).toNatClampNeg) rfl ob_5 cf_9 2 (by decide) (qi_41_2 G τ ((v1).toNatClampNeg)) (List.mem_of_getElem? (i := 13) rfl) dL_act_23 ?_
    refine lv_if_le (tgt := 40) C.1 C.2.1 dL_act_26 (by decide) (fun c_26 => ?_) (fun c_26 => ?_)
    · rw [if_pos c_26] at hf
      refine lv_iconst (v := 0) C.1 C.2.1 dL_act_40 (by decide) ?_
      refine lv_istore_n (lv' := [(3, .int 0), (2, .ref (ad 41 ((v1).toNatClampNeg))), (0, .ref (ad 40 0)), (1, .int v1)]) C.1 C.2.1 dL_act_41 rfl hl (by decide) rfl (fun ls hl => ?_)
      refine lv_aload_n C.1 C.2.1 dL_act_42 rfl (lv_at hl 2 rfl) ?_
      refine q_getR C S 40 0 50 1 rfl rfl rfl cf_11 1 (by decide) (qr_40_1 G τ 0) tw_4_97 dL_act_43 ?_
      obtain ⟨d_46, hf, e_46⟩ := acb hf
      refine q_iter C S 1 (Or.inl (by decide)) (by decide) tw_5_120 ⟨(Nat.le_of_ble_eq_true rfl), (Nat.le_of_ble_eq_true rfl)⟩ (Nat.le_of_ble_eq_true rfl) hl.1 ⟨(show _ ≤ n from by omega), (show _ ≤ 6 * n from by omega)⟩ dL_act_46 (fun it1 H locs S => ?_)
      refine q_wid ?_
      replace hd := q_hd1 hd e_46
      refine lv_astore (lv' := [(4, .ref it1), (3, .int 0), (2, .ref (ad 41 ((v1).toNatClampNeg))), (0, .ref (ad 40 0)), (1, .int v1)]) C.1 C.2.1 dL_act_51 hl (by decide) rfl (fun ls hl => ?_)
      exact w_L_act_53 C FU _ v1 ((v1).toNatClampNeg) 0 0 (τ 50 1 0) it1 _ _ _ _ _ S (lv_sub hl [3, 4, 2, 1, 0] rfl) ob_5 hf hd
    · rw [if_neg c_26] at hf
      refine lv_aload_n C.1 C.2.1 dL_act_29 rfl (lv_at hl 0 rfl) ?_
      refine lv_dup C.1 C.2.1 dL_act_30 rfl ?_
      refine q_getIN C S 41 ((v1).toNatClampNeg) rfl ob_5 cf_9 2 (by decide) (qi_41_2 G τ ((v1).toNatClampNeg)) (List.mem_of_getElem? (i := 13) rfl) dL_act_31 ?_
      refine lv_iconst (v := 1) C.1 C.2.1 dL_act_34 (by decide) ?_
      refine lv_isub C.1 C.2.1 dL_act_35 ?_
      obtain ⟨τ2, e_36, hf⟩ := stb hf
      refine q_putIN C S 41 ((v1).toNatClampNeg) 2 rfl rfl ob_5 cf_9 2 (by decide) (qp_41_2 G τ ((v1).toNatClampNeg) _) rfl rfl rfl (List.mem_of_getElem? (i := 13) rfl) dL_act_36 (fun H locs S => ?_)
      rw [← e_36] at S
      exact q_vretF C S hf hd dL_act_39
  · rw [if_neg c_18] at hf
    exact q_vretF C S hf hd dL_act_21
theorem kv_L_act : KV yL_act cL_act 8 none 1 := ⟨tw_7_59, tw_7_58, tw_p_36, tw_1_0, by decide, by decide, by decide +kernel⟩
theorem m_L_act (l : Launch) (G : Gx) (ad : Ad) (N : Nn) (τ : Sg) (v1 : Int32) (res : Int32 × Sg) (n : Nat) (hf : f_L_act τ v1 = some (res.1, res.2, n)) (sz : Nat) : q_M l yL_act cL_act 8 none 8 181 n G ad N τ sz [.ref (ad 40 0), .int v1] none res.2 := by
  refine q_begin (by decide +kernel) (Nat.le_of_ble_eq_true rfl) [(0, .ref (ad 40 0)), (1, .int v1)] rfl (fun p e s m args below meth c ls C hz S hl => ?_)
  subst hz
  exact w_L_act_0 C _ v1 _ _ _ _ _ S hl hf (Nat.zero_add _)

theorem dL_done_0 : decode cL_done 0 = .ok (.iconst 0, 1) := by decide +kernel
theorem dL_done_1 : decode cL_done 1 = .ok (.istore_n 1, 1) := by decide +kernel
theorem dL_done_2 : decode cL_done 2 = .ok (.aload_n 0, 1) := by decide +kernel
theorem dL_done_3 : decode cL_done 3 = .ok (.getfield 36, 3) := by decide +kernel
theorem dL_done_6 : decode cL_done 6 = .ok (.invokeinterface 133 1, 5) := by decide +kernel
theorem dL_done_11 : decode cL_done 11 = .ok (.astore_n 2, 1) := by decide +kernel
theorem dL_done_12 : decode cL_done 12 = .ok (.aload_n 2, 1) := by decide +kernel
theorem dL_done_13 : decode cL_done 13 = .ok (.invokeinterface 137 1, 5) := by decide +kernel
theorem dL_done_18 : decode cL_done 18 = .ok (.ifCond .eq 32, 3) := by decide +kernel
theorem dL_done_21 : decode cL_done 21 = .ok (.aload_n 2, 1) := by decide +kernel
theorem dL_done_22 : decode cL_done 22 = .ok (.invokeinterface 143 1, 5) := by decide +kernel
theorem dL_done_27 : decode cL_done 27 = .ok (.checkcast 97, 3) := by decide +kernel
theorem dL_done_30 : decode cL_done 30 = .ok (.astore_n 3, 1) := by decide +kernel
theorem dL_done_31 : decode cL_done 31 = .ok (.iload_n 1, 1) := by decide +kernel
theorem dL_done_32 : decode cL_done 32 = .ok (.aload_n 3, 1) := by decide +kernel
theorem dL_done_33 : decode cL_done 33 = .ok (.getfield 173, 3) := by decide +kernel
theorem dL_done_36 : decode cL_done 36 = .ok (.iconst 3, 1) := by decide +kernel
theorem dL_done_37 : decode cL_done 37 = .ok (.if_icmp .ne 7, 3) := by decide +kernel
theorem dL_done_40 : decode cL_done 40 = .ok (.iconst 1, 1) := by decide +kernel
theorem dL_done_41 : decode cL_done 41 = .ok (.goto 4, 3) := by decide +kernel
theorem dL_done_44 : decode cL_done 44 = .ok (.iconst 0, 1) := by decide +kernel
theorem dL_done_45 : decode cL_done 45 = .ok (.iadd, 1) := by decide +kernel
theorem dL_done_46 : decode cL_done 46 = .ok (.istore_n 1, 1) := by decide +kernel
theorem dL_done_47 : decode cL_done 47 = .ok (.goto (-35), 3) := by decide +kernel
theorem dL_done_50 : decode cL_done 50 = .ok (.iload_n 1, 1) := by decide +kernel
theorem dL_done_51 : decode cL_done 51 = .ok (.ireturn, 1) := by decide +kernel
/-! BusLiftsLaw.done()I -/
noncomputable def f_L_done_50 (τ : Sg) (v1 : Int32) : Option (Int32 × Sg × Nat) := some (v1, τ, 0)
noncomputable def f_L_done_45 (k12 : Sg → Int32 → Nat → Int32 → Option (Int32 × Sg × Nat)) (τ : Sg) (k2 : Nat) (m2 : Int32) (v100 : Int32) (v101 : Int32) : Option (Int32 × Sg × Nat) := k12 τ (v100 + v101) k2 m2
noncomputable def f_L_done_12 : Nat → Sg → Int32 → Nat → Int32 → Option (Int32 × Sg × Nat)
  | 0, _, _, _, _ => none
  | n + 1, τ, v1, k2, m2 => if (it_z (nI k2) (τ 50 1 2)) = 0 then (f_L_done_50 τ v1) else (if ¬ (k2 < q_nn τ 1 ∧ m2 = τ 50 1 0) then none else (if (τ 42 k2 3) = 3 then (f_L_done_45 (f_L_done_12 n) τ (k2 + 1) m2 v1 1) else (f_L_done_45 (f_L_done_12 n) τ (k2 + 1) m2 v1 0)))
theorem f_L_done_12_s (n : Nat) (τ : Sg) (v1 : Int32) (k2 : Nat) (m2 : Int32) : f_L_done_12 (n + 1) τ v1 k2 m2 = (if (it_z (nI k2) (τ 50 1 2)) = 0 then (f_L_done_50 τ v1) else (if ¬ (k2 < q_nn τ 1 ∧ m2 = τ 50 1 0) then none else (if (τ 42 k2 3) = 3 then (f_L_done_45 (f_L_done_12 n) τ (k2 + 1) m2 v1 1) else (f_L_done_45 (f_L_done_12 n) τ (k2 + 1) m2 v1 0)))) := rfl
noncomputable def f_L_done (τ : Sg) : Option (Int32 × Sg × Nat) := ac 1 (f_L_done_12 FU τ 0 0 (τ 50 1 0))
set_option maxHeartbeats 4000000 in
set_option maxRecDepth 100000 in
theorem w_L_done_50 {p : Program} {l : Launch} {e : Env} {s : State} {m : MethodId} {args : Array Value} {below : List Frame} {meth : Method} {c : Code} {G : Gx} {ad : Ad} {N : Nn} {X : Ex} {A : Nat → Prop} {res : Int32 × Sg} {n : Nat} (C : Cx p s m args meth c yL_done.cls cL_done 4 (Option.some FieldType.int) G) : ∀ (τ : Sg) (v1 : Int32) (H : Heap) (locs : List Loc) (ls : Array Slot) (cells d : Nat), q_S G ad N X τ [] A s.heap H locs → lv_has ls 4 [(1, .int v1)] → f_L_done_50 τ v1 = some (res.1, res.2, d) → cells + d = n → W p l e { frames := 3, cells := n, slots := 6 * n, locals := 53 } s m args below meth c H locs cells (6 * cells) (MQ below (k_Q (some (.int res.1)) (q_V G ad N res.2 A) A) args s n (6 * n) A) (F0 m 50 ls []) := by
  intro τ v1 H locs ls cells d S hl hf hd
  unfold f_L_done_50 at hf
  refine lv_iload_n C.1 C.2.1 dL_done_50 rfl (lv_at hl 0 rfl) ?_
  exact q_iretF C S hf hd dL_done_51
set_option maxHeartbeats 4000000 in
set_option maxRecDepth 100000 in
theorem w_L_done_45 {p : Program} {l : Launch} {e : Env} {s : State} {m : MethodId} {args : Array Value} {below : List Frame} {meth : Method} {c : Code} {G : Gx} {ad : Ad} {N : Nn} {X : Ex} {A : Nat → Prop} {res : Int32 × Sg} {n : Nat} (C : Cx p s m args meth c yL_done.cls cL_done 4 (Option.some FieldType.int) G) (k12 : Sg → Int32 → Nat → Int32 → Option (Int32 × Sg × Nat)) (hk12 : ∀ (τ : Sg) (v1 : Int32) (k2 : Nat) (m2 : Int32) (a2 : Nat) (H : Heap) (locs : List Loc) (ls : Array Slot) (cells d : Nat), q_S G ad N X τ [(a2, 1, k2, m2)] A s.heap H locs → lv_has ls 4 [(1, .int v1), (2, .ref a2)] → k12 τ v1 k2 m2 = some (res.1, res.2, d) → cells + d = n → W p l e { frames := 3, cells := n, slots := 6 * n, locals := 53 } s m args below meth c H locs cells (6 * cells) (MQ below (k_Q (some (.int res.1)) (q_V G ad N res.2 A) A) args s n (6 * n) A) (F0 m 12 ls [])) : ∀ (τ : Sg) (k2 : Nat) (m2 : Int32) (v100 : Int32) (v101 : Int32) (a2 : Nat) (H : Heap) (locs : List Loc) (ls : Array Slot) (cells d : Nat), q_S G ad N X τ [(a2, 1, k2, m2)] A s.heap H locs → lv_has ls 4 [(2, .ref a2)] → f_L_done_45 k12 τ k2 m2 v100 v101 = some (res.1, res.2, d) → cells + d = n → W p l e { frames := 3, cells := n, slots := 6 * n, locals := 53 } s m args below meth c H locs cells (6 * cells) (MQ below (k_Q (some (.int res.1)) (q_V G ad N res.2 A) A) args s n (6 * n) A) (F0 m 45 ls [.int v101, .int v100]) := by
  intro τ k2 m2 v100 v101 a2 H locs ls cells d S hl hf hd
  unfold f_L_done_45 at hf
  refine lv_iadd C.1 C.2.1 dL_done_45 ?_
  refine lv_istore_n (lv' := [(1, .int (v100 + v101)), (2, .ref a2)]) C.1 C.2.1 dL_done_46 rfl hl (by decide) rfl (fun ls hl => ?_)
  refine lv_goto (tgt := 12) C.1 C.2.1 dL_done_47 (by decide) ?_
  exact hk12 _ (v100 + v101) k2 m2 a2 _ _ _ _ _ S (lv_sub hl [0, 1] rfl) hf hd
set_option maxHeartbeats 4000000 in
set_option maxRecDepth 100000 in
theorem w_L_done_12 {p : Program} {l : Launch} {e : Env} {s : State} {m : MethodId} {args : Array Value} {below : List Frame} {meth : Method} {c : Code} {G : Gx} {ad : Ad} {N : Nn} {X : Ex} {A : Nat → Prop} {res : Int32 × Sg} {n : Nat} (C : Cx p s m args meth c yL_done.cls cL_done 4 (Option.some FieldType.int) G) : ∀ n9 : Nat, ∀ (τ : Sg) (v1 : Int32) (k2 : Nat) (m2 : Int32) (a2 : Nat) (H : Heap) (locs : List Loc) (ls : Array Slot) (cells d : Nat), q_S G ad N X τ [(a2, 1, k2, m2)] A s.heap H locs → lv_has ls 4 [(1, .int v1), (2, .ref a2)] → f_L_done_12 n9 τ v1 k2 m2 = some (res.1, res.2, d) → cells + d = n → W p l e { frames := 3, cells := n, slots := 6 * n, locals := 53 } s m args below meth c H locs cells (6 * cells) (MQ below (k_Q (some (.int res.1)) (q_V G ad N res.2 A) A) args s n (6 * n) A) (F0 m 12 ls []) := by
  intro n9
  induction n9 with
  | zero => intro τ v1 k2 m2 a2 H locs ls cells d S hl hf hd; cases hf
  | succ n9 ih =>
    intro τ v1 k2 m2 a2 H locs ls cells d S hl hf hd
    rw [f_L_done_12_s] at hf
    refine lv_aload_n C.1 C.2.1 dL_done_12 rfl (lv_at hl 1 rfl) ?_
    refine q_hasN C S (List.mem_singleton.mpr rfl) (Or.inl (by decide)) (by decide) tw_5_148 ⟨(Nat.le_of_ble_eq_true rfl), (Nat.le_of_ble_eq_true rfl)⟩ (Nat.le_of_ble_eq_true rfl) hl.1 ⟨(show _ ≤ n from by omega), (show _ ≤ 6 * n from by omega)⟩ dL_done_13 (fun H locs S => ?_)
    refine lv_if_eq (tgt := 50) C.1 C.2.1 dL_done_18 (by decide) (fun c_18 => ?_) (fun c_18 => ?_)
    · rw [if_pos c_18] at hf
      exact w_L_done_50 C _ v1 _ _ _ _ _ (S.drop (fun x hx => absurd hx List.not_mem_nil)) (lv_sub hl [0] rfl) hf hd
    · rw [if_neg c_18] at hf
      refine lv_aload_n C.1 C.2.1 dL_done_21 rfl (lv_at hl 1 rfl) ?_
      obtain ⟨g_22, hf⟩ := gd hf
      replace g_22 := Decidable.not_not.mp g_22
      have ob_22 := q_ltN S (Or.inl (by decide)) g_22.1
      refine q_next C S (Or.inl (by decide)) (by decide) g_22.1 g_22.2 tw_5_158 ⟨(Nat.le_of_ble_eq_true rfl), (Nat.le_of_ble_eq_true rfl)⟩ (Nat.le_of_ble_eq_true rfl) hl.1 ⟨(show _ ≤ n from by omega), (show _ ≤ 6 * n from by omega)⟩ dL_done_22 (fun H locs S => ?_)
      refine q_cast C S 42 k2 rfl ob_22 "BusLiftsLaw$Call" (fun _ => Or.inl ⟨_, _, _, _, rfl, rfl⟩) tw_4_19 dL_done_27 ?_
      refine lv_astore_n (lv' := [(3, .ref (ad 42 k2)), (1, .int v1), (2, .ref a2)]) C.1 C.2.1 dL_done_30 rfl hl (by decide) rfl (fun ls hl => ?_)
      refine lv_iload_n C.1 C.2.1 dL_done_31 rfl (lv_at hl 1 rfl) ?_
      refine lv_aload_n C.1 C.2.1 dL_done_32 rfl (lv_at hl 0 rfl) ?_
      refine q_getIN C S 42 k2 rfl ob_22 cf_8 3 (by decide) (qi_42_3 G τ k2) (List.mem_of_getElem? (i := 30) rfl) dL_done_33 ?_
      refine lv_iconst (v := 3) C.1 C.2.1 dL_done_36 (by decide) ?_
      refine lv_icmp_ne (tgt := 44) C.1 C.2.1 dL_done_37 (by decide) (fun c_37 => ?_) (fun c_37 => ?_)
      · rw [if_neg c_37] at hf
        refine lv_iconst (v := 0) C.1 C.2.1 dL_done_44 (by decide) ?_
        exact w_L_done_45 C (f_L_done_12 n9) ih _ (k2 + 1) m2 v1 0 a2 _ _ _ _ _ S (lv_sub hl [2] rfl) hf hd
      · rw [if_pos c_37] at hf
        refine lv_iconst (v := 1) C.1 C.2.1 dL_done_40 (by decide) ?_
        refine lv_goto (tgt := 45) C.1 C.2.1 dL_done_41 (by decide) ?_
        exact w_L_done_45 C (f_L_done_12 n9) ih _ (k2 + 1) m2 v1 1 a2 _ _ _ _ _ S (lv_sub hl [2] rfl) hf hd
set_option maxHeartbeats 4000000 in
set_option maxRecDepth 100000 in
theorem w_L_done_0 {p : Program} {l : Launch} {e : Env} {s : State} {m : MethodId} {args : Array Value} {below : List Frame} {meth : Method} {c : Code} {G : Gx} {ad : Ad} {N : Nn} {X : Ex} {A : Nat → Prop} {res : Int32 × Sg} {n : Nat} (C : Cx p s m args meth c yL_done.cls cL_done 4 (Option.some FieldType.int) G) : ∀ (τ : Sg) (H : Heap) (locs : List Loc) (ls : Array Slot) (cells d : Nat), q_S G ad N X τ [] A s.heap H locs → lv_has ls 4 [(0, .ref (ad 40 0))] → f_L_done τ = some (res.1, res.2, d) → cells + d = n → W p l e { frames := 3, cells := n, slots := 6 * n, locals := 53 } s m args below meth c H locs cells (6 * cells) (MQ below (k_Q (some (.int res.1)) (q_V G ad N res.2 A) A) args s n (6 * n) A) (F0 m 0 ls []) := by
  intro τ H locs ls cells d S hl hf hd
  unfold f_L_done at hf
  refine lv_iconst (v := 0) C.1 C.2.1 dL_done_0 (by decide) ?_
  refine lv_istore_n (lv' := [(1, .int 0), (0, .ref (ad 40 0))]) C.1 C.2.1 dL_done_1 rfl hl (by decide) rfl (fun ls hl => ?_)
  refine lv_aload_n C.1 C.2.1 dL_done_2 rfl (lv_at hl 1 rfl) ?_
  refine q_getR C S 40 0 50 1 rfl rfl rfl cf_11 1 (by decide) (qr_40_1 G τ 0) tw_4_97 dL_done_3 ?_
  obtain ⟨d_6, hf, e_6⟩ := acb hf
  refine q_iter C S 1 (Or.inl (by decide)) (by decide) tw_5_120 ⟨(Nat.le_of_ble_eq_true rfl), (Nat.le_of_ble_eq_true rfl)⟩ (Nat.le_of_ble_eq_true rfl) hl.1 ⟨(show _ ≤ n from by omega), (show _ ≤ 6 * n from by omega)⟩ dL_done_6 (fun it1 H locs S => ?_)
  refine q_wid ?_
  replace hd := q_hd1 hd e_6
  refine lv_astore_n (lv' := [(2, .ref it1), (1, .int 0), (0, .ref (ad 40 0))]) C.1 C.2.1 dL_done_11 rfl hl (by decide) rfl (fun ls hl => ?_)
  exact w_L_done_12 C FU _ 0 0 (τ 50 1 0) it1 _ _ _ _ _ S (lv_sub hl [1, 0] rfl) hf hd
theorem kv_L_done : KV yL_done cL_done 4 (Option.some FieldType.int) 0 := ⟨tw_6_197, tw_6_196, tw_p_26, tw_1_0, by decide, by decide, by decide +kernel⟩
theorem m_L_done (l : Launch) (G : Gx) (ad : Ad) (N : Nn) (τ : Sg) (res : Int32 × Sg) (n : Nat) (hf : f_L_done τ = some (res.1, res.2, n)) (sz : Nat) : q_M l yL_done cL_done 4 (Option.some FieldType.int) 3 53 n G ad N τ sz [.ref (ad 40 0)] (some (.int res.1)) res.2 := by
  refine q_begin (by decide +kernel) (Nat.le_of_ble_eq_true rfl) [(0, .ref (ad 40 0))] rfl (fun p e s m args below meth c ls C hz S hl => ?_)
  subst hz
  exact w_L_done_0 C _ _ _ _ _ _ S hl hf (Nat.zero_add _)

