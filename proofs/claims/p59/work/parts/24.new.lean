/-! the law: new cars and calls, adding them; calls of the class from the law -/
section KN
variable {p : Program} {l : Launch} {e : Env} {R : Room} {s : State} {m : MethodId} {args : Array Value} {below : List Frame} {meth : Method} {c : Code} {H : Heap} {locs : List Loc} {cells slots : Nat} {Q : State → Prop}
variable {cc : ByteArray} {pc : Nat} {ls : Array Slot} {rest : List Value} {own : String} {nL : Nat} {ret : Option FieldType} {G : Gx} {A : Nat → Prop} {H0 : Heap}
theorem k_callIN {y : MethodName} {host : String} {bytes : ByteArray} {maxL n fr lo mc ms index a sz : Nat} {P P' : Heap → Prop} {F : Nat → Prop} {v : Option Value} {st : List Value} (C : Cx p s m args meth c own cc nL ret G) (S : va_S A H0 H locs) (hO : z_O G H) (As : List Value)
    (hM : k_M l y bytes maxL none fr lo mc ms G P sz (.ref a :: As) v P' F) (hsz : H.size = sz) (hP : P H) (kv : KI y bytes maxL n) (hl : Cond.methodLinkNest own index y host ∈ z_nest) (hR : fr + 1 ≤ R.frames ∧ 8 + (maxL + 11) + lo ≤ R.locals) (hn : As.length = n) (hst : st = As.reverse ++ .ref a :: rest) (hW8 : (rest.map fun v => v.category).sum ≤ 8) (hls : ls.size = nL) (hcs : cells + mc ≤ R.cells ∧ slots + ms ≤ R.slots)
    (hdg : decode cc pc = .ok (.invokespecial index, 3)) (hA : ∀ q, F q → A q)
    (kk : ∀ (H1 : Heap) (locs1 : List Loc), P' H1 → H.size ≤ H1.size → (∀ q : Nat, q < H.size → ¬ F q → H1[q]? = H[q]?) → va_S A H0 H1 locs1 → W p l e R s m args below meth c H1 locs1 (cells + mc) (slots + ms) Q (F0 m (pc + 3) ls (v.toList ++ rest))) : W p l e R s m args below meth c H locs cells slots Q (F0 m pc ls st) := by
  obtain ⟨x1, x2, x3, x4, x5, x6, x7, x8⟩ := C
  obtain ⟨k1, k2, k3, k4, k5, k6, k7⟩ := kv
  exact k_after (va_runIN (As := As) (rest := rest) ⟨x1, x2, x3, x4, x5⟩ hM ⟨va_cnB n x5 (tt_good k1) rfl rfl rfl (x6.2.2.2.2.1 _ hl) (x5 _ k3) ⟨k5, k6, k7⟩ hR, k4, x5 _ k2⟩ ⟨k_blind _ G P sz, fun U hU hW => ⟨rfl, by rw [hU]; exact hsz, by rw [hU]; exact hP, by rw [hU]; exact hO, x6.warm hW⟩⟩ rfl hn hls hst (lv_room hW8) hdg hcs) S hA kk
/-- a store of something of the very class -/
theorem u_aastS (C : Cx p s m args meth c own cc nL ret G) (S : va_S A H0 H locs) {a n v : Nat} (t : Nat) {f : Nat → Option Nat} {Cn : String} (hat : va_at G.1 z_cl (a, .inl (G.2.1 t, n, .inr (.inr (.inr (.inr f))))) H) (ha : A a) (ht : (z_tys G)[t]? = some (G.2.1 t, .object Cn)) (hv : u_cls Cn v s H)
    {i : Int32} (hin : ¬ (i < 0 ∨ n ≤ i.toNatClampNeg)) (hdg : decode cc pc = .ok (.aastore, 1))
    (kk : ∀ (H1 : Heap) (locs1 : List Loc), H1.size = H.size → (∀ q : Nat, q ≠ a → H1[q]? = H[q]?) → va_at G.1 z_cl (a, .inl (G.2.1 t, n, .inr (.inr (.inr (.inr (va_up f i.toNatClampNeg (some v))))))) H1 → va_S A H0 H1 locs1 → W p l e R s m args below meth c H1 locs1 cells slots Q (F0 m (pc + 1) ls rest)) :
    W p l e R s m args below meth c H locs cells slots Q (F0 m pc ls (.ref v :: .int i :: .ref a :: rest)) := by
  obtain ⟨x1, x2, x3, x4, x5, x6, x7, x8⟩ := C
  have hlt : i.toNatClampNeg < n := Nat.not_le.mp fun q => hin (Or.inr q)
  have h0 : ¬ i < 0 := fun q => hin (Or.inl q)
  obtain ⟨cellV, g1, g2, g3⟩ := hv
  obtain ⟨kA, comp, k1, k2, k3, -⟩ := (x6.1.2 t _ ht).2
  obtain ⟨kE, hkE, -⟩ := Vm.findClass_spec k3
  have f3 : s.vm.assignable cellV.cls comp = true := by
    have : comp = cellV.cls := Option.some.inj (k3.symm.trans g3)
    rw [this]
    exact u_asg _ _
  obtain ⟨kC, hkC, -⟩ := Vm.findClass_spec g3
  refine W.aast x1 x2 hat (fun q h => by cases h) (fun h => by cases h) k1 k2 rfl hkE ⟨h0, by show _ < (arrV _ _ _).slots.size; rw [arrV_size]; exact hlt⟩ g1 (fun q h => by rw [h] at g2; cases g2) hkC f3 rfl rfl hdg fun H1 e z oq => ?_
  refine kk H1 _ z oq ?_ (S.put z oq ha)
  show H1[a]? = some (vp_cell _ _)
  rw [e]
  rw [vp_cell_q, vp_cell_q, arrV_store]
  congr 2
  funext q
  by_cases hq : q = i.toNatClampNeg
  · subst hq
    simp [updV, va_up, va_rf]
  · simp [updV, va_up, hq]
end KN
theorem dX8_init_0 : decode cX8_init 0 = .ok (.aload_n 0, 1) := by decide +kernel
theorem dX8_init_1 : decode cX8_init 1 = .ok (.invokespecial 1, 3) := by decide +kernel
theorem dX8_init_4 : decode cX8_init 4 = .ok (.aload_n 0, 1) := by decide +kernel
theorem dX8_init_5 : decode cX8_init 5 = .ok (.iconst (-1), 1) := by decide +kernel
theorem dX8_init_6 : decode cX8_init 6 = .ok (.putfield 7, 3) := by decide +kernel
theorem dX8_init_9 : decode cX8_init 9 = .ok (.aload_n 0, 1) := by decide +kernel
theorem dX8_init_10 : decode cX8_init 10 = .ok (.iconst (-1), 1) := by decide +kernel
theorem dX8_init_11 : decode cX8_init 11 = .ok (.putfield 13, 3) := by decide +kernel
theorem dX8_init_14 : decode cX8_init 14 = .ok (.aload_n 0, 1) := by decide +kernel
theorem dX8_init_15 : decode cX8_init 15 = .ok (.iconst (-1), 1) := by decide +kernel
theorem dX8_init_16 : decode cX8_init 16 = .ok (.putfield 16, 3) := by decide +kernel
theorem dX8_init_19 : decode cX8_init 19 = .ok (.aload_n 0, 1) := by decide +kernel
theorem dX8_init_20 : decode cX8_init 20 = .ok (.iconst (-1), 1) := by decide +kernel
theorem dX8_init_21 : decode cX8_init 21 = .ok (.putfield 19, 3) := by decide +kernel
theorem dX8_init_24 : decode cX8_init 24 = .ok (.aload_n 0, 1) := by decide +kernel
theorem dX8_init_25 : decode cX8_init 25 = .ok (.iconst (-1), 1) := by decide +kernel
theorem dX8_init_26 : decode cX8_init 26 = .ok (.putfield 22, 3) := by decide +kernel
theorem dX8_init_29 : decode cX8_init 29 = .ok (.aload_n 0, 1) := by decide +kernel
theorem dX8_init_30 : decode cX8_init 30 = .ok (.iconst 4, 1) := by decide +kernel
theorem dX8_init_31 : decode cX8_init 31 = .ok (.anewarray 25, 3) := by decide +kernel
theorem dX8_init_34 : decode cX8_init 34 = .ok (.dup, 1) := by decide +kernel
theorem dX8_init_35 : decode cX8_init 35 = .ok (.iconst 0, 1) := by decide +kernel
theorem dX8_init_36 : decode cX8_init 36 = .ok (.new 25, 3) := by decide +kernel
theorem dX8_init_39 : decode cX8_init 39 = .ok (.dup, 1) := by decide +kernel
theorem dX8_init_40 : decode cX8_init 40 = .ok (.invokespecial 27, 3) := by decide +kernel
theorem dX8_init_43 : decode cX8_init 43 = .ok (.aastore, 1) := by decide +kernel
theorem dX8_init_44 : decode cX8_init 44 = .ok (.dup, 1) := by decide +kernel
theorem dX8_init_45 : decode cX8_init 45 = .ok (.iconst 1, 1) := by decide +kernel
theorem dX8_init_46 : decode cX8_init 46 = .ok (.new 25, 3) := by decide +kernel
theorem dX8_init_49 : decode cX8_init 49 = .ok (.dup, 1) := by decide +kernel
theorem dX8_init_50 : decode cX8_init 50 = .ok (.invokespecial 27, 3) := by decide +kernel
theorem dX8_init_53 : decode cX8_init 53 = .ok (.aastore, 1) := by decide +kernel
theorem dX8_init_54 : decode cX8_init 54 = .ok (.dup, 1) := by decide +kernel
theorem dX8_init_55 : decode cX8_init 55 = .ok (.iconst 2, 1) := by decide +kernel
theorem dX8_init_56 : decode cX8_init 56 = .ok (.new 25, 3) := by decide +kernel
theorem dX8_init_59 : decode cX8_init 59 = .ok (.dup, 1) := by decide +kernel
theorem dX8_init_60 : decode cX8_init 60 = .ok (.invokespecial 27, 3) := by decide +kernel
theorem dX8_init_63 : decode cX8_init 63 = .ok (.aastore, 1) := by decide +kernel
theorem dX8_init_64 : decode cX8_init 64 = .ok (.dup, 1) := by decide +kernel
theorem dX8_init_65 : decode cX8_init 65 = .ok (.iconst 3, 1) := by decide +kernel
theorem dX8_init_66 : decode cX8_init 66 = .ok (.new 25, 3) := by decide +kernel
theorem dX8_init_69 : decode cX8_init 69 = .ok (.dup, 1) := by decide +kernel
theorem dX8_init_70 : decode cX8_init 70 = .ok (.invokespecial 27, 3) := by decide +kernel
theorem dX8_init_73 : decode cX8_init 73 = .ok (.aastore, 1) := by decide +kernel
theorem dX8_init_74 : decode cX8_init 74 = .ok (.putfield 28, 3) := by decide +kernel
theorem dX8_init_77 : decode cX8_init 77 = .ok (.aload_n 0, 1) := by decide +kernel
theorem dX8_init_78 : decode cX8_init 78 = .ok (.iload_n 1, 1) := by decide +kernel
theorem dX8_init_79 : decode cX8_init 79 = .ok (.putfield 32, 3) := by decide +kernel
theorem dX8_init_82 : decode cX8_init 82 = .ok (.aload_n 0, 1) := by decide +kernel
theorem dX8_init_83 : decode cX8_init 83 = .ok (.iload_n 2, 1) := by decide +kernel
theorem dX8_init_84 : decode cX8_init 84 = .ok (.putfield 35, 3) := by decide +kernel
theorem dX8_init_87 : decode cX8_init 87 = .ok (.aload_n 0, 1) := by decide +kernel
theorem dX8_init_88 : decode cX8_init 88 = .ok (.iload_n 3, 1) := by decide +kernel
theorem dX8_init_89 : decode cX8_init 89 = .ok (.putfield 38, 3) := by decide +kernel
theorem dX8_init_92 : decode cX8_init 92 = .ok (.return_, 1) := by decide +kernel
theorem kv_X8_init : KI yX8_init cX8_init 4 3 := ⟨tw_4_23, tw_4_22, tw_1_9, rfl, by decide, by decide, by decide +kernel⟩
theorem dX9_init_0 : decode cX9_init 0 = .ok (.aload_n 0, 1) := by decide +kernel
theorem dX9_init_1 : decode cX9_init 1 = .ok (.invokespecial 1, 3) := by decide +kernel
theorem dX9_init_4 : decode cX9_init 4 = .ok (.return_, 1) := by decide +kernel
theorem kv_X9_init : KI yX9_init cX9_init 1 0 := ⟨tw_3_166, tw_3_165, tw_1_4, rfl, by decide, by decide, by decide +kernel⟩
theorem dX10_init_0 : decode cX10_init 0 = .ok (.aload_n 0, 1) := by decide +kernel
theorem dX10_init_1 : decode cX10_init 1 = .ok (.invokespecial 1, 3) := by decide +kernel
theorem dX10_init_4 : decode cX10_init 4 = .ok (.aload_n 0, 1) := by decide +kernel
theorem dX10_init_5 : decode cX10_init 5 = .ok (.iconst (-1), 1) := by decide +kernel
theorem dX10_init_6 : decode cX10_init 6 = .ok (.putfield 7, 3) := by decide +kernel
theorem dX10_init_9 : decode cX10_init 9 = .ok (.aload_n 0, 1) := by decide +kernel
theorem dX10_init_10 : decode cX10_init 10 = .ok (.iconst 4, 1) := by decide +kernel
theorem dX10_init_11 : decode cX10_init 11 = .ok (.newarray .int, 2) := by decide +kernel
theorem dX10_init_13 : decode cX10_init 13 = .ok (.dup, 1) := by decide +kernel
theorem dX10_init_14 : decode cX10_init 14 = .ok (.iconst 0, 1) := by decide +kernel
theorem dX10_init_15 : decode cX10_init 15 = .ok (.iconst (-1), 1) := by decide +kernel
theorem dX10_init_16 : decode cX10_init 16 = .ok (.iastore, 1) := by decide +kernel
theorem dX10_init_17 : decode cX10_init 17 = .ok (.dup, 1) := by decide +kernel
theorem dX10_init_18 : decode cX10_init 18 = .ok (.iconst 1, 1) := by decide +kernel
theorem dX10_init_19 : decode cX10_init 19 = .ok (.iconst (-1), 1) := by decide +kernel
theorem dX10_init_20 : decode cX10_init 20 = .ok (.iastore, 1) := by decide +kernel
theorem dX10_init_21 : decode cX10_init 21 = .ok (.dup, 1) := by decide +kernel
theorem dX10_init_22 : decode cX10_init 22 = .ok (.iconst 2, 1) := by decide +kernel
theorem dX10_init_23 : decode cX10_init 23 = .ok (.iconst (-1), 1) := by decide +kernel
theorem dX10_init_24 : decode cX10_init 24 = .ok (.iastore, 1) := by decide +kernel
theorem dX10_init_25 : decode cX10_init 25 = .ok (.dup, 1) := by decide +kernel
theorem dX10_init_26 : decode cX10_init 26 = .ok (.iconst 3, 1) := by decide +kernel
theorem dX10_init_27 : decode cX10_init 27 = .ok (.iconst (-1), 1) := by decide +kernel
theorem dX10_init_28 : decode cX10_init 28 = .ok (.iastore, 1) := by decide +kernel
theorem dX10_init_29 : decode cX10_init 29 = .ok (.putfield 13, 3) := by decide +kernel
theorem dX10_init_32 : decode cX10_init 32 = .ok (.return_, 1) := by decide +kernel
theorem kv_X10_init : KI yX10_init cX10_init 1 0 := ⟨tw_4_30, tw_4_29, tw_1_10, rfl, by decide, by decide, by decide +kernel⟩
abbrev e_kn (b : Nat) : va_E := .inr (10, [.int 0, .int 0, .int (-1), .int 0, .ref b])
abbrev e_m4 (G : Gx) : va_E := .inl (G.2.1 0, 4, .inl (upd (upd (upd (upd (fun _ => 0) 0 (-1)) 1 (-1)) 2 (-1)) 3 (-1)))
abbrev e_c0 (a b c : Int32) (y : Nat) : va_E := .inr (8, [.int a, .int b, .int c, .int 0, .int (-1), .int (-1), .int (-1), .int 0, .int (-1), .int 0, .int (-1), .ref y])
set_option maxHeartbeats 4000000 in
set_option maxRecDepth 100000 in
theorem k_carinit (l : Launch) (G : Gx) (a : Nat) (sz : Nat) : k_M l yX9_init cX9_init 1 none 1 12 0 0 G (fun H => True) sz [.ref a] none (fun H => H.size = sz) (fun q => False) := by
  refine k_begin (by decide +kernel) (Nat.le_of_ble_eq_true rfl) [(0, .ref a)] rfl (fun p e s m args below meth c ls C hnm hsz hP hO hl => ?_)
  have S : va_S (fun q => False) s.heap s.heap [] := va_S.rf
  refine lv_aload_n C.1 C.2.1 dX9_init_0 rfl (lv_at hl 0 rfl) ?_
  refine u_obj C tw_3_167 hl.1 (Nat.le_of_ble_eq_true rfl) (Nat.le_of_ble_eq_true rfl) dX9_init_1 ?_
  exact k_vret C S hsz (Nat.le_of_ble_eq_true rfl) (Nat.le_of_ble_eq_true rfl) dX9_init_4
set_option maxHeartbeats 4000000 in
set_option maxRecDepth 100000 in
theorem k_kninit (l : Launch) (G : Gx) (a : Nat) (sz : Nat) : k_M l yX10_init cX10_init 1 none 1 30 1 4 G (fun H => va_at G.1 z_cl (a, .inr (10, [.int 0, .int 0, .int 0, .int 0, .null])) H) sz [.ref a] none (fun H => H.size = sz + 1 ∧ va_at G.1 z_cl (a, e_kn sz) H ∧ va_at G.1 z_cl (sz, e_m4 G) H) (fun q => q = a ∨ sz ≤ q) := by
  refine k_begin (by decide +kernel) (Nat.le_of_ble_eq_true rfl) [(0, .ref a)] rfl (fun p e s m args below meth c ls C hnm hsz hP hO hl => ?_)
  have S : va_S (fun q => q = a ∨ sz ≤ q) s.heap s.heap [] := va_S.rf
  have haL := hP.lt
  refine lv_aload_n C.1 C.2.1 dX10_init_0 rfl (lv_at hl 0 rfl) ?_
  refine u_obj C tw_4_31 hl.1 (Nat.le_of_ble_eq_true rfl) (Nat.le_of_ble_eq_true rfl) dX10_init_1 ?_
  refine lv_aload_n C.1 C.2.1 dX10_init_4 rfl (lv_at hl 0 rfl) ?_
  refine lv_iconst (v := -1) C.1 C.2.1 dX10_init_5 (by decide) ?_
  refine u_put C S hP (Or.inl rfl) cf_10 2 (by decide) (Nat.le_of_ble_eq_true rfl) rfl rfl rfl tw_4_34 dX10_init_6 (fun H1 locs1 z1 o1 g0 S => ?_)
  refine lv_aload_n C.1 C.2.1 dX10_init_9 rfl (lv_at hl 0 rfl) ?_
  refine lv_iconst (v := 4) C.1 C.2.1 dX10_init_10 (by decide) ?_
  refine u_newI C S 4 (by decide) (by decide) (Nat.le_of_ble_eq_true rfl) (Nat.le_of_ble_eq_true rfl) (Nat.le_of_ble_eq_true rfl) dX10_init_11 (fun H2 z2 o2 x1 S => ?_)
  have g0 := va_at.kept g0 (o2 _ g0.lt)
  have e9 : H1.size = sz := z1.trans hsz
  rw [e9] at x1 z2
  rw [e9]
  refine lv_dup C.1 C.2.1 dX10_init_13 rfl ?_
  refine lv_iconst (v := 0) C.1 C.2.1 dX10_init_14 (by decide) ?_
  refine lv_iconst (v := -1) C.1 C.2.1 dX10_init_15 (by decide) ?_
  refine u_iast C S x1 (Or.inr (Nat.le_refl _)) (by decide) dX10_init_16 (fun H3 locs3 z3 o3 x2 S => ?_)
  have g0 := va_at.kept g0 (o3 _ (by omega))
  refine lv_dup C.1 C.2.1 dX10_init_17 rfl ?_
  refine lv_iconst (v := 1) C.1 C.2.1 dX10_init_18 (by decide) ?_
  refine lv_iconst (v := -1) C.1 C.2.1 dX10_init_19 (by decide) ?_
  refine u_iast C S x2 (Or.inr (Nat.le_refl _)) (by decide) dX10_init_20 (fun H4 locs4 z4 o4 x3 S => ?_)
  have g0 := va_at.kept g0 (o4 _ (by omega))
  refine lv_dup C.1 C.2.1 dX10_init_21 rfl ?_
  refine lv_iconst (v := 2) C.1 C.2.1 dX10_init_22 (by decide) ?_
  refine lv_iconst (v := -1) C.1 C.2.1 dX10_init_23 (by decide) ?_
  refine u_iast C S x3 (Or.inr (Nat.le_refl _)) (by decide) dX10_init_24 (fun H5 locs5 z5 o5 x4 S => ?_)
  have g0 := va_at.kept g0 (o5 _ (by omega))
  refine lv_dup C.1 C.2.1 dX10_init_25 rfl ?_
  refine lv_iconst (v := 3) C.1 C.2.1 dX10_init_26 (by decide) ?_
  refine lv_iconst (v := -1) C.1 C.2.1 dX10_init_27 (by decide) ?_
  refine u_iast C S x4 (Or.inr (Nat.le_refl _)) (by decide) dX10_init_28 (fun H6 locs6 z6 o6 x5 S => ?_)
  have g0 := va_at.kept g0 (o6 _ (by omega))
  refine u_putF C (hnm.trans rfl) S g0 (Or.inl rfl) cf_10 4 (by decide) (Nat.le_of_ble_eq_true rfl) rfl rfl rfl rfl tw_4_37 dX10_init_29 (fun H7 locs7 z7 o7 g0 S => ?_)
  exact k_vret C S ⟨by rw [z7, z6, z5, z4, z3, z2], g0, x5.kept (o7 _ (by omega))⟩ (Nat.le_of_ble_eq_true rfl) (Nat.le_of_ble_eq_true rfl) dX10_init_32
set_option maxHeartbeats 4000000 in
set_option maxRecDepth 100000 in
theorem k_callinit (l : Launch) (G : Gx) (a : Nat) (v1 v2 v3 : Int32) (hGa : G.2.2.1.size ≤ a) (sz : Nat) : k_M l yX8_init cX8_init 4 none 2 50 9 40 G (fun H => va_at G.1 z_cl (a, .inr (8, [.int 0, .int 0, .int 0, .int 0, .int 0, .int 0, .int 0, .int 0, .int 0, .int 0, .int 0, .null])) H) sz [.ref a, .int v1, .int v2, .int v3] none (fun H => H.size = sz + 9 ∧ va_at G.1 z_cl (a, e_c0 v1 v2 v3 sz) H ∧ va_at G.1 z_cl (sz, .inl (G.2.1 4, 4, .inr (.inr (.inr (.inr (va_up (va_up (va_up (va_up (fun _ => none) 0 (some (sz + 1))) 1 (some (sz + 3))) 2 (some (sz + 5))) 3 (some (sz + 7)))))))) H ∧ va_at G.1 z_cl (sz + 1, e_kn (sz + 2)) H ∧ va_at G.1 z_cl (sz + 2, e_m4 G) H ∧ va_at G.1 z_cl (sz + 3, e_kn (sz + 4)) H ∧ va_at G.1 z_cl (sz + 4, e_m4 G) H ∧ va_at G.1 z_cl (sz + 5, e_kn (sz + 6)) H ∧ va_at G.1 z_cl (sz + 6, e_m4 G) H ∧ va_at G.1 z_cl (sz + 7, e_kn (sz + 8)) H ∧ va_at G.1 z_cl (sz + 8, e_m4 G) H) (fun q => q = a ∨ sz ≤ q) := by
  refine k_begin (by decide +kernel) (Nat.le_of_ble_eq_true rfl) [(0, .ref a), (1, .int v1), (2, .int v2), (3, .int v3)] rfl (fun p e s m args below meth c ls C hnm hsz hP hO hl => ?_)
  have S : va_S (fun q => q = a ∨ sz ≤ q) s.heap s.heap [] := va_S.rf
  have hGa' := hGa
  have haL := hP.lt
  refine lv_aload_n C.1 C.2.1 dX8_init_0 rfl (lv_at hl 0 rfl) ?_
  refine u_obj C tw_4_24 hl.1 (Nat.le_of_ble_eq_true rfl) (Nat.le_of_ble_eq_true rfl) dX8_init_1 ?_
  refine lv_aload_n C.1 C.2.1 dX8_init_4 rfl (lv_at hl 0 rfl) ?_
  refine lv_iconst (v := -1) C.1 C.2.1 dX8_init_5 (by decide) ?_
  refine u_put C S hP (Or.inl rfl) cf_8 4 (by decide) (Nat.le_of_ble_eq_true rfl) rfl rfl rfl tw_4_57 dX8_init_6 (fun H locs z4 o4 g0 S => ?_)
  replace hO := hO.put z4 o4 hGa
  refine lv_aload_n C.1 C.2.1 dX8_init_9 rfl (lv_at hl 0 rfl) ?_
  refine lv_iconst (v := -1) C.1 C.2.1 dX8_init_10 (by decide) ?_
  refine u_put C S g0 (Or.inl rfl) cf_8 5 (by decide) (Nat.le_of_ble_eq_true rfl) rfl rfl rfl tw_4_59 dX8_init_11 (fun H locs z5 o5 g0 S => ?_)
  replace hO := hO.put z5 o5 hGa
  refine lv_aload_n C.1 C.2.1 dX8_init_14 rfl (lv_at hl 0 rfl) ?_
  refine lv_iconst (v := -1) C.1 C.2.1 dX8_init_15 (by decide) ?_
  refine u_put C S g0 (Or.inl rfl) cf_8 6 (by decide) (Nat.le_of_ble_eq_true rfl) rfl rfl rfl tw_4_61 dX8_init_16 (fun H locs z6 o6 g0 S => ?_)
  replace hO := hO.put z6 o6 hGa
  refine lv_aload_n C.1 C.2.1 dX8_init_19 rfl (lv_at hl 0 rfl) ?_
  refine lv_iconst (v := -1) C.1 C.2.1 dX8_init_20 (by decide) ?_
  refine u_put C S g0 (Or.inl rfl) cf_8 8 (by decide) (Nat.le_of_ble_eq_true rfl) rfl rfl rfl tw_4_64 dX8_init_21 (fun H locs z8 o8 g0 S => ?_)
  replace hO := hO.put z8 o8 hGa
  refine lv_aload_n C.1 C.2.1 dX8_init_24 rfl (lv_at hl 0 rfl) ?_
  refine lv_iconst (v := -1) C.1 C.2.1 dX8_init_25 (by decide) ?_
  refine u_put C S g0 (Or.inl rfl) cf_8 10 (by decide) (Nat.le_of_ble_eq_true rfl) rfl rfl rfl tw_4_67 dX8_init_26 (fun H locs z10 o10 g0 S => ?_)
  replace hO := hO.put z10 o10 hGa
  have zz : H.size = sz := by rw [z10, z8, z6, z5, z4, hsz]
  refine lv_aload_n C.1 C.2.1 dX8_init_29 rfl (lv_at hl 0 rfl) ?_
  refine lv_iconst (v := 4) C.1 C.2.1 dX8_init_30 (by decide) ?_
  refine u_newQ C S (t := 4) rfl C.2.2.2.2.2.1.2.2.2.2.2.2.2.2.2.2.2.1.2 tw_4_25 4 (by decide) (by decide) (Nat.le_of_ble_eq_true rfl) (Nat.le_of_ble_eq_true rfl) (Nat.le_of_ble_eq_true rfl) dX8_init_31 (fun Hs0 zA oA xA S => ?_)
  replace hO := hO.grow zA oA
  replace g0 := va_at.kept g0 (oA _ g0.lt)
  rw [zz] at xA zA
  rw [zz]
  refine lv_dup C.1 C.2.1 dX8_init_34 rfl ?_
  refine lv_iconst (v := 0) C.1 C.2.1 dX8_init_35 (by decide) ?_
  refine u_newO C S cf_10 tw_4_25 tw_4_27 tw_1_10 (fs := [.int 0, .int 0, .int 0, .int 0, .null]) (fun j hj => by rcases (show j = 0 ∨ j = 1 ∨ j = 2 ∨ j = 3 ∨ j = 4 by omega) with rfl | rfl | rfl | rfl | rfl <;> rfl) (Nat.le_of_ble_eq_true rfl) (Nat.le_of_ble_eq_true rfl) dX8_init_36 (fun Ha0 zN oN nw S => ?_)
  have hO1 := hO.grow zN oN
  rw [zA] at nw zN oN
  rw [zA]
  refine lv_dup C.1 C.2.1 dX8_init_39 rfl ?_
  refine k_callIN C S hO1 [] (k_kninit l G (sz + 1) (sz + 1 + 1)) zN nw kv_X10_init (List.mem_of_getElem? (i := 21) rfl) ⟨(Nat.le_of_ble_eq_true rfl), (Nat.le_of_ble_eq_true rfl)⟩ rfl rfl (Nat.le_of_ble_eq_true rfl) hl.1 ⟨(Nat.le_of_ble_eq_true rfl), (Nat.le_of_ble_eq_true rfl)⟩ dX8_init_40 (fun q h => by rcases h with h | h <;> exact Or.inr (by omega)) (fun Hb0 locs2 hp hle ok S => ?_)
  obtain ⟨zK, k0, b0⟩ := hp
  have hO2 := hO1.call hle ok (fun q hq h => by have := hO1.1; have := hO.1; omega)
  have rr : ∀ q : Nat, q < sz + 1 → Hb0[q]? = Hs0[q]? := fun q hq => (ok q (by omega) (by omega)).trans (oN q hq)
  refine u_aastS C S 4 (va_at.kept xA (rr _ (by omega))) (Or.inr (Nat.le_refl _)) rfl (u_clsO C.2.2.2.2.2.1 k0 cf_10.1) (by decide) dX8_init_43 (fun Hs1 locs3 zS oS xA S => ?_)
  have hO3 := hO2.put zS oS (by have := hO.1; omega)
  have r3 : ∀ q : Nat, q < sz + 1 → q ≠ sz → Hs1[q]? = Hs0[q]? := fun q hq hn => (oS q hn).trans (rr q hq)
  replace k0 := va_at.kept k0 (oS _ (by omega))
  replace b0 := va_at.kept b0 (oS _ (by omega))
  replace g0 := va_at.kept g0 (r3 _ (by omega) (by omega))
  have zI0 : Hs1.size = sz + 3 := by rw [zS, zK]
  clear oS zS rr r3 ok hle zK oN nw zN hO hO1 hO2
  have hO := hO3
  clear hO3
  refine lv_dup C.1 C.2.1 dX8_init_44 rfl ?_
  refine lv_iconst (v := 1) C.1 C.2.1 dX8_init_45 (by decide) ?_
  refine u_newO C S cf_10 tw_4_25 tw_4_27 tw_1_10 (fs := [.int 0, .int 0, .int 0, .int 0, .null]) (fun j hj => by rcases (show j = 0 ∨ j = 1 ∨ j = 2 ∨ j = 3 ∨ j = 4 by omega) with rfl | rfl | rfl | rfl | rfl <;> rfl) (Nat.le_of_ble_eq_true rfl) (Nat.le_of_ble_eq_true rfl) dX8_init_46 (fun Ha1 zN oN nw S => ?_)
  have hO1 := hO.grow zN oN
  rw [zI0] at nw zN oN
  rw [zI0]
  refine lv_dup C.1 C.2.1 dX8_init_49 rfl ?_
  refine k_callIN C S hO1 [] (k_kninit l G (sz + 3) (sz + 3 + 1)) zN nw kv_X10_init (List.mem_of_getElem? (i := 21) rfl) ⟨(Nat.le_of_ble_eq_true rfl), (Nat.le_of_ble_eq_true rfl)⟩ rfl rfl (Nat.le_of_ble_eq_true rfl) hl.1 ⟨(Nat.le_of_ble_eq_true rfl), (Nat.le_of_ble_eq_true rfl)⟩ dX8_init_50 (fun q h => by rcases h with h | h <;> exact Or.inr (by omega)) (fun Hb1 locs2 hp hle ok S => ?_)
  obtain ⟨zK, k1, b1⟩ := hp
  have hO2 := hO1.call hle ok (fun q hq h => by have := hO1.1; have := hO.1; omega)
  have rr : ∀ q : Nat, q < sz + 3 → Hb1[q]? = Hs1[q]? := fun q hq => (ok q (by omega) (by omega)).trans (oN q hq)
  refine u_aastS C S 4 (va_at.kept xA (rr _ (by omega))) (Or.inr (Nat.le_refl _)) rfl (u_clsO C.2.2.2.2.2.1 k1 cf_10.1) (by decide) dX8_init_53 (fun Hs2 locs3 zS oS xA S => ?_)
  have hO3 := hO2.put zS oS (by have := hO.1; omega)
  have r3 : ∀ q : Nat, q < sz + 3 → q ≠ sz → Hs2[q]? = Hs1[q]? := fun q hq hn => (oS q hn).trans (rr q hq)
  replace k1 := va_at.kept k1 (oS _ (by omega))
  replace b1 := va_at.kept b1 (oS _ (by omega))
  replace g0 := va_at.kept g0 (r3 _ (by omega) (by omega))
  replace k0 := va_at.kept k0 (r3 _ (by omega) (by omega))
  replace b0 := va_at.kept b0 (r3 _ (by omega) (by omega))
  have zI1 : Hs2.size = sz + 5 := by rw [zS, zK]
  clear oS zS rr r3 ok hle zK oN nw zN hO hO1 hO2
  have hO := hO3
  clear hO3
  refine lv_dup C.1 C.2.1 dX8_init_54 rfl ?_
  refine lv_iconst (v := 2) C.1 C.2.1 dX8_init_55 (by decide) ?_
  refine u_newO C S cf_10 tw_4_25 tw_4_27 tw_1_10 (fs := [.int 0, .int 0, .int 0, .int 0, .null]) (fun j hj => by rcases (show j = 0 ∨ j = 1 ∨ j = 2 ∨ j = 3 ∨ j = 4 by omega) with rfl | rfl | rfl | rfl | rfl <;> rfl) (Nat.le_of_ble_eq_true rfl) (Nat.le_of_ble_eq_true rfl) dX8_init_56 (fun Ha2 zN oN nw S => ?_)
  have hO1 := hO.grow zN oN
  rw [zI1] at nw zN oN
  rw [zI1]
  refine lv_dup C.1 C.2.1 dX8_init_59 rfl ?_
  refine k_callIN C S hO1 [] (k_kninit l G (sz + 5) (sz + 5 + 1)) zN nw kv_X10_init (List.mem_of_getElem? (i := 21) rfl) ⟨(Nat.le_of_ble_eq_true rfl), (Nat.le_of_ble_eq_true rfl)⟩ rfl rfl (Nat.le_of_ble_eq_true rfl) hl.1 ⟨(Nat.le_of_ble_eq_true rfl), (Nat.le_of_ble_eq_true rfl)⟩ dX8_init_60 (fun q h => by rcases h with h | h <;> exact Or.inr (by omega)) (fun Hb2 locs2 hp hle ok S => ?_)
  obtain ⟨zK, k2, b2⟩ := hp
  have hO2 := hO1.call hle ok (fun q hq h => by have := hO1.1; have := hO.1; omega)
  have rr : ∀ q : Nat, q < sz + 5 → Hb2[q]? = Hs2[q]? := fun q hq => (ok q (by omega) (by omega)).trans (oN q hq)
  refine u_aastS C S 4 (va_at.kept xA (rr _ (by omega))) (Or.inr (Nat.le_refl _)) rfl (u_clsO C.2.2.2.2.2.1 k2 cf_10.1) (by decide) dX8_init_63 (fun Hs3 locs3 zS oS xA S => ?_)
  have hO3 := hO2.put zS oS (by have := hO.1; omega)
  have r3 : ∀ q : Nat, q < sz + 5 → q ≠ sz → Hs3[q]? = Hs2[q]? := fun q hq hn => (oS q hn).trans (rr q hq)
  replace k2 := va_at.kept k2 (oS _ (by omega))
  replace b2 := va_at.kept b2 (oS _ (by omega))
  replace g0 := va_at.kept g0 (r3 _ (by omega) (by omega))
  replace k0 := va_at.kept k0 (r3 _ (by omega) (by omega))
  replace b0 := va_at.kept b0 (r3 _ (by omega) (by omega))
  replace k1 := va_at.kept k1 (r3 _ (by omega) (by omega))
  replace b1 := va_at.kept b1 (r3 _ (by omega) (by omega))
  have zI2 : Hs3.size = sz + 7 := by rw [zS, zK]
  clear oS zS rr r3 ok hle zK oN nw zN hO hO1 hO2
  have hO := hO3
  clear hO3
  refine lv_dup C.1 C.2.1 dX8_init_64 rfl ?_
  refine lv_iconst (v := 3) C.1 C.2.1 dX8_init_65 (by decide) ?_
  refine u_newO C S cf_10 tw_4_25 tw_4_27 tw_1_10 (fs := [.int 0, .int 0, .int 0, .int 0, .null]) (fun j hj => by rcases (show j = 0 ∨ j = 1 ∨ j = 2 ∨ j = 3 ∨ j = 4 by omega) with rfl | rfl | rfl | rfl | rfl <;> rfl) (Nat.le_of_ble_eq_true rfl) (Nat.le_of_ble_eq_true rfl) dX8_init_66 (fun Ha3 zN oN nw S => ?_)
  have hO1 := hO.grow zN oN
  rw [zI2] at nw zN oN
  rw [zI2]
  refine lv_dup C.1 C.2.1 dX8_init_69 rfl ?_
  refine k_callIN C S hO1 [] (k_kninit l G (sz + 7) (sz + 7 + 1)) zN nw kv_X10_init (List.mem_of_getElem? (i := 21) rfl) ⟨(Nat.le_of_ble_eq_true rfl), (Nat.le_of_ble_eq_true rfl)⟩ rfl rfl (Nat.le_of_ble_eq_true rfl) hl.1 ⟨(Nat.le_of_ble_eq_true rfl), (Nat.le_of_ble_eq_true rfl)⟩ dX8_init_70 (fun q h => by rcases h with h | h <;> exact Or.inr (by omega)) (fun Hb3 locs2 hp hle ok S => ?_)
  obtain ⟨zK, k3, b3⟩ := hp
  have hO2 := hO1.call hle ok (fun q hq h => by have := hO1.1; have := hO.1; omega)
  have rr : ∀ q : Nat, q < sz + 7 → Hb3[q]? = Hs3[q]? := fun q hq => (ok q (by omega) (by omega)).trans (oN q hq)
  refine u_aastS C S 4 (va_at.kept xA (rr _ (by omega))) (Or.inr (Nat.le_refl _)) rfl (u_clsO C.2.2.2.2.2.1 k3 cf_10.1) (by decide) dX8_init_73 (fun Hs4 locs3 zS oS xA S => ?_)
  have hO3 := hO2.put zS oS (by have := hO.1; omega)
  have r3 : ∀ q : Nat, q < sz + 7 → q ≠ sz → Hs4[q]? = Hs3[q]? := fun q hq hn => (oS q hn).trans (rr q hq)
  replace k3 := va_at.kept k3 (oS _ (by omega))
  replace b3 := va_at.kept b3 (oS _ (by omega))
  replace g0 := va_at.kept g0 (r3 _ (by omega) (by omega))
  replace k0 := va_at.kept k0 (r3 _ (by omega) (by omega))
  replace b0 := va_at.kept b0 (r3 _ (by omega) (by omega))
  replace k1 := va_at.kept k1 (r3 _ (by omega) (by omega))
  replace b1 := va_at.kept b1 (r3 _ (by omega) (by omega))
  replace k2 := va_at.kept k2 (r3 _ (by omega) (by omega))
  replace b2 := va_at.kept b2 (r3 _ (by omega) (by omega))
  have zI3 : Hs4.size = sz + 9 := by rw [zS, zK]
  clear oS zS rr r3 ok hle zK oN nw zN hO hO1 hO2
  have hO := hO3
  clear hO3
  refine u_putF C (hnm.trans rfl) S g0 (Or.inl rfl) cf_8 11 (by decide) (Nat.le_of_ble_eq_true rfl) rfl rfl rfl rfl tw_4_69 dX8_init_74 (fun H5 locs zP oP g0 S => ?_)
  refine lv_aload_n C.1 C.2.1 dX8_init_77 rfl (lv_at hl 0 rfl) ?_
  refine lv_iload_n C.1 C.2.1 dX8_init_78 rfl (lv_at hl 1 rfl) ?_
  refine u_putF C (hnm.trans rfl) S g0 (Or.inl rfl) cf_8 0 (by decide) (Nat.le_of_ble_eq_true rfl) rfl rfl rfl rfl tw_4_50 dX8_init_79 (fun H6 locs zQ0 oQ0 g0 S => ?_)
  refine lv_aload_n C.1 C.2.1 dX8_init_82 rfl (lv_at hl 0 rfl) ?_
  refine lv_iload_n C.1 C.2.1 dX8_init_83 rfl (lv_at hl 2 rfl) ?_
  refine u_putF C (hnm.trans rfl) S g0 (Or.inl rfl) cf_8 1 (by decide) (Nat.le_of_ble_eq_true rfl) rfl rfl rfl rfl tw_4_52 dX8_init_84 (fun H7 locs zQ1 oQ1 g0 S => ?_)
  refine lv_aload_n C.1 C.2.1 dX8_init_87 rfl (lv_at hl 0 rfl) ?_
  refine lv_iload_n C.1 C.2.1 dX8_init_88 rfl (lv_at hl 3 rfl) ?_
  refine u_putF C (hnm.trans rfl) S g0 (Or.inl rfl) cf_8 2 (by decide) (Nat.le_of_ble_eq_true rfl) rfl rfl rfl rfl tw_4_54 dX8_init_89 (fun H8 locs zQ2 oQ2 g0 S => ?_)
  have rf : ∀ q : Nat, q ≠ a → H8[q]? = Hs4[q]? := fun q hq => by rw [oQ2 q hq, oQ1 q hq, oQ0 q hq, oP q hq]
  clear oQ2 oQ1 oQ0 oP
  exact k_vret C S ⟨by rw [zQ2, zQ1, zQ0, zP, zI3], g0, va_at.kept xA (rf _ (by omega)), va_at.kept k0 (rf _ (by omega)), va_at.kept b0 (rf _ (by omega)), va_at.kept k1 (rf _ (by omega)), va_at.kept b1 (rf _ (by omega)), va_at.kept k2 (rf _ (by omega)), va_at.kept b2 (rf _ (by omega)), va_at.kept k3 (rf _ (by omega)), va_at.kept b3 (rf _ (by omega))⟩ (Nat.le_of_ble_eq_true rfl) (Nat.le_of_ble_eq_true rfl) dX8_init_92
