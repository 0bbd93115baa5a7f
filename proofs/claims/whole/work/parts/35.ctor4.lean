/-- the contract of the two constructors that the law calls -/
def y_PT (G : Gx) (a ci : Nat) (fs : List Value) (U : State) : Prop := U.heap.size = a + 1 ∧ va_at G.1 z_cl (a, .inr (ci, fs)) U.heap ∧ y_K G U ∧ G.2.2.1.size ≤ a ∧ ∀ q, q < G.2.2.1.size → U.heap[q]? = G.2.2.1[q]?
def y_MT (l : Launch) (y : MethodName) (bytes : ByteArray) (maxL fr lo mc ms : Nat) (G : Gx) (a ci : Nat) (fs : List Value) (D : Heap → Prop) : Prop :=
  Met l y (z_ws y bytes maxL none) { frames := fr, cells := mc, slots := ms, locals := lo } (va_Pc [.ref a] (y_PT G a ci fs)) (va_Qv (S := Unit) (fun _ => True) (fun _ t => D t.heap) (fun q => a ≤ q)) mc ms (fun q => a ≤ q)
theorem y_beginT {l : Launch} {y : MethodName} {bytes : ByteArray} {maxL fr lo mc ms : Nat} {G : Gx} {a ci : Nat} {fs : List Value} {D : Heap → Prop} (hy : plainName y.cls = true) (hy1 : y.name = "<init>") (hl : 1 ≤ maxL)
    (body : ∀ (p : Program) (e : Env) (s : State) (m : MethodId) (args : Array Value) (below : List Frame) (meth : Method) (c : Code) (ls : Array Slot), y_C p s m args meth c y.cls bytes maxL G → s.heap.size = a + 1 → va_at G.1 z_cl (a, .inr (ci, fs)) s.heap → G.2.2.1.size ≤ a → (∀ q, q < G.2.2.1.size → s.heap[q]? = G.2.2.1[q]?) → y_S a s s.heap [] → lv_has ls maxL [(0, .ref a)] →
      W p l e { frames := fr, cells := mc, slots := ms, locals := lo } s m args below meth c s.heap [] 0 0 (MQ below (va_Qv (S := Unit) (fun _ => True) (fun _ t => D t.heap) (fun q => a ≤ q)) args s mc ms (fun q => a ≤ q)) (F0 m 0 ls [])) :
    y_MT l y bytes maxL fr lo mc ms G a ci fs D := by
  refine Met.ofW (cc := bytes) (maxL := maxL) (ret := none) hy rfl ?_
  intro p e s m args below meth c s₁ B hml hv
  obtain ⟨rfl, hsz, hat, hK, hb1, hb2⟩ := hv
  have hts := atoms_spec (ws := z_ws y bytes maxL none) B.pre
  have hl0 := lv_entry [Value.ref a] (show (lg_sl [Value.ref a]).length ≤ maxL from hl)
  rw [lg_entry_eq]
  exact body p e s m _ below meth c _ ⟨⟨B.exec, B.bytes, hml, findClass_of_methodNamed B.named, fun w hw => hts w (List.mem_cons_of_mem _ hw), hK.1, B.notSynchronized, B.returns⟩, hK, (name_of_methodNamed B.named B.method).1.trans hy1⟩ hsz hat hb1 hb2 va_S.rf hl0
theorem y_retT {p : Program} {l : Launch} {e : Env} {R : Room} {s : State} {m : MethodId} {args : Array Value} {below : List Frame} {meth : Method} {c : Code} {H : Heap} {locs : List Loc} {cells slots mc ms : Nat} {cc : ByteArray} {pc : Nat} {ls : Array Slot} {own : String} {nL : Nat} {G : Gx} {b0 : Nat} {D : Heap → Prop} (C : y_C p s m args meth c own cc nL G) (S : y_S b0 s H locs) (hD : D H) (hc : cells ≤ mc) (hs : slots ≤ ms) (hdg : decode cc pc = .ok (.return_, 1)) :
    W p l e R s m args below meth c H locs cells slots (MQ below (va_Qv (S := Unit) (fun _ => True) (fun _ t => D t.heap) (fun q => b0 ≤ q)) args s mc ms (fun q => b0 ≤ q)) (F0 m pc ls []) := by
  obtain ⟨⟨x1, x2, x3, x4, x5, x6, x7, x8⟩, -, -⟩ := C
  exact W.widen hc hs (W.vret x1 x2 x8 (fun t ht hW => ⟨⟨(), rfl, trivial, by show D t.heap; rw [ht]; exact hD⟩, S.F ht⟩) S.2.2 hdg x7)
theorem y_low {s : State} {H : Heap} {locs : List Loc} {a : Nat} {G : Gx} (S : y_S a s H locs) (hz : s.heap.size = a + 1) (h1 : G.2.2.1.size ≤ a) (h2 : ∀ q, q < G.2.2.1.size → s.heap[q]? = G.2.2.1[q]?) : ∀ q, q < G.2.2.1.size → H[q]? = G.2.2.1[q]? :=
  fun q hq => (S.2.1 q (by omega) (by omega)).trans (h2 q hq)
theorem y_lowA0 (a : Nat) : ∀ k o, z_side k = 0 → o < z_cnt k → a ≤ z_ad a 0 k o := fun k o hk ho => by
  obtain ⟨i, -, e1, -⟩ := y_key0 a k o hk ho
  rw [e1]; exact Nat.le_add_right _ _
theorem y_lowA1 (a : Nat) : ∀ k o, z_side k = 1 → o < z_cnt k → a ≤ z_ad 0 a k o := fun k o hk ho => by
  obtain ⟨i, -, e1, -⟩ := y_key1 a k o hk ho
  rw [e1]; exact Nat.le_add_right _ _
theorem dX7_init_0 : decode cX7_init 0 = .ok (.aload_n 0, 1) := by decide +kernel
theorem dX7_init_1 : decode cX7_init 1 = .ok (.invokespecial 3, 3) := by decide +kernel
theorem dX7_init_4 : decode cX7_init 4 = .ok (.aload_n 0, 1) := by decide +kernel
theorem dX7_init_5 : decode cX7_init 5 = .ok (.sipush 700, 3) := by decide +kernel
theorem dX7_init_8 : decode cX7_init 8 = .ok (.newarray .int, 2) := by decide +kernel
theorem dX7_init_10 : decode cX7_init 10 = .ok (.putfield 9, 3) := by decide +kernel
theorem dX7_init_13 : decode cX7_init 13 = .ok (.aload_n 0, 1) := by decide +kernel
theorem dX7_init_14 : decode cX7_init 14 = .ok (.iconst 0, 1) := by decide +kernel
theorem dX7_init_15 : decode cX7_init 15 = .ok (.putfield 13, 3) := by decide +kernel
theorem dX7_init_18 : decode cX7_init 18 = .ok (.aload_n 0, 1) := by decide +kernel
theorem dX7_init_19 : decode cX7_init 19 = .ok (.iconst (-1), 1) := by decide +kernel
theorem dX7_init_20 : decode cX7_init 20 = .ok (.putfield 17, 3) := by decide +kernel
theorem dX7_init_23 : decode cX7_init 23 = .ok (.aload_n 0, 1) := by decide +kernel
theorem dX7_init_24 : decode cX7_init 24 = .ok (.bipush 30, 2) := by decide +kernel
theorem dX7_init_26 : decode cX7_init 26 = .ok (.newarray .int, 2) := by decide +kernel
theorem dX7_init_28 : decode cX7_init 28 = .ok (.putfield 20, 3) := by decide +kernel
theorem dX7_init_31 : decode cX7_init 31 = .ok (.aload_n 0, 1) := by decide +kernel
theorem dX7_init_32 : decode cX7_init 32 = .ok (.new 23, 3) := by decide +kernel
theorem dX7_init_35 : decode cX7_init 35 = .ok (.dup, 1) := by decide +kernel
theorem dX7_init_36 : decode cX7_init 36 = .ok (.invokespecial 25, 3) := by decide +kernel
theorem dX7_init_39 : decode cX7_init 39 = .ok (.putfield 26, 3) := by decide +kernel
theorem dX7_init_42 : decode cX7_init 42 = .ok (.aload_n 0, 1) := by decide +kernel
theorem dX7_init_43 : decode cX7_init 43 = .ok (.new 23, 3) := by decide +kernel
theorem dX7_init_46 : decode cX7_init 46 = .ok (.dup, 1) := by decide +kernel
theorem dX7_init_47 : decode cX7_init 47 = .ok (.invokespecial 25, 3) := by decide +kernel
theorem dX7_init_50 : decode cX7_init 50 = .ok (.putfield 30, 3) := by decide +kernel
theorem dX7_init_53 : decode cX7_init 53 = .ok (.aload_n 0, 1) := by decide +kernel
theorem dX7_init_54 : decode cX7_init 54 = .ok (.new 23, 3) := by decide +kernel
theorem dX7_init_57 : decode cX7_init 57 = .ok (.dup, 1) := by decide +kernel
theorem dX7_init_58 : decode cX7_init 58 = .ok (.invokespecial 25, 3) := by decide +kernel
theorem dX7_init_61 : decode cX7_init 61 = .ok (.putfield 33, 3) := by decide +kernel
theorem dX7_init_64 : decode cX7_init 64 = .ok (.aload_n 0, 1) := by decide +kernel
theorem dX7_init_65 : decode cX7_init 65 = .ok (.new 36, 3) := by decide +kernel
theorem dX7_init_68 : decode cX7_init 68 = .ok (.dup, 1) := by decide +kernel
theorem dX7_init_69 : decode cX7_init 69 = .ok (.invokespecial 38, 3) := by decide +kernel
theorem dX7_init_72 : decode cX7_init 72 = .ok (.putfield 39, 3) := by decide +kernel
theorem dX7_init_75 : decode cX7_init 75 = .ok (.aload_n 0, 1) := by decide +kernel
theorem dX7_init_76 : decode cX7_init 76 = .ok (.new 43, 3) := by decide +kernel
theorem dX7_init_79 : decode cX7_init 79 = .ok (.dup, 1) := by decide +kernel
theorem dX7_init_80 : decode cX7_init 80 = .ok (.invokespecial 45, 3) := by decide +kernel
theorem dX7_init_83 : decode cX7_init 83 = .ok (.putfield 46, 3) := by decide +kernel
theorem dX7_init_86 : decode cX7_init 86 = .ok (.aload_n 0, 1) := by decide +kernel
theorem dX7_init_87 : decode cX7_init 87 = .ok (.new 50, 3) := by decide +kernel
theorem dX7_init_90 : decode cX7_init 90 = .ok (.dup, 1) := by decide +kernel
theorem dX7_init_91 : decode cX7_init 91 = .ok (.invokespecial 52, 3) := by decide +kernel
theorem dX7_init_94 : decode cX7_init 94 = .ok (.putfield 53, 3) := by decide +kernel
theorem dX7_init_97 : decode cX7_init 97 = .ok (.aload_n 0, 1) := by decide +kernel
theorem dX7_init_98 : decode cX7_init 98 = .ok (.getfield 26, 3) := by decide +kernel
theorem dX7_init_101 : decode cX7_init 101 = .ok (.iconst 2, 1) := by decide +kernel
theorem dX7_init_102 : decode cX7_init 102 = .ok (.invokevirtual 57, 3) := by decide +kernel
theorem dX7_init_105 : decode cX7_init 105 = .ok (.aload_n 0, 1) := by decide +kernel
theorem dX7_init_106 : decode cX7_init 106 = .ok (.getfield 26, 3) := by decide +kernel
theorem dX7_init_109 : decode cX7_init 109 = .ok (.iconst 0, 1) := by decide +kernel
theorem dX7_init_110 : decode cX7_init 110 = .ok (.iconst 1, 1) := by decide +kernel
theorem dX7_init_111 : decode cX7_init 111 = .ok (.invokevirtual 61, 3) := by decide +kernel
theorem dX7_init_114 : decode cX7_init 114 = .ok (.return_, 1) := by decide +kernel
theorem kv_X7_init : y_KI yX7_init cX7_init 1 := ⟨tw_1_28, tw_1_27, tw_1_1, rfl, by decide, by decide, by decide +kernel⟩
set_option maxHeartbeats 4000000 in
set_option maxRecDepth 100000 in
theorem m_X7_init (l : Launch) (G : Gx) (a : Nat) (σa σb : Sg) (ha : f_X4_clear y_σ0 0 2 = some σa) (hb : f_X4_addCar σa 0 0 1 = some σb) : y_MT l yX7_init cX7_init 1 4 110 740 26873 G a 7 [.null, .int 0, .int 0, .int 0, .null, .int 0, .null, .null, .null, .int 0, .null, .null, .null] (fun H => z_W 0 G (z_ad a 0) σb H) := by
  refine y_beginT (by decide +kernel) rfl (Nat.le_of_ble_eq_true rfl) (fun p e s m args below meth c ls C hz h0 hb1 hb2 S hl => ?_)
  have hs0 := hz
  refine lv_aload_n C.1.1 C.1.2.1 dX7_init_0 rfl (lv_at hl 0 rfl) ?_
  refine y_obj C tw_1_29 hl.1 (Nat.le_of_ble_eq_true rfl) (Nat.le_of_ble_eq_true rfl) dX7_init_1 ?_
  refine lv_aload_n C.1.1 C.1.2.1 dX7_init_4 rfl (lv_at hl 0 rfl) ?_
  refine lv_sipush (v := 700) C.1.1 C.1.2.1 dX7_init_5 (by decide) ?_
  refine y_newI C S hz 700 (by decide) (by decide) (Nat.le_of_ble_eq_true rfl) (Nat.le_of_ble_eq_true rfl) (Nat.le_of_ble_eq_true rfl) dX7_init_8 (fun H z9 o9 h1 S => ?_)
  have h0 := va_at.kept h0 (o9 _ (show a < a + 1 by omega))
  have hz : H.size = a + 2 := z9
  clear o9 z9
  refine y_putF C S h0 (Nat.le_refl _) cf_7 0 (by decide) (Nat.le_of_ble_eq_true rfl) rfl rfl rfl rfl tw_2_128 dX7_init_10 (fun H locs z9 o9 h0 S => ?_)
  have h0 : va_at G.1 z_cl (a, .inr (7, [.ref (a + 1), .int 0, .int 0, .int 0, .null, .int 0, .null, .null, .null, .int 0, .null, .null, .null])) H := h0
  have h1 := va_at.kept h1 (o9 _ (show a + 1 ≠ a by omega))
  have hz : H.size = a + 2 := z9.trans hz
  clear o9 z9
  refine lv_aload_n C.1.1 C.1.2.1 dX7_init_13 rfl (lv_at hl 0 rfl) ?_
  refine lv_iconst (v := 0) C.1.1 C.1.2.1 dX7_init_14 (by decide) ?_
  refine y_putV C S h0 (Nat.le_refl _) cf_7 2 (by decide) (Nat.le_of_ble_eq_true rfl) rfl rfl rfl tw_2_130 dX7_init_15 (fun H locs z9 o9 h0 S => ?_)
  have h0 : va_at G.1 z_cl (a, .inr (7, [.ref (a + 1), .int 0, .int 0, .int 0, .null, .int 0, .null, .null, .null, .int 0, .null, .null, .null])) H := h0
  have h1 := va_at.kept h1 (o9 _ (show a + 1 ≠ a by omega))
  have hz : H.size = a + 2 := z9.trans hz
  clear o9 z9
  refine lv_aload_n C.1.1 C.1.2.1 dX7_init_18 rfl (lv_at hl 0 rfl) ?_
  refine lv_iconst (v := (-1)) C.1.1 C.1.2.1 dX7_init_19 (by decide) ?_
  refine y_putV C S h0 (Nat.le_refl _) cf_7 3 (by decide) (Nat.le_of_ble_eq_true rfl) rfl rfl rfl tw_2_131 dX7_init_20 (fun H locs z9 o9 h0 S => ?_)
  have h0 : va_at G.1 z_cl (a, .inr (7, [.ref (a + 1), .int 0, .int 0, .int (-1), .null, .int 0, .null, .null, .null, .int 0, .null, .null, .null])) H := h0
  have h1 := va_at.kept h1 (o9 _ (show a + 1 ≠ a by omega))
  have hz : H.size = a + 2 := z9.trans hz
  clear o9 z9
  refine lv_aload_n C.1.1 C.1.2.1 dX7_init_23 rfl (lv_at hl 0 rfl) ?_
  refine lv_bipush (v := 30) C.1.1 C.1.2.1 dX7_init_24 (by decide) ?_
  refine y_newI C S hz 30 (by decide) (by decide) (Nat.le_of_ble_eq_true rfl) (Nat.le_of_ble_eq_true rfl) (Nat.le_of_ble_eq_true rfl) dX7_init_26 (fun H z9 o9 h2 S => ?_)
  have h0 := va_at.kept h0 (o9 _ (show a < a + 2 by omega))
  have h1 := va_at.kept h1 (o9 _ (show a + 1 < a + 2 by omega))
  have hz : H.size = a + 3 := z9
  clear o9 z9
  refine y_putF C S h0 (Nat.le_refl _) cf_7 4 (by decide) (Nat.le_of_ble_eq_true rfl) rfl rfl rfl rfl tw_2_132 dX7_init_28 (fun H locs z9 o9 h0 S => ?_)
  have h0 : va_at G.1 z_cl (a, .inr (7, [.ref (a + 1), .int 0, .int 0, .int (-1), .ref (a + 2), .int 0, .null, .null, .null, .int 0, .null, .null, .null])) H := h0
  have h1 := va_at.kept h1 (o9 _ (show a + 1 ≠ a by omega))
  have h2 := va_at.kept h2 (o9 _ (show a + 2 ≠ a by omega))
  have hz : H.size = a + 3 := z9.trans hz
  clear o9 z9
  refine lv_aload_n C.1.1 C.1.2.1 dX7_init_31 rfl (lv_at hl 0 rfl) ?_
  refine y_newO (fs := [.int 0, .int 0, .int 0, .int 0, .int 0, .null, .null, .null, .null, .null, .null, .null]) C S hz cf_4 tw_1_32 tw_1_33 tw_1_2 (y_df4) (Nat.le_of_ble_eq_true rfl) (Nat.le_of_ble_eq_true rfl) dX7_init_32 (fun H z9 o9 h3 S => ?_)
  have h0 := va_at.kept h0 (o9 _ (show a < a + 3 by omega))
  have h1 := va_at.kept h1 (o9 _ (show a + 1 < a + 3 by omega))
  have h2 := va_at.kept h2 (o9 _ (show a + 2 < a + 3 by omega))
  have hz : H.size = a + 4 := z9
  clear o9 z9
  refine lv_dup C.1.1 C.1.2.1 dX7_init_35 rfl ?_
  refine y_call C S (show a ≤ a + 3 by omega) (m_X4_init l G a 0 0 (a + 3) (by decide) rfl) kv_X4_init tw_1_34 hz h3 ⟨(Nat.le_of_ble_eq_true rfl), (Nat.le_of_ble_eq_true rfl)⟩ (Nat.le_of_ble_eq_true rfl) hl.1 ⟨(Nat.le_of_ble_eq_true rfl), (Nat.le_of_ble_eq_true rfl)⟩ dX7_init_36 (fun H locs z9 d3 o9 S => ?_)
  have h0 := va_at.kept h0 (o9 _ (show a < a + 3 by omega))
  have h1 := va_at.kept h1 (o9 _ (show a + 1 < a + 3 by omega))
  have h2 := va_at.kept h2 (o9 _ (show a + 2 < a + 3 by omega))
  have hz : H.size = a + 59 := z9
  clear o9 z9 h3
  refine y_putF C S h0 (Nat.le_refl _) cf_7 6 (by decide) (Nat.le_of_ble_eq_true rfl) rfl rfl rfl rfl tw_2_134 dX7_init_39 (fun H locs z9 o9 h0 S => ?_)
  have h0 : va_at G.1 z_cl (a, .inr (7, [.ref (a + 1), .int 0, .int 0, .int (-1), .ref (a + 2), .int 0, .ref (a + 3), .null, .null, .int 0, .null, .null, .null])) H := h0
  have h1 := va_at.kept h1 (o9 _ (show a + 1 ≠ a by omega))
  have h2 := va_at.kept h2 (o9 _ (show a + 2 ≠ a by omega))
  have d3 : ∀ i, i < 56 → va_at G.1 z_cl (a + 3 + i, y_eL G (z_ad a 0) 0 i) _ := fun i hi => va_at.kept (d3 i hi) (o9 _ (show a + 3 + i ≠ a by omega))
  have hz : H.size = a + 59 := z9.trans hz
  clear o9 z9
  refine lv_aload_n C.1.1 C.1.2.1 dX7_init_42 rfl (lv_at hl 0 rfl) ?_
  refine y_newO (fs := [.int 0, .int 0, .int 0, .int 0, .int 0, .null, .null, .null, .null, .null, .null, .null]) C S hz cf_4 tw_1_32 tw_1_33 tw_1_2 (y_df4) (Nat.le_of_ble_eq_true rfl) (Nat.le_of_ble_eq_true rfl) dX7_init_43 (fun H z9 o9 h59 S => ?_)
  have h0 := va_at.kept h0 (o9 _ (show a < a + 59 by omega))
  have h1 := va_at.kept h1 (o9 _ (show a + 1 < a + 59 by omega))
  have h2 := va_at.kept h2 (o9 _ (show a + 2 < a + 59 by omega))
  have d3 : ∀ i, i < 56 → va_at G.1 z_cl (a + 3 + i, y_eL G (z_ad a 0) 0 i) _ := fun i hi => va_at.kept (d3 i hi) (o9 _ (show a + 3 + i < a + 59 by omega))
  have hz : H.size = a + 60 := z9
  clear o9 z9
  refine lv_dup C.1.1 C.1.2.1 dX7_init_46 rfl ?_
  refine y_call C S (show a ≤ a + 59 by omega) (m_X4_init l G a 0 1 (a + 59) (by decide) rfl) kv_X4_init tw_1_34 hz h59 ⟨(Nat.le_of_ble_eq_true rfl), (Nat.le_of_ble_eq_true rfl)⟩ (Nat.le_of_ble_eq_true rfl) hl.1 ⟨(Nat.le_of_ble_eq_true rfl), (Nat.le_of_ble_eq_true rfl)⟩ dX7_init_47 (fun H locs z9 d59 o9 S => ?_)
  have h0 := va_at.kept h0 (o9 _ (show a < a + 59 by omega))
  have h1 := va_at.kept h1 (o9 _ (show a + 1 < a + 59 by omega))
  have h2 := va_at.kept h2 (o9 _ (show a + 2 < a + 59 by omega))
  have d3 : ∀ i, i < 56 → va_at G.1 z_cl (a + 3 + i, y_eL G (z_ad a 0) 0 i) _ := fun i hi => va_at.kept (d3 i hi) (o9 _ (show a + 3 + i < a + 59 by omega))
  have hz : H.size = a + 115 := z9
  clear o9 z9 h59
  refine y_putF C S h0 (Nat.le_refl _) cf_7 7 (by decide) (Nat.le_of_ble_eq_true rfl) rfl rfl rfl rfl tw_2_135 dX7_init_50 (fun H locs z9 o9 h0 S => ?_)
  have h0 : va_at G.1 z_cl (a, .inr (7, [.ref (a + 1), .int 0, .int 0, .int (-1), .ref (a + 2), .int 0, .ref (a + 3), .ref (a + 59), .null, .int 0, .null, .null, .null])) H := h0
  have h1 := va_at.kept h1 (o9 _ (show a + 1 ≠ a by omega))
  have h2 := va_at.kept h2 (o9 _ (show a + 2 ≠ a by omega))
  have d3 : ∀ i, i < 56 → va_at G.1 z_cl (a + 3 + i, y_eL G (z_ad a 0) 0 i) _ := fun i hi => va_at.kept (d3 i hi) (o9 _ (show a + 3 + i ≠ a by omega))
  have d59 : ∀ i, i < 56 → va_at G.1 z_cl (a + 59 + i, y_eL G (z_ad a 0) 1 i) _ := fun i hi => va_at.kept (d59 i hi) (o9 _ (show a + 59 + i ≠ a by omega))
  have hz : H.size = a + 115 := z9.trans hz
  clear o9 z9
  refine lv_aload_n C.1.1 C.1.2.1 dX7_init_53 rfl (lv_at hl 0 rfl) ?_
  refine y_newO (fs := [.int 0, .int 0, .int 0, .int 0, .int 0, .null, .null, .null, .null, .null, .null, .null]) C S hz cf_4 tw_1_32 tw_1_33 tw_1_2 (y_df4) (Nat.le_of_ble_eq_true rfl) (Nat.le_of_ble_eq_true rfl) dX7_init_54 (fun H z9 o9 h115 S => ?_)
  have h0 := va_at.kept h0 (o9 _ (show a < a + 115 by omega))
  have h1 := va_at.kept h1 (o9 _ (show a + 1 < a + 115 by omega))
  have h2 := va_at.kept h2 (o9 _ (show a + 2 < a + 115 by omega))
  have d3 : ∀ i, i < 56 → va_at G.1 z_cl (a + 3 + i, y_eL G (z_ad a 0) 0 i) _ := fun i hi => va_at.kept (d3 i hi) (o9 _ (show a + 3 + i < a + 115 by omega))
  have d59 : ∀ i, i < 56 → va_at G.1 z_cl (a + 59 + i, y_eL G (z_ad a 0) 1 i) _ := fun i hi => va_at.kept (d59 i hi) (o9 _ (show a + 59 + i < a + 115 by omega))
  have hz : H.size = a + 116 := z9
  clear o9 z9
  refine lv_dup C.1.1 C.1.2.1 dX7_init_57 rfl ?_
  refine y_call C S (show a ≤ a + 115 by omega) (m_X4_init l G a 0 2 (a + 115) (by decide) rfl) kv_X4_init tw_1_34 hz h115 ⟨(Nat.le_of_ble_eq_true rfl), (Nat.le_of_ble_eq_true rfl)⟩ (Nat.le_of_ble_eq_true rfl) hl.1 ⟨(Nat.le_of_ble_eq_true rfl), (Nat.le_of_ble_eq_true rfl)⟩ dX7_init_58 (fun H locs z9 d115 o9 S => ?_)
  have h0 := va_at.kept h0 (o9 _ (show a < a + 115 by omega))
  have h1 := va_at.kept h1 (o9 _ (show a + 1 < a + 115 by omega))
  have h2 := va_at.kept h2 (o9 _ (show a + 2 < a + 115 by omega))
  have d3 : ∀ i, i < 56 → va_at G.1 z_cl (a + 3 + i, y_eL G (z_ad a 0) 0 i) _ := fun i hi => va_at.kept (d3 i hi) (o9 _ (show a + 3 + i < a + 115 by omega))
  have d59 : ∀ i, i < 56 → va_at G.1 z_cl (a + 59 + i, y_eL G (z_ad a 0) 1 i) _ := fun i hi => va_at.kept (d59 i hi) (o9 _ (show a + 59 + i < a + 115 by omega))
  have hz : H.size = a + 171 := z9
  clear o9 z9 h115
  refine y_putF C S h0 (Nat.le_refl _) cf_7 8 (by decide) (Nat.le_of_ble_eq_true rfl) rfl rfl rfl rfl tw_2_136 dX7_init_61 (fun H locs z9 o9 h0 S => ?_)
  have h0 : va_at G.1 z_cl (a, .inr (7, [.ref (a + 1), .int 0, .int 0, .int (-1), .ref (a + 2), .int 0, .ref (a + 3), .ref (a + 59), .ref (a + 115), .int 0, .null, .null, .null])) H := h0
  have h1 := va_at.kept h1 (o9 _ (show a + 1 ≠ a by omega))
  have h2 := va_at.kept h2 (o9 _ (show a + 2 ≠ a by omega))
  have d3 : ∀ i, i < 56 → va_at G.1 z_cl (a + 3 + i, y_eL G (z_ad a 0) 0 i) _ := fun i hi => va_at.kept (d3 i hi) (o9 _ (show a + 3 + i ≠ a by omega))
  have d59 : ∀ i, i < 56 → va_at G.1 z_cl (a + 59 + i, y_eL G (z_ad a 0) 1 i) _ := fun i hi => va_at.kept (d59 i hi) (o9 _ (show a + 59 + i ≠ a by omega))
  have d115 : ∀ i, i < 56 → va_at G.1 z_cl (a + 115 + i, y_eL G (z_ad a 0) 2 i) _ := fun i hi => va_at.kept (d115 i hi) (o9 _ (show a + 115 + i ≠ a by omega))
  have hz : H.size = a + 171 := z9.trans hz
  clear o9 z9
  refine lv_aload_n C.1.1 C.1.2.1 dX7_init_64 rfl (lv_at hl 0 rfl) ?_
  refine y_newO (fs := [.int 0, .int 0, .null]) C S hz cf_3 tw_2_35 tw_2_36 tw_1_6 (y_df3) (Nat.le_of_ble_eq_true rfl) (Nat.le_of_ble_eq_true rfl) dX7_init_65 (fun H z9 o9 h171 S => ?_)
  have h0 := va_at.kept h0 (o9 _ (show a < a + 171 by omega))
  have h1 := va_at.kept h1 (o9 _ (show a + 1 < a + 171 by omega))
  have h2 := va_at.kept h2 (o9 _ (show a + 2 < a + 171 by omega))
  have d3 : ∀ i, i < 56 → va_at G.1 z_cl (a + 3 + i, y_eL G (z_ad a 0) 0 i) _ := fun i hi => va_at.kept (d3 i hi) (o9 _ (show a + 3 + i < a + 171 by omega))
  have d59 : ∀ i, i < 56 → va_at G.1 z_cl (a + 59 + i, y_eL G (z_ad a 0) 1 i) _ := fun i hi => va_at.kept (d59 i hi) (o9 _ (show a + 59 + i < a + 171 by omega))
  have d115 : ∀ i, i < 56 → va_at G.1 z_cl (a + 115 + i, y_eL G (z_ad a 0) 2 i) _ := fun i hi => va_at.kept (d115 i hi) (o9 _ (show a + 115 + i < a + 171 by omega))
  have hz : H.size = a + 172 := z9
  clear o9 z9
  refine lv_dup C.1.1 C.1.2.1 dX7_init_68 rfl ?_
  refine y_call C S (show a ≤ a + 171 by omega) (m_X3_init l G a 0 (a + 171) rfl) kv_X3_init tw_2_37 hz h171 ⟨(Nat.le_of_ble_eq_true rfl), (Nat.le_of_ble_eq_true rfl)⟩ (Nat.le_of_ble_eq_true rfl) hl.1 ⟨(Nat.le_of_ble_eq_true rfl), (Nat.le_of_ble_eq_true rfl)⟩ dX7_init_69 (fun H locs z9 d171 o9 S => ?_)
  have h0 := va_at.kept h0 (o9 _ (show a < a + 171 by omega))
  have h1 := va_at.kept h1 (o9 _ (show a + 1 < a + 171 by omega))
  have h2 := va_at.kept h2 (o9 _ (show a + 2 < a + 171 by omega))
  have d3 : ∀ i, i < 56 → va_at G.1 z_cl (a + 3 + i, y_eL G (z_ad a 0) 0 i) _ := fun i hi => va_at.kept (d3 i hi) (o9 _ (show a + 3 + i < a + 171 by omega))
  have d59 : ∀ i, i < 56 → va_at G.1 z_cl (a + 59 + i, y_eL G (z_ad a 0) 1 i) _ := fun i hi => va_at.kept (d59 i hi) (o9 _ (show a + 59 + i < a + 171 by omega))
  have d115 : ∀ i, i < 56 → va_at G.1 z_cl (a + 115 + i, y_eL G (z_ad a 0) 2 i) _ := fun i hi => va_at.kept (d115 i hi) (o9 _ (show a + 115 + i < a + 171 by omega))
  have hz : H.size = a + 733 := z9
  clear o9 z9 h171
  refine y_putF C S h0 (Nat.le_refl _) cf_7 10 (by decide) (Nat.le_of_ble_eq_true rfl) rfl rfl rfl rfl tw_2_138 dX7_init_72 (fun H locs z9 o9 h0 S => ?_)
  have h0 : va_at G.1 z_cl (a, .inr (7, [.ref (a + 1), .int 0, .int 0, .int (-1), .ref (a + 2), .int 0, .ref (a + 3), .ref (a + 59), .ref (a + 115), .int 0, .ref (a + 171), .null, .null])) H := h0
  have h1 := va_at.kept h1 (o9 _ (show a + 1 ≠ a by omega))
  have h2 := va_at.kept h2 (o9 _ (show a + 2 ≠ a by omega))
  have d3 : ∀ i, i < 56 → va_at G.1 z_cl (a + 3 + i, y_eL G (z_ad a 0) 0 i) _ := fun i hi => va_at.kept (d3 i hi) (o9 _ (show a + 3 + i ≠ a by omega))
  have d59 : ∀ i, i < 56 → va_at G.1 z_cl (a + 59 + i, y_eL G (z_ad a 0) 1 i) _ := fun i hi => va_at.kept (d59 i hi) (o9 _ (show a + 59 + i ≠ a by omega))
  have d115 : ∀ i, i < 56 → va_at G.1 z_cl (a + 115 + i, y_eL G (z_ad a 0) 2 i) _ := fun i hi => va_at.kept (d115 i hi) (o9 _ (show a + 115 + i ≠ a by omega))
  have d171 : ∀ i, i < 562 → va_at G.1 z_cl (a + 171 + i, y_eH G (z_ad a 0) i) _ := fun i hi => va_at.kept (d171 i hi) (o9 _ (show a + 171 + i ≠ a by omega))
  have hz : H.size = a + 733 := z9.trans hz
  clear o9 z9
  refine lv_aload_n C.1.1 C.1.2.1 dX7_init_75 rfl (lv_at hl 0 rfl) ?_
  refine y_newO (fs := [.null]) C S hz cf_0 tw_2_55 tw_2_56 tw_1_7 (y_df0) (Nat.le_of_ble_eq_true rfl) (Nat.le_of_ble_eq_true rfl) dX7_init_76 (fun H z9 o9 h733 S => ?_)
  have h0 := va_at.kept h0 (o9 _ (show a < a + 733 by omega))
  have h1 := va_at.kept h1 (o9 _ (show a + 1 < a + 733 by omega))
  have h2 := va_at.kept h2 (o9 _ (show a + 2 < a + 733 by omega))
  have d3 : ∀ i, i < 56 → va_at G.1 z_cl (a + 3 + i, y_eL G (z_ad a 0) 0 i) _ := fun i hi => va_at.kept (d3 i hi) (o9 _ (show a + 3 + i < a + 733 by omega))
  have d59 : ∀ i, i < 56 → va_at G.1 z_cl (a + 59 + i, y_eL G (z_ad a 0) 1 i) _ := fun i hi => va_at.kept (d59 i hi) (o9 _ (show a + 59 + i < a + 733 by omega))
  have d115 : ∀ i, i < 56 → va_at G.1 z_cl (a + 115 + i, y_eL G (z_ad a 0) 2 i) _ := fun i hi => va_at.kept (d115 i hi) (o9 _ (show a + 115 + i < a + 733 by omega))
  have d171 : ∀ i, i < 562 → va_at G.1 z_cl (a + 171 + i, y_eH G (z_ad a 0) i) _ := fun i hi => va_at.kept (d171 i hi) (o9 _ (show a + 171 + i < a + 733 by omega))
  have hz : H.size = a + 734 := z9
  clear o9 z9
  refine lv_dup C.1.1 C.1.2.1 dX7_init_79 rfl ?_
  refine y_callN C S (show a ≤ a + 733 by omega) (m_X0_init l G (z_ad a 0) (a + 733) rfl rfl rfl rfl rfl) kv_X0_init (List.mem_of_getElem? (i := 3) rfl) hz h733 ⟨(Nat.le_of_ble_eq_true rfl), (Nat.le_of_ble_eq_true rfl)⟩ (Nat.le_of_ble_eq_true rfl) hl.1 ⟨(Nat.le_of_ble_eq_true rfl), (Nat.le_of_ble_eq_true rfl)⟩ dX7_init_80 (fun H locs z9 d733 o9 S => ?_)
  have h0 := va_at.kept h0 (o9 _ (show a < a + 733 by omega))
  have h1 := va_at.kept h1 (o9 _ (show a + 1 < a + 733 by omega))
  have h2 := va_at.kept h2 (o9 _ (show a + 2 < a + 733 by omega))
  have d3 : ∀ i, i < 56 → va_at G.1 z_cl (a + 3 + i, y_eL G (z_ad a 0) 0 i) _ := fun i hi => va_at.kept (d3 i hi) (o9 _ (show a + 3 + i < a + 733 by omega))
  have d59 : ∀ i, i < 56 → va_at G.1 z_cl (a + 59 + i, y_eL G (z_ad a 0) 1 i) _ := fun i hi => va_at.kept (d59 i hi) (o9 _ (show a + 59 + i < a + 733 by omega))
  have d115 : ∀ i, i < 56 → va_at G.1 z_cl (a + 115 + i, y_eL G (z_ad a 0) 2 i) _ := fun i hi => va_at.kept (d115 i hi) (o9 _ (show a + 115 + i < a + 733 by omega))
  have d171 : ∀ i, i < 562 → va_at G.1 z_cl (a + 171 + i, y_eH G (z_ad a 0) i) _ := fun i hi => va_at.kept (d171 i hi) (o9 _ (show a + 171 + i < a + 733 by omega))
  have hz : H.size = a + 739 := z9
  clear o9 z9 h733
  refine y_putF C S h0 (Nat.le_refl _) cf_7 11 (by decide) (Nat.le_of_ble_eq_true rfl) rfl rfl rfl rfl tw_2_139 dX7_init_83 (fun H locs z9 o9 h0 S => ?_)
  have h0 : va_at G.1 z_cl (a, .inr (7, [.ref (a + 1), .int 0, .int 0, .int (-1), .ref (a + 2), .int 0, .ref (a + 3), .ref (a + 59), .ref (a + 115), .int 0, .ref (a + 171), .ref (a + 733), .null])) H := h0
  have h1 := va_at.kept h1 (o9 _ (show a + 1 ≠ a by omega))
  have h2 := va_at.kept h2 (o9 _ (show a + 2 ≠ a by omega))
  have d3 : ∀ i, i < 56 → va_at G.1 z_cl (a + 3 + i, y_eL G (z_ad a 0) 0 i) _ := fun i hi => va_at.kept (d3 i hi) (o9 _ (show a + 3 + i ≠ a by omega))
  have d59 : ∀ i, i < 56 → va_at G.1 z_cl (a + 59 + i, y_eL G (z_ad a 0) 1 i) _ := fun i hi => va_at.kept (d59 i hi) (o9 _ (show a + 59 + i ≠ a by omega))
  have d115 : ∀ i, i < 56 → va_at G.1 z_cl (a + 115 + i, y_eL G (z_ad a 0) 2 i) _ := fun i hi => va_at.kept (d115 i hi) (o9 _ (show a + 115 + i ≠ a by omega))
  have d171 : ∀ i, i < 562 → va_at G.1 z_cl (a + 171 + i, y_eH G (z_ad a 0) i) _ := fun i hi => va_at.kept (d171 i hi) (o9 _ (show a + 171 + i ≠ a by omega))
  have d733 : ∀ i, i < 6 → va_at G.1 z_cl (a + 733 + i, y_eB G (z_ad a 0) i) _ := fun i hi => va_at.kept (d733 i hi) (o9 _ (show a + 733 + i ≠ a by omega))
  have hz : H.size = a + 739 := z9.trans hz
  clear o9 z9
  refine lv_aload_n C.1.1 C.1.2.1 dX7_init_86 rfl (lv_at hl 0 rfl) ?_
  refine y_newO (fs := [.int 0, .int 0, .null, .int 0, .int 0, .int 0, .int 0, .int 0, .int 0]) C S hz cf_6 tw_2_67 tw_2_68 tw_1_8 (y_df6) (Nat.le_of_ble_eq_true rfl) (Nat.le_of_ble_eq_true rfl) dX7_init_87 (fun H z9 o9 h739 S => ?_)
  have h0 := va_at.kept h0 (o9 _ (show a < a + 739 by omega))
  have h1 := va_at.kept h1 (o9 _ (show a + 1 < a + 739 by omega))
  have h2 := va_at.kept h2 (o9 _ (show a + 2 < a + 739 by omega))
  have d3 : ∀ i, i < 56 → va_at G.1 z_cl (a + 3 + i, y_eL G (z_ad a 0) 0 i) _ := fun i hi => va_at.kept (d3 i hi) (o9 _ (show a + 3 + i < a + 739 by omega))
  have d59 : ∀ i, i < 56 → va_at G.1 z_cl (a + 59 + i, y_eL G (z_ad a 0) 1 i) _ := fun i hi => va_at.kept (d59 i hi) (o9 _ (show a + 59 + i < a + 739 by omega))
  have d115 : ∀ i, i < 56 → va_at G.1 z_cl (a + 115 + i, y_eL G (z_ad a 0) 2 i) _ := fun i hi => va_at.kept (d115 i hi) (o9 _ (show a + 115 + i < a + 739 by omega))
  have d171 : ∀ i, i < 562 → va_at G.1 z_cl (a + 171 + i, y_eH G (z_ad a 0) i) _ := fun i hi => va_at.kept (d171 i hi) (o9 _ (show a + 171 + i < a + 739 by omega))
  have d733 : ∀ i, i < 6 → va_at G.1 z_cl (a + 733 + i, y_eB G (z_ad a 0) i) _ := fun i hi => va_at.kept (d733 i hi) (o9 _ (show a + 733 + i < a + 739 by omega))
  have hz : H.size = a + 740 := z9
  clear o9 z9
  refine lv_dup C.1.1 C.1.2.1 dX7_init_90 rfl ?_
  refine y_callN C S (show a ≤ a + 739 by omega) (m_X6_init l G (z_ad a 0) (a + 739) rfl) kv_X6_init (List.mem_of_getElem? (i := 5) rfl) hz h739 ⟨(Nat.le_of_ble_eq_true rfl), (Nat.le_of_ble_eq_true rfl)⟩ (Nat.le_of_ble_eq_true rfl) hl.1 ⟨(Nat.le_of_ble_eq_true rfl), (Nat.le_of_ble_eq_true rfl)⟩ dX7_init_91 (fun H locs z9 d739 o9 S => ?_)
  have h0 := va_at.kept h0 (o9 _ (show a < a + 739 by omega))
  have h1 := va_at.kept h1 (o9 _ (show a + 1 < a + 739 by omega))
  have h2 := va_at.kept h2 (o9 _ (show a + 2 < a + 739 by omega))
  have d3 : ∀ i, i < 56 → va_at G.1 z_cl (a + 3 + i, y_eL G (z_ad a 0) 0 i) _ := fun i hi => va_at.kept (d3 i hi) (o9 _ (show a + 3 + i < a + 739 by omega))
  have d59 : ∀ i, i < 56 → va_at G.1 z_cl (a + 59 + i, y_eL G (z_ad a 0) 1 i) _ := fun i hi => va_at.kept (d59 i hi) (o9 _ (show a + 59 + i < a + 739 by omega))
  have d115 : ∀ i, i < 56 → va_at G.1 z_cl (a + 115 + i, y_eL G (z_ad a 0) 2 i) _ := fun i hi => va_at.kept (d115 i hi) (o9 _ (show a + 115 + i < a + 739 by omega))
  have d171 : ∀ i, i < 562 → va_at G.1 z_cl (a + 171 + i, y_eH G (z_ad a 0) i) _ := fun i hi => va_at.kept (d171 i hi) (o9 _ (show a + 171 + i < a + 739 by omega))
  have d733 : ∀ i, i < 6 → va_at G.1 z_cl (a + 733 + i, y_eB G (z_ad a 0) i) _ := fun i hi => va_at.kept (d733 i hi) (o9 _ (show a + 733 + i < a + 739 by omega))
  have hz : H.size = a + 741 := z9
  clear o9 z9 h739
  refine y_putF C S h0 (Nat.le_refl _) cf_7 12 (by decide) (Nat.le_of_ble_eq_true rfl) rfl rfl rfl rfl tw_2_140 dX7_init_94 (fun H locs z9 o9 h0 S => ?_)
  have h0 : va_at G.1 z_cl (a, .inr (7, [.ref (a + 1), .int 0, .int 0, .int (-1), .ref (a + 2), .int 0, .ref (a + 3), .ref (a + 59), .ref (a + 115), .int 0, .ref (a + 171), .ref (a + 733), .ref (a + 739)])) H := h0
  have h1 := va_at.kept h1 (o9 _ (show a + 1 ≠ a by omega))
  have h2 := va_at.kept h2 (o9 _ (show a + 2 ≠ a by omega))
  have d3 : ∀ i, i < 56 → va_at G.1 z_cl (a + 3 + i, y_eL G (z_ad a 0) 0 i) _ := fun i hi => va_at.kept (d3 i hi) (o9 _ (show a + 3 + i ≠ a by omega))
  have d59 : ∀ i, i < 56 → va_at G.1 z_cl (a + 59 + i, y_eL G (z_ad a 0) 1 i) _ := fun i hi => va_at.kept (d59 i hi) (o9 _ (show a + 59 + i ≠ a by omega))
  have d115 : ∀ i, i < 56 → va_at G.1 z_cl (a + 115 + i, y_eL G (z_ad a 0) 2 i) _ := fun i hi => va_at.kept (d115 i hi) (o9 _ (show a + 115 + i ≠ a by omega))
  have d171 : ∀ i, i < 562 → va_at G.1 z_cl (a + 171 + i, y_eH G (z_ad a 0) i) _ := fun i hi => va_at.kept (d171 i hi) (o9 _ (show a + 171 + i ≠ a by omega))
  have d733 : ∀ i, i < 6 → va_at G.1 z_cl (a + 733 + i, y_eB G (z_ad a 0) i) _ := fun i hi => va_at.kept (d733 i hi) (o9 _ (show a + 733 + i ≠ a by omega))
  have d739 : ∀ i, i < 2 → va_at G.1 z_cl (a + 739 + i, y_eR G (z_ad a 0) i) _ := fun i hi => va_at.kept (d739 i hi) (o9 _ (show a + 739 + i ≠ a by omega))
  have hz : H.size = a + 741 := z9.trans hz
  clear o9 z9
  have hW : z_W 0 G (z_ad a 0) y_σ0 H := by
    refine y_asm0 (y_qeq (q := (0, .inr (0, []))) h0 rfl rfl) (fun i hi hi0 => ?_) hb1 (by rw [hz]; exact Nat.le_add_right _ _) (y_low S hs0 hb1 hb2)
    by_cases i1 : i = 1
    · subst i1; exact h1
    · by_cases i2 : i = 2
      · subst i2; exact h2
      · by_cases i3 : i < 171
        · have hj : (i - 3) / 56 = 0 ∨ (i - 3) / 56 = 1 ∨ (i - 3) / 56 = 2 := by omega
          have hiv : z_iv i = z_ivL ((i - 3) / 56) ((i - 3) % 56) := by unfold z_iv; rw [if_neg hi0, if_neg i1, if_neg i2, if_pos i3]
          rw [hiv]
          rcases hj with hj | hj | hj
          · rw [hj]; exact y_qeq (q := (0, .inr (0, []))) (d3 ((i - 3) % 56) (by omega)) (by omega) rfl
          · rw [hj]; exact y_qeq (q := (0, .inr (0, []))) (d59 ((i - 3) % 56) (by omega)) (by omega) rfl
          · rw [hj]; exact y_qeq (q := (0, .inr (0, []))) (d115 ((i - 3) % 56) (by omega)) (by omega) rfl
        · by_cases i4 : i < 733
          · have hiv : z_iv i = z_ivH (i - 171) := by unfold z_iv; rw [if_neg hi0, if_neg i1, if_neg i2, if_neg i3, if_pos i4]
            rw [hiv]; exact y_qeq (q := (0, .inr (0, []))) (d171 (i - 171) (by omega)) (by omega) rfl
          · by_cases i5 : i < 739
            · have hiv : z_iv i = z_ivB (i - 733) := by unfold z_iv; rw [if_neg hi0, if_neg i1, if_neg i2, if_neg i3, if_neg i4, if_pos i5]
              rw [hiv]; exact y_qeq (q := (0, .inr (0, []))) (d733 (i - 733) (by omega)) (by omega) rfl
            · have hiv : z_iv i = z_ivR (i - 739) := by unfold z_iv; rw [if_neg hi0, if_neg i1, if_neg i2, if_neg i3, if_neg i4, if_neg i5]
              rw [hiv]; exact y_qeq (q := (0, .inr (0, []))) (d739 (i - 739) (by omega)) (by omega) rfl
  have S : z_S 0 G (z_ad a 0) y_σ0 (fun q => a ≤ q) s.heap H locs := ⟨hW, S, (y_lowA0 a), fun q hq => Nat.le_trans (by rw [hs0]; exact Nat.le_succ a) hq⟩
  refine lv_aload_n C.1.1 C.1.2.1 dX7_init_97 rfl (lv_at hl 0 rfl) ?_
  refine z_getR (ad := z_ad a 0) C.1 S 7 0 rfl (by decide) cf_7 6 (by decide) _ (gr_7_6 G _ 0) tw_2_134 dX7_init_98 ?_
  refine lv_iconst (v := 2) C.1.1 C.1.2.1 dX7_init_101 (by decide) ?_
  refine z_callV (ad := z_ad a 0) C.1 S 4 0 rfl (by decide) cf_4 ⟨_, rfl⟩ [.int 2] (m_X4_clear l G _ y_σ0 0 2 σa (by decide) ha _) kv_X4_clear tw_2_103 ⟨(Nat.le_of_ble_eq_true rfl), (Nat.le_of_ble_eq_true rfl)⟩ rfl rfl (Nat.le_of_ble_eq_true rfl) hl.1 ⟨(Nat.le_of_ble_eq_true rfl), (Nat.le_of_ble_eq_true rfl)⟩ dX7_init_102 (fun H locs S => ?_)
  refine lv_aload_n C.1.1 C.1.2.1 dX7_init_105 rfl (lv_at hl 0 rfl) ?_
  refine z_getR (ad := z_ad a 0) C.1 S 7 0 rfl (by decide) cf_7 6 (by decide) _ (gr_7_6 G _ 0) tw_2_134 dX7_init_106 ?_
  refine lv_iconst (v := 0) C.1.1 C.1.2.1 dX7_init_109 (by decide) ?_
  refine lv_iconst (v := 1) C.1.1 C.1.2.1 dX7_init_110 (by decide) ?_
  refine z_callV (ad := z_ad a 0) C.1 S 4 0 rfl (by decide) cf_4 ⟨_, rfl⟩ [.int 0, .int 1] (m_X4_addCar l G _ σa 0 0 1 σb (by decide) hb _) kv_X4_addCar tw_2_112 ⟨(Nat.le_of_ble_eq_true rfl), (Nat.le_of_ble_eq_true rfl)⟩ rfl rfl (Nat.le_of_ble_eq_true rfl) hl.1 ⟨(Nat.le_of_ble_eq_true rfl), (Nat.le_of_ble_eq_true rfl)⟩ dX7_init_111 (fun H locs S => ?_)
  exact y_retT (D := fun H => z_W 0 G (z_ad a 0) σb H) C S.2.1 S.1 (Nat.le_of_ble_eq_true rfl) (Nat.le_of_ble_eq_true rfl) dX7_init_114
theorem dX8_init_0 : decode cX8_init 0 = .ok (.aload_n 0, 1) := by decide +kernel
theorem dX8_init_1 : decode cX8_init 1 = .ok (.invokespecial 1, 3) := by decide +kernel
theorem dX8_init_4 : decode cX8_init 4 = .ok (.aload_n 0, 1) := by decide +kernel
theorem dX8_init_5 : decode cX8_init 5 = .ok (.sipush 2111, 3) := by decide +kernel
theorem dX8_init_8 : decode cX8_init 8 = .ok (.newarray .int, 2) := by decide +kernel
theorem dX8_init_10 : decode cX8_init 10 = .ok (.putfield 7, 3) := by decide +kernel
theorem dX8_init_13 : decode cX8_init 13 = .ok (.aload_n 0, 1) := by decide +kernel
theorem dX8_init_14 : decode cX8_init 14 = .ok (.sipush 2111, 3) := by decide +kernel
theorem dX8_init_17 : decode cX8_init 17 = .ok (.newarray .int, 2) := by decide +kernel
theorem dX8_init_19 : decode cX8_init 19 = .ok (.putfield 13, 3) := by decide +kernel
theorem dX8_init_22 : decode cX8_init 22 = .ok (.aload_n 0, 1) := by decide +kernel
theorem dX8_init_23 : decode cX8_init 23 = .ok (.sipush 2111, 3) := by decide +kernel
theorem dX8_init_26 : decode cX8_init 26 = .ok (.newarray .int, 2) := by decide +kernel
theorem dX8_init_28 : decode cX8_init 28 = .ok (.putfield 16, 3) := by decide +kernel
theorem dX8_init_31 : decode cX8_init 31 = .ok (.aload_n 0, 1) := by decide +kernel
theorem dX8_init_32 : decode cX8_init 32 = .ok (.sipush 2111, 3) := by decide +kernel
theorem dX8_init_35 : decode cX8_init 35 = .ok (.newarray .int, 2) := by decide +kernel
theorem dX8_init_37 : decode cX8_init 37 = .ok (.putfield 19, 3) := by decide +kernel
theorem dX8_init_40 : decode cX8_init 40 = .ok (.aload_n 0, 1) := by decide +kernel
theorem dX8_init_41 : decode cX8_init 41 = .ok (.sipush 21110, 3) := by decide +kernel
theorem dX8_init_44 : decode cX8_init 44 = .ok (.newarray .int, 2) := by decide +kernel
theorem dX8_init_46 : decode cX8_init 46 = .ok (.putfield 22, 3) := by decide +kernel
theorem dX8_init_49 : decode cX8_init 49 = .ok (.aload_n 0, 1) := by decide +kernel
theorem dX8_init_50 : decode cX8_init 50 = .ok (.sipush 1024, 3) := by decide +kernel
theorem dX8_init_53 : decode cX8_init 53 = .ok (.newarray .int, 2) := by decide +kernel
theorem dX8_init_55 : decode cX8_init 55 = .ok (.putfield 25, 3) := by decide +kernel
theorem dX8_init_58 : decode cX8_init 58 = .ok (.aload_n 0, 1) := by decide +kernel
theorem dX8_init_59 : decode cX8_init 59 = .ok (.sipush 700, 3) := by decide +kernel
theorem dX8_init_62 : decode cX8_init 62 = .ok (.newarray .int, 2) := by decide +kernel
theorem dX8_init_64 : decode cX8_init 64 = .ok (.putfield 28, 3) := by decide +kernel
theorem dX8_init_67 : decode cX8_init 67 = .ok (.aload_n 0, 1) := by decide +kernel
theorem dX8_init_68 : decode cX8_init 68 = .ok (.iconst (-1), 1) := by decide +kernel
theorem dX8_init_69 : decode cX8_init 69 = .ok (.putfield 31, 3) := by decide +kernel
theorem dX8_init_72 : decode cX8_init 72 = .ok (.aload_n 0, 1) := by decide +kernel
theorem dX8_init_73 : decode cX8_init 73 = .ok (.iconst 3, 1) := by decide +kernel
theorem dX8_init_74 : decode cX8_init 74 = .ok (.newarray .int, 2) := by decide +kernel
theorem dX8_init_76 : decode cX8_init 76 = .ok (.putfield 35, 3) := by decide +kernel
theorem dX8_init_79 : decode cX8_init 79 = .ok (.aload_n 0, 1) := by decide +kernel
theorem dX8_init_80 : decode cX8_init 80 = .ok (.bipush 30, 2) := by decide +kernel
theorem dX8_init_82 : decode cX8_init 82 = .ok (.newarray .int, 2) := by decide +kernel
theorem dX8_init_84 : decode cX8_init 84 = .ok (.putfield 38, 3) := by decide +kernel
theorem dX8_init_87 : decode cX8_init 87 = .ok (.aload_n 0, 1) := by decide +kernel
theorem dX8_init_88 : decode cX8_init 88 = .ok (.invokevirtual 41, 3) := by decide +kernel
theorem dX8_init_91 : decode cX8_init 91 = .ok (.aload_n 0, 1) := by decide +kernel
theorem dX8_init_92 : decode cX8_init 92 = .ok (.getfield 7, 3) := by decide +kernel
theorem dX8_init_95 : decode cX8_init 95 = .ok (.iconst 0, 1) := by decide +kernel
theorem dX8_init_96 : decode cX8_init 96 = .ok (.iconst 2, 1) := by decide +kernel
theorem dX8_init_97 : decode cX8_init 97 = .ok (.iastore, 1) := by decide +kernel
theorem dX8_init_98 : decode cX8_init 98 = .ok (.aload_n 0, 1) := by decide +kernel
theorem dX8_init_99 : decode cX8_init 99 = .ok (.iconst 0, 1) := by decide +kernel
theorem dX8_init_100 : decode cX8_init 100 = .ok (.iconst 1, 1) := by decide +kernel
theorem dX8_init_101 : decode cX8_init 101 = .ok (.invokevirtual 44, 3) := by decide +kernel
theorem dX8_init_104 : decode cX8_init 104 = .ok (.return_, 1) := by decide +kernel
theorem kv_X8_init : y_KI yX8_init cX8_init 1 := ⟨tw_6_108, tw_6_107, tw_1_10, rfl, by decide, by decide, by decide +kernel⟩
set_option maxHeartbeats 4000000 in
set_option maxRecDepth 100000 in
theorem m_X8_init (l : Launch) (G : Gx) (a : Nat) (σa σb : Sg) (ha : f_X8_clear y_σ0 = some σa) (hb : f_X8_addCar (sup σa 30 0 0 2) 0 1 = some σb) : y_MT l yX8_init cX8_init 1 4 110 9 31311 G a 8 [.null, .null, .null, .null, .null, .null, .int 0, .int 0, .int 0, .null, .int 0, .int 0, .int 0, .int 0, .int 0, .int 0, .int 0, .int 0, .int 0, .int 0, .null, .null, .int 0] (fun H => z_W 1 G (z_ad 0 a) σb H) := by
  refine y_beginT (by decide +kernel) rfl (Nat.le_of_ble_eq_true rfl) (fun p e s m args below meth c ls C hz h0 hb1 hb2 S hl => ?_)
  have hs0 := hz
  refine lv_aload_n C.1.1 C.1.2.1 dX8_init_0 rfl (lv_at hl 0 rfl) ?_
  refine y_obj C tw_6_109 hl.1 (Nat.le_of_ble_eq_true rfl) (Nat.le_of_ble_eq_true rfl) dX8_init_1 ?_
  refine lv_aload_n C.1.1 C.1.2.1 dX8_init_4 rfl (lv_at hl 0 rfl) ?_
  refine lv_sipush (v := 2111) C.1.1 C.1.2.1 dX8_init_5 (by decide) ?_
  refine y_newI C S hz 2111 (by decide) (by decide) (Nat.le_of_ble_eq_true rfl) (Nat.le_of_ble_eq_true rfl) (Nat.le_of_ble_eq_true rfl) dX8_init_8 (fun H z9 o9 h1 S => ?_)
  have h0 := va_at.kept h0 (o9 _ (show a < a + 1 by omega))
  have hz : H.size = a + 2 := z9
  clear o9 z9
  refine y_putF C S h0 (Nat.le_refl _) cf_8 0 (by decide) (Nat.le_of_ble_eq_true rfl) rfl rfl rfl rfl tw_6_118 dX8_init_10 (fun H locs z9 o9 h0 S => ?_)
  have h0 : va_at G.1 z_cl (a, .inr (8, [.ref (a + 1), .null, .null, .null, .null, .null, .int 0, .int 0, .int 0, .null, .int 0, .int 0, .int 0, .int 0, .int 0, .int 0, .int 0, .int 0, .int 0, .int 0, .null, .null, .int 0])) H := h0
  have h1 := va_at.kept h1 (o9 _ (show a + 1 ≠ a by omega))
  have hz : H.size = a + 2 := z9.trans hz
  clear o9 z9
  refine lv_aload_n C.1.1 C.1.2.1 dX8_init_13 rfl (lv_at hl 0 rfl) ?_
  refine lv_sipush (v := 2111) C.1.1 C.1.2.1 dX8_init_14 (by decide) ?_
  refine y_newI C S hz 2111 (by decide) (by decide) (Nat.le_of_ble_eq_true rfl) (Nat.le_of_ble_eq_true rfl) (Nat.le_of_ble_eq_true rfl) dX8_init_17 (fun H z9 o9 h2 S => ?_)
  have h0 := va_at.kept h0 (o9 _ (show a < a + 2 by omega))
  have h1 := va_at.kept h1 (o9 _ (show a + 1 < a + 2 by omega))
  have hz : H.size = a + 3 := z9
  clear o9 z9
  refine y_putF C S h0 (Nat.le_refl _) cf_8 1 (by decide) (Nat.le_of_ble_eq_true rfl) rfl rfl rfl rfl tw_6_119 dX8_init_19 (fun H locs z9 o9 h0 S => ?_)
  have h0 : va_at G.1 z_cl (a, .inr (8, [.ref (a + 1), .ref (a + 2), .null, .null, .null, .null, .int 0, .int 0, .int 0, .null, .int 0, .int 0, .int 0, .int 0, .int 0, .int 0, .int 0, .int 0, .int 0, .int 0, .null, .null, .int 0])) H := h0
  have h1 := va_at.kept h1 (o9 _ (show a + 1 ≠ a by omega))
  have h2 := va_at.kept h2 (o9 _ (show a + 2 ≠ a by omega))
  have hz : H.size = a + 3 := z9.trans hz
  clear o9 z9
  refine lv_aload_n C.1.1 C.1.2.1 dX8_init_22 rfl (lv_at hl 0 rfl) ?_
  refine lv_sipush (v := 2111) C.1.1 C.1.2.1 dX8_init_23 (by decide) ?_
  refine y_newI C S hz 2111 (by decide) (by decide) (Nat.le_of_ble_eq_true rfl) (Nat.le_of_ble_eq_true rfl) (Nat.le_of_ble_eq_true rfl) dX8_init_26 (fun H z9 o9 h3 S => ?_)
  have h0 := va_at.kept h0 (o9 _ (show a < a + 3 by omega))
  have h1 := va_at.kept h1 (o9 _ (show a + 1 < a + 3 by omega))
  have h2 := va_at.kept h2 (o9 _ (show a + 2 < a + 3 by omega))
  have hz : H.size = a + 4 := z9
  clear o9 z9
  refine y_putF C S h0 (Nat.le_refl _) cf_8 2 (by decide) (Nat.le_of_ble_eq_true rfl) rfl rfl rfl rfl tw_6_120 dX8_init_28 (fun H locs z9 o9 h0 S => ?_)
  have h0 : va_at G.1 z_cl (a, .inr (8, [.ref (a + 1), .ref (a + 2), .ref (a + 3), .null, .null, .null, .int 0, .int 0, .int 0, .null, .int 0, .int 0, .int 0, .int 0, .int 0, .int 0, .int 0, .int 0, .int 0, .int 0, .null, .null, .int 0])) H := h0
  have h1 := va_at.kept h1 (o9 _ (show a + 1 ≠ a by omega))
  have h2 := va_at.kept h2 (o9 _ (show a + 2 ≠ a by omega))
  have h3 := va_at.kept h3 (o9 _ (show a + 3 ≠ a by omega))
  have hz : H.size = a + 4 := z9.trans hz
  clear o9 z9
  refine lv_aload_n C.1.1 C.1.2.1 dX8_init_31 rfl (lv_at hl 0 rfl) ?_
  refine lv_sipush (v := 2111) C.1.1 C.1.2.1 dX8_init_32 (by decide) ?_
  refine y_newI C S hz 2111 (by decide) (by decide) (Nat.le_of_ble_eq_true rfl) (Nat.le_of_ble_eq_true rfl) (Nat.le_of_ble_eq_true rfl) dX8_init_35 (fun H z9 o9 h4 S => ?_)
  have h0 := va_at.kept h0 (o9 _ (show a < a + 4 by omega))
  have h1 := va_at.kept h1 (o9 _ (show a + 1 < a + 4 by omega))
  have h2 := va_at.kept h2 (o9 _ (show a + 2 < a + 4 by omega))
  have h3 := va_at.kept h3 (o9 _ (show a + 3 < a + 4 by omega))
  have hz : H.size = a + 5 := z9
  clear o9 z9
  refine y_putF C S h0 (Nat.le_refl _) cf_8 3 (by decide) (Nat.le_of_ble_eq_true rfl) rfl rfl rfl rfl tw_6_121 dX8_init_37 (fun H locs z9 o9 h0 S => ?_)
  have h0 : va_at G.1 z_cl (a, .inr (8, [.ref (a + 1), .ref (a + 2), .ref (a + 3), .ref (a + 4), .null, .null, .int 0, .int 0, .int 0, .null, .int 0, .int 0, .int 0, .int 0, .int 0, .int 0, .int 0, .int 0, .int 0, .int 0, .null, .null, .int 0])) H := h0
  have h1 := va_at.kept h1 (o9 _ (show a + 1 ≠ a by omega))
  have h2 := va_at.kept h2 (o9 _ (show a + 2 ≠ a by omega))
  have h3 := va_at.kept h3 (o9 _ (show a + 3 ≠ a by omega))
  have h4 := va_at.kept h4 (o9 _ (show a + 4 ≠ a by omega))
  have hz : H.size = a + 5 := z9.trans hz
  clear o9 z9
  refine lv_aload_n C.1.1 C.1.2.1 dX8_init_40 rfl (lv_at hl 0 rfl) ?_
  refine lv_sipush (v := 21110) C.1.1 C.1.2.1 dX8_init_41 (by decide) ?_
  refine y_newI C S hz 21110 (by decide) (by decide) (Nat.le_of_ble_eq_true rfl) (Nat.le_of_ble_eq_true rfl) (Nat.le_of_ble_eq_true rfl) dX8_init_44 (fun H z9 o9 h5 S => ?_)
  have h0 := va_at.kept h0 (o9 _ (show a < a + 5 by omega))
  have h1 := va_at.kept h1 (o9 _ (show a + 1 < a + 5 by omega))
  have h2 := va_at.kept h2 (o9 _ (show a + 2 < a + 5 by omega))
  have h3 := va_at.kept h3 (o9 _ (show a + 3 < a + 5 by omega))
  have h4 := va_at.kept h4 (o9 _ (show a + 4 < a + 5 by omega))
  have hz : H.size = a + 6 := z9
  clear o9 z9
  refine y_putF C S h0 (Nat.le_refl _) cf_8 4 (by decide) (Nat.le_of_ble_eq_true rfl) rfl rfl rfl rfl tw_6_122 dX8_init_46 (fun H locs z9 o9 h0 S => ?_)
  have h0 : va_at G.1 z_cl (a, .inr (8, [.ref (a + 1), .ref (a + 2), .ref (a + 3), .ref (a + 4), .ref (a + 5), .null, .int 0, .int 0, .int 0, .null, .int 0, .int 0, .int 0, .int 0, .int 0, .int 0, .int 0, .int 0, .int 0, .int 0, .null, .null, .int 0])) H := h0
  have h1 := va_at.kept h1 (o9 _ (show a + 1 ≠ a by omega))
  have h2 := va_at.kept h2 (o9 _ (show a + 2 ≠ a by omega))
  have h3 := va_at.kept h3 (o9 _ (show a + 3 ≠ a by omega))
  have h4 := va_at.kept h4 (o9 _ (show a + 4 ≠ a by omega))
  have h5 := va_at.kept h5 (o9 _ (show a + 5 ≠ a by omega))
  have hz : H.size = a + 6 := z9.trans hz
  clear o9 z9
  refine lv_aload_n C.1.1 C.1.2.1 dX8_init_49 rfl (lv_at hl 0 rfl) ?_
  refine lv_sipush (v := 1024) C.1.1 C.1.2.1 dX8_init_50 (by decide) ?_
  refine y_newI C S hz 1024 (by decide) (by decide) (Nat.le_of_ble_eq_true rfl) (Nat.le_of_ble_eq_true rfl) (Nat.le_of_ble_eq_true rfl) dX8_init_53 (fun H z9 o9 h6 S => ?_)
  have h0 := va_at.kept h0 (o9 _ (show a < a + 6 by omega))
  have h1 := va_at.kept h1 (o9 _ (show a + 1 < a + 6 by omega))
  have h2 := va_at.kept h2 (o9 _ (show a + 2 < a + 6 by omega))
  have h3 := va_at.kept h3 (o9 _ (show a + 3 < a + 6 by omega))
  have h4 := va_at.kept h4 (o9 _ (show a + 4 < a + 6 by omega))
  have h5 := va_at.kept h5 (o9 _ (show a + 5 < a + 6 by omega))
  have hz : H.size = a + 7 := z9
  clear o9 z9
  refine y_putF C S h0 (Nat.le_refl _) cf_8 5 (by decide) (Nat.le_of_ble_eq_true rfl) rfl rfl rfl rfl tw_6_123 dX8_init_55 (fun H locs z9 o9 h0 S => ?_)
  have h0 : va_at G.1 z_cl (a, .inr (8, [.ref (a + 1), .ref (a + 2), .ref (a + 3), .ref (a + 4), .ref (a + 5), .ref (a + 6), .int 0, .int 0, .int 0, .null, .int 0, .int 0, .int 0, .int 0, .int 0, .int 0, .int 0, .int 0, .int 0, .int 0, .null, .null, .int 0])) H := h0
  have h1 := va_at.kept h1 (o9 _ (show a + 1 ≠ a by omega))
  have h2 := va_at.kept h2 (o9 _ (show a + 2 ≠ a by omega))
  have h3 := va_at.kept h3 (o9 _ (show a + 3 ≠ a by omega))
  have h4 := va_at.kept h4 (o9 _ (show a + 4 ≠ a by omega))
  have h5 := va_at.kept h5 (o9 _ (show a + 5 ≠ a by omega))
  have h6 := va_at.kept h6 (o9 _ (show a + 6 ≠ a by omega))
  have hz : H.size = a + 7 := z9.trans hz
  clear o9 z9
  refine lv_aload_n C.1.1 C.1.2.1 dX8_init_58 rfl (lv_at hl 0 rfl) ?_
  refine lv_sipush (v := 700) C.1.1 C.1.2.1 dX8_init_59 (by decide) ?_
  refine y_newI C S hz 700 (by decide) (by decide) (Nat.le_of_ble_eq_true rfl) (Nat.le_of_ble_eq_true rfl) (Nat.le_of_ble_eq_true rfl) dX8_init_62 (fun H z9 o9 h7 S => ?_)
  have h0 := va_at.kept h0 (o9 _ (show a < a + 7 by omega))
  have h1 := va_at.kept h1 (o9 _ (show a + 1 < a + 7 by omega))
  have h2 := va_at.kept h2 (o9 _ (show a + 2 < a + 7 by omega))
  have h3 := va_at.kept h3 (o9 _ (show a + 3 < a + 7 by omega))
  have h4 := va_at.kept h4 (o9 _ (show a + 4 < a + 7 by omega))
  have h5 := va_at.kept h5 (o9 _ (show a + 5 < a + 7 by omega))
  have h6 := va_at.kept h6 (o9 _ (show a + 6 < a + 7 by omega))
  have hz : H.size = a + 8 := z9
  clear o9 z9
  refine y_putF C S h0 (Nat.le_refl _) cf_8 9 (by decide) (Nat.le_of_ble_eq_true rfl) rfl rfl rfl rfl tw_6_127 dX8_init_64 (fun H locs z9 o9 h0 S => ?_)
  have h0 : va_at G.1 z_cl (a, .inr (8, [.ref (a + 1), .ref (a + 2), .ref (a + 3), .ref (a + 4), .ref (a + 5), .ref (a + 6), .int 0, .int 0, .int 0, .ref (a + 7), .int 0, .int 0, .int 0, .int 0, .int 0, .int 0, .int 0, .int 0, .int 0, .int 0, .null, .null, .int 0])) H := h0
  have h1 := va_at.kept h1 (o9 _ (show a + 1 ≠ a by omega))
  have h2 := va_at.kept h2 (o9 _ (show a + 2 ≠ a by omega))
  have h3 := va_at.kept h3 (o9 _ (show a + 3 ≠ a by omega))
  have h4 := va_at.kept h4 (o9 _ (show a + 4 ≠ a by omega))
  have h5 := va_at.kept h5 (o9 _ (show a + 5 ≠ a by omega))
  have h6 := va_at.kept h6 (o9 _ (show a + 6 ≠ a by omega))
  have h7 := va_at.kept h7 (o9 _ (show a + 7 ≠ a by omega))
  have hz : H.size = a + 8 := z9.trans hz
  clear o9 z9
  refine lv_aload_n C.1.1 C.1.2.1 dX8_init_67 rfl (lv_at hl 0 rfl) ?_
  refine lv_iconst (v := (-1)) C.1.1 C.1.2.1 dX8_init_68 (by decide) ?_
  refine y_putV C S h0 (Nat.le_refl _) cf_8 12 (by decide) (Nat.le_of_ble_eq_true rfl) rfl rfl rfl tw_6_130 dX8_init_69 (fun H locs z9 o9 h0 S => ?_)
  have h0 : va_at G.1 z_cl (a, .inr (8, [.ref (a + 1), .ref (a + 2), .ref (a + 3), .ref (a + 4), .ref (a + 5), .ref (a + 6), .int 0, .int 0, .int 0, .ref (a + 7), .int 0, .int 0, .int (-1), .int 0, .int 0, .int 0, .int 0, .int 0, .int 0, .int 0, .null, .null, .int 0])) H := h0
  have h1 := va_at.kept h1 (o9 _ (show a + 1 ≠ a by omega))
  have h2 := va_at.kept h2 (o9 _ (show a + 2 ≠ a by omega))
  have h3 := va_at.kept h3 (o9 _ (show a + 3 ≠ a by omega))
  have h4 := va_at.kept h4 (o9 _ (show a + 4 ≠ a by omega))
  have h5 := va_at.kept h5 (o9 _ (show a + 5 ≠ a by omega))
  have h6 := va_at.kept h6 (o9 _ (show a + 6 ≠ a by omega))
  have h7 := va_at.kept h7 (o9 _ (show a + 7 ≠ a by omega))
  have hz : H.size = a + 8 := z9.trans hz
  clear o9 z9
  refine lv_aload_n C.1.1 C.1.2.1 dX8_init_72 rfl (lv_at hl 0 rfl) ?_
  refine lv_iconst (v := 3) C.1.1 C.1.2.1 dX8_init_73 (by decide) ?_
  refine y_newI C S hz 3 (by decide) (by decide) (Nat.le_of_ble_eq_true rfl) (Nat.le_of_ble_eq_true rfl) (Nat.le_of_ble_eq_true rfl) dX8_init_74 (fun H z9 o9 h8 S => ?_)
  have h0 := va_at.kept h0 (o9 _ (show a < a + 8 by omega))
  have h1 := va_at.kept h1 (o9 _ (show a + 1 < a + 8 by omega))
  have h2 := va_at.kept h2 (o9 _ (show a + 2 < a + 8 by omega))
  have h3 := va_at.kept h3 (o9 _ (show a + 3 < a + 8 by omega))
  have h4 := va_at.kept h4 (o9 _ (show a + 4 < a + 8 by omega))
  have h5 := va_at.kept h5 (o9 _ (show a + 5 < a + 8 by omega))
  have h6 := va_at.kept h6 (o9 _ (show a + 6 < a + 8 by omega))
  have h7 := va_at.kept h7 (o9 _ (show a + 7 < a + 8 by omega))
  have hz : H.size = a + 9 := z9
  clear o9 z9
  refine y_putF C S h0 (Nat.le_refl _) cf_8 20 (by decide) (Nat.le_of_ble_eq_true rfl) rfl rfl rfl rfl tw_6_138 dX8_init_76 (fun H locs z9 o9 h0 S => ?_)
  have h0 : va_at G.1 z_cl (a, .inr (8, [.ref (a + 1), .ref (a + 2), .ref (a + 3), .ref (a + 4), .ref (a + 5), .ref (a + 6), .int 0, .int 0, .int 0, .ref (a + 7), .int 0, .int 0, .int (-1), .int 0, .int 0, .int 0, .int 0, .int 0, .int 0, .int 0, .ref (a + 8), .null, .int 0])) H := h0
  have h1 := va_at.kept h1 (o9 _ (show a + 1 ≠ a by omega))
  have h2 := va_at.kept h2 (o9 _ (show a + 2 ≠ a by omega))
  have h3 := va_at.kept h3 (o9 _ (show a + 3 ≠ a by omega))
  have h4 := va_at.kept h4 (o9 _ (show a + 4 ≠ a by omega))
  have h5 := va_at.kept h5 (o9 _ (show a + 5 ≠ a by omega))
  have h6 := va_at.kept h6 (o9 _ (show a + 6 ≠ a by omega))
  have h7 := va_at.kept h7 (o9 _ (show a + 7 ≠ a by omega))
  have h8 := va_at.kept h8 (o9 _ (show a + 8 ≠ a by omega))
  have hz : H.size = a + 9 := z9.trans hz
  clear o9 z9
  refine lv_aload_n C.1.1 C.1.2.1 dX8_init_79 rfl (lv_at hl 0 rfl) ?_
  refine lv_bipush (v := 30) C.1.1 C.1.2.1 dX8_init_80 (by decide) ?_
  refine y_newI C S hz 30 (by decide) (by decide) (Nat.le_of_ble_eq_true rfl) (Nat.le_of_ble_eq_true rfl) (Nat.le_of_ble_eq_true rfl) dX8_init_82 (fun H z9 o9 h9 S => ?_)
  have h0 := va_at.kept h0 (o9 _ (show a < a + 9 by omega))
  have h1 := va_at.kept h1 (o9 _ (show a + 1 < a + 9 by omega))
  have h2 := va_at.kept h2 (o9 _ (show a + 2 < a + 9 by omega))
  have h3 := va_at.kept h3 (o9 _ (show a + 3 < a + 9 by omega))
  have h4 := va_at.kept h4 (o9 _ (show a + 4 < a + 9 by omega))
  have h5 := va_at.kept h5 (o9 _ (show a + 5 < a + 9 by omega))
  have h6 := va_at.kept h6 (o9 _ (show a + 6 < a + 9 by omega))
  have h7 := va_at.kept h7 (o9 _ (show a + 7 < a + 9 by omega))
  have h8 := va_at.kept h8 (o9 _ (show a + 8 < a + 9 by omega))
  have hz : H.size = a + 10 := z9
  clear o9 z9
  refine y_putF C S h0 (Nat.le_refl _) cf_8 21 (by decide) (Nat.le_of_ble_eq_true rfl) rfl rfl rfl rfl tw_6_139 dX8_init_84 (fun H locs z9 o9 h0 S => ?_)
  have h0 : va_at G.1 z_cl (a, .inr (8, [.ref (a + 1), .ref (a + 2), .ref (a + 3), .ref (a + 4), .ref (a + 5), .ref (a + 6), .int 0, .int 0, .int 0, .ref (a + 7), .int 0, .int 0, .int (-1), .int 0, .int 0, .int 0, .int 0, .int 0, .int 0, .int 0, .ref (a + 8), .ref (a + 9), .int 0])) H := h0
  have h1 := va_at.kept h1 (o9 _ (show a + 1 ≠ a by omega))
  have h2 := va_at.kept h2 (o9 _ (show a + 2 ≠ a by omega))
  have h3 := va_at.kept h3 (o9 _ (show a + 3 ≠ a by omega))
  have h4 := va_at.kept h4 (o9 _ (show a + 4 ≠ a by omega))
  have h5 := va_at.kept h5 (o9 _ (show a + 5 ≠ a by omega))
  have h6 := va_at.kept h6 (o9 _ (show a + 6 ≠ a by omega))
  have h7 := va_at.kept h7 (o9 _ (show a + 7 ≠ a by omega))
  have h8 := va_at.kept h8 (o9 _ (show a + 8 ≠ a by omega))
  have h9 := va_at.kept h9 (o9 _ (show a + 9 ≠ a by omega))
  have hz : H.size = a + 10 := z9.trans hz
  clear o9 z9
  have hW : z_W 1 G (z_ad 0 a) y_σ0 H := by
    refine y_asm1 (y_qeq (q := (0, .inr (0, []))) h0 rfl rfl) (fun i hi hi0 => ?_) hb1 (by rw [hz]; exact Nat.le_add_right _ _) (y_low S hs0 hb1 hb2)
    match i, hi, hi0 with
    | 1, _, _ => exact h1
    | 2, _, _ => exact h2
    | 3, _, _ => exact h3
    | 4, _, _ => exact h4
    | 5, _, _ => exact h5
    | 6, _, _ => exact h6
    | 7, _, _ => exact h7
    | 8, _, _ => exact h8
    | 9, _, _ => exact h9
    | i + 10, hi, _ => exact absurd hi (by omega)
  have S : z_S 1 G (z_ad 0 a) y_σ0 (fun q => a ≤ q) s.heap H locs := ⟨hW, S, (y_lowA1 a), fun q hq => Nat.le_trans (by rw [hs0]; exact Nat.le_succ a) hq⟩
  refine lv_aload_n C.1.1 C.1.2.1 dX8_init_87 rfl (lv_at hl 0 rfl) ?_
  refine z_callV (ad := z_ad 0 a) C.1 S 8 0 rfl (by decide) cf_8 ⟨_, rfl⟩ [] (m_X8_clear l G _ y_σ0 σa ha _) kv_X8_clear tw_6_110 ⟨(Nat.le_of_ble_eq_true rfl), (Nat.le_of_ble_eq_true rfl)⟩ rfl rfl (Nat.le_of_ble_eq_true rfl) hl.1 ⟨(Nat.le_of_ble_eq_true rfl), (Nat.le_of_ble_eq_true rfl)⟩ dX8_init_88 (fun H locs S => ?_)
  refine lv_aload_n C.1.1 C.1.2.1 dX8_init_91 rfl (lv_at hl 0 rfl) ?_
  refine z_getR (ad := z_ad 0 a) C.1 S 8 0 rfl (by decide) cf_8 0 (by decide) _ (gr_8_0 G _ 0) tw_6_118 dX8_init_92 ?_
  refine lv_iconst (v := 0) C.1.1 C.1.2.1 dX8_init_95 (by decide) ?_
  refine lv_iconst (v := 2) C.1.1 C.1.2.1 dX8_init_96 (by decide) ?_
  refine z_iastL (ad := z_ad 0 a) C.1 S 30 0 rfl (by decide) 2111 (fun _ => rfl) 0 (by decide) (by decide) (by decide) dX8_init_97 (fun H locs S => ?_)
  refine lv_aload_n C.1.1 C.1.2.1 dX8_init_98 rfl (lv_at hl 0 rfl) ?_
  refine lv_iconst (v := 0) C.1.1 C.1.2.1 dX8_init_99 (by decide) ?_
  refine lv_iconst (v := 1) C.1.1 C.1.2.1 dX8_init_100 (by decide) ?_
  refine z_callV (ad := z_ad 0 a) C.1 S 8 0 rfl (by decide) cf_8 ⟨_, rfl⟩ [.int 0, .int 1] (m_X8_addCar l G _ _ 0 1 σb hb _) kv_X8_addCar tw_6_114 ⟨(Nat.le_of_ble_eq_true rfl), (Nat.le_of_ble_eq_true rfl)⟩ rfl rfl (Nat.le_of_ble_eq_true rfl) hl.1 ⟨(Nat.le_of_ble_eq_true rfl), (Nat.le_of_ble_eq_true rfl)⟩ dX8_init_101 (fun H locs S => ?_)
  exact y_retT (D := fun H => z_W 1 G (z_ad 0 a) σb H) C S.2.1 S.1 (Nat.le_of_ble_eq_true rfl) (Nat.le_of_ble_eq_true rfl) dX8_init_104
