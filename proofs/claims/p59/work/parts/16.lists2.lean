/-! lists of the JDK: adding, growing, a new list -/
/-- an element of a list: a car, a call, or a message -/
def k_el (G : Gx) (t y : Nat) (H : Heap) : Prop := match t with
  | 0 => ∃ fs, va_at G.1 z_cl (y, .inr (9, fs)) H
  | 1 => ∃ fs, va_at G.1 z_cl (y, .inr (8, fs)) H
  | _ => ∃ n f, va_at G.1 z_cl (y, .inl (G.2.1 0, n, .inl f)) H
def k_en (t : Nat) : String := match t with
  | 0 => RX9
  | 1 => RX8
  | _ => "[I"
theorem k_el.cls {G : Gx} {t y : Nat} {s : State} {H : Heap} (x6 : z_K G s) (h : k_el G t y H) : u_cls (k_en t) y s H := by
  match t, h with
  | 0, ⟨fs, h⟩ => exact u_clsO x6 h cf_9.1
  | 1, ⟨fs, h⟩ => exact u_clsO x6 h cf_8.1
  | (_ + 2), ⟨n, f, h⟩ => exact u_clsI x6 h
theorem k_el.kept {G : Gx} {t y : Nat} {H H1 : Heap} (h : k_el G t y H) (e : H1[y]? = H[y]?) : k_el G t y H1 := by
  match t, h with
  | 0, ⟨fs, h⟩ => exact ⟨fs, h.kept e⟩
  | 1, ⟨fs, h⟩ => exact ⟨fs, h.kept e⟩
  | (_ + 2), ⟨n, f, h⟩ => exact ⟨n, f, h.kept e⟩
theorem k_el.lt {G : Gx} {t y : Nat} {H : Heap} (h : k_el G t y H) : y < H.size := by
  match t, h with
  | 0, ⟨fs, h⟩ => exact h.lt
  | 1, ⟨fs, h⟩ => exact h.lt
  | (_ + 2), ⟨n, f, h⟩ => exact h.lt
theorem k_en_ca (t : Nat) : Cond.castable (k_en t) "java/lang/Object" ∈ z_nest := by
  match t with
  | 0 => exact List.mem_of_getElem? (i := 61) rfl
  | 1 => exact List.mem_of_getElem? (i := 62) rfl
  | (_ + 2) => exact List.mem_of_getElem? (i := 78) rfl
section UC
variable {p : Program} {l : Launch} {e : Env} {R : Room} {s : State} {m : MethodId} {args : Array Value} {below : List Frame} {meth : Method} {c : Code} {H : Heap} {locs : List Loc} {cells slots : Nat} {Q : State → Prop}
variable {cc : ByteArray} {pc : Nat} {ls : Array Slot} {rest : List Value} {own : String} {nL : Nat} {ret : Option FieldType} {G : Gx} {A : Nat → Prop} {H0 : Heap}
theorem u_copyq (C : Cx p s m args meth c own cc nL ret G) (S : va_S A H0 H locs) (hls : ls.size = nL) {a0 a n0 n1 : Nat} {f g : Nat → Option Nat} {E : String} (tt : Nat) (htt : (z_tys G)[tt]? = some (G.2.1 tt, .object "java/lang/Object")) (h0 : va_at G.1 z_cl (a0, .inl (G.2.1 tt, n0, .inr (.inr (.inr (.inr f))))) H) (h1 : va_at G.1 z_cl (a, .inl (G.2.1 tt, n1, .inr (.inr (.inr (.inr g))))) H) (hne : a0 ≠ a) (hA0 : A a0) (hA1 : A a)
    {index : Nat} (hl : Cond.methodLink own index arraycopyName ∈ TT) {sp dp n : Int32} (q1 : ¬ sp < 0) (q2 : ¬ dp < 0) (q3 : ¬ n < 0) (q4 : sp.toNatClampNeg + n.toNatClampNeg ≤ n0) (q5 : dp.toNatClampNeg + n.toNatClampNeg ≤ n1) (hel : ∀ i : Nat, i < n.toNatClampNeg → ∀ y : Nat, f (sp.toNatClampNeg + i) = some y → u_cls E y s H) (hca : Cond.castable E "java/lang/Object" ∈ z_nest)
    (hframes : 1 ≤ R.frames) (hlocals : (rest.map fun v => v.category).sum + 18 ≤ R.locals) (hdg : decode cc pc = .ok (.invokestatic index, 3))
    (kk : ∀ (H1 : Heap) (locs1 : List Loc), va_at G.1 z_cl (a0, .inl (G.2.1 tt, n0, .inr (.inr (.inr (.inr f))))) H1 → va_at G.1 z_cl (a, .inl (G.2.1 tt, n1, .inr (.inr (.inr (.inr (va_cpy f g sp.toNatClampNeg dp.toNatClampNeg n.toNatClampNeg)))))) H1 → va_S A H0 H1 locs1 → W p l e R s m args below meth c H1 locs1 cells slots Q (F0 m (pc + 3) ls rest)) : W p l e R s m args below meth c H locs cells slots Q (F0 m pc ls (.int n :: .int dp :: .ref a :: .int sp :: .ref a0 :: rest)) := by
  obtain ⟨x1, x2, x3, x4, x5, x6, x7, x8⟩ := C
  have hP : va_P G.1 z_cl [(a0, .inl (G.2.1 tt, n0, .inr (.inr (.inr (.inr f))))), (a, .inl (G.2.1 tt, n1, .inr (.inr (.inr (.inr g)))))] H := by
    intro k q hk
    match k, hk with
    | 0, hk => cases hk; exact h0
    | 1, hk => cases hk; exact h1
    | (k + 2), hk => simp at hk
  have hD : va_D A [(a0, .inl (G.2.1 tt, n0, .inr (.inr (.inr (.inr f))))), (a, .inl (G.2.1 tt, n1, .inr (.inr (.inr (.inr g)))))] := by
    refine ⟨fun i j x y hi hj hxy => ?_, fun k q hk => ?_⟩
    · match i, j, hi, hj with
      | 0, 0, _, _ => rfl
      | 1, 1, _, _ => rfl
      | 0, 1, hi, hj => cases hi; cases hj; exact absurd hxy hne
      | 1, 0, hi, hj => cases hi; cases hj; exact absurd hxy.symm hne
      | (i + 2), _, hi, _ => simp at hi
      | _, (j + 2), _, hj => simp at hj
    · match k, hk with
      | 0, hk => cases hk; exact hA0
      | 1, hk => cases hk; exact hA1
      | (k + 2), hk => simp at hk
  refine va_copyq (C := E) x1 x2 (x3.trans hls.symm) x4 (x5 _ hl) (x5 _ tw_2_119) (x5 _ tw_2_118) (x5 _ tw_1_8) x6.1 hP hD S 0 1 tt tt rfl rfl htt htt q1 q2 q3 q4 q5 hel (fun comp c0 f1 f2 => ?_) hframes hlocals hdg fun H1 locs1 g1 g2 g3 => ?_
  · obtain ⟨c1, t1, e1, e2, e3⟩ := Cond.castable_spec (va_Nw.use (A := args) rfl (x6.2.2.2.2.1 _ hca))
    cases f1.symm.trans e2
    cases f2.symm.trans e1
    exact e3
  · exact kk H1 locs1 (g1 0 _ rfl) (g1 1 _ rfl) g3
/-- the static empty array -/
theorem u_gets (C : Cx p s m args meth c own cc nL ret G) (hO : z_O G H) {Cn n d : String} {v : Value} (hZ : va_Z Cn n d v (z_B G) s G.2.2.1) {index : Nat} (hl : Cond.fieldLink own index Cn n d ∈ TT) (hdg : decode cc pc = .ok (.getstatic index, 3))
    (kk : W p l e R s m args below meth c H locs cells slots Q (F0 m (pc + 3) ls (v :: rest))) : W p l e R s m args below meth c H locs cells slots Q (F0 m pc ls rest) := by
  obtain ⟨x1, x2, x3, x4, x5, x6, x7, x8⟩ := C
  obtain ⟨cf, kf, fi, f, a, cell, h1, h2, h3, h4, h5, h6, h7, h8⟩ := hZ
  exact W.gets x1 x2 x4 (x5 _ hl) h1 h2 h3 h4 ((hO.2 a (Array.getElem?_eq_some_iff.mp h5).1).trans h5) (fun e => by rw [e] at h6; cases h6) h7 rfl hdg kk
theorem u_salen (C : Cx p s m args meth c own cc nL ret G) (hO : z_O G H) {ty : FieldType} {t N : Nat} {f : Nat → Value} (hT : va_T ty t N f (z_B G) s G.2.2.1) (hdg : decode cc pc = .ok (.arraylength, 1))
    (kk : W p l e R s m args below meth c H locs cells slots Q (F0 m (pc + 1) ls (.int (Int32.ofNat N) :: rest))) : W p l e R s m args below meth c H locs cells slots Q (F0 m pc ls (.ref t :: rest)) := by
  obtain ⟨x1, x2, x3, x4, x5, x6, x7, x8⟩ := C
  obtain ⟨cell, h1, h2, h3, h4, h5, h6, h7⟩ := hT
  exact W.alen x1 x2 ((hO.2 t (Array.getElem?_eq_some_iff.mp h1).1).trans h1) h2 h5 rfl rfl hdg kk
end UC
set_option maxHeartbeats 4000000 in
set_option maxRecDepth 100000 in
theorem k_newlen (l : Launch) (G : Gx) (cap : Nat) (h2 : 2 ≤ cap) (h9 : cap ≤ 100000) (sz : Nat) : k_M l yJ8_newLength_cabcc cJ8_newLength_cabcc 4 (Option.some FieldType.int) 1 21 0 0 G (fun H => True) sz [.int (nI cap), .int 1, .int (nI (cap / 2))] (some (.int (nI (cap + cap / 2)))) (fun H => H.size = sz) (fun q => False) := by
  refine k_begin (by decide +kernel) (Nat.le_of_ble_eq_true rfl) [(0, .int (nI cap)), (1, .int 1), (2, .int (nI (cap / 2)))] rfl (fun p e s m args below meth c ls C hnm hsz hP hO hl => ?_)
  have S : va_S (fun q => False) s.heap s.heap [] := va_S.rf
  refine lv_iload_n C.1 C.2.1 dJ8_newLength_cabcc_0 rfl (lv_at hl 0 rfl) ?_
  refine lv_iload_n C.1 C.2.1 dJ8_newLength_cabcc_1 rfl (lv_at hl 1 rfl) ?_
  refine lv_iload_n C.1 C.2.1 dJ8_newLength_cabcc_2 rfl (lv_at hl 2 rfl) ?_
  refine z_max C hl.1 tw_3_218 (Nat.le_of_ble_eq_true rfl) (Nat.le_of_ble_eq_true rfl) ⟨(Nat.le_of_ble_eq_true rfl), (Nat.le_of_ble_eq_true rfl)⟩ dJ8_newLength_cabcc_3 ?_
  have e1 : jmax 1 (nI (cap / 2)) = nI (cap / 2) := by
    unfold jmax
    by_cases c1 : (1 : Int32) < nI (cap / 2)
    · exact if_pos c1
    · rw [if_neg c1]
      have c2 : ¬ nI 1 < nI (cap / 2) := c1
      have : cap / 2 = 1 := by
        rcases Nat.lt_or_ge 1 (cap / 2) with h | h
        · exact absurd (nI_lt h (by omega)) c2
        · omega
      rw [this]
      rfl
  rw [e1]
  refine lv_iadd C.1 C.2.1 dJ8_newLength_cabcc_6 ?_
  have e2 : nI cap + nI (cap / 2) = nI (cap + cap / 2) := (Int32.ofNat_add cap (cap / 2)).symm
  rw [e2]
  refine lv_istore_n (lv' := [(3, .int (nI (cap + cap / 2))), (0, .int (nI cap)), (1, .int 1), (2, .int (nI (cap / 2)))]) C.1 C.2.1 dJ8_newLength_cabcc_7 rfl hl (by decide) rfl (fun ls hl => ?_)
  refine lv_iconst (v := 0) C.1 C.2.1 dJ8_newLength_cabcc_8 (by decide) ?_
  refine lv_iload_n C.1 C.2.1 dJ8_newLength_cabcc_9 rfl (lv_at hl 0 rfl) ?_
  refine lv_icmp_ge (tgt := 21) C.1 C.2.1 dJ8_newLength_cabcc_10 (by decide) (fun c_ => absurd c_ (Int32.not_le.mpr (show nI 0 < nI (cap + cap / 2) from nI_lt (by omega) (by omega)))) (fun c_ => ?_)
  refine lv_iload_n C.1 C.2.1 dJ8_newLength_cabcc_13 rfl (lv_at hl 0 rfl) ?_
  refine z_ldc (v := 2147483639) C tw_3_219 dJ8_newLength_cabcc_14 ?_
  refine lv_icmp_gt (tgt := 21) C.1 C.2.1 dJ8_newLength_cabcc_16 (by decide) (fun c_ => absurd c_ (nI_nlt (show cap + cap / 2 ≤ 2147483639 by omega) (by decide))) (fun c_ => ?_)
  refine lv_iload_n C.1 C.2.1 dJ8_newLength_cabcc_19 rfl (lv_at hl 0 rfl) ?_
  exact k_iret C S hsz (Nat.le_of_ble_eq_true rfl) (Nat.le_of_ble_eq_true rfl) dJ8_newLength_cabcc_20
set_option maxHeartbeats 4000000 in
set_option maxRecDepth 100000 in
theorem k_copy3 (l : Launch) (G : Gx) (ed cap nc t mi : Nat) (f : Nat → Option Nat) (hcn : cap ≤ nc) (h9 : nc ≤ 200000) (hmi : mi = G.2.2.2 6) (hGe : G.2.2.1.size ≤ ed) (sz : Nat) : k_M l yJ7_copyOf_6403c cJ7_copyOf_6403c 4 (Option.some (FieldType.array (FieldType.object "java/lang/Object"))) 1 26 1 nc G (fun H => va_at G.1 z_cl (ed, e_oa G cap f) H ∧ ∀ i y, f i = some y → k_el G t y H) sz [.ref ed, .int (nI nc), .ref mi] (some (.ref sz)) (fun H => sz + 1 ≤ H.size ∧ va_at G.1 z_cl (ed, e_oa G cap f) H ∧ va_at G.1 z_cl (sz, e_oa G nc (va_cpy f (fun _ => none) 0 0 cap)) H) (fun q => q = ed ∨ sz ≤ q) := by
  refine k_begin (by decide +kernel) (Nat.le_of_ble_eq_true rfl) [(0, .ref ed), (1, .int (nI nc)), (2, .ref mi)] rfl (fun p e s m args below meth c ls C hnm hsz hP hO hl => ?_)
  obtain ⟨h0, h1⟩ := hP
  have S : va_S (fun q => q = ed ∨ sz ≤ q) s.heap s.heap [] := va_S.rf
  subst hsz
  subst hmi
  refine lv_aload_n C.1 C.2.1 dJ7_copyOf_6403c_0 rfl (lv_at hl 2 rfl) ?_
  refine va_ldcM C.1 C.2.1 C.2.2.2.1 (C.2.2.2.2.1 _ tw_4_12) C.2.2.2.2.2.1.2.2.2.2.2.2.2.2.2.2.2.2.1.1 dJ7_copyOf_6403c_1 ?_
  refine lv_acmp_ne (rx := some (G.2.2.2 6)) (ry := some (G.2.2.2 6)) (tgt := 13) C.1 C.2.1 dJ7_copyOf_6403c_3 (by decide) (fun c_ => absurd rfl c_) (fun c_ => ?_)
  refine lv_iload_n C.1 C.2.1 dJ7_copyOf_6403c_6 rfl (lv_at hl 1 rfl) ?_
  refine u_newQ C S (t := 5) rfl C.2.2.2.2.2.1.2.2.2.2.2.2.2.2.2.2.2.1.1 tw_4_14 nc (nI_pos (by omega)) (nI_clamp (by omega)) (by omega) (Nat.le_of_ble_eq_true rfl) (Nat.le_of_eq (Nat.zero_add _)) dJ7_copyOf_6403c_7 (fun H1 z1 o1 g1 S => ?_)
  have hlt0 := h0.lt
  replace h0 := va_at.kept h0 (o1 _ h0.lt)
  refine lv_goto (tgt := 24) C.1 C.2.1 dJ7_copyOf_6403c_10 (by decide) ?_
  refine lv_astore_n (lv' := [(3, .ref s.heap.size), (0, .ref ed), (1, .int (nI nc)), (2, .ref (G.2.2.2 6))]) C.1 C.2.1 dJ7_copyOf_6403c_24 rfl hl (by decide) rfl (fun ls hl => ?_)
  refine lv_aload_n C.1 C.2.1 dJ7_copyOf_6403c_25 rfl (lv_at hl 1 rfl) ?_
  refine lv_iconst (v := 0) C.1 C.2.1 dJ7_copyOf_6403c_26 (by decide) ?_
  refine lv_aload_n C.1 C.2.1 dJ7_copyOf_6403c_27 rfl (lv_at hl 0 rfl) ?_
  refine lv_iconst (v := 0) C.1 C.2.1 dJ7_copyOf_6403c_28 (by decide) ?_
  refine lv_aload_n C.1 C.2.1 dJ7_copyOf_6403c_29 rfl (lv_at hl 1 rfl) ?_
  refine u_alen C 5 rfl h0 (v := nI cap) rfl dJ7_copyOf_6403c_30 ?_
  refine lv_iload_n C.1 C.2.1 dJ7_copyOf_6403c_31 rfl (lv_at hl 2 rfl) ?_
  refine z_min C hl.1 tw_4_15 (Nat.le_of_ble_eq_true rfl) (Nat.le_of_ble_eq_true rfl) ⟨(Nat.le_of_ble_eq_true rfl), Nat.le_of_eq (Nat.zero_add _)⟩ dJ7_copyOf_6403c_32 ?_
  have e1 : jmin (nI cap) (nI nc) = nI cap := by
    unfold jmin
    exact if_neg (nI_nlt hcn (by omega))
  rw [e1]
  have hc31 : cap < 2147483648 := by omega
  have hlt := h0.lt
  refine u_copyq (E := k_en t) C S hl.1 5 rfl h0 g1 (by omega) (Or.inl rfl) (Or.inr (Nat.le_refl _)) tw_4_16 (sp := 0) (dp := 0) (n := nI cap) (by decide) (by decide) (nI_pos hc31) (by rw [nI_clamp hc31]; show 0 + cap ≤ cap; omega) (by rw [nI_clamp hc31]; show 0 + cap ≤ nc; omega) (fun i hi y hy => ((h1 _ _ hy).kept (o1 _ (h1 _ _ hy).lt)).cls C.2.2.2.2.2.1) (k_en_ca t) (Nat.le_of_ble_eq_true rfl) (Nat.le_of_ble_eq_true rfl) dJ7_copyOf_6403c_35 (fun H2 locs2 g2 g3 S => ?_)
  refine lv_aload_n C.1 C.2.1 dJ7_copyOf_6403c_38 rfl (lv_at hl 0 rfl) ?_
  rw [nI_clamp hc31] at g3
  exact k_aret C S (Or.inr ⟨_, rfl⟩) (Or.inr ⟨_, rfl⟩) ⟨g3.lt, g2, g3⟩ (Nat.le_of_ble_eq_true rfl) (Nat.le_of_eq (Nat.zero_add _)) dJ7_copyOf_6403c_39
set_option maxHeartbeats 4000000 in
set_option maxRecDepth 100000 in
theorem k_copy2 (l : Launch) (G : Gx) (ed cap nc t : Nat) (f : Nat → Option Nat) (hcn : cap ≤ nc) (h9 : nc ≤ 200000) (hGe : G.2.2.1.size ≤ ed) (sz : Nat) : k_M l yJ7_copyOf_1904c cJ7_copyOf_1904c 2 (Option.some (FieldType.array (FieldType.object "java/lang/Object"))) 2 49 1 nc G (fun H => va_at G.1 z_cl (ed, e_oa G cap f) H ∧ ∀ i y, f i = some y → k_el G t y H) sz [.ref ed, .int (nI nc)] (some (.ref sz)) (fun H => sz + 1 ≤ H.size ∧ va_at G.1 z_cl (ed, e_oa G cap f) H ∧ va_at G.1 z_cl (sz, e_oa G nc (va_cpy f (fun _ => none) 0 0 cap)) H) (fun q => q = ed ∨ sz ≤ q) := by
  refine k_begin (by decide +kernel) (Nat.le_of_ble_eq_true rfl) [(0, .ref ed), (1, .int (nI nc))] rfl (fun p e s m args below meth c ls C hnm hsz hP hO hl => ?_)
  obtain ⟨h0, h1⟩ := hP
  have S : va_S (fun q => q = ed ∨ sz ≤ q) s.heap s.heap [] := va_S.rf
  refine lv_aload_n C.1 C.2.1 dJ7_copyOf_1904c_0 rfl (lv_at hl 0 rfl) ?_
  refine lv_iload_n C.1 C.2.1 dJ7_copyOf_1904c_1 rfl (lv_at hl 1 rfl) ?_
  refine lv_aload_n C.1 C.2.1 dJ7_copyOf_1904c_2 rfl (lv_at hl 0 rfl) ?_
  refine va_getC (C := "[Ljava/lang/Object;") C.1 C.2.1 (C.2.2.1.trans hl.1.symm) C.2.2.2.1 (C.2.2.2.2.1 _ tw_3_226) (va_Dc.use C.2.2.2.2.2.1.2.2.2.2.2.2.2.2.2.2.2.2.1.2) (C.2.2.2.2.1 _ tw_7_219) (C.2.2.2.2.1 _ tw_3_227) (C.2.2.2.2.1 _ tw_4_8) C.2.2.2.2.2.1.2.2.2.2.2.2.2.2.2.2.2.2.1.1 ⟨_, h0, rfl, va_nmO (C.2.2.2.2.2.1.1.2 5 _ rfl).2 (by decide)⟩ (Nat.le_of_ble_eq_true rfl) (Nat.le_of_ble_eq_true rfl) dJ7_copyOf_1904c_3 ?_
  refine k_callS C S hO [.ref ed, .int (nI nc), .ref (G.2.2.2 6)] (k_copy3 l G ed cap nc t _ f hcn h9 rfl hGe sz) hsz ⟨h0, h1⟩ kv_J7_copyOf_6403c tw_4_9 ⟨(Nat.le_of_ble_eq_true rfl), (Nat.le_of_ble_eq_true rfl)⟩ rfl rfl (Nat.le_of_ble_eq_true rfl) hl.1 ⟨(Nat.le_of_ble_eq_true rfl), Nat.le_of_eq (Nat.zero_add _)⟩ dJ7_copyOf_1904c_6 (fun q h => h) (fun H1 locs1 hp1 hle1 o1 S => ?_)
  exact k_aret C S (Or.inr ⟨_, rfl⟩) (Or.inr ⟨_, rfl⟩) hp1 (Nat.le_of_ble_eq_true rfl) (Nat.le_of_eq (Nat.zero_add _)) dJ7_copyOf_1904c_9
set_option maxHeartbeats 4000000 in
set_option maxRecDepth 100000 in
theorem k_grow1 (l : Launch) (G : Gx) (L ed cap t : Nat) (mo : Int32) (f : Nat → Option Nat) (hcap : 10 ≤ cap) (h9 : cap ≤ 100000) (hGL : G.2.2.1.size ≤ L) (hGe : G.2.2.1.size ≤ ed) (hLe : L ≠ ed) (sz : Nat) : k_M l yJx4a65c_grow_92f84 cJx4a65c_grow_92f84 4 (Option.some (FieldType.array (FieldType.object "java/lang/Object"))) 3 70 1 (cap + cap / 2) G (fun H => va_at G.1 z_cl (L, e_al mo ed (nI cap)) H ∧ va_at G.1 z_cl (ed, e_oa G cap f) H ∧ ∀ i y, f i = some y → k_el G t y H) sz [.ref L, .int (nI (cap + 1))] (some (.ref sz)) (fun H => sz + 1 ≤ H.size ∧ va_at G.1 z_cl (L, e_al mo sz (nI cap)) H ∧ va_at G.1 z_cl (sz, e_oa G (cap + cap / 2) (va_cpy f (fun _ => none) 0 0 cap)) H) (fun q => q = L ∨ q = ed ∨ sz ≤ q) := by
  refine k_begin (by decide +kernel) (Nat.le_of_ble_eq_true rfl) [(0, .ref L), (1, .int (nI (cap + 1)))] rfl (fun p e s m args below meth c ls C hnm hsz hP hO hl => ?_)
  obtain ⟨h0, h1, h2⟩ := hP
  have S : va_S (fun q => q = L ∨ q = ed ∨ sz ≤ q) s.heap s.heap [] := va_S.rf
  have hlL := h0.lt
  refine lv_aload_n C.1 C.2.1 dJx4a65c_grow_92f84_0 rfl (lv_at hl 0 rfl) ?_
  refine u_get C h0 cf_12 1 (by decide) rfl tw_3_144 dJx4a65c_grow_92f84_1 ?_
  refine u_alen C 5 rfl h1 (v := nI cap) rfl dJx4a65c_grow_92f84_4 ?_
  refine lv_istore_n (lv' := [(2, .int (nI cap)), (0, .ref L), (1, .int (nI (cap + 1)))]) C.1 C.2.1 dJx4a65c_grow_92f84_5 rfl hl (by decide) rfl (fun ls hl => ?_)
  refine lv_iload_n C.1 C.2.1 dJx4a65c_grow_92f84_6 rfl (lv_at hl 0 rfl) ?_
  refine lv_if_gt (tgt := 20) C.1 C.2.1 dJx4a65c_grow_92f84_7 (by decide) (fun c_ => ?_) (fun c_ => absurd (show nI 0 < nI cap from nI_lt (by omega) (by omega)) c_)
  refine lv_iload_n C.1 C.2.1 dJx4a65c_grow_92f84_20 rfl (lv_at hl 0 rfl) ?_
  refine lv_iload_n C.1 C.2.1 dJx4a65c_grow_92f84_21 rfl (lv_at hl 2 rfl) ?_
  refine lv_iload_n C.1 C.2.1 dJx4a65c_grow_92f84_22 rfl (lv_at hl 0 rfl) ?_
  refine lv_isub C.1 C.2.1 dJx4a65c_grow_92f84_23 ?_
  have e1 : nI (cap + 1) - nI cap = 1 := by
    have := (Int32.ofNat_sub (cap + 1) cap (by omega)).symm
    rw [Nat.add_sub_cancel_left] at this
    exact this
  rw [e1]
  refine lv_iload_n C.1 C.2.1 dJx4a65c_grow_92f84_24 rfl (lv_at hl 0 rfl) ?_
  refine lv_iconst (v := 1) C.1 C.2.1 dJx4a65c_grow_92f84_25 (by decide) ?_
  refine lv_ishr C.1 C.2.1 dJx4a65c_grow_92f84_26 ?_
  have e2 : nI cap >>> ((1 : Int32) &&& 31) = nI (cap / 2) := by
    have k := pk_shrN (n := cap) (by omega) ((1 : Int32) &&& 31) 1 (by decide)
    rw [Nat.pow_one] at k
    exact k
  rw [e2]
  refine k_callS C S hO [.int (nI cap), .int 1, .int (nI (cap / 2))] (k_newlen l G cap (by omega) h9 sz) hsz trivial kv_J8_newLength_cabcc tw_3_215 ⟨(Nat.le_of_ble_eq_true rfl), (Nat.le_of_ble_eq_true rfl)⟩ rfl rfl (Nat.le_of_ble_eq_true rfl) hl.1 ⟨(Nat.le_of_ble_eq_true rfl), Nat.le_trans (Nat.le_of_eq (Nat.zero_add _)) (Nat.zero_le _)⟩ dJx4a65c_grow_92f84_27 (fun _ h => h.elim) (fun H1 locs1 hz1 hle1 o1 S => ?_)
  have q1 : ∀ q : Nat, q < s.heap.size → H1[q]? = s.heap[q]? := fun q hq => o1 q hq id
  have hO1 : z_O G H1 := hO.call hle1 o1 (fun _ _ h => h)
  replace h0 := va_at.kept h0 (q1 _ h0.lt)
  replace h1 := va_at.kept h1 (q1 _ h1.lt)
  have h2' : ∀ i y, f i = some y → k_el G t y H1 := fun i y hy => (h2 i y hy).kept (q1 _ (h2 i y hy).lt)
  refine lv_istore_n (lv' := [(3, .int (nI (cap + cap / 2))), (2, .int (nI cap)), (0, .ref L), (1, .int (nI (cap + 1)))]) C.1 C.2.1 dJx4a65c_grow_92f84_30 rfl hl (by decide) rfl (fun ls hl => ?_)
  refine lv_aload_n C.1 C.2.1 dJx4a65c_grow_92f84_31 rfl (lv_at hl 2 rfl) ?_
  refine lv_aload_n C.1 C.2.1 dJx4a65c_grow_92f84_32 rfl (lv_at hl 2 rfl) ?_
  refine u_get C h0 cf_12 1 (by decide) rfl tw_3_144 dJx4a65c_grow_92f84_33 ?_
  refine lv_iload_n C.1 C.2.1 dJx4a65c_grow_92f84_36 rfl (lv_at hl 0 rfl) ?_
  refine k_callS C S hO1 [.ref ed, .int (nI (cap + cap / 2))] (k_copy2 l G ed cap (cap + cap / 2) t f (by omega) (by omega) hGe sz) hz1 ⟨h1, h2'⟩ kv_J7_copyOf_1904c tw_3_223 ⟨(Nat.le_of_ble_eq_true rfl), (Nat.le_of_ble_eq_true rfl)⟩ rfl rfl (Nat.le_of_ble_eq_true rfl) hl.1 ⟨(Nat.le_of_ble_eq_true rfl), by show 0 + 0 + (cap + cap / 2) ≤ cap + cap / 2; omega⟩ dJx4a65c_grow_92f84_37 (fun q h => Or.inr h) (fun H2 locs2 hp2 hle2 o2 S => ?_)
  obtain ⟨p1, p2, p3⟩ := hp2
  replace h0 := va_at.kept h0 (o2 _ h0.lt (fun z => by rcases z with z | z <;> omega))
  refine lv_dup_x1 C.1 C.2.1 dJx4a65c_grow_92f84_40 rfl rfl ?_
  refine u_put C S h0 (Or.inl rfl) cf_12 1 (by decide) (Nat.le_of_ble_eq_true rfl) rfl rfl rfl tw_3_144 dJx4a65c_grow_92f84_41 (fun H3 locs3 z3 o3 g0 S => ?_)
  exact k_aret C S (Or.inr ⟨_, rfl⟩) (Or.inr ⟨_, rfl⟩) ⟨by rw [z3]; exact p1, g0, p3.kept (o3 _ (by omega))⟩ (Nat.le_of_ble_eq_true rfl) (by show 0 + 0 + (cap + cap / 2) ≤ cap + cap / 2; omega) dJx4a65c_grow_92f84_44
set_option maxHeartbeats 4000000 in
set_option maxRecDepth 100000 in
theorem k_grow0 (l : Launch) (G : Gx) (L : Nat) (mo : Int32) (hGL : G.2.2.1.size ≤ L) (sz : Nat) : k_M l yJx4a65c_grow_92f84 cJx4a65c_grow_92f84 4 (Option.some (FieldType.array (FieldType.object "java/lang/Object"))) 1 60 1 10 G (fun H => va_at G.1 z_cl (L, e_al mo (G.2.2.2 3) 0) H) sz [.ref L, .int 1] (some (.ref sz)) (fun H => sz + 1 ≤ H.size ∧ va_at G.1 z_cl (L, e_al mo sz 0) H ∧ va_at G.1 z_cl (sz, e_oa G 10 (fun _ => none)) H) (fun q => q = L ∨ sz ≤ q) := by
  refine k_begin (by decide +kernel) (Nat.le_of_ble_eq_true rfl) [(0, .ref L), (1, .int 1)] rfl (fun p e s m args below meth c ls C hnm hsz hP hO hl => ?_)
  have S : va_S (fun q => q = L ∨ sz ≤ q) s.heap s.heap [] := va_S.rf
  subst hsz
  have hlL := hP.lt
  have hFL := C.2.2.2.2.2.1.2.2.2.2.2.2.2.2.2
  refine lv_aload_n C.1 C.2.1 dJx4a65c_grow_92f84_0 rfl (lv_at hl 0 rfl) ?_
  refine u_get C hP cf_12 1 (by decide) rfl tw_3_144 dJx4a65c_grow_92f84_1 ?_
  refine u_salen C hO hFL.2.1.2 dJx4a65c_grow_92f84_4 ?_
  refine lv_istore_n (lv' := [(2, .int 0), (0, .ref L), (1, .int 1)]) C.1 C.2.1 dJx4a65c_grow_92f84_5 rfl hl (by decide) rfl (fun ls hl => ?_)
  refine lv_iload_n C.1 C.2.1 dJx4a65c_grow_92f84_6 rfl (lv_at hl 0 rfl) ?_
  refine lv_if_gt (tgt := 20) C.1 C.2.1 dJx4a65c_grow_92f84_7 (by decide) (fun c_ => absurd c_ (by decide)) (fun c_ => ?_)
  refine lv_aload_n C.1 C.2.1 dJx4a65c_grow_92f84_10 rfl (lv_at hl 1 rfl) ?_
  refine u_get C hP cf_12 1 (by decide) rfl tw_3_144 dJx4a65c_grow_92f84_11 ?_
  refine u_gets C hO hFL.2.1.1 tw_3_142 dJx4a65c_grow_92f84_14 ?_
  refine lv_acmp_eq (rx := some (G.2.2.2 3)) (ry := some (G.2.2.2 3)) (tgt := 45) C.1 C.2.1 dJx4a65c_grow_92f84_17 (by decide) (fun c_ => ?_) (fun c_ => absurd rfl c_)
  refine lv_aload_n C.1 C.2.1 dJx4a65c_grow_92f84_45 rfl (lv_at hl 1 rfl) ?_
  refine lv_bipush (v := 10) C.1 C.2.1 dJx4a65c_grow_92f84_46 (by decide) ?_
  refine lv_iload_n C.1 C.2.1 dJx4a65c_grow_92f84_48 rfl (lv_at hl 2 rfl) ?_
  refine z_max C hl.1 tw_4_17 (Nat.le_of_ble_eq_true rfl) (Nat.le_of_ble_eq_true rfl) ⟨(Nat.le_of_ble_eq_true rfl), (Nat.le_of_ble_eq_true rfl)⟩ dJx4a65c_grow_92f84_49 ?_
  have e1 : jmax 10 1 = 10 := by decide
  rw [e1]
  refine u_newQ C S (t := 5) rfl hFL.2.2.1.1 tw_4_18 10 (by decide) (by decide) (Nat.le_of_ble_eq_true rfl) (Nat.le_of_ble_eq_true rfl) (Nat.le_of_ble_eq_true rfl) dJx4a65c_grow_92f84_52 (fun H1 z1 o1 g1 S => ?_)
  have h0 := va_at.kept hP (o1 _ hP.lt)
  refine lv_dup_x1 C.1 C.2.1 dJx4a65c_grow_92f84_55 rfl rfl ?_
  refine u_put C S h0 (Or.inl rfl) cf_12 1 (by decide) (Nat.le_of_ble_eq_true rfl) rfl rfl rfl tw_3_144 dJx4a65c_grow_92f84_56 (fun H3 locs3 z3 o3 g0 S => ?_)
  exact k_aret C S (Or.inr ⟨_, rfl⟩) (Or.inr ⟨_, rfl⟩) ⟨by rw [z3, z1]; exact Nat.le_refl _, g0, g1.kept (o3 _ (by omega))⟩ (Nat.le_of_ble_eq_true rfl) (Nat.le_of_ble_eq_true rfl) dJx4a65c_grow_92f84_59
set_option maxHeartbeats 4000000 in
set_option maxRecDepth 100000 in
theorem k_growv1 (l : Launch) (G : Gx) (L ed cap t : Nat) (mo : Int32) (f : Nat → Option Nat) (hcap : 10 ≤ cap) (h9 : cap ≤ 100000) (hGL : G.2.2.1.size ≤ L) (hGe : G.2.2.1.size ≤ ed) (hLe : L ≠ ed) (sz : Nat) : k_M l yJx4a65c_grow_d5877 cJx4a65c_grow_d5877 1 (Option.some (FieldType.array (FieldType.object "java/lang/Object"))) 4 93 1 (cap + cap / 2) G (fun H => va_at G.1 z_cl (L, e_al mo ed (nI cap)) H ∧ va_at G.1 z_cl (ed, e_oa G cap f) H ∧ ∀ i y, f i = some y → k_el G t y H) sz [.ref L] (some (.ref sz)) (fun H => sz + 1 ≤ H.size ∧ va_at G.1 z_cl (L, e_al mo sz (nI cap)) H ∧ va_at G.1 z_cl (sz, e_oa G (cap + cap / 2) (va_cpy f (fun _ => none) 0 0 cap)) H) (fun q => q = L ∨ q = ed ∨ sz ≤ q) := by
  refine k_begin (by decide +kernel) (Nat.le_of_ble_eq_true rfl) [(0, .ref L)] rfl (fun p e s m args below meth c ls C hnm hsz hP hO hl => ?_)
  have S : va_S (fun q => q = L ∨ q = ed ∨ sz ≤ q) s.heap s.heap [] := va_S.rf
  refine lv_aload_n C.1 C.2.1 dJx4a65c_grow_d5877_0 rfl (lv_at hl 0 rfl) ?_
  refine lv_aload_n C.1 C.2.1 dJx4a65c_grow_d5877_1 rfl (lv_at hl 0 rfl) ?_
  refine u_get C hP.1 cf_12 2 (by decide) rfl tw_3_147 dJx4a65c_grow_d5877_2 ?_
  refine lv_iconst (v := 1) C.1 C.2.1 dJx4a65c_grow_d5877_5 (by decide) ?_
  refine lv_iadd C.1 C.2.1 dJx4a65c_grow_d5877_6 ?_
  have e1 : nI cap + 1 = nI (cap + 1) := nI_1 cap
  rw [e1]
  refine k_callV C S hO (u_clsO C.2.2.2.2.2.1 hP.1 cf_12.1) [.int (nI (cap + 1))] (k_grow1 l G L ed cap t mo f hcap h9 hGL hGe hLe sz) hsz hP kv_Jx4a65c_grow_92f84 tw_3_211 ⟨(Nat.le_of_ble_eq_true rfl), (Nat.le_of_ble_eq_true rfl)⟩ rfl rfl (Nat.le_of_ble_eq_true rfl) hl.1 ⟨(Nat.le_of_ble_eq_true rfl), Nat.le_of_eq (Nat.zero_add _)⟩ dJx4a65c_grow_d5877_7 (fun q h => h) (fun H1 locs1 hp1 hle1 o1 S => ?_)
  exact k_aret C S (Or.inr ⟨_, rfl⟩) (Or.inr ⟨_, rfl⟩) hp1 (Nat.le_of_ble_eq_true rfl) (Nat.le_of_eq (Nat.zero_add _)) dJx4a65c_grow_d5877_10
set_option maxHeartbeats 4000000 in
set_option maxRecDepth 100000 in
theorem k_growv0 (l : Launch) (G : Gx) (L : Nat) (mo : Int32) (hGL : G.2.2.1.size ≤ L) (sz : Nat) : k_M l yJx4a65c_grow_d5877 cJx4a65c_grow_d5877 1 (Option.some (FieldType.array (FieldType.object "java/lang/Object"))) 2 83 1 10 G (fun H => va_at G.1 z_cl (L, e_al mo (G.2.2.2 3) 0) H) sz [.ref L] (some (.ref sz)) (fun H => sz + 1 ≤ H.size ∧ va_at G.1 z_cl (L, e_al mo sz 0) H ∧ va_at G.1 z_cl (sz, e_oa G 10 (fun _ => none)) H) (fun q => q = L ∨ sz ≤ q) := by
  refine k_begin (by decide +kernel) (Nat.le_of_ble_eq_true rfl) [(0, .ref L)] rfl (fun p e s m args below meth c ls C hnm hsz hP hO hl => ?_)
  have S : va_S (fun q => q = L ∨ sz ≤ q) s.heap s.heap [] := va_S.rf
  refine lv_aload_n C.1 C.2.1 dJx4a65c_grow_d5877_0 rfl (lv_at hl 0 rfl) ?_
  refine lv_aload_n C.1 C.2.1 dJx4a65c_grow_d5877_1 rfl (lv_at hl 0 rfl) ?_
  refine u_get C hP cf_12 2 (by decide) rfl tw_3_147 dJx4a65c_grow_d5877_2 ?_
  refine lv_iconst (v := 1) C.1 C.2.1 dJx4a65c_grow_d5877_5 (by decide) ?_
  refine lv_iadd C.1 C.2.1 dJx4a65c_grow_d5877_6 ?_
  refine k_callV C S hO (u_clsO C.2.2.2.2.2.1 hP cf_12.1) [.int 1] (k_grow0 l G L mo hGL sz) hsz hP kv_Jx4a65c_grow_92f84 tw_3_211 ⟨(Nat.le_of_ble_eq_true rfl), (Nat.le_of_ble_eq_true rfl)⟩ rfl rfl (Nat.le_of_ble_eq_true rfl) hl.1 ⟨(Nat.le_of_ble_eq_true rfl), Nat.le_of_eq (Nat.zero_add _)⟩ dJx4a65c_grow_d5877_7 (fun q h => h) (fun H1 locs1 hp1 hle1 o1 S => ?_)
  exact k_aret C S (Or.inr ⟨_, rfl⟩) (Or.inr ⟨_, rfl⟩) hp1 (Nat.le_of_ble_eq_true rfl) (Nat.le_of_eq (Nat.zero_add _)) dJx4a65c_grow_d5877_10
set_option maxHeartbeats 4000000 in
set_option maxRecDepth 100000 in
theorem k_addin0 (l : Launch) (G : Gx) (L ed n cap t x : Nat) (mo : Int32) (f : Nat → Option Nat) (hn : n < cap) (h9 : cap ≤ 100000) (hGL : G.2.2.1.size ≤ L) (hGe : G.2.2.1.size ≤ ed) (hLe : L ≠ ed) (sz : Nat) : k_M l yJx4a65c_add_72be8 cJx4a65c_add_72be8 4 none 1 60 0 0 G (fun H => va_at G.1 z_cl (L, e_al mo ed (nI n)) H ∧ va_at G.1 z_cl (ed, e_oa G cap f) H ∧ k_el G t x H) sz [.ref L, .ref x, .ref ed, .int (nI n)] none (fun H => sz ≤ H.size ∧ va_at G.1 z_cl (L, e_al mo ed (nI (n + 1))) H ∧ va_at G.1 z_cl (ed, e_oa G cap (va_up f n (some x))) H) (fun q => q = L ∨ q = ed ∨ sz ≤ q) := by
  refine k_begin (by decide +kernel) (Nat.le_of_ble_eq_true rfl) [(0, .ref L), (1, .ref x), (2, .ref ed), (3, .int (nI n))] rfl (fun p e s m args below meth c ls C hnm hsz hP hO hl => ?_)
  obtain ⟨h0, h1, h2⟩ := hP
  have S : va_S (fun q => q = L ∨ q = ed ∨ sz ≤ q) s.heap s.heap [] := va_S.rf
  refine lv_iload_n C.1 C.2.1 dJx4a65c_add_72be8_0 rfl (lv_at hl 3 rfl) ?_
  refine lv_aload_n C.1 C.2.1 dJx4a65c_add_72be8_1 rfl (lv_at hl 2 rfl) ?_
  refine u_alen C 5 rfl h1 (v := nI cap) rfl dJx4a65c_add_72be8_2 ?_
  refine lv_icmp_ne (tgt := 11) C.1 C.2.1 dJx4a65c_add_72be8_3 (by decide) (fun c_ => ?_) (fun c_ => absurd (nI_eq (by omega) (by omega) |>.mp c_) (by omega))
  refine lv_aload_n C.1 C.2.1 dJx4a65c_add_72be8_11 rfl (lv_at hl 2 rfl) ?_
  refine lv_iload_n C.1 C.2.1 dJx4a65c_add_72be8_12 rfl (lv_at hl 3 rfl) ?_
  refine lv_aload_n C.1 C.2.1 dJx4a65c_add_72be8_13 rfl (lv_at hl 1 rfl) ?_
  have hn31 : n < 2147483648 := by omega
  refine u_aast C S 5 h1 (Or.inr (Or.inl rfl)) rfl (h2.cls C.2.2.2.2.2.1) (k_en_ca t) (by rw [nI_clamp hn31]; exact fun q => q.elim (fun q => nI_pos hn31 q) (fun q => by omega)) dJx4a65c_add_72be8_14 (fun H1 locs1 z1 o1 g1 S => ?_)
  rw [nI_clamp hn31] at g1
  replace h0 := va_at.kept h0 (o1 _ hLe)
  refine lv_aload_n C.1 C.2.1 dJx4a65c_add_72be8_15 rfl (lv_at hl 0 rfl) ?_
  refine lv_iload_n C.1 C.2.1 dJx4a65c_add_72be8_16 rfl (lv_at hl 3 rfl) ?_
  refine lv_iconst (v := 1) C.1 C.2.1 dJx4a65c_add_72be8_17 (by decide) ?_
  refine lv_iadd C.1 C.2.1 dJx4a65c_add_72be8_18 ?_
  have e1 : nI n + 1 = nI (n + 1) := nI_1 n
  rw [e1]
  refine u_put C S h0 (Or.inl rfl) cf_12 2 (by decide) (Nat.le_of_ble_eq_true rfl) rfl rfl rfl tw_3_147 dJx4a65c_add_72be8_19 (fun H3 locs3 z3 o3 g0 S => ?_)
  exact k_vret C S ⟨by rw [z3, z1, hsz]; exact Nat.le_refl _, g0, g1.kept (o3 _ (Ne.symm hLe))⟩ (Nat.le_of_ble_eq_true rfl) (Nat.le_of_ble_eq_true rfl) dJx4a65c_add_72be8_22
set_option maxHeartbeats 4000000 in
set_option maxRecDepth 100000 in
theorem k_addg0 (l : Launch) (G : Gx) (L ed cap t x : Nat) (mo : Int32) (f : Nat → Option Nat) (hcap : 10 ≤ cap) (h9 : cap ≤ 100000) (hGL : G.2.2.1.size ≤ L) (hGe : G.2.2.1.size ≤ ed) (hLe : L ≠ ed) (hxL : x ≠ L) (hxe : x ≠ ed) (sz : Nat) : k_M l yJx4a65c_add_72be8 cJx4a65c_add_72be8 4 none 5 113 1 (cap + cap / 2) G (fun H => va_at G.1 z_cl (L, e_al mo ed (nI cap)) H ∧ va_at G.1 z_cl (ed, e_oa G cap f) H ∧ (∀ i y, f i = some y → k_el G t y H) ∧ k_el G t x H) sz [.ref L, .ref x, .ref ed, .int (nI cap)] none (fun H => sz + 1 ≤ H.size ∧ va_at G.1 z_cl (L, e_al mo sz (nI (cap + 1))) H ∧ va_at G.1 z_cl (sz, e_oa G (cap + cap / 2) (va_up (va_cpy f (fun _ => none) 0 0 cap) cap (some x))) H) (fun q => q = L ∨ q = ed ∨ sz ≤ q) := by
  refine k_begin (by decide +kernel) (Nat.le_of_ble_eq_true rfl) [(0, .ref L), (1, .ref x), (2, .ref ed), (3, .int (nI cap))] rfl (fun p e s m args below meth c ls C hnm hsz hP hO hl => ?_)
  obtain ⟨h0, h1, h2, hx⟩ := hP
  have S : va_S (fun q => q = L ∨ q = ed ∨ sz ≤ q) s.heap s.heap [] := va_S.rf
  
  have hlL := h0.lt
  refine lv_iload_n C.1 C.2.1 dJx4a65c_add_72be8_0 rfl (lv_at hl 3 rfl) ?_
  refine lv_aload_n C.1 C.2.1 dJx4a65c_add_72be8_1 rfl (lv_at hl 2 rfl) ?_
  refine u_alen C 5 rfl h1 (v := nI cap) rfl dJx4a65c_add_72be8_2 ?_
  refine lv_icmp_ne (tgt := 11) C.1 C.2.1 dJx4a65c_add_72be8_3 (by decide) (fun c_ => absurd rfl c_) (fun c_ => ?_)
  refine lv_aload_n C.1 C.2.1 dJx4a65c_add_72be8_6 rfl (lv_at hl 0 rfl) ?_
  refine k_callV C S hO (u_clsO C.2.2.2.2.2.1 h0 cf_12.1) [] (k_growv1 l G L ed cap t mo f hcap h9 hGL hGe hLe sz) hsz ⟨h0, h1, h2⟩ kv_Jx4a65c_grow_d5877 tw_3_207 ⟨(Nat.le_of_ble_eq_true rfl), (Nat.le_of_ble_eq_true rfl)⟩ rfl rfl (Nat.le_of_ble_eq_true rfl) hl.1 ⟨(Nat.le_of_ble_eq_true rfl), Nat.le_of_eq (Nat.zero_add _)⟩ dJx4a65c_add_72be8_7 (fun q h => h) (fun H1 locs1 hp1 hle1 o1 S => ?_)
  obtain ⟨p1, p2, p3⟩ := hp1
  have hxl := hx.lt
  have hx1 : k_el G t x H1 := hx.kept (o1 _ hxl (fun z => by rcases z with z | z | z <;> omega))
  refine lv_astore_n (lv' := [(2, .ref sz), (0, .ref L), (1, .ref x), (3, .int (nI cap))]) C.1 C.2.1 dJx4a65c_add_72be8_10 rfl hl (by decide) rfl (fun ls hl => ?_)
  refine lv_aload_n C.1 C.2.1 dJx4a65c_add_72be8_11 rfl (lv_at hl 0 rfl) ?_
  refine lv_iload_n C.1 C.2.1 dJx4a65c_add_72be8_12 rfl (lv_at hl 3 rfl) ?_
  refine lv_aload_n C.1 C.2.1 dJx4a65c_add_72be8_13 rfl (lv_at hl 2 rfl) ?_
  have hn31 : cap < 2147483648 := by omega
  refine u_aast C S 5 p3 (Or.inr (Or.inr (Nat.le_refl _))) rfl (hx1.cls C.2.2.2.2.2.1) (k_en_ca t) (by rw [nI_clamp hn31]; exact fun q => q.elim (fun q => nI_pos hn31 q) (fun q => by omega)) dJx4a65c_add_72be8_14 (fun H2 locs2 z2 o2 g1 S => ?_)
  rw [nI_clamp hn31] at g1
  replace p2 := va_at.kept p2 (o2 _ (by omega))
  refine lv_aload_n C.1 C.2.1 dJx4a65c_add_72be8_15 rfl (lv_at hl 1 rfl) ?_
  refine lv_iload_n C.1 C.2.1 dJx4a65c_add_72be8_16 rfl (lv_at hl 3 rfl) ?_
  refine lv_iconst (v := 1) C.1 C.2.1 dJx4a65c_add_72be8_17 (by decide) ?_
  refine lv_iadd C.1 C.2.1 dJx4a65c_add_72be8_18 ?_
  have e1 : (nI cap) + 1 = (nI (cap + 1)) := nI_1 cap
  rw [e1]
  refine u_put C S p2 (Or.inl rfl) cf_12 2 (by decide) (Nat.le_of_ble_eq_true rfl) rfl rfl rfl tw_3_147 dJx4a65c_add_72be8_19 (fun H3 locs3 z3 o3 g0 S => ?_)
  exact k_vret C S ⟨by rw [z3, z2]; exact p1, g0, g1.kept (o3 _ (by omega))⟩ (Nat.le_of_ble_eq_true rfl) (Nat.le_of_eq (Nat.zero_add _)) dJx4a65c_add_72be8_22
set_option maxHeartbeats 4000000 in
set_option maxRecDepth 100000 in
theorem k_addf0 (l : Launch) (G : Gx) (L t x : Nat) (mo : Int32) (hGL : G.2.2.1.size ≤ L) (hxL : x ≠ L) (sz : Nat) : k_M l yJx4a65c_add_72be8 cJx4a65c_add_72be8 4 none 3 103 1 10 G (fun H => va_at G.1 z_cl (L, e_al mo (G.2.2.2 3) 0) H ∧ k_el G t x H) sz [.ref L, .ref x, .ref (G.2.2.2 3), .int (nI 0)] none (fun H => sz + 1 ≤ H.size ∧ va_at G.1 z_cl (L, e_al mo sz (nI 1)) H ∧ va_at G.1 z_cl (sz, e_oa G 10 (va_up (fun _ => none) 0 (some x))) H) (fun q => q = L ∨ sz ≤ q) := by
  refine k_begin (by decide +kernel) (Nat.le_of_ble_eq_true rfl) [(0, .ref L), (1, .ref x), (2, .ref (G.2.2.2 3)), (3, .int (nI 0))] rfl (fun p e s m args below meth c ls C hnm hsz hP hO hl => ?_)
  obtain ⟨h0, hx⟩ := hP
  have S : va_S (fun q => q = L ∨ sz ≤ q) s.heap s.heap [] := va_S.rf
  
  have hlL := h0.lt
  refine lv_iload_n C.1 C.2.1 dJx4a65c_add_72be8_0 rfl (lv_at hl 3 rfl) ?_
  refine lv_aload_n C.1 C.2.1 dJx4a65c_add_72be8_1 rfl (lv_at hl 2 rfl) ?_
  refine u_salen C hO C.2.2.2.2.2.1.2.2.2.2.2.2.2.2.2.2.1.2 dJx4a65c_add_72be8_2 ?_
  refine lv_icmp_ne (tgt := 11) C.1 C.2.1 dJx4a65c_add_72be8_3 (by decide) (fun c_ => absurd rfl c_) (fun c_ => ?_)
  refine lv_aload_n C.1 C.2.1 dJx4a65c_add_72be8_6 rfl (lv_at hl 0 rfl) ?_
  refine k_callV C S hO (u_clsO C.2.2.2.2.2.1 h0 cf_12.1) [] (k_growv0 l G L mo hGL sz) hsz h0 kv_Jx4a65c_grow_d5877 tw_3_207 ⟨(Nat.le_of_ble_eq_true rfl), (Nat.le_of_ble_eq_true rfl)⟩ rfl rfl (Nat.le_of_ble_eq_true rfl) hl.1 ⟨(Nat.le_of_ble_eq_true rfl), Nat.le_of_eq (Nat.zero_add _)⟩ dJx4a65c_add_72be8_7 (fun q h => h) (fun H1 locs1 hp1 hle1 o1 S => ?_)
  obtain ⟨p1, p2, p3⟩ := hp1
  have hxl := hx.lt
  have hx1 : k_el G t x H1 := hx.kept (o1 _ hxl (fun z => by rcases z with z | z <;> omega))
  refine lv_astore_n (lv' := [(2, .ref sz), (0, .ref L), (1, .ref x), (3, .int (nI 0))]) C.1 C.2.1 dJx4a65c_add_72be8_10 rfl hl (by decide) rfl (fun ls hl => ?_)
  refine lv_aload_n C.1 C.2.1 dJx4a65c_add_72be8_11 rfl (lv_at hl 0 rfl) ?_
  refine lv_iload_n C.1 C.2.1 dJx4a65c_add_72be8_12 rfl (lv_at hl 3 rfl) ?_
  refine lv_aload_n C.1 C.2.1 dJx4a65c_add_72be8_13 rfl (lv_at hl 2 rfl) ?_
  have hn31 : 0 < 2147483648 := by omega
  refine u_aast C S 5 p3 (Or.inr (Nat.le_refl _)) rfl (hx1.cls C.2.2.2.2.2.1) (k_en_ca t) (by rw [nI_clamp hn31]; exact fun q => q.elim (fun q => nI_pos hn31 q) (fun q => by omega)) dJx4a65c_add_72be8_14 (fun H2 locs2 z2 o2 g1 S => ?_)
  rw [nI_clamp hn31] at g1
  replace p2 := va_at.kept p2 (o2 _ (by omega))
  refine lv_aload_n C.1 C.2.1 dJx4a65c_add_72be8_15 rfl (lv_at hl 1 rfl) ?_
  refine lv_iload_n C.1 C.2.1 dJx4a65c_add_72be8_16 rfl (lv_at hl 3 rfl) ?_
  refine lv_iconst (v := 1) C.1 C.2.1 dJx4a65c_add_72be8_17 (by decide) ?_
  refine lv_iadd C.1 C.2.1 dJx4a65c_add_72be8_18 ?_
  have e1 : (nI 0) + 1 = (nI 1) := rfl
  rw [e1]
  refine u_put C S p2 (Or.inl rfl) cf_12 2 (by decide) (Nat.le_of_ble_eq_true rfl) rfl rfl rfl tw_3_147 dJx4a65c_add_72be8_19 (fun H3 locs3 z3 o3 g0 S => ?_)
  exact k_vret C S ⟨by rw [z3, z2]; exact p1, g0, g1.kept (o3 _ (by omega))⟩ (Nat.le_of_ble_eq_true rfl) (Nat.le_of_eq (Nat.zero_add _)) dJx4a65c_add_72be8_22
set_option maxHeartbeats 4000000 in
set_option maxRecDepth 100000 in
theorem k_addin (l : Launch) (G : Gx) (L ed n cap t x : Nat) (mo : Int32) (f : Nat → Option Nat) (hn : n < cap) (h9 : cap ≤ 100000) (hGL : G.2.2.1.size ≤ L) (hGe : G.2.2.1.size ≤ ed) (hLe : L ≠ ed) (hxL : x ≠ L) (sz : Nat) : k_M l yJx4a65c_add_9ea2d cJx4a65c_add_9ea2d 2 (Option.some FieldType.boolean) 2 83 0 0 G (fun H => va_at G.1 z_cl (L, e_al mo ed (nI n)) H ∧ va_at G.1 z_cl (ed, e_oa G cap f) H ∧ k_el G t x H) sz [.ref L, .ref x] (some (.int 1)) (fun H => sz ≤ H.size ∧ va_at G.1 z_cl (L, e_al (mo + 1) ed (nI (n + 1))) H ∧ va_at G.1 z_cl (ed, e_oa G cap (va_up f n (some x))) H) (fun q => q = L ∨ q = ed ∨ sz ≤ q) := by
  refine k_begin (by decide +kernel) (Nat.le_of_ble_eq_true rfl) [(0, .ref L), (1, .ref x)] rfl (fun p e s m args below meth c ls C hnm hsz hP hO hl => ?_)
  obtain ⟨h0, h1, hx⟩ := hP
  have S : va_S (fun q => q = L ∨ q = ed ∨ sz ≤ q) s.heap s.heap [] := va_S.rf
  refine lv_aload_n C.1 C.2.1 dJx4a65c_add_9ea2d_0 rfl (lv_at hl 0 rfl) ?_
  refine lv_dup C.1 C.2.1 dJx4a65c_add_9ea2d_1 rfl ?_
  refine u_getS C h0 cf_12 0 (by decide) rfl "java/util/ArrayList" tw_3_151 tw_3_150 dJx4a65c_add_9ea2d_2 ?_
  refine lv_iconst (v := 1) C.1 C.2.1 dJx4a65c_add_9ea2d_5 (by decide) ?_
  refine lv_iadd C.1 C.2.1 dJx4a65c_add_9ea2d_6 ?_
  refine u_putS C S h0 (Or.inl rfl) cf_12 0 (by decide) (Nat.le_of_ble_eq_true rfl) rfl rfl rfl "java/util/ArrayList" tw_3_151 tw_3_150 dJx4a65c_add_9ea2d_7 (fun H1 locs1 z1 o1 g0 S => ?_)
  replace h1 := va_at.kept h1 (o1 _ (Ne.symm hLe))
  replace hx := hx.kept (o1 _ hxL)
  have hO1 := hO.put z1 o1 hGL
  refine lv_aload_n C.1 C.2.1 dJx4a65c_add_9ea2d_10 rfl (lv_at hl 0 rfl) ?_
  refine lv_aload_n C.1 C.2.1 dJx4a65c_add_9ea2d_11 rfl (lv_at hl 1 rfl) ?_
  refine lv_aload_n C.1 C.2.1 dJx4a65c_add_9ea2d_12 rfl (lv_at hl 0 rfl) ?_
  refine u_get C g0 cf_12 1 (by decide) rfl tw_3_144 dJx4a65c_add_9ea2d_13 ?_
  refine lv_aload_n C.1 C.2.1 dJx4a65c_add_9ea2d_16 rfl (lv_at hl 0 rfl) ?_
  refine u_get C g0 cf_12 2 (by decide) rfl tw_3_147 dJx4a65c_add_9ea2d_17 ?_
  refine k_callV C S hO1 (u_clsO C.2.2.2.2.2.1 g0 cf_12.1) [.ref x, .ref ed, .int (nI n)] (k_addin0 l G L ed n cap t x (mo + 1) f hn h9 hGL hGe hLe sz) (z1.trans hsz) ⟨g0, h1, hx⟩ kv_Jx4a65c_add_72be8 tw_3_203 ⟨(Nat.le_of_ble_eq_true rfl), (Nat.le_of_ble_eq_true rfl)⟩ rfl rfl (Nat.le_of_ble_eq_true rfl) hl.1 ⟨(Nat.le_of_ble_eq_true rfl), Nat.le_of_eq (Nat.zero_add _)⟩ dJx4a65c_add_9ea2d_20 (fun q h => h) (fun H2 locs2 hp2 hle2 o2 S => ?_)
  refine lv_iconst (v := 1) C.1 C.2.1 dJx4a65c_add_9ea2d_23 (by decide) ?_
  exact k_zret C S rfl hp2 (Nat.le_of_ble_eq_true rfl) (Nat.le_of_eq (Nat.zero_add _)) dJx4a65c_add_9ea2d_24
set_option maxHeartbeats 4000000 in
set_option maxRecDepth 100000 in
theorem k_addg (l : Launch) (G : Gx) (L ed cap t x : Nat) (mo : Int32) (f : Nat → Option Nat) (hcap : 10 ≤ cap) (h9 : cap ≤ 100000) (hGL : G.2.2.1.size ≤ L) (hGe : G.2.2.1.size ≤ ed) (hLe : L ≠ ed) (hxL : x ≠ L) (hxe : x ≠ ed) (hfL : ∀ i y, f i = some y → y ≠ L) (sz : Nat) : k_M l yJx4a65c_add_9ea2d cJx4a65c_add_9ea2d 2 (Option.some FieldType.boolean) 6 136 1 (cap + cap / 2) G (fun H => va_at G.1 z_cl (L, e_al mo ed (nI cap)) H ∧ va_at G.1 z_cl (ed, e_oa G cap f) H ∧ (∀ i y, f i = some y → k_el G t y H) ∧ k_el G t x H) sz [.ref L, .ref x] (some (.int 1)) (fun H => sz + 1 ≤ H.size ∧ va_at G.1 z_cl (L, e_al (mo + 1) sz (nI (cap + 1))) H ∧ va_at G.1 z_cl (sz, e_oa G (cap + cap / 2) (va_up (va_cpy f (fun _ => none) 0 0 cap) cap (some x))) H) (fun q => q = L ∨ q = ed ∨ sz ≤ q) := by
  refine k_begin (by decide +kernel) (Nat.le_of_ble_eq_true rfl) [(0, .ref L), (1, .ref x)] rfl (fun p e s m args below meth c ls C hnm hsz hP hO hl => ?_)
  obtain ⟨h0, h1, h2, hx⟩ := hP
  have S : va_S (fun q => q = L ∨ q = ed ∨ sz ≤ q) s.heap s.heap [] := va_S.rf
  refine lv_aload_n C.1 C.2.1 dJx4a65c_add_9ea2d_0 rfl (lv_at hl 0 rfl) ?_
  refine lv_dup C.1 C.2.1 dJx4a65c_add_9ea2d_1 rfl ?_
  refine u_getS C h0 cf_12 0 (by decide) rfl "java/util/ArrayList" tw_3_151 tw_3_150 dJx4a65c_add_9ea2d_2 ?_
  refine lv_iconst (v := 1) C.1 C.2.1 dJx4a65c_add_9ea2d_5 (by decide) ?_
  refine lv_iadd C.1 C.2.1 dJx4a65c_add_9ea2d_6 ?_
  refine u_putS C S h0 (Or.inl rfl) cf_12 0 (by decide) (Nat.le_of_ble_eq_true rfl) rfl rfl rfl "java/util/ArrayList" tw_3_151 tw_3_150 dJx4a65c_add_9ea2d_7 (fun H1 locs1 z1 o1 g0 S => ?_)
  replace h1 := va_at.kept h1 (o1 _ (Ne.symm hLe))
  replace h2 : ∀ i y, f i = some y → k_el G t y H1 := fun i y hy => (h2 i y hy).kept (o1 _ (hfL i y hy))
  replace hx := hx.kept (o1 _ hxL)
  have hO1 := hO.put z1 o1 hGL
  refine lv_aload_n C.1 C.2.1 dJx4a65c_add_9ea2d_10 rfl (lv_at hl 0 rfl) ?_
  refine lv_aload_n C.1 C.2.1 dJx4a65c_add_9ea2d_11 rfl (lv_at hl 1 rfl) ?_
  refine lv_aload_n C.1 C.2.1 dJx4a65c_add_9ea2d_12 rfl (lv_at hl 0 rfl) ?_
  refine u_get C g0 cf_12 1 (by decide) rfl tw_3_144 dJx4a65c_add_9ea2d_13 ?_
  refine lv_aload_n C.1 C.2.1 dJx4a65c_add_9ea2d_16 rfl (lv_at hl 0 rfl) ?_
  refine u_get C g0 cf_12 2 (by decide) rfl tw_3_147 dJx4a65c_add_9ea2d_17 ?_
  refine k_callV C S hO1 (u_clsO C.2.2.2.2.2.1 g0 cf_12.1) [.ref x, .ref ed, .int (nI cap)] (k_addg0 l G L ed cap t x (mo + 1) f hcap h9 hGL hGe hLe hxL hxe sz) (z1.trans hsz) ⟨g0, h1, h2, hx⟩ kv_Jx4a65c_add_72be8 tw_3_203 ⟨(Nat.le_of_ble_eq_true rfl), (Nat.le_of_ble_eq_true rfl)⟩ rfl rfl (Nat.le_of_ble_eq_true rfl) hl.1 ⟨(Nat.le_of_ble_eq_true rfl), Nat.le_of_eq (Nat.zero_add _)⟩ dJx4a65c_add_9ea2d_20 (fun q h => h) (fun H2 locs2 hp2 hle2 o2 S => ?_)
  refine lv_iconst (v := 1) C.1 C.2.1 dJx4a65c_add_9ea2d_23 (by decide) ?_
  exact k_zret C S rfl hp2 (Nat.le_of_ble_eq_true rfl) (Nat.le_of_eq (Nat.zero_add _)) dJx4a65c_add_9ea2d_24
set_option maxHeartbeats 4000000 in
set_option maxRecDepth 100000 in
theorem k_addf (l : Launch) (G : Gx) (L t x : Nat) (mo : Int32) (hGL : G.2.2.1.size ≤ L) (hxL : x ≠ L) (sz : Nat) : k_M l yJx4a65c_add_9ea2d cJx4a65c_add_9ea2d 2 (Option.some FieldType.boolean) 4 126 1 10 G (fun H => va_at G.1 z_cl (L, e_al mo (G.2.2.2 3) 0) H ∧ k_el G t x H) sz [.ref L, .ref x] (some (.int 1)) (fun H => sz + 1 ≤ H.size ∧ va_at G.1 z_cl (L, e_al (mo + 1) sz (nI 1)) H ∧ va_at G.1 z_cl (sz, e_oa G 10 (va_up (fun _ => none) 0 (some x))) H) (fun q => q = L ∨ sz ≤ q) := by
  refine k_begin (by decide +kernel) (Nat.le_of_ble_eq_true rfl) [(0, .ref L), (1, .ref x)] rfl (fun p e s m args below meth c ls C hnm hsz hP hO hl => ?_)
  obtain ⟨h0, hx⟩ := hP
  have S : va_S (fun q => q = L ∨ sz ≤ q) s.heap s.heap [] := va_S.rf
  refine lv_aload_n C.1 C.2.1 dJx4a65c_add_9ea2d_0 rfl (lv_at hl 0 rfl) ?_
  refine lv_dup C.1 C.2.1 dJx4a65c_add_9ea2d_1 rfl ?_
  refine u_getS C h0 cf_12 0 (by decide) rfl "java/util/ArrayList" tw_3_151 tw_3_150 dJx4a65c_add_9ea2d_2 ?_
  refine lv_iconst (v := 1) C.1 C.2.1 dJx4a65c_add_9ea2d_5 (by decide) ?_
  refine lv_iadd C.1 C.2.1 dJx4a65c_add_9ea2d_6 ?_
  refine u_putS C S h0 (Or.inl rfl) cf_12 0 (by decide) (Nat.le_of_ble_eq_true rfl) rfl rfl rfl "java/util/ArrayList" tw_3_151 tw_3_150 dJx4a65c_add_9ea2d_7 (fun H1 locs1 z1 o1 g0 S => ?_)
  replace hx := hx.kept (o1 _ hxL)
  have hO1 := hO.put z1 o1 hGL
  refine lv_aload_n C.1 C.2.1 dJx4a65c_add_9ea2d_10 rfl (lv_at hl 0 rfl) ?_
  refine lv_aload_n C.1 C.2.1 dJx4a65c_add_9ea2d_11 rfl (lv_at hl 1 rfl) ?_
  refine lv_aload_n C.1 C.2.1 dJx4a65c_add_9ea2d_12 rfl (lv_at hl 0 rfl) ?_
  refine u_get C g0 cf_12 1 (by decide) rfl tw_3_144 dJx4a65c_add_9ea2d_13 ?_
  refine lv_aload_n C.1 C.2.1 dJx4a65c_add_9ea2d_16 rfl (lv_at hl 0 rfl) ?_
  refine u_get C g0 cf_12 2 (by decide) rfl tw_3_147 dJx4a65c_add_9ea2d_17 ?_
  refine k_callV C S hO1 (u_clsO C.2.2.2.2.2.1 g0 cf_12.1) [.ref x, .ref (G.2.2.2 3), .int 0] (k_addf0 l G L t x (mo + 1) hGL hxL sz) (z1.trans hsz) ⟨g0, hx⟩ kv_Jx4a65c_add_72be8 tw_3_203 ⟨(Nat.le_of_ble_eq_true rfl), (Nat.le_of_ble_eq_true rfl)⟩ rfl rfl (Nat.le_of_ble_eq_true rfl) hl.1 ⟨(Nat.le_of_ble_eq_true rfl), Nat.le_of_eq (Nat.zero_add _)⟩ dJx4a65c_add_9ea2d_20 (fun q h => h) (fun H2 locs2 hp2 hle2 o2 S => ?_)
  refine lv_iconst (v := 1) C.1 C.2.1 dJx4a65c_add_9ea2d_23 (by decide) ?_
  exact k_zret C S rfl hp2 (Nat.le_of_ble_eq_true rfl) (Nat.le_of_eq (Nat.zero_add _)) dJx4a65c_add_9ea2d_24
set_option maxHeartbeats 4000000 in
set_option maxRecDepth 100000 in
theorem k_acinit (l : Launch) (G : Gx) (L : Nat) (sz : Nat) : k_M l yJxa1e45_init_da8c8 cJxa1e45_init_da8c8 1 none 1 12 0 0 G (fun H => True) sz [.ref L] none (fun H => H.size = sz) (fun q => False) := by
  refine k_begin (by decide +kernel) (Nat.le_of_ble_eq_true rfl) [(0, .ref L)] rfl (fun p e s m args below meth c ls C hnm hsz hP hO hl => ?_)
  have S : va_S (fun q => False) s.heap s.heap [] := va_S.rf
  refine lv_aload_n C.1 C.2.1 dJxa1e45_init_da8c8_0 rfl (lv_at hl 0 rfl) ?_
  refine u_obj C tw_3_141 hl.1 (Nat.le_of_ble_eq_true rfl) (Nat.le_of_ble_eq_true rfl) dJxa1e45_init_da8c8_1 ?_
  exact k_vret C S hsz (Nat.le_of_ble_eq_true rfl) (Nat.le_of_ble_eq_true rfl) dJxa1e45_init_da8c8_4
set_option maxHeartbeats 4000000 in
set_option maxRecDepth 100000 in
theorem k_abinit (l : Launch) (G : Gx) (L : Nat) (fs : List Value) (n0 : Value) (hGL : G.2.2.1.size ≤ L) (sz : Nat) : k_M l yJxc12de_init_da8c8 cJxc12de_init_da8c8 1 none 2 32 0 0 G (fun H => va_at G.1 z_cl (L, .inr (12, [.int 0, n0, .int 0])) H) sz [.ref L] none (fun H => H.size = sz ∧ va_at G.1 z_cl (L, .inr (12, [.int 0, n0, .int 0])) H) (fun q => q = L) := by
  refine k_begin (by decide +kernel) (Nat.le_of_ble_eq_true rfl) [(0, .ref L)] rfl (fun p e s m args below meth c ls C hnm hsz hP hO hl => ?_)
  have S : va_S (fun q => q = L) s.heap s.heap [] := va_S.rf
  refine lv_aload_n C.1 C.2.1 dJxc12de_init_da8c8_0 rfl (lv_at hl 0 rfl) ?_
  refine k_callI C S hO [] (k_acinit l G L sz) hsz trivial kv_Jxa1e45_init_da8c8 tw_3_138 ⟨(Nat.le_of_ble_eq_true rfl), (Nat.le_of_ble_eq_true rfl)⟩ rfl rfl (Nat.le_of_ble_eq_true rfl) hl.1 ⟨(Nat.le_of_ble_eq_true rfl), (Nat.le_of_ble_eq_true rfl)⟩ dJxc12de_init_da8c8_1 (fun _ h => h.elim) (fun H1 locs1 hz1 hle1 o1 S => ?_)
  replace hP := va_at.kept hP (o1 _ hP.lt id)
  refine lv_aload_n C.1 C.2.1 dJxc12de_init_da8c8_4 rfl (lv_at hl 0 rfl) ?_
  refine lv_iconst (v := 0) C.1 C.2.1 dJxc12de_init_da8c8_5 (by decide) ?_
  refine u_put C S hP rfl cf_12 0 (by decide) (Nat.le_of_ble_eq_true rfl) rfl rfl rfl tw_3_148 dJxc12de_init_da8c8_6 (fun H3 locs3 z3 o3 g0 S => ?_)
  exact k_vret C S ⟨z3.trans hz1, g0⟩ (Nat.le_of_ble_eq_true rfl) (Nat.le_of_ble_eq_true rfl) dJxc12de_init_da8c8_9
set_option maxHeartbeats 4000000 in
set_option maxRecDepth 100000 in
theorem k_alinit (l : Launch) (G : Gx) (L : Nat) (hGL : G.2.2.1.size ≤ L) (sz : Nat) : k_M l yJx4a65c_init_da8c8 cJx4a65c_init_da8c8 1 none 3 52 0 0 G (fun H => va_at G.1 z_cl (L, .inr (12, [.int 0, .null, .int 0])) H) sz [.ref L] none (fun H => H.size = sz ∧ va_at G.1 z_cl (L, e_al 0 (G.2.2.2 3) 0) H) (fun q => q = L) := by
  refine k_begin (by decide +kernel) (Nat.le_of_ble_eq_true rfl) [(0, .ref L)] rfl (fun p e s m args below meth c ls C hnm hsz hP hO hl => ?_)
  have S : va_S (fun q => q = L) s.heap s.heap [] := va_S.rf
  refine lv_aload_n C.1 C.2.1 dJx4a65c_init_da8c8_0 rfl (lv_at hl 0 rfl) ?_
  refine k_callI C S hO [] (k_abinit l G L [] .null hGL sz) hsz hP kv_Jxc12de_init_da8c8 tw_3_135 ⟨(Nat.le_of_ble_eq_true rfl), (Nat.le_of_ble_eq_true rfl)⟩ rfl rfl (Nat.le_of_ble_eq_true rfl) hl.1 ⟨(Nat.le_of_ble_eq_true rfl), (Nat.le_of_ble_eq_true rfl)⟩ dJx4a65c_init_da8c8_1 (fun q h => h) (fun H1 locs1 hp1 hle1 o1 S => ?_)
  obtain ⟨hz1, g0⟩ := hp1
  have hO1 : z_O G H1 := hO.call hle1 o1 (fun q hq h => by omega)
  refine lv_aload_n C.1 C.2.1 dJx4a65c_init_da8c8_4 rfl (lv_at hl 0 rfl) ?_
  refine u_gets C hO1 C.2.2.2.2.2.1.2.2.2.2.2.2.2.2.2.2.1.1 tw_3_142 dJx4a65c_init_da8c8_5 ?_
  refine u_put C S g0 rfl cf_12 1 (by decide) (Nat.le_of_ble_eq_true rfl) rfl rfl rfl tw_3_144 dJx4a65c_init_da8c8_8 (fun H3 locs3 z3 o3 g0 S => ?_)
  exact k_vret C S ⟨z3.trans hz1, g0⟩ (Nat.le_of_ble_eq_true rfl) (Nat.le_of_ble_eq_true rfl) dJx4a65c_init_da8c8_11
