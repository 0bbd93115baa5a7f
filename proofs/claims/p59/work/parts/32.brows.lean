/-! text builders: rows for bytes, strings old and new, calls up and down the class of builders -/
theorem sb_sel {args : Array Value} {s : State} {y0 y : MethodName} (h0 : (Cond.selects "java/lang/StringBuilder" y0 y0).before args s = true) (hc : y0.cls = y.cls) (hy : y.cls ≠ "java/lang/invoke/MethodHandle" ∧ y.cls ≠ "java/lang/invoke/VarHandle") (hpriv : (Cond.privateMethod y).before args s = true) (hinst : (Cond.instanceMethod y).before args s = true) : (Cond.selects "java/lang/StringBuilder" y y).before args s = true := by
  obtain ⟨c2, r2, m2, q1, q2, q3, q4, kP, hkP, hkPi⟩ := Cond.selects_spec h0
  obtain ⟨mk, methM, hnamed, hmethM, -, -⟩ := Cond.instanceMethod_spec hinst
  have hfound : s.methodFound? y.cls y.name y.desc = some mk := State.methodFound?_of_named hnamed hy
  have hcls : mk.cls = m2.cls := Option.some.inj ((findClass_of_methodNamed hnamed).symm.trans ((congrArg s.vm.findClass hc).symm.trans (findClass_of_methodNamed q3)))
  have hsel : selectMethod {} s.vm c2 mk = .method mk := selectMethod_private hmethM (Cond.privateMethod_at hpriv mk methM hnamed hmethM)
  simp only [Cond.before, Cond.holds, Cond.value, q1, hfound, hnamed, hsel, hcls, hkP]
  simp
  exact hkPi
/-- an instance method whose receiver is of another class than the one that declares it -/
def KP (y : MethodName) (bytes : ByteArray) (maxL : Nat) (ret : Option FieldType) (n : Nat) : Prop := Cond.code y bytes maxL ret ∈ TT ∧ Cond.instanceMethod y ∈ TT ∧ Cond.initialized y.cls ∈ TT ∧ y.cls ≠ "java/lang/invoke/MethodHandle" ∧ y.cls ≠ "java/lang/invoke/VarHandle" ∧ (parseMethodDescriptor y.desc).map (fun d => d.parameters.length) = some n
abbrev e_sb (v : Nat) (n : Int32) : va_E := .inr (14, [.ref v, .int 0, .int 0, .int n])
abbrev e_by (G : Gx) (m : Nat) (t : Nat → Int32) : va_E := .inl (G.2.1 6, m, .inl t)
/-- a string of Latin-1 letters: a constant of the tables, or a new one -/
def k_str (G : Gx) (q v n : Nat) (t : Nat → Int32) (H : Heap) : Prop := (∃ w, w < 18 ∧ q = G.2.2.2 (10 + w) ∧ v = G.2.2.2 (40 + w) ∧ n = z_lens.getD w 0 ∧ t = fun j => (z_byts.getD w []).getD j 0) ∨ ((∃ x y : Value, va_at G.1 z_cl (q, .inr (15, [.ref v, .int 0, x, y])) H) ∧ va_at G.1 z_cl (v, e_by G n t) H)
section SBR
variable {p : Program} {l : Launch} {e : Env} {R : Room} {s : State} {m : MethodId} {args : Array Value} {below : List Frame} {meth : Method} {c : Code} {H : Heap} {locs : List Loc} {cells slots : Nat} {Q : State → Prop}
variable {cc : ByteArray} {pc : Nat} {ls : Array Slot} {rest : List Value} {own : String} {nL : Nat} {ret : Option FieldType} {G : Gx} {A : Nat → Prop} {H0 : Heap}
theorem k_str.lt (hO : z_O G H) (C : Cx p s m args meth c own cc nL ret G) {q v n : Nat} {t : Nat → Int32} (h : k_str G q v n t H) : q < H.size ∧ v < H.size := by
  rcases h with ⟨w, hw, rfl, rfl, rfl, rfl⟩ | ⟨⟨x, y, h1⟩, h2⟩
  · obtain ⟨⟨cell, h1, -⟩, -, -, ⟨cell2, h2, -⟩⟩ := z_sstr C w hw
    exact ⟨Nat.lt_of_lt_of_le (Array.getElem?_eq_some_iff.mp h1).1 hO.1, Nat.lt_of_lt_of_le (Array.getElem?_eq_some_iff.mp h2).1 hO.1⟩
  · exact ⟨h1.lt, h2.lt⟩
theorem k_str.kept {q v n : Nat} {t : Nat → Int32} {H1 : Heap} (h : k_str G q v n t H) (hk : ∀ q : Nat, q < H.size → H1[q]? = H[q]?) : k_str G q v n t H1 := by
  rcases h with h | ⟨⟨x, y, h1⟩, h2⟩
  · exact Or.inl h
  · exact Or.inr ⟨⟨x, y, h1.kept (hk _ h1.lt)⟩, h2.kept (hk _ h2.lt)⟩
theorem k_str.kept' {q v n : Nat} {t : Nat → Int32} {H1 : Heap} (h : k_str G q v n t H) (hq : H1[q]? = H[q]?) (hv : H1[v]? = H[v]?) : k_str G q v n t H1 := by
  rcases h with h | ⟨⟨x, y, h1⟩, h2⟩
  · exact Or.inl h
  · exact Or.inr ⟨⟨x, y, h1.kept hq⟩, h2.kept hv⟩
theorem u_BT (C : Cx p s m args meth c own cc nL ret G) {v n : Nat} {t : Nat → Int32} (h : va_at G.1 z_cl (v, e_by G n t) H) : va_T .byte v n (fun j => .int (t j)) (fun _ => False) s H := by
  have h' : H[v]? = some (vp_cell (G.2.1 6) (n, .inl t)) := h
  rw [vp_cell_i] at h'
  refine ⟨_, h', (C.2.2.2.2.2.1.1.2 6 _ rfl).1 n _, (fun q => by cases q), ?_, ?_, fun j hj => arrV_read _ _ hj, id⟩
  · rw [arrV_size]; exact Nat.le_refl n
  · rw [arrV_size]
theorem u_strT (C : Cx p s m args meth c own cc nL ret G) (hO : z_O G H) {q v n : Nat} {t : Nat → Int32} (h : k_str G q v n t H) : va_T .byte v n (fun j => .int (t j)) (fun _ => False) s H := by
  rcases h with ⟨w, hw, rfl, rfl, rfl, rfl⟩ | ⟨h1, h2⟩
  · obtain ⟨-, -, -, ⟨cell, g1, g2, g3, g4, g5, g6, g7⟩⟩ := z_sstr C w hw
    exact ⟨cell, (hO.2 _ (Array.getElem?_eq_some_iff.mp g1).1).trans g1, g2, g3, g4, g5, g6, id⟩
  · exact u_BT C h2
theorem u_strC (C : Cx p s m args meth c own cc nL ret G) (hO : z_O G H) {q v n : Nat} {t : Nat → Int32} (h : k_str G q v n t H) : u_cls "java/lang/String" q s H := by
  rcases h with ⟨w, hw, rfl, rfl, rfl, rfl⟩ | ⟨⟨x, y, h1⟩, h2⟩
  · obtain ⟨⟨cell, g1, g2, g3, -⟩, -⟩ := z_sstr C w hw
    exact ⟨cell, (hO.2 _ (Array.getElem?_eq_some_iff.mp g1).1).trans g1, g2, g3⟩
  · exact u_clsO C.2.2.2.2.2.1 h1 cf_15.1
theorem u_getOF (C : Cx p s m args meth c own cc nL ret G) (hO : z_O G H) {o n d : String} {v : Value} {a : Nat} (hE : va_OF o n d v a (z_B G) s G.2.2.1) {index : Nat} (hl : Cond.fieldLink own index o n d ∈ TT) (hdg : decode cc pc = .ok (.getfield index, 3))
    (kk : W p l e R s m args below meth c H locs cells slots Q (F0 m (pc + 3) ls (v :: rest))) : W p l e R s m args below meth c H locs cells slots Q (F0 m pc ls (.ref a :: rest)) := by
  obtain ⟨x1, x2, x3, x4, x5, x6, x7, x8⟩ := C
  obtain ⟨cf, k, fi, f, cell, h1, h2, h3, h4, h5, h6⟩ := hE
  exact W.getf x1 x2 x4 (x5 _ hl) h1 h2 ((hO.2 _ (Array.getElem?_eq_some_iff.mp h3).1).trans h3) h4 (v := v) h5 rfl rfl hdg kk
theorem u_strv (C : Cx p s m args meth c own cc nL ret G) (hO : z_O G H) {q v n : Nat} {t : Nat → Int32} (h : k_str G q v n t H) {index : Nat} (hl : Cond.fieldLink own index "java/lang/String" "value" "[B" ∈ TT) (hdg : decode cc pc = .ok (.getfield index, 3))
    (kk : W p l e R s m args below meth c H locs cells slots Q (F0 m (pc + 3) ls (.ref v :: rest))) : W p l e R s m args below meth c H locs cells slots Q (F0 m pc ls (.ref q :: rest)) := by
  rcases h with ⟨w, hw, rfl, rfl, rfl, rfl⟩ | ⟨⟨x, y, h1⟩, h2⟩
  · exact u_getOF C hO (z_sstr C w hw).2.2.1 hl hdg kk
  · exact u_get C h1 cf_15 0 (by decide) rfl hl hdg kk
theorem u_strc (C : Cx p s m args meth c own cc nL ret G) (hO : z_O G H) {q v n : Nat} {t : Nat → Int32} (h : k_str G q v n t H) {index : Nat} (hl : Cond.fieldLink own index "java/lang/String" "coder" "B" ∈ TT) (hdg : decode cc pc = .ok (.getfield index, 3))
    (kk : W p l e R s m args below meth c H locs cells slots Q (F0 m (pc + 3) ls (.int 0 :: rest))) : W p l e R s m args below meth c H locs cells slots Q (F0 m pc ls (.ref q :: rest)) := by
  rcases h with ⟨w, hw, rfl, rfl, rfl, rfl⟩ | ⟨⟨x, y, h1⟩, h2⟩
  · exact u_getOF C hO (z_sstr C w hw).2.1 hl hdg kk
  · exact u_get C h1 cf_15 1 (by decide) rfl hl hdg kk
theorem u_Tlen (C : Cx p s m args meth c own cc nL ret G) {t N : Nat} {f : Nat → Value} (hT : va_T .byte t N f (fun _ => False) s H) (hdg : decode cc pc = .ok (.arraylength, 1))
    (kk : W p l e R s m args below meth c H locs cells slots Q (F0 m (pc + 1) ls (.int (nI N) :: rest))) : W p l e R s m args below meth c H locs cells slots Q (F0 m pc ls (.ref t :: rest)) := by
  obtain ⟨x1, x2, x3, x4, x5, x6, x7, x8⟩ := C
  obtain ⟨cell, h1, h2, h3, h4, h5, h6, h7⟩ := hT
  exact W.alen x1 x2 h1 h2 h5 rfl rfl hdg kk
theorem u_Tald (C : Cx p s m args meth c own cc nL ret G) {t N : Nat} {f : Nat → Value} (hT : va_T .byte t N f (fun _ => False) s H) {i : Int32} (hin : ¬ (i < 0 ∨ N ≤ i.toNatClampNeg)) {v : Value} (hv : f i.toNatClampNeg = v) (hdg : decode cc pc = .ok (.baload, 1))
    (kk : W p l e R s m args below meth c H locs cells slots Q (F0 m (pc + 1) ls (v :: rest))) : W p l e R s m args below meth c H locs cells slots Q (F0 m pc ls (.int i :: .ref t :: rest)) := by
  obtain ⟨x1, x2, x3, x4, x5, x6, x7, x8⟩ := C
  obtain ⟨cell, h1, h2, h3, h4, h5, h6, h7⟩ := hT
  have hlt : i.toNatClampNeg < N := Nat.not_le.mp fun q => hin (Or.inr q)
  exact W.bald x1 x2 h1 h2 h3 (fun q => q.elim (fun q => hin (Or.inl q)) (fun q => by omega)) (by rw [h6 _ hlt, hv]) rfl rfl hdg kk
theorem u_copyB (C : Cx p s m args meth c own cc nL ret G) (S : va_S A H0 H locs) (hls : ls.size = nL) {v a n0 n1 : Nat} {f g : Nat → Int32} (hT : va_T .byte v n0 (fun j => .int (f j)) (fun _ => False) s H) (hc1 : va_at G.1 z_cl (a, e_by G n1 g) H) (hA1 : A a)
    {index : Nat} (hl : Cond.methodLink own index arraycopyName ∈ TT) {sp dp n : Int32} (h1 : ¬ sp < 0) (h2 : ¬ dp < 0) (h3 : ¬ n < 0) (h4 : sp.toNatClampNeg + n.toNatClampNeg ≤ n0) (h5 : dp.toNatClampNeg + n.toNatClampNeg ≤ n1) (hfit : ∀ i, i < n0 → fits .byte (.int (f i)) = true)
    (hframes : 1 ≤ R.frames) (hlocals : (rest.map fun v => v.category).sum + 18 ≤ R.locals) (hdg : decode cc pc = .ok (.invokestatic index, 3))
    (kk : ∀ (H1 : Heap) (locs1 : List Loc), H1.size = H.size → (∀ q : Nat, q ≠ a → H1[q]? = H[q]?) → va_at G.1 z_cl (a, e_by G n1 (va_cpy f g sp.toNatClampNeg dp.toNatClampNeg n.toNatClampNeg)) H1 → va_S A H0 H1 locs1 → W p l e R s m args below meth c H1 locs1 cells slots Q (F0 m (pc + 3) ls rest)) : W p l e R s m args below meth c H locs cells slots Q (F0 m pc ls (.int n :: .int dp :: .ref a :: .int sp :: .ref v :: rest)) := by
  obtain ⟨x1, x2, x3, x4, x5, x6, x7, x8⟩ := C
  have nn : ∀ z : Int32, ¬ z < 0 → z.toInt = (z.toNatClampNeg : Int) := by
    intro z hz
    have hz0 : (0 : Int) ≤ z.toInt := by
      have := Int32.not_lt.mp hz
      simpa using Int32.le_iff_toInt_le.mp this
    show z.toInt = ((z.toInt.toNat : Nat) : Int)
    omega
  have hw18 : nativeFrameWords "java/lang/System" "arraycopy" 5 + 11 = 18 := by decide +kernel
  intro T hT' X
  obtain ⟨scr, hs1, hs2, hs3, hs4, hs5, hs6, -⟩ := hT
  obtain ⟨hs7, k0, hk0, cm0, hkk0⟩ := hs2
  obtain ⟨-, k1, hk1, cm1, hkk1⟩ := (x6.1.2 6 _ rfl).1 n1 (fun j => .int (g j))
  have hc1' : H[a]? = some (vp_cell (G.2.1 6) (n1, .inl g)) := hc1
  obtain ⟨vm', X', step⟩ := X.arraycopy x1 x4 (x5 _ hl) (x5 _ tw_2_119) (x5 _ tw_2_118) (x5 _ tw_1_8) (src := v) (dst := a) (cs := scr) (cd := vp_cell (G.2.1 6) (n1, .inl g)) (srcPos := sp) (destPos := dp) (n := n) (by rw [hT']; exact hs1) (by rw [hT']; exact hc1')
    hs7 (fun _ h => by cases h) hs3 (fun h => by cases h) hk0 hk1 hkk0 hkk1 (by simp [refKind]) h1 h2 h3
    (by rw [nn sp h1, nn n h3]; omega)
    (by rw [nn dp h2, nn n h3]; show ¬ _ > ((arrV (G.2.1 6) n1 (fun j => .int (g j))).slots.size : Int); rw [arrV_size]; omega)
    (fun vm₁ _ i hi => by
      have e : scr.slots.getD (sp.toNatClampNeg + i) .null = .int (f (sp.toNatClampNeg + i)) := by
        rw [Array.getD_eq_getD_getElem?, hs6 _ (by omega)]
        rfl
      refine ⟨?_, ?_⟩
      · rw [e]
        exact hfit _ (by omega)
      · rw [e]
        exact trivial)
    (g := F0 m pc ls (.int n :: .int dp :: .ref a :: .int sp :: .ref v :: rest)) rfl (hls.trans x3.symm) (rest := rest) rfl (by rw [x2]; exact hdg) hframes (by show 2 * 0 + _ + _ ≤ _; omega)
  have e1 : copied scr (vp_cell (G.2.1 6) (n1, .inl g)) sp dp n = vp_cell (G.2.1 6) (n1, .inl (va_cpy f g sp.toNatClampNeg dp.toNatClampNeg n.toNatClampNeg)) := va_copiedX (fun z => .int z) scr (G.2.1 6) f g hs6 h4
  rw [e1] at X' step
  have hlt : a < H.size := (Array.getElem?_eq_some_iff.mp hc1').1
  have hheap : ((T.setVm vm').setCell a (vp_cell (G.2.1 6) (n1, .inl (va_cpy f g sp.toNatClampNeg dp.toNatClampNeg n.toNatClampNeg)))).heap = H.setIfInBounds a (vp_cell (G.2.1 6) (n1, .inl (va_cpy f g sp.toNatClampNeg dp.toNatClampNeg n.toNatClampNeg))) := by rw [← hT']; rfl
  have oq : ∀ q : Nat, q ≠ a → (H.setIfInBounds a (vp_cell (G.2.1 6) (n1, .inl (va_cpy f g sp.toNatClampNeg dp.toNatClampNeg n.toNatClampNeg))))[q]? = H[q]? := fun q hq => by simp [Array.getElem?_setIfInBounds, Ne.symm hq]
  obtain ⟨t, a1, b1⟩ := kk _ _ (by simp) oq (show (H.setIfInBounds a _)[a]? = some _ by simp [Array.getElem?_setIfInBounds, hlt]) ⟨by simp; exact S.1, fun q g1 g2 => by
      rw [oq q (fun e => g2 (by rw [e]; exact hA1))]
      exact S.2.1 q g1 g2, fun q hq => by
      rcases List.mem_append.mp hq with h | h
      · exact S.2.2 q h
      · obtain ⟨z, -, hz⟩ := List.mem_map.mp h
        rw [← hz]
        exact hA1⟩ _ hheap X'
  exact ⟨t, step t a1, b1⟩
theorem k_callVC {Cn : String} {y : MethodName} {bytes : ByteArray} {maxL n fr lo mc ms index a sz : Nat} {ret2 : Option FieldType} {P P' : Heap → Prop} {F : Nat → Prop} {v : Option Value} {st : List Value} (C : Cx p s m args meth c own cc nL ret G) (S : va_S A H0 H locs) (hO : z_O G H) (hr : u_cls Cn a s H) (As : List Value)
    (hM : k_M l y bytes maxL ret2 fr lo mc ms G P sz (.ref a :: As) v P' F) (hsz : H.size = sz) (hP : P H) (kv : KP y bytes maxL ret2 n) (hsel : (Cond.selects Cn y y).before args s = true) (hl : Cond.methodLink own index y ∈ TT) (hR : fr + 1 ≤ R.frames ∧ 8 + (maxL + 11) + lo ≤ R.locals) (hn : As.length = n) (hst : st = As.reverse ++ .ref a :: rest) (hW8 : (rest.map fun v => v.category).sum ≤ 8) (hls : ls.size = nL) (hcs : cells + mc ≤ R.cells ∧ slots + ms ≤ R.slots)
    (hdg : decode cc pc = .ok (.invokevirtual index, 3)) (hA : ∀ q, F q → A q)
    (kk : ∀ (H1 : Heap) (locs1 : List Loc), P' H1 → H.size ≤ H1.size → (∀ q : Nat, q < H.size → ¬ F q → H1[q]? = H[q]?) → va_S A H0 H1 locs1 → W p l e R s m args below meth c H1 locs1 (cells + mc) (slots + ms) Q (F0 m (pc + 3) ls (v.toList ++ rest))) : W p l e R s m args below meth c H locs cells slots Q (F0 m pc ls st) := by
  have C2 := C
  obtain ⟨x1, x2, x3, x4, x5, x6, x7, x8⟩ := C
  obtain ⟨k1, k2, k4, k5, k6, k7⟩ := kv
  exact k_after (va_runV (C := Cn) (As := As) (rest := rest) ⟨x1, x2, x3, x4, x5⟩ hM ⟨k_cwB C2 k1 k4 ⟨k5, k6, k7⟩ hl hR, x5 _ k2, hsel⟩ ⟨k_blind _ G P sz, hr, fun U hU hW => ⟨rfl, by rw [hU]; exact hsz, by rw [hU]; exact hP, by rw [hU]; exact hO, x6.warm hW⟩⟩ rfl hn hls hst (lv_room hW8) hdg hcs) S hA kk
/-- super.m(..) -/
theorem k_callSU {Cn : String} {T : u_T} {N ci : Nat} {y : MethodName} {bytes : ByteArray} {maxL n fr lo mc ms index a sz : Nat} {ret2 : Option FieldType} {P P' : Heap → Prop} {F : Nat → Prop} {v : Option Value} {st : List Value} (C : Cx p s m args meth c own cc nL ret G) (S : va_S A H0 H locs) (hO : z_O G H) (hr : u_cls Cn a s H) (hci : z_cl[ci]? = some (Cn, T, N)) (As : List Value)
    (hM : k_M l y bytes maxL ret2 fr lo mc ms G P sz (.ref a :: As) v P' F) (hsz : H.size = sz) (hP : P H) (kv : KP y bytes maxL ret2 n) (hno : y.name ≠ "<init>") (hsame : Cond.sameMethod y.cls y.cls y.name y.desc ∈ TT) (hsup : Cond.superclass own y.cls ∈ TT) (hl : Cond.methodLink own index y ∈ TT) (hR : fr + 1 ≤ R.frames ∧ 8 + (maxL + 11) + lo ≤ R.locals) (hn : As.length = n) (hst : st = As.reverse ++ .ref a :: rest) (hW8 : (rest.map fun v => v.category).sum ≤ 8) (hls : ls.size = nL) (hcs : cells + mc ≤ R.cells ∧ slots + ms ≤ R.slots)
    (hdg : decode cc pc = .ok (.invokespecial index, 3)) (hA : ∀ q, F q → A q)
    (kk : ∀ (H1 : Heap) (locs1 : List Loc), P' H1 → H.size ≤ H1.size → (∀ q : Nat, q < H.size → ¬ F q → H1[q]? = H[q]?) → va_S A H0 H1 locs1 → W p l e R s m args below meth c H1 locs1 (cells + mc) (slots + ms) Q (F0 m (pc + 3) ls (v.toList ++ rest))) : W p l e R s m args below meth c H locs cells slots Q (F0 m pc ls st) := by
  obtain ⟨x1, x2, x3, x4, x5, x6, x7, x8⟩ := C
  obtain ⟨k1, k2, k4, k5, k6, k7⟩ := kv
  have hG : GoodIn TT (va_wsSU own index y (z_ws y bytes maxL ret2)) := by
    intro w hw
    unfold va_wsSU at hw
    rcases List.mem_append.mp hw with h | h
    · simp only [List.mem_cons, List.not_mem_nil, or_false] at h
      have hin : w ∈ TT := by
        rcases h with rfl | rfl | rfl | rfl | rfl
        · exact hl
        · exact hsame
        · exact hsup
        · exact k2
        · exact k4
      exact ⟨hin, good_of_word (List.mem_filter.mp hin).2⟩
    · exact tt_good k1 w h
  exact k_after (va_runSU (As := As) (rest := rest) (x6.1.1 ci _ hci).2 ⟨x1, x2, x3, x4, x5⟩ hM (va_cwSU n x5 hG rfl rfl rfl ⟨hno, k7⟩ hR) ⟨k_blind _ G P sz, hr, fun U hU hW => ⟨rfl, by rw [hU]; exact hsz, by rw [hU]; exact hP, by rw [hU]; exact hO, x6.warm hW⟩⟩ rfl hn hls hst (lv_room hW8) hdg hcs) S hA kk
/-- a method that the receiver's class has of its own -/
theorem k_callO {Cn : String} {x y : MethodName} {bytes b0 : ByteArray} {maxL m0 n fr lo mc ms index a sz : Nat} {ret2 r0 : Option FieldType} {P P' : Heap → Prop} {F : Nat → Prop} {v : Option Value} {st : List Value} (C : Cx p s m args meth c own cc nL ret G) (S : va_S A H0 H locs) (hO : z_O G H) (hr : u_cls Cn a s H) (As : List Value)
    (hM : k_M l y bytes maxL ret2 fr lo mc ms G P sz (.ref a :: As) v P' F) (hsz : H.size = sz) (hP : P H) (kv : KP y bytes maxL ret2 n) (hx0 : Cond.code x b0 m0 r0 ∈ TT) (hsame : Cond.sameMethod x.cls x.cls x.name x.desc ∈ TT) (hxi : Cond.instanceMethod x ∈ TT) (hsel : Cond.selects Cn x y ∈ TT) (hx : x.cls ≠ "java/lang/invoke/MethodHandle" ∧ x.cls ≠ "java/lang/invoke/VarHandle" ∧ (parseMethodDescriptor x.desc).map (fun d => d.parameters.length) = some n) (hl : Cond.methodLink own index x ∈ TT) (hR : fr + 1 ≤ R.frames ∧ 8 + (maxL + 11) + lo ≤ R.locals) (hn : As.length = n) (hst : st = As.reverse ++ .ref a :: rest) (hW8 : (rest.map fun v => v.category).sum ≤ 8) (hls : ls.size = nL) (hcs : cells + mc ≤ R.cells ∧ slots + ms ≤ R.slots)
    (hdg : decode cc pc = .ok (.invokevirtual index, 3)) (hA : ∀ q, F q → A q)
    (kk : ∀ (H1 : Heap) (locs1 : List Loc), P' H1 → H.size ≤ H1.size → (∀ q : Nat, q < H.size → ¬ F q → H1[q]? = H[q]?) → va_S A H0 H1 locs1 → W p l e R s m args below meth c H1 locs1 (cells + mc) (slots + ms) Q (F0 m (pc + 3) ls (v.toList ++ rest))) : W p l e R s m args below meth c H locs cells slots Q (F0 m pc ls st) := by
  obtain ⟨x1, x2, x3, x4, x5, x6, x7, x8⟩ := C
  obtain ⟨k1, k2, k4, k5, k6, k7⟩ := kv
  have hG : GoodIn TT (va_wsO own index Cn x.cls x y (z_ws y bytes maxL ret2)) := by
    intro w hw
    unfold va_wsO at hw
    rcases List.mem_append.mp hw with h | h
    · simp only [List.mem_cons, List.not_mem_nil, or_false] at h
      have hin : w ∈ TT := by
        rcases h with rfl | rfl | rfl | rfl | rfl | rfl
        · exact hl
        · exact hsame
        · exact hxi
        · exact hsel
        · exact k2
        · exact k4
      exact ⟨hin, good_of_word (List.mem_filter.mp hin).2⟩
    · exact tt_good k1 w h
  exact k_after (va_runU (As := As) (rest := rest) ⟨x1, x2, x3, x4, x5⟩ hM (va_cwO n x5 hG rfl rfl rfl hx0 hx hR) ⟨k_blind _ G P sz, hr, fun U hU hW => ⟨rfl, by rw [hU]; exact hsz, by rw [hU]; exact hP, by rw [hU]; exact hO, x6.warm hW⟩⟩ rfl hn hls hst (lv_room hW8) hdg hcs) S hA kk
theorem sel_J5_ensureCapacityInternal_d00df (C : Cx p s m args meth c own cc nL ret G) : (Cond.selects "java/lang/StringBuilder" yJ5_ensureCapacityInternal_d00df yJ5_ensureCapacityInternal_d00df).before args s = true := va_Nw.use (A := args) (z_psel_tab _ (List.mem_of_getElem? (i := 0) rfl)) (C.2.2.2.2.2.1.2.2.2.2.2.1 _ (List.mem_of_getElem? (i := 0) rfl))
theorem sel_J5_newCapacity_0f7a4 (C : Cx p s m args meth c own cc nL ret G) : (Cond.selects "java/lang/StringBuilder" yJ5_newCapacity_0f7a4 yJ5_newCapacity_0f7a4).before args s = true := va_Nw.use (A := args) (z_psel_tab _ (List.mem_of_getElem? (i := 1) rfl)) (C.2.2.2.2.2.1.2.2.2.2.2.1 _ (List.mem_of_getElem? (i := 1) rfl))
theorem sel_J5_putStringAt_47b60 (C : Cx p s m args meth c own cc nL ret G) : (Cond.selects "java/lang/StringBuilder" yJ5_putStringAt_47b60 yJ5_putStringAt_47b60).before args s = true := va_Nw.use (A := args) (z_psel_tab _ (List.mem_of_getElem? (i := 2) rfl)) (C.2.2.2.2.2.1.2.2.2.2.2.1 _ (List.mem_of_getElem? (i := 2) rfl))
theorem sel_J5_inflateIfNeededFor_a7421 (C : Cx p s m args meth c own cc nL ret G) : (Cond.selects "java/lang/StringBuilder" yJ5_inflateIfNeededFor_a7421 yJ5_inflateIfNeededFor_a7421).before args s = true := va_Nw.use (A := args) (z_psel_tab _ (List.mem_of_getElem? (i := 3) rfl)) (C.2.2.2.2.2.1.2.2.2.2.2.1 _ (List.mem_of_getElem? (i := 3) rfl))
end SBR

