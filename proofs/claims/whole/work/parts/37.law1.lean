/-! the law's body: both worlds, the two arrays of one element, the script -/
def Y_X (n0 : Nat) : Ad := z_ad n0 0
def Y_Mo (m0 : Nat) : Ad := z_ad 0 m0
def Y_F (G : Gx) (s : State) (n0 m0 aL aD : Nat) (cL cD : ClassId) : Prop := G.2.2.1.size ≤ s.heap.size ∧ s.heap.size ≤ n0 ∧ n0 + 741 ≤ m0 ∧ m0 + 10 ≤ aL ∧ aL < aD ∧ ArrOfT s cL .long ∧ ArrOfT s cD .double
def Y_S (G : Gx) (s : State) (n0 m0 aL aD : Nat) (cL cD : ClassId) (σ ρ : Sg) (v : Int64) (w : UInt64) (H : Heap) (locs : List Loc) : Prop :=
  z_W 0 G (Y_X n0) σ H ∧ z_W 1 G (Y_Mo m0) ρ H ∧ L_O cL aL (.inl v) H ∧ L_O cD aD (.inr w) H ∧ va_S (fun q => s.heap.size ≤ q) s.heap H locs
theorem Y_in0 {n0 k o : Nat} (hk : z_side k = 0) (ho : o < z_cnt k) : n0 ≤ Y_X n0 k o ∧ Y_X n0 k o < n0 + 741 := by
  obtain ⟨i, hi, e1, -⟩ := y_key0 n0 k o hk ho
  show n0 ≤ z_ad n0 0 k o ∧ z_ad n0 0 k o < n0 + 741
  rw [e1]
  exact ⟨Nat.le_add_right _ _, Nat.add_lt_add_left hi _⟩
theorem Y_in1 {m0 k o : Nat} (hk : z_side k = 1) (ho : o < z_cnt k) : m0 ≤ Y_Mo m0 k o ∧ Y_Mo m0 k o < m0 + 10 := by
  obtain ⟨i, hi, e1, -⟩ := y_key1 m0 k o hk ho
  show m0 ≤ z_ad 0 m0 k o ∧ z_ad 0 m0 k o < m0 + 10
  rw [e1]
  exact ⟨Nat.le_add_right _ _, Nat.add_lt_add_left hi _⟩
theorem Y_W_keep {b : Nat} {G : Gx} {ad : Ad} {σ : Sg} {H H1 : Heap} (h : z_W b G ad σ H) (hz : H.size ≤ H1.size) (hb : ∀ q, q < G.2.2.1.size → H1[q]? = G.2.2.1[q]?) (hk : ∀ k o, z_side k = b → o < z_cnt k → H1[ad k o]? = H[ad k o]?) : z_W b G ad σ H1 :=
  ⟨fun k o h1 h2 => (h.1 k o h1 h2).kept (hk k o h1 h2), h.2.1, h.2.2.1, Nat.le_trans h.2.2.2.1 hz, hb⟩
section YW
variable {p : Program} {l : Launch} {e : Env} {R : Room} {s : State} {m : MethodId} {args : Array Value} {below : List Frame} {meth : Method} {c : Code} {H H1 : Heap} {locs locs1 : List Loc} {cells slots : Nat} {Q : State → Prop}
variable {cc : ByteArray} {pc : Nat} {ls : Array Slot} {rest : List Value} {nL : Nat} {ret2 : Option FieldType} {G : Gx} {n0 m0 aL aD : Nat} {cL cD : ClassId} {σ σ' ρ ρ' : Sg} {v v' : Int64} {w w' : UInt64}
theorem Y_keep0 (F : Y_F G s n0 m0 aL aD cL cD) (S : Y_S G s n0 m0 aL aD cL cD σ ρ v w H locs) (hW : z_W 0 G (Y_X n0) σ' H1) (hz : H.size ≤ H1.size) (hk : ∀ q : Nat, q < H.size → ¬ z_A 0 (Y_X n0) H.size q → H1[q]? = H[q]?) (hS : va_S (fun q => s.heap.size ≤ q) s.heap H1 locs1) :
    Y_S G s n0 m0 aL aD cL cD σ' ρ v w H1 locs1 := by
  obtain ⟨F1, F2, F3, F4, F5, F6, F7⟩ := F
  have hA : ∀ q : Nat, m0 ≤ q → q < H.size → ¬ z_A 0 (Y_X n0) H.size q := by
    intro q h1 h2 h
    rcases h with ⟨k, o, hk, ho, rfl⟩ | h
    · have := (Y_in0 (n0 := n0) hk ho).2; omega
    · omega
  refine ⟨hW, Y_W_keep S.2.1 hz hW.2.2.2.2 (fun k o h1 h2 => hk _ (S.2.1.1 k o h1 h2).lt (hA _ (Y_in1 h1 h2).1 (S.2.1.1 k o h1 h2).lt)), S.2.2.1.kept (hk _ S.2.2.1.lt (hA _ (by omega) S.2.2.1.lt)), S.2.2.2.1.kept (hk _ S.2.2.2.1.lt (hA _ (by omega) S.2.2.2.1.lt)), hS⟩
theorem Y_keep1 (F : Y_F G s n0 m0 aL aD cL cD) (S : Y_S G s n0 m0 aL aD cL cD σ ρ v w H locs) (hW : z_W 1 G (Y_Mo m0) ρ' H1) (hz : H.size ≤ H1.size) (hk : ∀ q : Nat, q < H.size → ¬ z_A 1 (Y_Mo m0) H.size q → H1[q]? = H[q]?) (hS : va_S (fun q => s.heap.size ≤ q) s.heap H1 locs1) :
    Y_S G s n0 m0 aL aD cL cD σ ρ' v w H1 locs1 := by
  obtain ⟨F1, F2, F3, F4, F5, F6, F7⟩ := F
  have hA : ∀ q : Nat, q < m0 ∨ m0 + 10 ≤ q → q < H.size → ¬ z_A 1 (Y_Mo m0) H.size q := by
    intro q h1 h2 h
    rcases h with ⟨k, o, hk, ho, rfl⟩ | h
    · have := Y_in1 (m0 := m0) hk ho; omega
    · omega
  refine ⟨Y_W_keep S.1 hz hW.2.2.2.2 (fun k o h1 h2 => hk _ (S.1.1 k o h1 h2).lt (hA _ (Or.inl (by have := (Y_in0 (n0 := n0) h1 h2).2; omega)) (S.1.1 k o h1 h2).lt)), hW, S.2.2.1.kept (hk _ S.2.2.1.lt (hA _ (Or.inr (by omega)) S.2.2.1.lt)), S.2.2.2.1.kept (hk _ S.2.2.2.1.lt (hA _ (Or.inr (by omega)) S.2.2.2.1.lt)), hS⟩
theorem Y_keepL (F : Y_F G s n0 m0 aL aD cL cD) (S : Y_S G s n0 m0 aL aD cL cD σ ρ v w H locs) (hW : z_W 0 G (Y_X n0) σ' H1) (hO : L_O cL aL (.inl v') H1) (hz : H.size ≤ H1.size) (hk : ∀ q : Nat, q < H.size → ¬ L_A (Y_X n0) aL H.size q → H1[q]? = H[q]?) (hS : va_S (fun q => s.heap.size ≤ q) s.heap H1 locs1) :
    Y_S G s n0 m0 aL aD cL cD σ' ρ v' w H1 locs1 := by
  obtain ⟨F1, F2, F3, F4, F5, F6, F7⟩ := F
  have hA : ∀ q : Nat, m0 ≤ q → q ≠ aL → q < H.size → ¬ L_A (Y_X n0) aL H.size q := by
    intro q h1 h9 h2 h
    rcases h with (⟨k, o, hk, ho, rfl⟩ | h) | h
    · have := (Y_in0 (n0 := n0) hk ho).2; omega
    · omega
    · exact h9 h
  refine ⟨hW, Y_W_keep S.2.1 hz hW.2.2.2.2 (fun k o h1 h2 => hk _ (S.2.1.1 k o h1 h2).lt (hA _ (Y_in1 h1 h2).1 (by have := (Y_in1 (m0 := m0) h1 h2).2; omega) (S.2.1.1 k o h1 h2).lt)), hO, S.2.2.2.1.kept (hk _ S.2.2.2.1.lt (hA _ (by omega) (by omega) S.2.2.2.1.lt)), hS⟩
theorem Y_keepD (F : Y_F G s n0 m0 aL aD cL cD) (S : Y_S G s n0 m0 aL aD cL cD σ ρ v w H locs) (hW : z_W 0 G (Y_X n0) σ' H1) (hO : L_O cD aD (.inr w') H1) (hz : H.size ≤ H1.size) (hk : ∀ q : Nat, q < H.size → ¬ L_A (Y_X n0) aD H.size q → H1[q]? = H[q]?) (hS : va_S (fun q => s.heap.size ≤ q) s.heap H1 locs1) :
    Y_S G s n0 m0 aL aD cL cD σ' ρ v w' H1 locs1 := by
  obtain ⟨F1, F2, F3, F4, F5, F6, F7⟩ := F
  have hA : ∀ q : Nat, m0 ≤ q → q ≠ aD → q < H.size → ¬ L_A (Y_X n0) aD H.size q := by
    intro q h1 h9 h2 h
    rcases h with (⟨k, o, hk, ho, rfl⟩ | h) | h
    · have := (Y_in0 (n0 := n0) hk ho).2; omega
    · omega
    · exact h9 h
  refine ⟨hW, Y_W_keep S.2.1 hz hW.2.2.2.2 (fun k o h1 h2 => hk _ (S.2.1.1 k o h1 h2).lt (hA _ (Y_in1 h1 h2).1 (by have := (Y_in1 (m0 := m0) h1 h2).2; omega) (S.2.1.1 k o h1 h2).lt)), S.2.2.1.kept (hk _ S.2.2.1.lt (hA _ (by omega) (by omega) S.2.2.1.lt)), hO, hS⟩
theorem Y_S0 (F : Y_F G s n0 m0 aL aD cL cD) (S : Y_S G s n0 m0 aL aD cL cD σ ρ v w H locs) : z_S 0 G (Y_X n0) σ (fun q => s.heap.size ≤ q) s.heap H locs := ⟨S.1, S.2.2.2.2, fun k o h1 h2 => Nat.le_trans F.2.1 (Y_in0 h1 h2).1, fun _ h => h⟩
theorem Y_S1 (F : Y_F G s n0 m0 aL aD cL cD) (S : Y_S G s n0 m0 aL aD cL cD σ ρ v w H locs) : z_S 1 G (Y_Mo m0) ρ (fun q => s.heap.size ≤ q) s.heap H locs := ⟨S.2.1, S.2.2.2.2, fun k o h1 h2 => Nat.le_trans (by have := F.2.1; have := F.2.2.1; omega) (Y_in1 h1 h2).1, fun _ h => h⟩
theorem Y_n0 (F : Y_F G s n0 m0 aL aD cL cD) : ∀ k o, z_side k = 0 → o < z_cnt k → Y_X n0 k o ≠ aL ∧ Y_X n0 k o ≠ aD := fun k o h1 h2 => by
  obtain ⟨F1, F2, F3, F4, F5, F6, F7⟩ := F
  have := (Y_in0 (n0 := n0) h1 h2).2
  exact ⟨by omega, by omega⟩
theorem Y_c0I {y : MethodName} {bytes : ByteArray} {maxL n fr lo index : Nat} {ret3 : Option FieldType} {st As : List Value} {r : Int32} (C : Cx p s m args meth c RL cc nL ret2 G) (F : Y_F G s n0 m0 aL aD cL cD) (S : Y_S G s n0 m0 aL aD cL cD σ ρ v w H locs) (hcls : y.cls = RX7)
    (hM : z_MI l y bytes maxL ret3 fr lo 0 G (Y_X n0) σ H.size (.ref ((Y_X n0) 7 0) :: As) r σ') (kv : KV y bytes maxL ret3 n) (hl : Cond.methodLink RL index y ∈ TT) (hR : fr + 1 ≤ R.frames ∧ 8 + (maxL + 11) + lo ≤ R.locals) (hn : As.length = n) (hst : st = As.reverse ++ .ref ((Y_X n0) 7 0) :: rest) (hW8 : (rest.map fun v => v.category).sum ≤ 8) (hls : ls.size = nL) (hcs : cells ≤ R.cells ∧ slots ≤ R.slots) (hdg : decode cc pc = .ok (.invokevirtual index, 3))
    (kk : ∀ (H1 : Heap) (locs1 : List Loc), Y_S G s n0 m0 aL aD cL cD σ' ρ v w H1 locs1 → W p l e R s m args below meth c H1 locs1 cells slots Q (F0 m (pc + 3) ls (.int r :: rest))) : W p l e R s m args below meth c H locs cells slots Q (F0 m pc ls st) := by
  have C2 := C
  obtain ⟨x1, x2, x3, x4, x5, x6, x7, x8⟩ := C
  have Fc : CF 7 y.cls TX7 13 tyX7 := by rw [hcls]; exact cf_7
  exact va_calli (va_runV (As := As) (rest := rest) ⟨x1, x2, x3, x4, x5⟩ hM (z_cwV C2 kv hl hR) ⟨z_blind _ 0 G _ σ H.size, z_recv (fs := []) (k := 7) (o := 0) x6 (Y_S0 F S) rfl (by decide) Fc ⟨_, rfl⟩, fun U hU hW => ⟨rfl, by rw [hU], by rw [hU]; exact S.1, x6.warm hW⟩⟩ rfl hn hls hst (lv_room hW8) hdg hcs) S.2.2.2.2 (fun q _ h => z_Ain (Y_S0 F S) q h) (z_Ain (Y_S0 F S))
    (fun r1 u t H1 locs1 ht hvm hr hB hz1 hk1 hS1 => by subst hr; exact kk H1 locs1 (Y_keep0 F S (by rw [← ht]; exact hB) hz1 hk1 hS1))
theorem Y_c0D {y : MethodName} {bytes : ByteArray} {maxL n fr lo index : Nat} {ret3 : Option FieldType} {st As : List Value} {r : UInt64} (C : Cx p s m args meth c RL cc nL ret2 G) (F : Y_F G s n0 m0 aL aD cL cD) (S : Y_S G s n0 m0 aL aD cL cD σ ρ v w H locs) (hcls : y.cls = RX7)
    (hM : z_MD l y bytes maxL ret3 fr lo 0 G (Y_X n0) σ H.size (.ref ((Y_X n0) 7 0) :: As) r σ') (kv : KV y bytes maxL ret3 n) (hl : Cond.methodLink RL index y ∈ TT) (hR : fr + 1 ≤ R.frames ∧ 8 + (maxL + 11) + lo ≤ R.locals) (hn : As.length = n) (hst : st = As.reverse ++ .ref ((Y_X n0) 7 0) :: rest) (hW8 : (rest.map fun v => v.category).sum ≤ 8) (hls : ls.size = nL) (hcs : cells ≤ R.cells ∧ slots ≤ R.slots) (hdg : decode cc pc = .ok (.invokevirtual index, 3))
    (kk : ∀ (H1 : Heap) (locs1 : List Loc), Y_S G s n0 m0 aL aD cL cD σ' ρ v w H1 locs1 → W p l e R s m args below meth c H1 locs1 cells slots Q (F0 m (pc + 3) ls (.double r :: rest))) : W p l e R s m args below meth c H locs cells slots Q (F0 m pc ls st) := by
  have C2 := C
  obtain ⟨x1, x2, x3, x4, x5, x6, x7, x8⟩ := C
  have Fc : CF 7 y.cls TX7 13 tyX7 := by rw [hcls]; exact cf_7
  exact va_calld (va_runV (As := As) (rest := rest) ⟨x1, x2, x3, x4, x5⟩ hM (z_cwV C2 kv hl hR) ⟨z_blind _ 0 G _ σ H.size, z_recv (fs := []) (k := 7) (o := 0) x6 (Y_S0 F S) rfl (by decide) Fc ⟨_, rfl⟩, fun U hU hW => ⟨rfl, by rw [hU], by rw [hU]; exact S.1, x6.warm hW⟩⟩ rfl hn hls hst (lv_room hW8) hdg hcs) S.2.2.2.2 (fun q _ h => z_Ain (Y_S0 F S) q h) (z_Ain (Y_S0 F S))
    (fun r1 u t H1 locs1 ht hvm hr hB hz1 hk1 hS1 => by subst hr; exact kk H1 locs1 (Y_keep0 F S (by rw [← ht]; exact hB) hz1 hk1 hS1))
theorem Y_c0F {y : MethodName} {bytes : ByteArray} {maxL n fr lo index : Nat} {ret3 : Option FieldType} {st As : List Value} {r : UInt32} (C : Cx p s m args meth c RL cc nL ret2 G) (F : Y_F G s n0 m0 aL aD cL cD) (S : Y_S G s n0 m0 aL aD cL cD σ ρ v w H locs) (hcls : y.cls = RX7)
    (hM : z_MF l y bytes maxL ret3 fr lo 0 G (Y_X n0) σ H.size (.ref ((Y_X n0) 7 0) :: As) r σ') (kv : KV y bytes maxL ret3 n) (hl : Cond.methodLink RL index y ∈ TT) (hR : fr + 1 ≤ R.frames ∧ 8 + (maxL + 11) + lo ≤ R.locals) (hn : As.length = n) (hst : st = As.reverse ++ .ref ((Y_X n0) 7 0) :: rest) (hW8 : (rest.map fun v => v.category).sum ≤ 8) (hls : ls.size = nL) (hcs : cells ≤ R.cells ∧ slots ≤ R.slots) (hdg : decode cc pc = .ok (.invokevirtual index, 3))
    (kk : ∀ (H1 : Heap) (locs1 : List Loc), Y_S G s n0 m0 aL aD cL cD σ' ρ v w H1 locs1 → W p l e R s m args below meth c H1 locs1 cells slots Q (F0 m (pc + 3) ls (.float r :: rest))) : W p l e R s m args below meth c H locs cells slots Q (F0 m pc ls st) := by
  have C2 := C
  obtain ⟨x1, x2, x3, x4, x5, x6, x7, x8⟩ := C
  have Fc : CF 7 y.cls TX7 13 tyX7 := by rw [hcls]; exact cf_7
  exact va_callf (va_runV (As := As) (rest := rest) ⟨x1, x2, x3, x4, x5⟩ hM (z_cwV C2 kv hl hR) ⟨z_blind _ 0 G _ σ H.size, z_recv (fs := []) (k := 7) (o := 0) x6 (Y_S0 F S) rfl (by decide) Fc ⟨_, rfl⟩, fun U hU hW => ⟨rfl, by rw [hU], by rw [hU]; exact S.1, x6.warm hW⟩⟩ rfl hn hls hst (lv_room hW8) hdg hcs) S.2.2.2.2 (fun q _ h => z_Ain (Y_S0 F S) q h) (z_Ain (Y_S0 F S))
    (fun r1 u t H1 locs1 ht hvm hr hB hz1 hk1 hS1 => by subst hr; exact kk H1 locs1 (Y_keep0 F S (by rw [← ht]; exact hB) hz1 hk1 hS1))
theorem Y_c1I {y : MethodName} {bytes : ByteArray} {maxL n fr lo index : Nat} {ret3 : Option FieldType} {st As : List Value} {r : Int32} (C : Cx p s m args meth c RL cc nL ret2 G) (F : Y_F G s n0 m0 aL aD cL cD) (S : Y_S G s n0 m0 aL aD cL cD σ ρ v w H locs) (hcls : y.cls = RX8)
    (hM : z_MI l y bytes maxL ret3 fr lo 1 G (Y_Mo m0) ρ H.size (.ref ((Y_Mo m0) 8 0) :: As) r ρ') (kv : KV y bytes maxL ret3 n) (hl : Cond.methodLink RL index y ∈ TT) (hR : fr + 1 ≤ R.frames ∧ 8 + (maxL + 11) + lo ≤ R.locals) (hn : As.length = n) (hst : st = As.reverse ++ .ref ((Y_Mo m0) 8 0) :: rest) (hW8 : (rest.map fun v => v.category).sum ≤ 8) (hls : ls.size = nL) (hcs : cells ≤ R.cells ∧ slots ≤ R.slots) (hdg : decode cc pc = .ok (.invokevirtual index, 3))
    (kk : ∀ (H1 : Heap) (locs1 : List Loc), Y_S G s n0 m0 aL aD cL cD σ ρ' v w H1 locs1 → W p l e R s m args below meth c H1 locs1 cells slots Q (F0 m (pc + 3) ls (.int r :: rest))) : W p l e R s m args below meth c H locs cells slots Q (F0 m pc ls st) := by
  have C2 := C
  obtain ⟨x1, x2, x3, x4, x5, x6, x7, x8⟩ := C
  have Fc : CF 8 y.cls TX8 23 tyX8 := by rw [hcls]; exact cf_8
  exact va_calli (va_runV (As := As) (rest := rest) ⟨x1, x2, x3, x4, x5⟩ hM (z_cwV C2 kv hl hR) ⟨z_blind _ 1 G _ ρ H.size, z_recv (fs := []) (k := 8) (o := 0) x6 (Y_S1 F S) rfl (by decide) Fc ⟨_, rfl⟩, fun U hU hW => ⟨rfl, by rw [hU], by rw [hU]; exact S.2.1, x6.warm hW⟩⟩ rfl hn hls hst (lv_room hW8) hdg hcs) S.2.2.2.2 (fun q _ h => z_Ain (Y_S1 F S) q h) (z_Ain (Y_S1 F S))
    (fun r1 u t H1 locs1 ht hvm hr hB hz1 hk1 hS1 => by subst hr; exact kk H1 locs1 (Y_keep1 F S (by rw [← ht]; exact hB) hz1 hk1 hS1))
theorem Y_c1D {y : MethodName} {bytes : ByteArray} {maxL n fr lo index : Nat} {ret3 : Option FieldType} {st As : List Value} {r : UInt64} (C : Cx p s m args meth c RL cc nL ret2 G) (F : Y_F G s n0 m0 aL aD cL cD) (S : Y_S G s n0 m0 aL aD cL cD σ ρ v w H locs) (hcls : y.cls = RX8)
    (hM : z_MD l y bytes maxL ret3 fr lo 1 G (Y_Mo m0) ρ H.size (.ref ((Y_Mo m0) 8 0) :: As) r ρ') (kv : KV y bytes maxL ret3 n) (hl : Cond.methodLink RL index y ∈ TT) (hR : fr + 1 ≤ R.frames ∧ 8 + (maxL + 11) + lo ≤ R.locals) (hn : As.length = n) (hst : st = As.reverse ++ .ref ((Y_Mo m0) 8 0) :: rest) (hW8 : (rest.map fun v => v.category).sum ≤ 8) (hls : ls.size = nL) (hcs : cells ≤ R.cells ∧ slots ≤ R.slots) (hdg : decode cc pc = .ok (.invokevirtual index, 3))
    (kk : ∀ (H1 : Heap) (locs1 : List Loc), Y_S G s n0 m0 aL aD cL cD σ ρ' v w H1 locs1 → W p l e R s m args below meth c H1 locs1 cells slots Q (F0 m (pc + 3) ls (.double r :: rest))) : W p l e R s m args below meth c H locs cells slots Q (F0 m pc ls st) := by
  have C2 := C
  obtain ⟨x1, x2, x3, x4, x5, x6, x7, x8⟩ := C
  have Fc : CF 8 y.cls TX8 23 tyX8 := by rw [hcls]; exact cf_8
  exact va_calld (va_runV (As := As) (rest := rest) ⟨x1, x2, x3, x4, x5⟩ hM (z_cwV C2 kv hl hR) ⟨z_blind _ 1 G _ ρ H.size, z_recv (fs := []) (k := 8) (o := 0) x6 (Y_S1 F S) rfl (by decide) Fc ⟨_, rfl⟩, fun U hU hW => ⟨rfl, by rw [hU], by rw [hU]; exact S.2.1, x6.warm hW⟩⟩ rfl hn hls hst (lv_room hW8) hdg hcs) S.2.2.2.2 (fun q _ h => z_Ain (Y_S1 F S) q h) (z_Ain (Y_S1 F S))
    (fun r1 u t H1 locs1 ht hvm hr hB hz1 hk1 hS1 => by subst hr; exact kk H1 locs1 (Y_keep1 F S (by rw [← ht]; exact hB) hz1 hk1 hS1))
theorem Y_c1F {y : MethodName} {bytes : ByteArray} {maxL n fr lo index : Nat} {ret3 : Option FieldType} {st As : List Value} {r : UInt32} (C : Cx p s m args meth c RL cc nL ret2 G) (F : Y_F G s n0 m0 aL aD cL cD) (S : Y_S G s n0 m0 aL aD cL cD σ ρ v w H locs) (hcls : y.cls = RX8)
    (hM : z_MF l y bytes maxL ret3 fr lo 1 G (Y_Mo m0) ρ H.size (.ref ((Y_Mo m0) 8 0) :: As) r ρ') (kv : KV y bytes maxL ret3 n) (hl : Cond.methodLink RL index y ∈ TT) (hR : fr + 1 ≤ R.frames ∧ 8 + (maxL + 11) + lo ≤ R.locals) (hn : As.length = n) (hst : st = As.reverse ++ .ref ((Y_Mo m0) 8 0) :: rest) (hW8 : (rest.map fun v => v.category).sum ≤ 8) (hls : ls.size = nL) (hcs : cells ≤ R.cells ∧ slots ≤ R.slots) (hdg : decode cc pc = .ok (.invokevirtual index, 3))
    (kk : ∀ (H1 : Heap) (locs1 : List Loc), Y_S G s n0 m0 aL aD cL cD σ ρ' v w H1 locs1 → W p l e R s m args below meth c H1 locs1 cells slots Q (F0 m (pc + 3) ls (.float r :: rest))) : W p l e R s m args below meth c H locs cells slots Q (F0 m pc ls st) := by
  have C2 := C
  obtain ⟨x1, x2, x3, x4, x5, x6, x7, x8⟩ := C
  have Fc : CF 8 y.cls TX8 23 tyX8 := by rw [hcls]; exact cf_8
  exact va_callf (va_runV (As := As) (rest := rest) ⟨x1, x2, x3, x4, x5⟩ hM (z_cwV C2 kv hl hR) ⟨z_blind _ 1 G _ ρ H.size, z_recv (fs := []) (k := 8) (o := 0) x6 (Y_S1 F S) rfl (by decide) Fc ⟨_, rfl⟩, fun U hU hW => ⟨rfl, by rw [hU], by rw [hU]; exact S.2.1, x6.warm hW⟩⟩ rfl hn hls hst (lv_room hW8) hdg hcs) S.2.2.2.2 (fun q _ h => z_Ain (Y_S1 F S) q h) (z_Ain (Y_S1 F S))
    (fun r1 u t H1 locs1 ht hvm hr hB hz1 hk1 hS1 => by subst hr; exact kk H1 locs1 (Y_keep1 F S (by rw [← ht]; exact hB) hz1 hk1 hS1))
theorem Y_sld {b L : Nat} {xs : Nat → Int32} (C : Cx p s m args meth c RL cc nL ret2 G) (S : Y_S G s n0 m0 aL aD cL cD σ ρ v w H locs) (hX : va_X b L xs s s.heap) (hbl : b < s.heap.size) {i : Int32} {n : Nat} (h0 : ¬ i < 0) (hn : i.toNatClampNeg = n) (hlt : n < L) (hdg : decode cc pc = .ok (.iaload, 1))
    (kk : W p l e R s m args below meth c H locs cells slots Q (F0 m (pc + 1) ls (.int (xs n) :: rest))) : W p l e R s m args below meth c H locs cells slots Q (F0 m pc ls (.int i :: .ref b :: rest)) := by
  subst hn
  exact va_sld (A := fun q => s.heap.size ≤ q) C.1 C.2.1 hX hbl (Nat.not_le.mpr hbl) S.2.2.2.2 (fun q => q.elim h0 (fun q => absurd hlt (Nat.not_lt.mpr q))) hdg kk
theorem Y_lald (C : Cx p s m args meth c RL cc nL ret2 G) (F : Y_F G s n0 m0 aL aD cL cD) (S : Y_S G s n0 m0 aL aD cL cD σ ρ v w H locs) (hdg : decode cc pc = .ok (.laload, 1))
    (kk : W p l e R s m args below meth c H locs cells slots Q (F0 m (pc + 1) ls (.long v :: rest))) : W p l e R s m args below meth c H locs cells slots Q (F0 m pc ls (.int 0 :: .ref aL :: rest)) :=
  W.lald (v := .long v) C.1 C.2.1 S.2.2.1 (F.2.2.2.2.2.1 1 _) (fun q => by cases q) (by show ¬ ((0 : Int32) < 0 ∨ (arrV _ _ _).slots.size ≤ _); rw [arrV_size]; show ¬ ((0 : Int32) < 0 ∨ 1 ≤ (0 : Int32).toNatClampNeg); decide) (by show (arrV _ _ _).slots[(0 : Int32).toNatClampNeg]? = _; rw [arrV_read _ _ (show (0 : Int32).toNatClampNeg < 1 by decide)]) rfl rfl hdg kk
theorem Y_dald (C : Cx p s m args meth c RL cc nL ret2 G) (F : Y_F G s n0 m0 aL aD cL cD) (S : Y_S G s n0 m0 aL aD cL cD σ ρ v w H locs) (hdg : decode cc pc = .ok (.daload, 1))
    (kk : W p l e R s m args below meth c H locs cells slots Q (F0 m (pc + 1) ls (.double w :: rest))) : W p l e R s m args below meth c H locs cells slots Q (F0 m pc ls (.int 0 :: .ref aD :: rest)) :=
  W.dald (v := .double w) C.1 C.2.1 S.2.2.2.1 (F.2.2.2.2.2.2 1 _) (fun q => by cases q) (by show ¬ ((0 : Int32) < 0 ∨ (arrV _ _ _).slots.size ≤ _); rw [arrV_size]; show ¬ ((0 : Int32) < 0 ∨ 1 ≤ (0 : Int32).toNatClampNeg); decide) (by show (arrV _ _ _).slots[(0 : Int32).toNatClampNeg]? = _; rw [arrV_read _ _ (show (0 : Int32).toNatClampNeg < 1 by decide)]) rfl rfl hdg kk
theorem Y_wL {y : MethodName} {bytes : ByteArray} {maxL n fr lo index my ny : Nat} {hh : List (Nat × Nat × Nat × Nat)} {st As : List Value} {k : Int32} (C : Cx p s m args meth c RL cc nL ret2 G) (F : Y_F G s n0 m0 aL aD cL cD) (S : Y_S G s n0 m0 aL aD cL cD σ ρ v w H locs)
    (hM : L_M l y bytes maxL hh fr lo my ny G (Y_X n0) σ H.size As cL aL (.inl v) k (.inl v') σ') (hcw : Cond.codeWith y bytes maxL (some .int) hh ∈ TT) (hst2 : Cond.static y ∈ TT) (hini : Cond.initialized y.cls ∈ TT) (hd : y.cls ≠ "java/lang/invoke/MethodHandle" ∧ y.cls ≠ "java/lang/invoke/VarHandle" ∧ (parseMethodDescriptor y.desc).map (fun d => d.parameters.length) = some n) (hl : Cond.methodLink RL index y ∈ TT) (hR : fr + 1 ≤ R.frames ∧ 8 + (maxL + 11) + lo ≤ R.locals) (hn : As.length = n) (hst : st = As.reverse ++ rest) (hW8 : (rest.map fun v => v.category).sum ≤ 8) (hls : ls.size = nL) (hcs : cells + my ≤ R.cells ∧ slots + ny ≤ R.slots) (hdg : decode cc pc = .ok (.invokestatic index, 3))
    (kk : ∀ (H1 : Heap) (locs1 : List Loc), Y_S G s n0 m0 aL aD cL cD σ' ρ v' w H1 locs1 → W p l e R s m args below meth c H1 locs1 (cells + my) (slots + ny) Q (F0 m (pc + 3) ls (.int k :: rest))) : W p l e R s m args below meth c H locs cells slots Q (F0 m pc ls st) := by
  obtain ⟨x1, x2, x3, x4, x5, x6, x7, x8⟩ := C
  have hG : GoodIn TT (va_wsS RL index y (L_ws y bytes maxL hh)) := by
    intro q hq
    have h1 : q ∈ TT := by
      rcases List.mem_append.mp hq with h | h
      · simp only [List.mem_cons, List.not_mem_nil, or_false] at h
        rcases h with rfl | rfl | rfl
        · exact hl
        · exact hst2
        · exact hini
      · rcases List.mem_cons.mp h with rfl | h2
        · exact hcw
        · exact h2
    exact ⟨h1, good_of_word (List.mem_filter.mp h1).2⟩
  refine vx_calli (vx_runSX (As := As) (rest := rest) ⟨x1, x2, x3, x4, x5⟩ hM (vx_cwSW n x5 hG rfl rfl rfl hd hR) ⟨L_blind, fun U hU hW => ⟨rfl, by rw [hU], by rw [hU]; exact S.1, x6.warm hW, arrOfT_moved hW.alike F.2.2.2.2.2.1, by rw [hU]; exact S.2.2.1, fun k o h1 h2 => (Y_n0 F k o h1 h2).1, by have := F.1; have := F.2.1; have := F.2.2.1; have := F.2.2.2.1; omega⟩⟩ rfl hn hls hst (lv_room hW8) hdg hcs) S.2.2.2.2 (fun q _ h => ?_) (fun q h => ?_) (fun q h9 h => ?_)
    (fun E ce q9 u t H1 locs1 ht hvm hp hb hz hk1 hS1 hce hcv hcl => hp.elim) (fun r1 u t H1 locs1 ht hvm hr hB hz1 hk1 hS1 => ?_)
  · rcases h with h | rfl
    · exact z_Ain (Y_S0 F S) q h
    · have := F.2.1; have := F.2.2.1; have := F.2.2.2.1; omega
  · rcases h with h | rfl
    · exact z_Ain (Y_S0 F S) q h
    · have := F.2.1; have := F.2.2.1; have := F.2.2.2.1; omega
  · exact absurd h id
  · subst hr
    exact kk H1 locs1 (Y_keepL F S (by rw [← ht]; exact hB.1) (by rw [← ht]; exact hB.2) hz1 hk1 hS1)
theorem Y_wD {y : MethodName} {bytes : ByteArray} {maxL n fr lo index my ny : Nat} {hh : List (Nat × Nat × Nat × Nat)} {st As : List Value} {k : Int32} (C : Cx p s m args meth c RL cc nL ret2 G) (F : Y_F G s n0 m0 aL aD cL cD) (S : Y_S G s n0 m0 aL aD cL cD σ ρ v w H locs)
    (hM : L_M l y bytes maxL hh fr lo my ny G (Y_X n0) σ H.size As cD aD (.inr w) k (.inr w') σ') (hcw : Cond.codeWith y bytes maxL (some .int) hh ∈ TT) (hst2 : Cond.static y ∈ TT) (hini : Cond.initialized y.cls ∈ TT) (hd : y.cls ≠ "java/lang/invoke/MethodHandle" ∧ y.cls ≠ "java/lang/invoke/VarHandle" ∧ (parseMethodDescriptor y.desc).map (fun d => d.parameters.length) = some n) (hl : Cond.methodLink RL index y ∈ TT) (hR : fr + 1 ≤ R.frames ∧ 8 + (maxL + 11) + lo ≤ R.locals) (hn : As.length = n) (hst : st = As.reverse ++ rest) (hW8 : (rest.map fun v => v.category).sum ≤ 8) (hls : ls.size = nL) (hcs : cells + my ≤ R.cells ∧ slots + ny ≤ R.slots) (hdg : decode cc pc = .ok (.invokestatic index, 3))
    (kk : ∀ (H1 : Heap) (locs1 : List Loc), Y_S G s n0 m0 aL aD cL cD σ' ρ v w' H1 locs1 → W p l e R s m args below meth c H1 locs1 (cells + my) (slots + ny) Q (F0 m (pc + 3) ls (.int k :: rest))) : W p l e R s m args below meth c H locs cells slots Q (F0 m pc ls st) := by
  obtain ⟨x1, x2, x3, x4, x5, x6, x7, x8⟩ := C
  have hG : GoodIn TT (va_wsS RL index y (L_ws y bytes maxL hh)) := by
    intro q hq
    have h1 : q ∈ TT := by
      rcases List.mem_append.mp hq with h | h
      · simp only [List.mem_cons, List.not_mem_nil, or_false] at h
        rcases h with rfl | rfl | rfl
        · exact hl
        · exact hst2
        · exact hini
      · rcases List.mem_cons.mp h with rfl | h2
        · exact hcw
        · exact h2
    exact ⟨h1, good_of_word (List.mem_filter.mp h1).2⟩
  refine vx_calli (vx_runSX (As := As) (rest := rest) ⟨x1, x2, x3, x4, x5⟩ hM (vx_cwSW n x5 hG rfl rfl rfl hd hR) ⟨L_blind, fun U hU hW => ⟨rfl, by rw [hU], by rw [hU]; exact S.1, x6.warm hW, arrOfT_moved hW.alike F.2.2.2.2.2.2, by rw [hU]; exact S.2.2.2.1, fun k o h1 h2 => (Y_n0 F k o h1 h2).2, by have := F.1; have := F.2.1; have := F.2.2.1; have := F.2.2.2.1; have := F.2.2.2.2.1; omega⟩⟩ rfl hn hls hst (lv_room hW8) hdg hcs) S.2.2.2.2 (fun q _ h => ?_) (fun q h => ?_) (fun q h9 h => ?_)
    (fun E ce q9 u t H1 locs1 ht hvm hp hb hz hk1 hS1 hce hcv hcl => hp.elim) (fun r1 u t H1 locs1 ht hvm hr hB hz1 hk1 hS1 => ?_)
  · rcases h with h | rfl
    · exact z_Ain (Y_S0 F S) q h
    · have := F.2.1; have := F.2.2.1; have := F.2.2.2.1; have := F.2.2.2.2.1; omega
  · rcases h with h | rfl
    · exact z_Ain (Y_S0 F S) q h
    · have := F.2.1; have := F.2.2.1; have := F.2.2.2.1; have := F.2.2.2.2.1; omega
  · exact absurd h id
  · subst hr
    exact kk H1 locs1 (Y_keepD F S (by rw [← ht]; exact hB.1) (by rw [← ht]; exact hB.2) hz1 hk1 hS1)
end YW
