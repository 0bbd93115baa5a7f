/-! the law's own static methods: a call that may throw, its answer laid into an array of one element, the handlers -/
def L_A (ad : Ad) (ao sz : Nat) : Nat → Prop := fun q => z_A 0 ad sz q ∨ q = ao
def L_O (cL : ClassId) (ao : Nat) (v : Int64 ⊕ UInt64) (H : Heap) : Prop := match v with
  | .inl x => H[ao]? = some (vp_cell cL (1, .inr (.inl (fun _ => x))))
  | .inr x => H[ao]? = some (vp_cell cL (1, .inr (.inr (.inr (.inl (fun _ => x))))))
def L_ty (v : Int64 ⊕ UInt64) : FieldType := match v with
  | .inl _ => .long
  | .inr _ => .double
theorem L_O.lt {cL : ClassId} {ao : Nat} {v : Int64 ⊕ UInt64} {H : Heap} (h : L_O cL ao v H) : ao < H.size := by
  cases v with
  | inl x => exact (Array.getElem?_eq_some_iff.mp h).1
  | inr x => exact (Array.getElem?_eq_some_iff.mp h).1
theorem L_O.kept {cL : ClassId} {ao : Nat} {v : Int64 ⊕ UInt64} {H H1 : Heap} (h : L_O cL ao v H) (hq : H1[ao]? = H[ao]?) : L_O cL ao v H1 := by
  cases v with
  | inl x => exact hq.trans h
  | inr x => exact hq.trans h
def L_P (G : Gx) (ad : Ad) (σ : Sg) (sz : Nat) (cL : ClassId) (ao : Nat) (v : Int64 ⊕ UInt64) (U : State) : Prop := U.heap.size = sz ∧ z_W 0 G ad σ U.heap ∧ z_K G U ∧ ArrOfT U cL (L_ty v) ∧ L_O cL ao v U.heap ∧ (∀ k o, z_side k = 0 → o < z_cnt k → ad k o ≠ ao) ∧ G.2.2.1.size ≤ ao
theorem L_blind {av : List Value} {G : Gx} {ad : Ad} {σ : Sg} {sz : Nat} {cL : ClassId} {ao : Nat} {v : Int64 ⊕ UInt64} : FrameBlind (va_Pc av (L_P G ad σ sz cL ao v)) := fun _ U g mk q => ⟨q.1, q.2.1, q.2.2.1, q.2.2.2.1.calling g mk _, arrOfT_moved (u := U) (State.WarmedH.refl U).alike q.2.2.2.2.1, q.2.2.2.2.2⟩
def L_ws (y : MethodName) (bytes : ByteArray) (maxL : Nat) (hh : List (Nat × Nat × Nat × Nat)) : List Cond := Cond.codeWith y bytes maxL (some .int) hh :: TT
def L_M (l : Launch) (y : MethodName) (bytes : ByteArray) (maxL : Nat) (hh : List (Nat × Nat × Nat × Nat)) (fr lo mc ms : Nat) (G : Gx) (ad : Ad) (σ : Sg) (sz : Nat) (As : List Value) (cL : ClassId) (ao : Nat) (v0 : Int64 ⊕ UInt64) (k : Int32) (v1 : Int64 ⊕ UInt64) (σ' : Sg) : Prop :=
  vx_Met l y (L_ws y bytes maxL hh) { frames := fr, cells := mc, slots := ms, locals := lo } (va_Pc As (L_P G ad σ sz cL ao v0))
    (va_Qi (S := Unit) (fun r1 _ => r1 = k) (fun _ t => z_W 0 G ad σ' t.heap ∧ L_O cL ao v1 t.heap) (L_A ad ao sz)) (vx_X (S := Unit) (fun _ => False) (fun _ _ _ => True) (fun _ => False)) mc ms (L_A ad ao sz)
def L_C (p : Program) (s : State) (m : MethodId) (args : Array Value) (meth : Method) (c : Code) (cc : ByteArray) (nL : Nat) (G : Gx) (ad : Ad) (cL : ClassId) (ao : Nat) (ty : FieldType) (hh : List (Nat × Nat × Nat × Nat)) : Prop :=
  Cx p s m args meth c RL cc nL (some .int) G ∧ c.exceptionTable.toList = tableOf hh ∧ ArrOfT s cL ty ∧ (∀ k o, z_side k = 0 → o < z_cnt k → ad k o ≠ ao) ∧ G.2.2.1.size ≤ ao
theorem L_begin {l : Launch} {y : MethodName} {bytes : ByteArray} {maxL : Nat} {hh : List (Nat × Nat × Nat × Nat)} {fr lo mc ms : Nat} {G : Gx} {ad : Ad} {σ : Sg} {sz : Nat} {As : List Value} {cL : ClassId} {ao : Nat} {v0 : Int64 ⊕ UInt64} {k : Int32} {v1 : Int64 ⊕ UInt64} {σ' : Sg} (hy : plainName y.cls = true) (hcl : y.cls = RL) (hl : (lg_sl As).length ≤ maxL) (lv : List (Nat × Value)) (hlv : lv_args 0 As = lv)
    (body : ∀ (p : Program) (e : Env) (s : State) (m : MethodId) (args : Array Value) (below : List Frame) (meth : Method) (c : Code) (ls : Array Slot), L_C p s m args meth c bytes maxL G ad cL ao (L_ty v0) hh → sz = s.heap.size → z_S 0 G ad σ (L_A ad ao s.heap.size) s.heap s.heap [] → L_O cL ao v0 s.heap → lv_has ls maxL lv →
      W p l e { frames := fr, cells := mc, slots := ms, locals := lo } s m args below meth c s.heap [] 0 0 (vx_MQ below (va_Qi (S := Unit) (fun r1 _ => r1 = k) (fun _ t => z_W 0 G ad σ' t.heap ∧ L_O cL ao v1 t.heap) (L_A ad ao s.heap.size)) (vx_X (S := Unit) (fun _ => False) (fun _ _ _ => True) (fun _ => False)) args s mc ms (L_A ad ao s.heap.size)) (F0 m 0 ls [])) :
    L_M l y bytes maxL hh fr lo mc ms G ad σ sz As cL ao v0 k v1 σ' := by
  refine vx_ofWH (cc := bytes) (maxL := maxL) (ret := some .int) (hh := hh) hy rfl ?_
  intro p e s m args below meth c s₁ B hml hv
  obtain ⟨rfl, hsz, hW, hK, hA, hO, hao, hb⟩ := hv
  subst hsz
  have hts := atoms_spec (ws := L_ws y bytes maxL hh) B.pre
  have hl0 := lv_entry As hl
  rw [lg_entry_eq]
  rw [hlv] at hl0
  have hown : s.vm.findClass RL = some m.cls := by rw [← hcl]; exact findClass_of_methodNamed B.named
  exact body p e s m _ below meth c _ ⟨⟨B.exec, B.bytes, hml, hown, fun w hw => hts w (List.mem_cons_of_mem _ hw), hK, B.notSynchronized, B.returns⟩, vx_table (x := y) B (hts _ List.mem_cons_self), hA, hao, hb⟩ rfl ⟨hW, va_S.rf, fun k o hk ho => Or.inl (Or.inl ⟨k, o, hk, ho, rfl⟩), fun q hq => Or.inl (Or.inr hq)⟩ hO hl0
theorem L_ext {cA : ClassId} {n : Nat} {f g : Nat → Value} (h : ∀ i, i < n → f i = g i) : arrV cA n f = arrV cA n g := by
  unfold arrV
  congr 2
  funext j
  exact h j.val j.isLt
def L_k (t : List (Nat × Int32)) (c : Nat) : Int32 := ((t.find? (fun q => q.1 == c)).map (fun q => q.2)).getD 0
section LR
variable {p : Program} {l : Launch} {e : Env} {R : Room} {s : State} {m : MethodId} {args : Array Value} {below : List Frame} {meth : Method} {c : Code} {H : Heap} {locs : List Loc} {cells slots mc ms : Nat} {Q : State → Prop}
variable {cc : ByteArray} {pc : Nat} {ls : Array Slot} {rest : List Value} {nL : Nat} {G : Gx} {ad : Ad} {σ : Sg} {cL : ClassId} {ao : Nat} {v : Int64 ⊕ UInt64} {ty : FieldType} {hh : List (Nat × Nat × Nat × Nat)}
theorem L_step {σ' : Sg} {H1 : Heap} {locs1 : List Loc} (C : L_C p s m args meth c cc nL G ad cL ao ty hh) (O : L_O cL ao v H) (hk : ∀ q : Nat, q < H.size → ¬ z_A 0 ad H.size q → H1[q]? = H[q]?) : L_O cL ao v H1 :=
  O.kept (hk ao O.lt (fun h => by
    rcases h with ⟨k, o, h1, h2, h3⟩ | h
    · exact C.2.2.2.1 k o h1 h2 h3.symm
    · exact absurd O.lt (Nat.not_lt.mpr h)))
theorem L_In (S : z_S 0 G ad σ (L_A ad ao s.heap.size) s.heap H locs) : ∀ q, z_A 0 ad H.size q → L_A ad ao s.heap.size q := z_Ain S
theorem L_callI {y : MethodName} {bytes : ByteArray} {maxL n fr lo index my ny : Nat} {ret2 : Option FieldType} {st : List Value} {cq : Nat} {rq : Int32} {σq : Sg} (C : L_C p s m args meth c cc nL G ad cL ao ty hh) (S : z_S 0 G ad σ (L_A ad ao s.heap.size) s.heap H locs) (O : L_O cL ao v H) (As : List Value) (hcls : y.cls = RX7)
    (hM : z_XI l y bytes maxL ret2 fr lo my ny 0 G ad σ H.size (.ref (ad 7 0) :: As) (cq, rq, σq)) (kv : KV y bytes maxL ret2 n) (hl : Cond.methodLink RL index y ∈ TT) (hR : fr + 1 ≤ R.frames ∧ 8 + (maxL + 11) + lo ≤ R.locals) (hn : As.length = n) (hst : st = As.reverse ++ .ref (ad 7 0) :: rest) (hW8 : (rest.map fun v => v.category).sum ≤ 8) (hls : ls.size = nL) (hcs : cells + my ≤ R.cells ∧ slots + ny ≤ R.slots) (hdg : decode cc pc = .ok (.invokevirtual index, 3))
    (kx : cq ≠ 0 → ∀ (ce : Cell) (q9 : Addr) (H1 : Heap) (locs1 : List Loc), z_S 0 G ad σq (L_A ad ao s.heap.size) s.heap H1 locs1 → L_O cL ao v H1 → H1[q9]? = some ce → ce.vm = .none → s.vm.findClass (z_xn cq) = some ce.cls → vx_W p l e R s m args below meth c H1 locs1 (cells + my) (slots + ny) Q (F0 m pc ls rest) q9)
    (kk : cq = 0 → ∀ (H1 : Heap) (locs1 : List Loc), z_S 0 G ad σq (L_A ad ao s.heap.size) s.heap H1 locs1 → L_O cL ao v H1 → W p l e R s m args below meth c H1 locs1 (cells + my) (slots + ny) Q (F0 m (pc + 3) ls (.int rq :: rest))) :
    W p l e R s m args below meth c H locs cells slots Q (F0 m pc ls st) := by
  have C2 := C
  obtain ⟨⟨x1, x2, x3, x4, x5, x6, x7, x8⟩, -, -, -, -⟩ := C
  obtain ⟨k1, k2, k3, k4, k5, k6, k7⟩ := kv
  have cw : CallW R s args RL y.cls index y bytes maxL ret2 (z_ws y bytes maxL ret2) { frames := fr, cells := my, slots := ny, locals := lo } my ny n := ⟨callB_of n x5 (tt_good k1) rfl rfl rfl (x5 _ k4) (x5 _ hl) ⟨k5, k6, k7⟩ hR, x5 _ k2, x5 _ k3⟩
  have F : CF 7 y.cls TX7 13 tyX7 := by rw [hcls]; exact cf_7
  exact vx_calli (vx_runV (As := As) (rest := rest) ⟨x1, x2, x3, x4, x5⟩ hM cw ⟨z_blind _ 0 G ad σ H.size, z_recv (fs := []) (k := 7) (o := 0) x6 S rfl (by decide) F ⟨_, rfl⟩, fun U hU hW => ⟨rfl, by rw [hU], by rw [hU]; exact S.1, x6.warm hW⟩⟩ rfl hn hls hst (lv_room hW8) hdg hcs) S.2.1 (fun q _ h => z_Ain S q h) (z_Ain S) (fun q _ h => z_Ain S q h)
    (fun E ce q9 u t H1 locs1 ht hvm hp hb hz hk1 hS1 hce hcv hcl => kx hp ce q9 H1 locs1 (z_after S (by rw [← ht]; exact hb.2) hS1) (L_step (locs1 := locs1) (σ' := σq) C2 O hk1) hce hcv (by rw [← hb.1]; exact hcl))
    (fun r1 u t H1 locs1 ht hvm hr hB hz1 hk1 hS1 => by
      obtain ⟨h0, rfl⟩ := hr
      exact kk h0 H1 locs1 (z_after S (by rw [← ht]; exact hB) hS1) (L_step (locs1 := locs1) (σ' := σq) C2 O hk1))
theorem L_callD {y : MethodName} {bytes : ByteArray} {maxL n fr lo index my ny : Nat} {ret2 : Option FieldType} {st : List Value} {cq : Nat} {rq : UInt64} {σq : Sg} (C : L_C p s m args meth c cc nL G ad cL ao ty hh) (S : z_S 0 G ad σ (L_A ad ao s.heap.size) s.heap H locs) (O : L_O cL ao v H) (As : List Value) (hcls : y.cls = RX7)
    (hM : z_XD l y bytes maxL ret2 fr lo my ny 0 G ad σ H.size (.ref (ad 7 0) :: As) (cq, rq, σq)) (kv : KV y bytes maxL ret2 n) (hl : Cond.methodLink RL index y ∈ TT) (hR : fr + 1 ≤ R.frames ∧ 8 + (maxL + 11) + lo ≤ R.locals) (hn : As.length = n) (hst : st = As.reverse ++ .ref (ad 7 0) :: rest) (hW8 : (rest.map fun v => v.category).sum ≤ 8) (hls : ls.size = nL) (hcs : cells + my ≤ R.cells ∧ slots + ny ≤ R.slots) (hdg : decode cc pc = .ok (.invokevirtual index, 3))
    (kx : cq ≠ 0 → ∀ (ce : Cell) (q9 : Addr) (H1 : Heap) (locs1 : List Loc), z_S 0 G ad σq (L_A ad ao s.heap.size) s.heap H1 locs1 → L_O cL ao v H1 → H1[q9]? = some ce → ce.vm = .none → s.vm.findClass (z_xn cq) = some ce.cls → vx_W p l e R s m args below meth c H1 locs1 (cells + my) (slots + ny) Q (F0 m pc ls rest) q9)
    (kk : cq = 0 → ∀ (H1 : Heap) (locs1 : List Loc), z_S 0 G ad σq (L_A ad ao s.heap.size) s.heap H1 locs1 → L_O cL ao v H1 → W p l e R s m args below meth c H1 locs1 (cells + my) (slots + ny) Q (F0 m (pc + 3) ls (.double rq :: rest))) :
    W p l e R s m args below meth c H locs cells slots Q (F0 m pc ls st) := by
  have C2 := C
  obtain ⟨⟨x1, x2, x3, x4, x5, x6, x7, x8⟩, -, -, -, -⟩ := C
  obtain ⟨k1, k2, k3, k4, k5, k6, k7⟩ := kv
  have cw : CallW R s args RL y.cls index y bytes maxL ret2 (z_ws y bytes maxL ret2) { frames := fr, cells := my, slots := ny, locals := lo } my ny n := ⟨callB_of n x5 (tt_good k1) rfl rfl rfl (x5 _ k4) (x5 _ hl) ⟨k5, k6, k7⟩ hR, x5 _ k2, x5 _ k3⟩
  have F : CF 7 y.cls TX7 13 tyX7 := by rw [hcls]; exact cf_7
  exact vx_calld (vx_runV (As := As) (rest := rest) ⟨x1, x2, x3, x4, x5⟩ hM cw ⟨z_blind _ 0 G ad σ H.size, z_recv (fs := []) (k := 7) (o := 0) x6 S rfl (by decide) F ⟨_, rfl⟩, fun U hU hW => ⟨rfl, by rw [hU], by rw [hU]; exact S.1, x6.warm hW⟩⟩ rfl hn hls hst (lv_room hW8) hdg hcs) S.2.1 (fun q _ h => z_Ain S q h) (z_Ain S) (fun q _ h => z_Ain S q h)
    (fun E ce q9 u t H1 locs1 ht hvm hp hb hz hk1 hS1 hce hcv hcl => kx hp ce q9 H1 locs1 (z_after S (by rw [← ht]; exact hb.2) hS1) (L_step (locs1 := locs1) (σ' := σq) C2 O hk1) hce hcv (by rw [← hb.1]; exact hcl))
    (fun r1 u t H1 locs1 ht hvm hr hB hz1 hk1 hS1 => by
      obtain ⟨h0, rfl⟩ := hr
      exact kk h0 H1 locs1 (z_after S (by rw [← ht]; exact hB) hS1) (L_step (locs1 := locs1) (σ' := σq) C2 O hk1))
theorem L_put {H1 : Heap} {i : Nat} (C : L_C p s m args meth c cc nL G ad cL ao ty hh) (S : z_S 0 G ad σ (L_A ad ao s.heap.size) s.heap H locs) (z : H1.size = H.size) (oq : ∀ q : Nat, q ≠ ao → H1[q]? = H[q]?) : z_S 0 G ad σ (L_A ad ao s.heap.size) s.heap H1 (locs ++ [⟨ao, i⟩]) :=
  ⟨⟨fun k o hk ho => va_at.kept (S.1.1 k o hk ho) (oq _ (C.2.2.2.1 k o hk ho)), S.1.2.1, S.1.2.2.1, by rw [z]; exact S.1.2.2.2.1, fun q hq => (oq q (fun h => absurd hq (Nat.not_lt.mpr (by rw [h]; exact C.2.2.2.2)))).trans (S.1.2.2.2.2 q hq)⟩, S.2.1.put z oq (Or.inr rfl), S.2.2⟩
theorem L_last {v0 x : Int64} (C : L_C p s m args meth c cc nL G ad cL ao .long hh) (S : z_S 0 G ad σ (L_A ad ao s.heap.size) s.heap H locs) (O : L_O cL ao (.inl v0) H) (hdg : decode cc pc = .ok (.lastore, 1))
    (kk : ∀ (H1 : Heap) (locs1 : List Loc), z_S 0 G ad σ (L_A ad ao s.heap.size) s.heap H1 locs1 → L_O cL ao (.inl x) H1 → W p l e R s m args below meth c H1 locs1 cells slots Q (F0 m (pc + 1) ls rest)) : W p l e R s m args below meth c H locs cells slots Q (F0 m pc ls (.long x :: .int 0 :: .ref ao :: rest)) := by
  have C2 := C
  obtain ⟨⟨x1, x2, x3, x4, x5, x6, x7, x8⟩, -, hA, -, -⟩ := C
  refine W.last x1 x2 O (hA 1 _) (fun q => by cases q) (by show ¬ ((0 : Int32) < 0 ∨ (arrV _ _ _).slots.size ≤ _); rw [arrV_size]; show ¬ ((0 : Int32) < 0 ∨ 1 ≤ (0 : Int32).toNatClampNeg); decide) rfl rfl hdg fun H1 e z oq => ?_
  refine kk H1 _ (L_put C2 S z oq) ?_
  show H1[ao]? = some (vp_cell _ _)
  rw [e, vp_cell_l, vp_cell_l, arrV_store]
  refine congrArg some (L_ext fun i hi => ?_)
  have h0 : i = 0 := by omega
  subst h0
  unfold updV
  rw [if_pos (by decide)]
theorem L_dast {v0 x : UInt64} (C : L_C p s m args meth c cc nL G ad cL ao .double hh) (S : z_S 0 G ad σ (L_A ad ao s.heap.size) s.heap H locs) (O : L_O cL ao (.inr v0) H) (hdg : decode cc pc = .ok (.dastore, 1))
    (kk : ∀ (H1 : Heap) (locs1 : List Loc), z_S 0 G ad σ (L_A ad ao s.heap.size) s.heap H1 locs1 → L_O cL ao (.inr x) H1 → W p l e R s m args below meth c H1 locs1 cells slots Q (F0 m (pc + 1) ls rest)) : W p l e R s m args below meth c H locs cells slots Q (F0 m pc ls (.double x :: .int 0 :: .ref ao :: rest)) := by
  have C2 := C
  obtain ⟨⟨x1, x2, x3, x4, x5, x6, x7, x8⟩, -, hA, -, -⟩ := C
  refine W.dast x1 x2 O (hA 1 _) (fun q => by cases q) (by show ¬ ((0 : Int32) < 0 ∨ (arrV _ _ _).slots.size ≤ _); rw [arrV_size]; show ¬ ((0 : Int32) < 0 ∨ 1 ≤ (0 : Int32).toNatClampNeg); decide) rfl rfl hdg fun H1 e z oq => ?_
  refine kk H1 _ (L_put C2 S z oq) ?_
  show H1[ao]? = some (vp_cell _ _)
  rw [e, vp_cell_d, vp_cell_d, arrV_store]
  refine congrArg some (L_ext fun i hi => ?_)
  have h0 : i = 0 := by omega
  subst h0
  unfold updV
  rw [if_pos (by decide)]
theorem L_cast {X : String} (C : L_C p s m args meth c cc nL G ad cL ao ty hh) (hm : Cond.castable X X ∈ z_nest) : (Cond.castable X X).before args s = true := va_Nw.use rfl (C.1.2.2.2.2.2.1.2.2.2.2.1 _ hm)
theorem L_nc {X Y : String} (C : L_C p s m args meth c cc nL G ad cL ao ty hh) (hm : (X, Y) ∈ z_ncs) : va_Nc X Y s := C.1.2.2.2.2.2.1.2.2.2.2.2.2.2.2.2 (X, Y) hm
theorem L_ret {k : Int32} {XC : String → State → State → Prop} (C : L_C p s m args meth c cc nL G ad cL ao ty hh) (S : z_S 0 G ad σ (L_A ad ao s.heap.size) s.heap H locs) (O : L_O cL ao v H) (hc : cells ≤ mc) (hs : slots ≤ ms) (hdg : decode cc pc = .ok (.ireturn, 1)) :
    W p l e R s m args below meth c H locs cells slots (vx_MQ below (va_Qi (S := Unit) (fun r1 _ => r1 = k) (fun _ t => z_W 0 G ad σ t.heap ∧ L_O cL ao v t.heap) (L_A ad ao s.heap.size)) XC args s mc ms (L_A ad ao s.heap.size)) (F0 m pc ls [.int k]) := by
  obtain ⟨⟨x1, x2, x3, x4, x5, x6, x7, x8⟩, -, -, -, -⟩ := C
  exact vx_ret (W.widen hc hs (W.iret x1 x2 x8 (fun t ht hW => ⟨⟨_, (), rfl, rfl, by show z_W 0 G ad σ t.heap ∧ L_O cL ao v t.heap; rw [ht]; exact ⟨S.1, O⟩⟩, S.2.1.F ht⟩) S.2.1.2.2 hdg x7))
end LR

theorem dL_count_0 : decode cL_count 0 = .ok (.aload_n 2, 1) := by decide +kernel
theorem dL_count_1 : decode cL_count 1 = .ok (.iconst 0, 1) := by decide +kernel
theorem dL_count_2 : decode cL_count 2 = .ok (.aload_n 0, 1) := by decide +kernel
theorem dL_count_3 : decode cL_count 3 = .ok (.iload_n 1, 1) := by decide +kernel
theorem dL_count_4 : decode cL_count 4 = .ok (.invokevirtual 7, 3) := by decide +kernel
theorem dL_count_7 : decode cL_count 7 = .ok (.i2l, 1) := by decide +kernel
theorem dL_count_8 : decode cL_count 8 = .ok (.lastore, 1) := by decide +kernel
theorem dL_count_9 : decode cL_count 9 = .ok (.goto 6, 3) := by decide +kernel
theorem dL_count_12 : decode cL_count 12 = .ok (.astore_n 3, 1) := by decide +kernel
theorem dL_count_13 : decode cL_count 13 = .ok (.iconst 1, 1) := by decide +kernel
theorem dL_count_14 : decode cL_count 14 = .ok (.ireturn, 1) := by decide +kernel
theorem dL_count_15 : decode cL_count 15 = .ok (.iconst 0, 1) := by decide +kernel
theorem dL_count_16 : decode cL_count 16 = .ok (.ireturn, 1) := by decide +kernel
set_option maxHeartbeats 4000000 in
set_option maxRecDepth 100000 in
theorem m_L_count (l : Launch) (hst : l.stackTraces = false) (G : Gx) (ad : Ad) (σ : Sg) (v1 : Int32) (q : Xr) (hf : f_X7_count σ v1 = some q) (hq : q.1 = 0 ∨ q.1 = 2) (cL : ClassId) (ao : Nat) (v0 : Int64) (sz : Nat) : L_M l yL_count cL_count 4 [(0, 9, 12, 13)] 8 133 1 6 G ad σ sz [.ref (ad 7 0), .int v1, .ref ao] cL ao (.inl v0) (L_k [(2, 1)] q.1) (if q.1 = 0 then .inl q.2.1.toInt64 else .inl v0) q.2.2 := by
  refine L_begin (by decide +kernel) rfl (Nat.le_of_ble_eq_true rfl) [(0, .ref (ad 7 0)), (1, .int v1), (2, .ref ao)] rfl (fun p e s m args below meth c ls C hz S O hl => ?_)
  subst hz
  obtain ⟨cq, rq, σq⟩ := q
  dsimp only at hq ⊢
  refine lv_aload_n C.1.1 C.1.2.1 dL_count_0 rfl (lv_at hl 2 rfl) ?_
  refine lv_iconst (v := 0) C.1.1 C.1.2.1 dL_count_1 (by decide) ?_
  refine lv_aload_n C.1.1 C.1.2.1 dL_count_2 rfl (lv_at hl 0 rfl) ?_
  refine lv_iload_n C.1.1 C.1.2.1 dL_count_3 rfl (lv_at hl 1 rfl) ?_
  refine L_callI C S O [.int v1] rfl (m_X7_count l hst G ad σ v1 (cq, rq, σq) hf _) kv_X7_count tw_3_212 ⟨(Nat.le_of_ble_eq_true rfl), (Nat.le_of_ble_eq_true rfl)⟩ rfl rfl (Nat.le_of_ble_eq_true rfl) hl.1 ⟨(Nat.le_of_ble_eq_true rfl), (Nat.le_of_ble_eq_true rfl)⟩ dL_count_4 (fun h0 ce q9 H locs S O hce hcv hcl => ?_) (fun h0 H locs S O => ?_)
  · rcases hq with rfl | rfl
    · exact absurd rfl h0
    · refine vx_catch (name := "java/lang/IllegalArgumentException") C.1.2.2.2.1 [] ⟨0, 9, 12, 13⟩ [] (by rw [C.2.1]; rfl) (fun z hz => nomatch hz) rfl (by decide) (C.1.2.2.2.2.1 _ tw_3_211) (L_cast C (List.mem_of_getElem? (i := 9) rfl)) hce hcv hcl ?_
      show W _ _ _ _ _ _ _ _ _ _ _ _ _ _ _ (F0 m 12 ls [.ref q9])
      refine lv_astore_n (lv' := [(3, .ref q9), (0, .ref (ad 7 0)), (1, .int v1), (2, .ref ao)]) C.1.1 C.1.2.1 dL_count_12 rfl hl (by decide) rfl (fun ls hl => ?_)
      refine lv_iconst (v := 1) C.1.1 C.1.2.1 dL_count_13 (by decide) ?_
      exact L_ret (k := 1) C S O (Nat.le_of_ble_eq_true rfl) (Nat.le_of_ble_eq_true rfl) dL_count_14
  · subst h0
    refine lv_i2l C.1.1 C.1.2.1 dL_count_7 rfl ?_
    refine L_last C S O dL_count_8 (fun H locs S O => ?_)
    refine lv_goto (tgt := 15) C.1.1 C.1.2.1 dL_count_9 (by decide) ?_
    refine lv_iconst (v := 0) C.1.1 C.1.2.1 dL_count_15 (by decide) ?_
    exact L_ret (k := 0) C S O (Nat.le_of_ble_eq_true rfl) (Nat.le_of_ble_eq_true rfl) dL_count_16
theorem dL_car_0 : decode cL_car 0 = .ok (.aload_n 3, 1) := by decide +kernel
theorem dL_car_1 : decode cL_car 1 = .ok (.iconst 0, 1) := by decide +kernel
theorem dL_car_2 : decode cL_car 2 = .ok (.aload_n 0, 1) := by decide +kernel
theorem dL_car_3 : decode cL_car 3 = .ok (.iload_n 1, 1) := by decide +kernel
theorem dL_car_4 : decode cL_car 4 = .ok (.iload_n 2, 1) := by decide +kernel
theorem dL_car_5 : decode cL_car 5 = .ok (.invokevirtual 15, 3) := by decide +kernel
theorem dL_car_8 : decode cL_car 8 = .ok (.i2l, 1) := by decide +kernel
theorem dL_car_9 : decode cL_car 9 = .ok (.lastore, 1) := by decide +kernel
theorem dL_car_10 : decode cL_car 10 = .ok (.goto 11, 3) := by decide +kernel
theorem dL_car_13 : decode cL_car 13 = .ok (.astore 4, 2) := by decide +kernel
theorem dL_car_15 : decode cL_car 15 = .ok (.iconst 1, 1) := by decide +kernel
theorem dL_car_16 : decode cL_car 16 = .ok (.ireturn, 1) := by decide +kernel
theorem dL_car_17 : decode cL_car 17 = .ok (.astore 4, 2) := by decide +kernel
theorem dL_car_19 : decode cL_car 19 = .ok (.iconst 2, 1) := by decide +kernel
theorem dL_car_20 : decode cL_car 20 = .ok (.ireturn, 1) := by decide +kernel
theorem dL_car_21 : decode cL_car 21 = .ok (.iconst 0, 1) := by decide +kernel
theorem dL_car_22 : decode cL_car 22 = .ok (.ireturn, 1) := by decide +kernel
set_option maxHeartbeats 4000000 in
set_option maxRecDepth 100000 in
theorem m_L_car (l : Launch) (hst : l.stackTraces = false) (G : Gx) (ad : Ad) (σ : Sg) (v1 : Int32) (v2 : Int32) (q : Xr) (hf : f_X7_car σ v1 v2 = some q) (hq : q.1 = 0 ∨ q.1 = 1 ∨ q.1 = 2) (cL : ClassId) (ao : Nat) (v0 : Int64) (sz : Nat) : L_M l yL_car cL_car 5 [(0, 10, 13, 19), (0, 10, 17, 13)] 8 135 2 12 G ad σ sz [.ref (ad 7 0), .int v1, .int v2, .ref ao] cL ao (.inl v0) (L_k [(1, 1), (2, 2)] q.1) (if q.1 = 0 then .inl q.2.1.toInt64 else .inl v0) q.2.2 := by
  refine L_begin (by decide +kernel) rfl (Nat.le_of_ble_eq_true rfl) [(0, .ref (ad 7 0)), (1, .int v1), (2, .int v2), (3, .ref ao)] rfl (fun p e s m args below meth c ls C hz S O hl => ?_)
  subst hz
  obtain ⟨cq, rq, σq⟩ := q
  dsimp only at hq ⊢
  refine lv_aload_n C.1.1 C.1.2.1 dL_car_0 rfl (lv_at hl 3 rfl) ?_
  refine lv_iconst (v := 0) C.1.1 C.1.2.1 dL_car_1 (by decide) ?_
  refine lv_aload_n C.1.1 C.1.2.1 dL_car_2 rfl (lv_at hl 0 rfl) ?_
  refine lv_iload_n C.1.1 C.1.2.1 dL_car_3 rfl (lv_at hl 1 rfl) ?_
  refine lv_iload_n C.1.1 C.1.2.1 dL_car_4 rfl (lv_at hl 2 rfl) ?_
  refine L_callI C S O [.int v1, .int v2] rfl (m_X7_car l hst G ad σ v1 v2 (cq, rq, σq) hf _) kv_X7_car tw_4_51 ⟨(Nat.le_of_ble_eq_true rfl), (Nat.le_of_ble_eq_true rfl)⟩ rfl rfl (Nat.le_of_ble_eq_true rfl) hl.1 ⟨(Nat.le_of_ble_eq_true rfl), (Nat.le_of_ble_eq_true rfl)⟩ dL_car_5 (fun h0 ce q9 H locs S O hce hcv hcl => ?_) (fun h0 H locs S O => ?_)
  · rcases hq with rfl | rfl | rfl
    · exact absurd rfl h0
    · refine vx_catch (name := "java/lang/IndexOutOfBoundsException") C.1.2.2.2.1 [] ⟨0, 10, 13, 19⟩ [⟨0, 10, 17, 13⟩] (by rw [C.2.1]; rfl) (fun z hz => nomatch hz) rfl (by decide) (C.1.2.2.2.2.1 _ tw_4_50) (L_cast C (List.mem_of_getElem? (i := 16) rfl)) hce hcv hcl ?_
      show W _ _ _ _ _ _ _ _ _ _ _ _ _ _ _ (F0 m 13 ls [.ref q9])
      refine lv_astore (lv' := [(4, .ref q9), (0, .ref (ad 7 0)), (1, .int v1), (2, .int v2), (3, .ref ao)]) C.1.1 C.1.2.1 dL_car_13 hl (by decide) rfl (fun ls hl => ?_)
      refine lv_iconst (v := 1) C.1.1 C.1.2.1 dL_car_15 (by decide) ?_
      exact L_ret (k := 1) C S O (Nat.le_of_ble_eq_true rfl) (Nat.le_of_ble_eq_true rfl) dL_car_16
    · refine vx_catch (name := "java/lang/IllegalArgumentException") C.1.2.2.2.1 [⟨0, 10, 13, 19⟩] ⟨0, 10, 17, 13⟩ [] (by rw [C.2.1]; rfl) (fun z hz => by
      rcases List.mem_cons.mp hz with rfl | hz
      · exact Or.inr ⟨by decide, "java/lang/IndexOutOfBoundsException", C.1.2.2.2.2.1 _ tw_4_50, L_nc C (List.mem_of_getElem? (i := 0) rfl)⟩
      · exact nomatch hz) rfl (by decide) (C.1.2.2.2.2.1 _ tw_3_211) (L_cast C (List.mem_of_getElem? (i := 9) rfl)) hce hcv hcl ?_
      show W _ _ _ _ _ _ _ _ _ _ _ _ _ _ _ (F0 m 17 ls [.ref q9])
      refine lv_astore (lv' := [(4, .ref q9), (0, .ref (ad 7 0)), (1, .int v1), (2, .int v2), (3, .ref ao)]) C.1.1 C.1.2.1 dL_car_17 hl (by decide) rfl (fun ls hl => ?_)
      refine lv_iconst (v := 2) C.1.1 C.1.2.1 dL_car_19 (by decide) ?_
      exact L_ret (k := 2) C S O (Nat.le_of_ble_eq_true rfl) (Nat.le_of_ble_eq_true rfl) dL_car_20
  · subst h0
    refine lv_i2l C.1.1 C.1.2.1 dL_car_8 rfl ?_
    refine L_last C S O dL_car_9 (fun H locs S O => ?_)
    refine lv_goto (tgt := 21) C.1.1 C.1.2.1 dL_car_10 (by decide) ?_
    refine lv_iconst (v := 0) C.1.1 C.1.2.1 dL_car_21 (by decide) ?_
    exact L_ret (k := 0) C S O (Nat.le_of_ble_eq_true rfl) (Nat.le_of_ble_eq_true rfl) dL_car_22
theorem dL_call_0 : decode cL_call 0 = .ok (.aload_n 3, 1) := by decide +kernel
theorem dL_call_1 : decode cL_call 1 = .ok (.iconst 0, 1) := by decide +kernel
theorem dL_call_2 : decode cL_call 2 = .ok (.aload_n 0, 1) := by decide +kernel
theorem dL_call_3 : decode cL_call 3 = .ok (.iload_n 1, 1) := by decide +kernel
theorem dL_call_4 : decode cL_call 4 = .ok (.iload_n 2, 1) := by decide +kernel
theorem dL_call_5 : decode cL_call 5 = .ok (.invokevirtual 21, 3) := by decide +kernel
theorem dL_call_8 : decode cL_call 8 = .ok (.i2l, 1) := by decide +kernel
theorem dL_call_9 : decode cL_call 9 = .ok (.lastore, 1) := by decide +kernel
theorem dL_call_10 : decode cL_call 10 = .ok (.goto 11, 3) := by decide +kernel
theorem dL_call_13 : decode cL_call 13 = .ok (.astore 4, 2) := by decide +kernel
theorem dL_call_15 : decode cL_call 15 = .ok (.iconst 1, 1) := by decide +kernel
theorem dL_call_16 : decode cL_call 16 = .ok (.ireturn, 1) := by decide +kernel
theorem dL_call_17 : decode cL_call 17 = .ok (.astore 4, 2) := by decide +kernel
theorem dL_call_19 : decode cL_call 19 = .ok (.iconst 2, 1) := by decide +kernel
theorem dL_call_20 : decode cL_call 20 = .ok (.ireturn, 1) := by decide +kernel
theorem dL_call_21 : decode cL_call 21 = .ok (.iconst 0, 1) := by decide +kernel
theorem dL_call_22 : decode cL_call 22 = .ok (.ireturn, 1) := by decide +kernel
set_option maxHeartbeats 4000000 in
set_option maxRecDepth 100000 in
theorem m_L_call (l : Launch) (hst : l.stackTraces = false) (G : Gx) (ad : Ad) (σ : Sg) (v1 : Int32) (v2 : Int32) (q : Xr) (hf : f_X7_call σ v1 v2 = some q) (hq : q.1 = 0 ∨ q.1 = 1 ∨ q.1 = 2) (cL : ClassId) (ao : Nat) (v0 : Int64) (sz : Nat) : L_M l yL_call cL_call 5 [(0, 10, 13, 19), (0, 10, 17, 13)] 8 135 2 12 G ad σ sz [.ref (ad 7 0), .int v1, .int v2, .ref ao] cL ao (.inl v0) (L_k [(1, 1), (2, 2)] q.1) (if q.1 = 0 then .inl q.2.1.toInt64 else .inl v0) q.2.2 := by
  refine L_begin (by decide +kernel) rfl (Nat.le_of_ble_eq_true rfl) [(0, .ref (ad 7 0)), (1, .int v1), (2, .int v2), (3, .ref ao)] rfl (fun p e s m args below meth c ls C hz S O hl => ?_)
  subst hz
  obtain ⟨cq, rq, σq⟩ := q
  dsimp only at hq ⊢
  refine lv_aload_n C.1.1 C.1.2.1 dL_call_0 rfl (lv_at hl 3 rfl) ?_
  refine lv_iconst (v := 0) C.1.1 C.1.2.1 dL_call_1 (by decide) ?_
  refine lv_aload_n C.1.1 C.1.2.1 dL_call_2 rfl (lv_at hl 0 rfl) ?_
  refine lv_iload_n C.1.1 C.1.2.1 dL_call_3 rfl (lv_at hl 1 rfl) ?_
  refine lv_iload_n C.1.1 C.1.2.1 dL_call_4 rfl (lv_at hl 2 rfl) ?_
  refine L_callI C S O [.int v1, .int v2] rfl (m_X7_call l hst G ad σ v1 v2 (cq, rq, σq) hf _) kv_X7_call tw_4_84 ⟨(Nat.le_of_ble_eq_true rfl), (Nat.le_of_ble_eq_true rfl)⟩ rfl rfl (Nat.le_of_ble_eq_true rfl) hl.1 ⟨(Nat.le_of_ble_eq_true rfl), (Nat.le_of_ble_eq_true rfl)⟩ dL_call_5 (fun h0 ce q9 H locs S O hce hcv hcl => ?_) (fun h0 H locs S O => ?_)
  · rcases hq with rfl | rfl | rfl
    · exact absurd rfl h0
    · refine vx_catch (name := "java/lang/IndexOutOfBoundsException") C.1.2.2.2.1 [] ⟨0, 10, 13, 19⟩ [⟨0, 10, 17, 13⟩] (by rw [C.2.1]; rfl) (fun z hz => nomatch hz) rfl (by decide) (C.1.2.2.2.2.1 _ tw_4_50) (L_cast C (List.mem_of_getElem? (i := 16) rfl)) hce hcv hcl ?_
      show W _ _ _ _ _ _ _ _ _ _ _ _ _ _ _ (F0 m 13 ls [.ref q9])
      refine lv_astore (lv' := [(4, .ref q9), (0, .ref (ad 7 0)), (1, .int v1), (2, .int v2), (3, .ref ao)]) C.1.1 C.1.2.1 dL_call_13 hl (by decide) rfl (fun ls hl => ?_)
      refine lv_iconst (v := 1) C.1.1 C.1.2.1 dL_call_15 (by decide) ?_
      exact L_ret (k := 1) C S O (Nat.le_of_ble_eq_true rfl) (Nat.le_of_ble_eq_true rfl) dL_call_16
    · refine vx_catch (name := "java/lang/IllegalArgumentException") C.1.2.2.2.1 [⟨0, 10, 13, 19⟩] ⟨0, 10, 17, 13⟩ [] (by rw [C.2.1]; rfl) (fun z hz => by
      rcases List.mem_cons.mp hz with rfl | hz
      · exact Or.inr ⟨by decide, "java/lang/IndexOutOfBoundsException", C.1.2.2.2.2.1 _ tw_4_50, L_nc C (List.mem_of_getElem? (i := 0) rfl)⟩
      · exact nomatch hz) rfl (by decide) (C.1.2.2.2.2.1 _ tw_3_211) (L_cast C (List.mem_of_getElem? (i := 9) rfl)) hce hcv hcl ?_
      show W _ _ _ _ _ _ _ _ _ _ _ _ _ _ _ (F0 m 17 ls [.ref q9])
      refine lv_astore (lv' := [(4, .ref q9), (0, .ref (ad 7 0)), (1, .int v1), (2, .int v2), (3, .ref ao)]) C.1.1 C.1.2.1 dL_call_17 hl (by decide) rfl (fun ls hl => ?_)
      refine lv_iconst (v := 2) C.1.1 C.1.2.1 dL_call_19 (by decide) ?_
      exact L_ret (k := 2) C S O (Nat.le_of_ble_eq_true rfl) (Nat.le_of_ble_eq_true rfl) dL_call_20
  · subst h0
    refine lv_i2l C.1.1 C.1.2.1 dL_call_8 rfl ?_
    refine L_last C S O dL_call_9 (fun H locs S O => ?_)
    refine lv_goto (tgt := 21) C.1.1 C.1.2.1 dL_call_10 (by decide) ?_
    refine lv_iconst (v := 0) C.1.1 C.1.2.1 dL_call_21 (by decide) ?_
    exact L_ret (k := 0) C S O (Nat.le_of_ble_eq_true rfl) (Nat.le_of_ble_eq_true rfl) dL_call_22
theorem dL_waitOf_0 : decode cL_waitOf 0 = .ok (.aload_n 2, 1) := by decide +kernel
theorem dL_waitOf_1 : decode cL_waitOf 1 = .ok (.iconst 0, 1) := by decide +kernel
theorem dL_waitOf_2 : decode cL_waitOf 2 = .ok (.aload_n 0, 1) := by decide +kernel
theorem dL_waitOf_3 : decode cL_waitOf 3 = .ok (.iload_n 1, 1) := by decide +kernel
theorem dL_waitOf_4 : decode cL_waitOf 4 = .ok (.invokevirtual 24, 3) := by decide +kernel
theorem dL_waitOf_7 : decode cL_waitOf 7 = .ok (.i2l, 1) := by decide +kernel
theorem dL_waitOf_8 : decode cL_waitOf 8 = .ok (.lastore, 1) := by decide +kernel
theorem dL_waitOf_9 : decode cL_waitOf 9 = .ok (.goto 6, 3) := by decide +kernel
theorem dL_waitOf_12 : decode cL_waitOf 12 = .ok (.astore_n 3, 1) := by decide +kernel
theorem dL_waitOf_13 : decode cL_waitOf 13 = .ok (.iconst 1, 1) := by decide +kernel
theorem dL_waitOf_14 : decode cL_waitOf 14 = .ok (.ireturn, 1) := by decide +kernel
theorem dL_waitOf_15 : decode cL_waitOf 15 = .ok (.iconst 0, 1) := by decide +kernel
theorem dL_waitOf_16 : decode cL_waitOf 16 = .ok (.ireturn, 1) := by decide +kernel
set_option maxHeartbeats 4000000 in
set_option maxRecDepth 100000 in
theorem m_L_waitOf (l : Launch) (hst : l.stackTraces = false) (G : Gx) (ad : Ad) (σ : Sg) (v1 : Int32) (q : Xr) (hf : f_X7_waitOf σ v1 = some q) (hq : q.1 = 0 ∨ q.1 = 1) (cL : ClassId) (ao : Nat) (v0 : Int64) (sz : Nat) : L_M l yL_waitOf cL_waitOf 4 [(0, 9, 12, 19)] 8 132 1 6 G ad σ sz [.ref (ad 7 0), .int v1, .ref ao] cL ao (.inl v0) (L_k [(1, 1)] q.1) (if q.1 = 0 then .inl q.2.1.toInt64 else .inl v0) q.2.2 := by
  refine L_begin (by decide +kernel) rfl (Nat.le_of_ble_eq_true rfl) [(0, .ref (ad 7 0)), (1, .int v1), (2, .ref ao)] rfl (fun p e s m args below meth c ls C hz S O hl => ?_)
  subst hz
  obtain ⟨cq, rq, σq⟩ := q
  dsimp only at hq ⊢
  refine lv_aload_n C.1.1 C.1.2.1 dL_waitOf_0 rfl (lv_at hl 2 rfl) ?_
  refine lv_iconst (v := 0) C.1.1 C.1.2.1 dL_waitOf_1 (by decide) ?_
  refine lv_aload_n C.1.1 C.1.2.1 dL_waitOf_2 rfl (lv_at hl 0 rfl) ?_
  refine lv_iload_n C.1.1 C.1.2.1 dL_waitOf_3 rfl (lv_at hl 1 rfl) ?_
  refine L_callI C S O [.int v1] rfl (m_X7_waitOf l hst G ad σ v1 (cq, rq, σq) hf _) kv_X7_waitOf tw_4_96 ⟨(Nat.le_of_ble_eq_true rfl), (Nat.le_of_ble_eq_true rfl)⟩ rfl rfl (Nat.le_of_ble_eq_true rfl) hl.1 ⟨(Nat.le_of_ble_eq_true rfl), (Nat.le_of_ble_eq_true rfl)⟩ dL_waitOf_4 (fun h0 ce q9 H locs S O hce hcv hcl => ?_) (fun h0 H locs S O => ?_)
  · rcases hq with rfl | rfl
    · exact absurd rfl h0
    · refine vx_catch (name := "java/lang/IndexOutOfBoundsException") C.1.2.2.2.1 [] ⟨0, 9, 12, 19⟩ [] (by rw [C.2.1]; rfl) (fun z hz => nomatch hz) rfl (by decide) (C.1.2.2.2.2.1 _ tw_4_50) (L_cast C (List.mem_of_getElem? (i := 16) rfl)) hce hcv hcl ?_
      show W _ _ _ _ _ _ _ _ _ _ _ _ _ _ _ (F0 m 12 ls [.ref q9])
      refine lv_astore_n (lv' := [(3, .ref q9), (0, .ref (ad 7 0)), (1, .int v1), (2, .ref ao)]) C.1.1 C.1.2.1 dL_waitOf_12 rfl hl (by decide) rfl (fun ls hl => ?_)
      refine lv_iconst (v := 1) C.1.1 C.1.2.1 dL_waitOf_13 (by decide) ?_
      exact L_ret (k := 1) C S O (Nat.le_of_ble_eq_true rfl) (Nat.le_of_ble_eq_true rfl) dL_waitOf_14
  · subst h0
    refine lv_i2l C.1.1 C.1.2.1 dL_waitOf_7 rfl ?_
    refine L_last C S O dL_waitOf_8 (fun H locs S O => ?_)
    refine lv_goto (tgt := 15) C.1.1 C.1.2.1 dL_waitOf_9 (by decide) ?_
    refine lv_iconst (v := 0) C.1.1 C.1.2.1 dL_waitOf_15 (by decide) ?_
    exact L_ret (k := 0) C S O (Nat.le_of_ble_eq_true rfl) (Nat.le_of_ble_eq_true rfl) dL_waitOf_16
theorem dL_holds_0 : decode cL_holds 0 = .ok (.aload_n 3, 1) := by decide +kernel
theorem dL_holds_1 : decode cL_holds 1 = .ok (.iconst 0, 1) := by decide +kernel
theorem dL_holds_2 : decode cL_holds 2 = .ok (.aload_n 0, 1) := by decide +kernel
theorem dL_holds_3 : decode cL_holds 3 = .ok (.iload_n 1, 1) := by decide +kernel
theorem dL_holds_4 : decode cL_holds 4 = .ok (.iload_n 2, 1) := by decide +kernel
theorem dL_holds_5 : decode cL_holds 5 = .ok (.invokevirtual 27, 3) := by decide +kernel
theorem dL_holds_8 : decode cL_holds 8 = .ok (.ifCond .eq 7, 3) := by decide +kernel
theorem dL_holds_11 : decode cL_holds 11 = .ok (.lconst 1, 1) := by decide +kernel
theorem dL_holds_12 : decode cL_holds 12 = .ok (.goto 4, 3) := by decide +kernel
theorem dL_holds_15 : decode cL_holds 15 = .ok (.lconst 0, 1) := by decide +kernel
theorem dL_holds_16 : decode cL_holds 16 = .ok (.lastore, 1) := by decide +kernel
theorem dL_holds_17 : decode cL_holds 17 = .ok (.goto 7, 3) := by decide +kernel
theorem dL_holds_20 : decode cL_holds 20 = .ok (.astore 4, 2) := by decide +kernel
theorem dL_holds_22 : decode cL_holds 22 = .ok (.iconst 1, 1) := by decide +kernel
theorem dL_holds_23 : decode cL_holds 23 = .ok (.ireturn, 1) := by decide +kernel
theorem dL_holds_24 : decode cL_holds 24 = .ok (.iconst 0, 1) := by decide +kernel
theorem dL_holds_25 : decode cL_holds 25 = .ok (.ireturn, 1) := by decide +kernel
set_option maxHeartbeats 4000000 in
set_option maxRecDepth 100000 in
theorem m_L_holds (l : Launch) (hst : l.stackTraces = false) (G : Gx) (ad : Ad) (σ : Sg) (v1 : Int32) (v2 : Int32) (q : Xr) (hf : f_X7_holds σ v1 v2 = some q) (hq : q.1 = 0 ∨ q.1 = 1) (cL : ClassId) (ao : Nat) (v0 : Int64) (sz : Nat) : L_M l yL_holds cL_holds 5 [(0, 17, 20, 19)] 8 133 2 12 G ad σ sz [.ref (ad 7 0), .int v1, .int v2, .ref ao] cL ao (.inl v0) (L_k [(1, 1)] q.1) (if q.1 = 0 then .inl (if q.2.1 = 0 then 0 else 1) else .inl v0) q.2.2 := by
  refine L_begin (by decide +kernel) rfl (Nat.le_of_ble_eq_true rfl) [(0, .ref (ad 7 0)), (1, .int v1), (2, .int v2), (3, .ref ao)] rfl (fun p e s m args below meth c ls C hz S O hl => ?_)
  subst hz
  obtain ⟨cq, rq, σq⟩ := q
  dsimp only at hq ⊢
  refine lv_aload_n C.1.1 C.1.2.1 dL_holds_0 rfl (lv_at hl 3 rfl) ?_
  refine lv_iconst (v := 0) C.1.1 C.1.2.1 dL_holds_1 (by decide) ?_
  refine lv_aload_n C.1.1 C.1.2.1 dL_holds_2 rfl (lv_at hl 0 rfl) ?_
  refine lv_iload_n C.1.1 C.1.2.1 dL_holds_3 rfl (lv_at hl 1 rfl) ?_
  refine lv_iload_n C.1.1 C.1.2.1 dL_holds_4 rfl (lv_at hl 2 rfl) ?_
  refine L_callI C S O [.int v1, .int v2] rfl (m_X7_holds l hst G ad σ v1 v2 (cq, rq, σq) hf _) kv_X7_holds tw_4_103 ⟨(Nat.le_of_ble_eq_true rfl), (Nat.le_of_ble_eq_true rfl)⟩ rfl rfl (Nat.le_of_ble_eq_true rfl) hl.1 ⟨(Nat.le_of_ble_eq_true rfl), (Nat.le_of_ble_eq_true rfl)⟩ dL_holds_5 (fun h0 ce q9 H locs S O hce hcv hcl => ?_) (fun h0 H locs S O => ?_)
  · rcases hq with rfl | rfl
    · exact absurd rfl h0
    · refine vx_catch (name := "java/lang/IndexOutOfBoundsException") C.1.2.2.2.1 [] ⟨0, 17, 20, 19⟩ [] (by rw [C.2.1]; rfl) (fun z hz => nomatch hz) rfl (by decide) (C.1.2.2.2.2.1 _ tw_4_50) (L_cast C (List.mem_of_getElem? (i := 16) rfl)) hce hcv hcl ?_
      show W _ _ _ _ _ _ _ _ _ _ _ _ _ _ _ (F0 m 20 ls [.ref q9])
      refine lv_astore (lv' := [(4, .ref q9), (0, .ref (ad 7 0)), (1, .int v1), (2, .int v2), (3, .ref ao)]) C.1.1 C.1.2.1 dL_holds_20 hl (by decide) rfl (fun ls hl => ?_)
      refine lv_iconst (v := 1) C.1.1 C.1.2.1 dL_holds_22 (by decide) ?_
      exact L_ret (k := 1) C S O (Nat.le_of_ble_eq_true rfl) (Nat.le_of_ble_eq_true rfl) dL_holds_23
  · subst h0
    refine lv_if_eq (tgt := 15) C.1.1 C.1.2.1 dL_holds_8 (by decide) (fun c9 => ?_) (fun c9 => ?_)
    · rw [show (if (0 : Nat) = 0 then (Sum.inl (if rq = 0 then 0 else 1) : Int64 ⊕ UInt64) else Sum.inl v0) = Sum.inl 0 by rw [if_pos rfl, if_pos c9]]
      refine lv_lconst (v := 0) C.1.1 C.1.2.1 dL_holds_15 rfl ?_
      refine L_last C S O dL_holds_16 (fun H locs S O => ?_)
      refine lv_goto (tgt := 24) C.1.1 C.1.2.1 dL_holds_17 (by decide) ?_
      refine lv_iconst (v := 0) C.1.1 C.1.2.1 dL_holds_24 (by decide) ?_
      exact L_ret (k := 0) C S O (Nat.le_of_ble_eq_true rfl) (Nat.le_of_ble_eq_true rfl) dL_holds_25
    · rw [show (if (0 : Nat) = 0 then (Sum.inl (if rq = 0 then 0 else 1) : Int64 ⊕ UInt64) else Sum.inl v0) = Sum.inl 1 by rw [if_pos rfl, if_neg c9]]
      refine lv_lconst (v := 1) C.1.1 C.1.2.1 dL_holds_11 rfl ?_
      refine lv_goto (tgt := 16) C.1.1 C.1.2.1 dL_holds_12 (by decide) ?_
      refine L_last C S O dL_holds_16 (fun H locs S O => ?_)
      refine lv_goto (tgt := 24) C.1.1 C.1.2.1 dL_holds_17 (by decide) ?_
      refine lv_iconst (v := 0) C.1.1 C.1.2.1 dL_holds_24 (by decide) ?_
      exact L_ret (k := 0) C S O (Nat.le_of_ble_eq_true rfl) (Nat.le_of_ble_eq_true rfl) dL_holds_25
theorem dL_ownCost_0 : decode cL_ownCost 0 = .ok (.aload_n 3, 1) := by decide +kernel
theorem dL_ownCost_1 : decode cL_ownCost 1 = .ok (.iconst 0, 1) := by decide +kernel
theorem dL_ownCost_2 : decode cL_ownCost 2 = .ok (.aload_n 0, 1) := by decide +kernel
theorem dL_ownCost_3 : decode cL_ownCost 3 = .ok (.iload_n 1, 1) := by decide +kernel
theorem dL_ownCost_4 : decode cL_ownCost 4 = .ok (.iload_n 2, 1) := by decide +kernel
theorem dL_ownCost_5 : decode cL_ownCost 5 = .ok (.invokevirtual 31, 3) := by decide +kernel
theorem dL_ownCost_8 : decode cL_ownCost 8 = .ok (.i2l, 1) := by decide +kernel
theorem dL_ownCost_9 : decode cL_ownCost 9 = .ok (.lastore, 1) := by decide +kernel
theorem dL_ownCost_10 : decode cL_ownCost 10 = .ok (.goto 7, 3) := by decide +kernel
theorem dL_ownCost_13 : decode cL_ownCost 13 = .ok (.astore 4, 2) := by decide +kernel
theorem dL_ownCost_15 : decode cL_ownCost 15 = .ok (.iconst 1, 1) := by decide +kernel
theorem dL_ownCost_16 : decode cL_ownCost 16 = .ok (.ireturn, 1) := by decide +kernel
theorem dL_ownCost_17 : decode cL_ownCost 17 = .ok (.iconst 0, 1) := by decide +kernel
theorem dL_ownCost_18 : decode cL_ownCost 18 = .ok (.ireturn, 1) := by decide +kernel
set_option maxHeartbeats 4000000 in
set_option maxRecDepth 100000 in
theorem m_L_ownCost (l : Launch) (hst : l.stackTraces = false) (G : Gx) (ad : Ad) (σ : Sg) (v1 : Int32) (v2 : Int32) (q : Xr) (hf : f_X7_ownCost σ v1 v2 = some q) (hq : q.1 = 0 ∨ q.1 = 1) (cL : ClassId) (ao : Nat) (v0 : Int64) (sz : Nat) : L_M l yL_ownCost cL_ownCost 5 [(0, 10, 13, 19)] 8 133 2 12 G ad σ sz [.ref (ad 7 0), .int v1, .int v2, .ref ao] cL ao (.inl v0) (L_k [(1, 1)] q.1) (if q.1 = 0 then .inl q.2.1.toInt64 else .inl v0) q.2.2 := by
  refine L_begin (by decide +kernel) rfl (Nat.le_of_ble_eq_true rfl) [(0, .ref (ad 7 0)), (1, .int v1), (2, .int v2), (3, .ref ao)] rfl (fun p e s m args below meth c ls C hz S O hl => ?_)
  subst hz
  obtain ⟨cq, rq, σq⟩ := q
  dsimp only at hq ⊢
  refine lv_aload_n C.1.1 C.1.2.1 dL_ownCost_0 rfl (lv_at hl 3 rfl) ?_
  refine lv_iconst (v := 0) C.1.1 C.1.2.1 dL_ownCost_1 (by decide) ?_
  refine lv_aload_n C.1.1 C.1.2.1 dL_ownCost_2 rfl (lv_at hl 0 rfl) ?_
  refine lv_iload_n C.1.1 C.1.2.1 dL_ownCost_3 rfl (lv_at hl 1 rfl) ?_
  refine lv_iload_n C.1.1 C.1.2.1 dL_ownCost_4 rfl (lv_at hl 2 rfl) ?_
  refine L_callI C S O [.int v1, .int v2] rfl (m_X7_ownCost l hst G ad σ v1 v2 (cq, rq, σq) hf _) kv_X7_ownCost tw_4_111 ⟨(Nat.le_of_ble_eq_true rfl), (Nat.le_of_ble_eq_true rfl)⟩ rfl rfl (Nat.le_of_ble_eq_true rfl) hl.1 ⟨(Nat.le_of_ble_eq_true rfl), (Nat.le_of_ble_eq_true rfl)⟩ dL_ownCost_5 (fun h0 ce q9 H locs S O hce hcv hcl => ?_) (fun h0 H locs S O => ?_)
  · rcases hq with rfl | rfl
    · exact absurd rfl h0
    · refine vx_catch (name := "java/lang/IndexOutOfBoundsException") C.1.2.2.2.1 [] ⟨0, 10, 13, 19⟩ [] (by rw [C.2.1]; rfl) (fun z hz => nomatch hz) rfl (by decide) (C.1.2.2.2.2.1 _ tw_4_50) (L_cast C (List.mem_of_getElem? (i := 16) rfl)) hce hcv hcl ?_
      show W _ _ _ _ _ _ _ _ _ _ _ _ _ _ _ (F0 m 13 ls [.ref q9])
      refine lv_astore (lv' := [(4, .ref q9), (0, .ref (ad 7 0)), (1, .int v1), (2, .int v2), (3, .ref ao)]) C.1.1 C.1.2.1 dL_ownCost_13 hl (by decide) rfl (fun ls hl => ?_)
      refine lv_iconst (v := 1) C.1.1 C.1.2.1 dL_ownCost_15 (by decide) ?_
      exact L_ret (k := 1) C S O (Nat.le_of_ble_eq_true rfl) (Nat.le_of_ble_eq_true rfl) dL_ownCost_16
  · subst h0
    refine lv_i2l C.1.1 C.1.2.1 dL_ownCost_8 rfl ?_
    refine L_last C S O dL_ownCost_9 (fun H locs S O => ?_)
    refine lv_goto (tgt := 17) C.1.1 C.1.2.1 dL_ownCost_10 (by decide) ?_
    refine lv_iconst (v := 0) C.1.1 C.1.2.1 dL_ownCost_17 (by decide) ?_
    exact L_ret (k := 0) C S O (Nat.le_of_ble_eq_true rfl) (Nat.le_of_ble_eq_true rfl) dL_ownCost_18
theorem dL_decides_0 : decode cL_decides 0 = .ok (.aload_n 3, 1) := by decide +kernel
theorem dL_decides_1 : decode cL_decides 1 = .ok (.iconst 0, 1) := by decide +kernel
theorem dL_decides_2 : decode cL_decides 2 = .ok (.aload_n 0, 1) := by decide +kernel
theorem dL_decides_3 : decode cL_decides 3 = .ok (.iload_n 1, 1) := by decide +kernel
theorem dL_decides_4 : decode cL_decides 4 = .ok (.iload_n 2, 1) := by decide +kernel
theorem dL_decides_5 : decode cL_decides 5 = .ok (.invokevirtual 34, 3) := by decide +kernel
theorem dL_decides_8 : decode cL_decides 8 = .ok (.i2l, 1) := by decide +kernel
theorem dL_decides_9 : decode cL_decides 9 = .ok (.lastore, 1) := by decide +kernel
theorem dL_decides_10 : decode cL_decides 10 = .ok (.goto 7, 3) := by decide +kernel
theorem dL_decides_13 : decode cL_decides 13 = .ok (.astore 4, 2) := by decide +kernel
theorem dL_decides_15 : decode cL_decides 15 = .ok (.iconst 1, 1) := by decide +kernel
theorem dL_decides_16 : decode cL_decides 16 = .ok (.ireturn, 1) := by decide +kernel
theorem dL_decides_17 : decode cL_decides 17 = .ok (.iconst 0, 1) := by decide +kernel
theorem dL_decides_18 : decode cL_decides 18 = .ok (.ireturn, 1) := by decide +kernel
set_option maxHeartbeats 4000000 in
set_option maxRecDepth 100000 in
theorem m_L_decides (l : Launch) (hst : l.stackTraces = false) (G : Gx) (ad : Ad) (σ : Sg) (v1 : Int32) (v2 : Int32) (q : Xr) (hf : f_X7_decides σ v1 v2 = some q) (hq : q.1 = 0 ∨ q.1 = 1) (cL : ClassId) (ao : Nat) (v0 : Int64) (sz : Nat) : L_M l yL_decides cL_decides 5 [(0, 10, 13, 19)] 8 133 2 12 G ad σ sz [.ref (ad 7 0), .int v1, .int v2, .ref ao] cL ao (.inl v0) (L_k [(1, 1)] q.1) (if q.1 = 0 then .inl q.2.1.toInt64 else .inl v0) q.2.2 := by
  refine L_begin (by decide +kernel) rfl (Nat.le_of_ble_eq_true rfl) [(0, .ref (ad 7 0)), (1, .int v1), (2, .int v2), (3, .ref ao)] rfl (fun p e s m args below meth c ls C hz S O hl => ?_)
  subst hz
  obtain ⟨cq, rq, σq⟩ := q
  dsimp only at hq ⊢
  refine lv_aload_n C.1.1 C.1.2.1 dL_decides_0 rfl (lv_at hl 3 rfl) ?_
  refine lv_iconst (v := 0) C.1.1 C.1.2.1 dL_decides_1 (by decide) ?_
  refine lv_aload_n C.1.1 C.1.2.1 dL_decides_2 rfl (lv_at hl 0 rfl) ?_
  refine lv_iload_n C.1.1 C.1.2.1 dL_decides_3 rfl (lv_at hl 1 rfl) ?_
  refine lv_iload_n C.1.1 C.1.2.1 dL_decides_4 rfl (lv_at hl 2 rfl) ?_
  refine L_callI C S O [.int v1, .int v2] rfl (m_X7_decides l hst G ad σ v1 v2 (cq, rq, σq) hf _) kv_X7_decides tw_4_123 ⟨(Nat.le_of_ble_eq_true rfl), (Nat.le_of_ble_eq_true rfl)⟩ rfl rfl (Nat.le_of_ble_eq_true rfl) hl.1 ⟨(Nat.le_of_ble_eq_true rfl), (Nat.le_of_ble_eq_true rfl)⟩ dL_decides_5 (fun h0 ce q9 H locs S O hce hcv hcl => ?_) (fun h0 H locs S O => ?_)
  · rcases hq with rfl | rfl
    · exact absurd rfl h0
    · refine vx_catch (name := "java/lang/IndexOutOfBoundsException") C.1.2.2.2.1 [] ⟨0, 10, 13, 19⟩ [] (by rw [C.2.1]; rfl) (fun z hz => nomatch hz) rfl (by decide) (C.1.2.2.2.2.1 _ tw_4_50) (L_cast C (List.mem_of_getElem? (i := 16) rfl)) hce hcv hcl ?_
      show W _ _ _ _ _ _ _ _ _ _ _ _ _ _ _ (F0 m 13 ls [.ref q9])
      refine lv_astore (lv' := [(4, .ref q9), (0, .ref (ad 7 0)), (1, .int v1), (2, .int v2), (3, .ref ao)]) C.1.1 C.1.2.1 dL_decides_13 hl (by decide) rfl (fun ls hl => ?_)
      refine lv_iconst (v := 1) C.1.1 C.1.2.1 dL_decides_15 (by decide) ?_
      exact L_ret (k := 1) C S O (Nat.le_of_ble_eq_true rfl) (Nat.le_of_ble_eq_true rfl) dL_decides_16
  · subst h0
    refine lv_i2l C.1.1 C.1.2.1 dL_decides_8 rfl ?_
    refine L_last C S O dL_decides_9 (fun H locs S O => ?_)
    refine lv_goto (tgt := 17) C.1.1 C.1.2.1 dL_decides_10 (by decide) ?_
    refine lv_iconst (v := 0) C.1.1 C.1.2.1 dL_decides_17 (by decide) ?_
    exact L_ret (k := 0) C S O (Nat.le_of_ble_eq_true rfl) (Nat.le_of_ble_eq_true rfl) dL_decides_18
theorem dL_noted_0 : decode cL_noted 0 = .ok (.aload 4, 2) := by decide +kernel
theorem dL_noted_2 : decode cL_noted 2 = .ok (.iconst 0, 1) := by decide +kernel
theorem dL_noted_3 : decode cL_noted 3 = .ok (.aload_n 0, 1) := by decide +kernel
theorem dL_noted_4 : decode cL_noted 4 = .ok (.iload_n 1, 1) := by decide +kernel
theorem dL_noted_5 : decode cL_noted 5 = .ok (.iload_n 2, 1) := by decide +kernel
theorem dL_noted_6 : decode cL_noted 6 = .ok (.iload_n 3, 1) := by decide +kernel
theorem dL_noted_7 : decode cL_noted 7 = .ok (.invokevirtual 37, 3) := by decide +kernel
theorem dL_noted_10 : decode cL_noted 10 = .ok (.i2l, 1) := by decide +kernel
theorem dL_noted_11 : decode cL_noted 11 = .ok (.lastore, 1) := by decide +kernel
theorem dL_noted_12 : decode cL_noted 12 = .ok (.goto 7, 3) := by decide +kernel
theorem dL_noted_15 : decode cL_noted 15 = .ok (.astore 5, 2) := by decide +kernel
theorem dL_noted_17 : decode cL_noted 17 = .ok (.iconst 1, 1) := by decide +kernel
theorem dL_noted_18 : decode cL_noted 18 = .ok (.ireturn, 1) := by decide +kernel
theorem dL_noted_19 : decode cL_noted 19 = .ok (.iconst 0, 1) := by decide +kernel
theorem dL_noted_20 : decode cL_noted 20 = .ok (.ireturn, 1) := by decide +kernel
set_option maxHeartbeats 4000000 in
set_option maxRecDepth 100000 in
theorem m_L_noted (l : Launch) (hst : l.stackTraces = false) (G : Gx) (ad : Ad) (σ : Sg) (v1 : Int32) (v2 : Int32) (v3 : Int32) (q : Xr) (hf : f_X7_noted σ v1 v2 v3 = some q) (hq : q.1 = 0 ∨ q.1 = 1) (cL : ClassId) (ao : Nat) (v0 : Int64) (sz : Nat) : L_M l yL_noted cL_noted 6 [(0, 12, 15, 19)] 8 134 3 18 G ad σ sz [.ref (ad 7 0), .int v1, .int v2, .int v3, .ref ao] cL ao (.inl v0) (L_k [(1, 1)] q.1) (if q.1 = 0 then .inl q.2.1.toInt64 else .inl v0) q.2.2 := by
  refine L_begin (by decide +kernel) rfl (Nat.le_of_ble_eq_true rfl) [(0, .ref (ad 7 0)), (1, .int v1), (2, .int v2), (3, .int v3), (4, .ref ao)] rfl (fun p e s m args below meth c ls C hz S O hl => ?_)
  subst hz
  obtain ⟨cq, rq, σq⟩ := q
  dsimp only at hq ⊢
  refine lv_aload C.1.1 C.1.2.1 dL_noted_0 (lv_at hl 4 rfl) ?_
  refine lv_iconst (v := 0) C.1.1 C.1.2.1 dL_noted_2 (by decide) ?_
  refine lv_aload_n C.1.1 C.1.2.1 dL_noted_3 rfl (lv_at hl 0 rfl) ?_
  refine lv_iload_n C.1.1 C.1.2.1 dL_noted_4 rfl (lv_at hl 1 rfl) ?_
  refine lv_iload_n C.1.1 C.1.2.1 dL_noted_5 rfl (lv_at hl 2 rfl) ?_
  refine lv_iload_n C.1.1 C.1.2.1 dL_noted_6 rfl (lv_at hl 3 rfl) ?_
  refine L_callI C S O [.int v1, .int v2, .int v3] rfl (m_X7_noted l hst G ad σ v1 v2 v3 (cq, rq, σq) hf _) kv_X7_noted tw_4_130 ⟨(Nat.le_of_ble_eq_true rfl), (Nat.le_of_ble_eq_true rfl)⟩ rfl rfl (Nat.le_of_ble_eq_true rfl) hl.1 ⟨(Nat.le_of_ble_eq_true rfl), (Nat.le_of_ble_eq_true rfl)⟩ dL_noted_7 (fun h0 ce q9 H locs S O hce hcv hcl => ?_) (fun h0 H locs S O => ?_)
  · rcases hq with rfl | rfl
    · exact absurd rfl h0
    · refine vx_catch (name := "java/lang/IndexOutOfBoundsException") C.1.2.2.2.1 [] ⟨0, 12, 15, 19⟩ [] (by rw [C.2.1]; rfl) (fun z hz => nomatch hz) rfl (by decide) (C.1.2.2.2.2.1 _ tw_4_50) (L_cast C (List.mem_of_getElem? (i := 16) rfl)) hce hcv hcl ?_
      show W _ _ _ _ _ _ _ _ _ _ _ _ _ _ _ (F0 m 15 ls [.ref q9])
      refine lv_astore (lv' := [(5, .ref q9), (0, .ref (ad 7 0)), (1, .int v1), (2, .int v2), (3, .int v3), (4, .ref ao)]) C.1.1 C.1.2.1 dL_noted_15 hl (by decide) rfl (fun ls hl => ?_)
      refine lv_iconst (v := 1) C.1.1 C.1.2.1 dL_noted_17 (by decide) ?_
      exact L_ret (k := 1) C S O (Nat.le_of_ble_eq_true rfl) (Nat.le_of_ble_eq_true rfl) dL_noted_18
  · subst h0
    refine lv_i2l C.1.1 C.1.2.1 dL_noted_10 rfl ?_
    refine L_last C S O dL_noted_11 (fun H locs S O => ?_)
    refine lv_goto (tgt := 19) C.1.1 C.1.2.1 dL_noted_12 (by decide) ?_
    refine lv_iconst (v := 0) C.1.1 C.1.2.1 dL_noted_19 (by decide) ?_
    exact L_ret (k := 0) C S O (Nat.le_of_ble_eq_true rfl) (Nat.le_of_ble_eq_true rfl) dL_noted_20
theorem dL_costNow_0 : decode cL_costNow 0 = .ok (.aload_n 3, 1) := by decide +kernel
theorem dL_costNow_1 : decode cL_costNow 1 = .ok (.iconst 0, 1) := by decide +kernel
theorem dL_costNow_2 : decode cL_costNow 2 = .ok (.aload_n 0, 1) := by decide +kernel
theorem dL_costNow_3 : decode cL_costNow 3 = .ok (.iload_n 1, 1) := by decide +kernel
theorem dL_costNow_4 : decode cL_costNow 4 = .ok (.iload_n 2, 1) := by decide +kernel
theorem dL_costNow_5 : decode cL_costNow 5 = .ok (.invokevirtual 41, 3) := by decide +kernel
theorem dL_costNow_8 : decode cL_costNow 8 = .ok (.i2l, 1) := by decide +kernel
theorem dL_costNow_9 : decode cL_costNow 9 = .ok (.lastore, 1) := by decide +kernel
theorem dL_costNow_10 : decode cL_costNow 10 = .ok (.goto 7, 3) := by decide +kernel
theorem dL_costNow_13 : decode cL_costNow 13 = .ok (.astore 4, 2) := by decide +kernel
theorem dL_costNow_15 : decode cL_costNow 15 = .ok (.iconst 1, 1) := by decide +kernel
theorem dL_costNow_16 : decode cL_costNow 16 = .ok (.ireturn, 1) := by decide +kernel
theorem dL_costNow_17 : decode cL_costNow 17 = .ok (.iconst 0, 1) := by decide +kernel
theorem dL_costNow_18 : decode cL_costNow 18 = .ok (.ireturn, 1) := by decide +kernel
set_option maxHeartbeats 4000000 in
set_option maxRecDepth 100000 in
theorem m_L_costNow (l : Launch) (hst : l.stackTraces = false) (G : Gx) (ad : Ad) (σ : Sg) (v1 : Int32) (v2 : Int32) (q : Xr) (hf : f_X7_costNow σ v1 v2 = some q) (hq : q.1 = 0 ∨ q.1 = 1) (cL : ClassId) (ao : Nat) (v0 : Int64) (sz : Nat) : L_M l yL_costNow cL_costNow 5 [(0, 10, 13, 19)] 8 133 2 12 G ad σ sz [.ref (ad 7 0), .int v1, .int v2, .ref ao] cL ao (.inl v0) (L_k [(1, 1)] q.1) (if q.1 = 0 then .inl q.2.1.toInt64 else .inl v0) q.2.2 := by
  refine L_begin (by decide +kernel) rfl (Nat.le_of_ble_eq_true rfl) [(0, .ref (ad 7 0)), (1, .int v1), (2, .int v2), (3, .ref ao)] rfl (fun p e s m args below meth c ls C hz S O hl => ?_)
  subst hz
  obtain ⟨cq, rq, σq⟩ := q
  dsimp only at hq ⊢
  refine lv_aload_n C.1.1 C.1.2.1 dL_costNow_0 rfl (lv_at hl 3 rfl) ?_
  refine lv_iconst (v := 0) C.1.1 C.1.2.1 dL_costNow_1 (by decide) ?_
  refine lv_aload_n C.1.1 C.1.2.1 dL_costNow_2 rfl (lv_at hl 0 rfl) ?_
  refine lv_iload_n C.1.1 C.1.2.1 dL_costNow_3 rfl (lv_at hl 1 rfl) ?_
  refine lv_iload_n C.1.1 C.1.2.1 dL_costNow_4 rfl (lv_at hl 2 rfl) ?_
  refine L_callI C S O [.int v1, .int v2] rfl (m_X7_costNow l hst G ad σ v1 v2 (cq, rq, σq) hf _) kv_X7_costNow tw_4_141 ⟨(Nat.le_of_ble_eq_true rfl), (Nat.le_of_ble_eq_true rfl)⟩ rfl rfl (Nat.le_of_ble_eq_true rfl) hl.1 ⟨(Nat.le_of_ble_eq_true rfl), (Nat.le_of_ble_eq_true rfl)⟩ dL_costNow_5 (fun h0 ce q9 H locs S O hce hcv hcl => ?_) (fun h0 H locs S O => ?_)
  · rcases hq with rfl | rfl
    · exact absurd rfl h0
    · refine vx_catch (name := "java/lang/IndexOutOfBoundsException") C.1.2.2.2.1 [] ⟨0, 10, 13, 19⟩ [] (by rw [C.2.1]; rfl) (fun z hz => nomatch hz) rfl (by decide) (C.1.2.2.2.2.1 _ tw_4_50) (L_cast C (List.mem_of_getElem? (i := 16) rfl)) hce hcv hcl ?_
      show W _ _ _ _ _ _ _ _ _ _ _ _ _ _ _ (F0 m 13 ls [.ref q9])
      refine lv_astore (lv' := [(4, .ref q9), (0, .ref (ad 7 0)), (1, .int v1), (2, .int v2), (3, .ref ao)]) C.1.1 C.1.2.1 dL_costNow_13 hl (by decide) rfl (fun ls hl => ?_)
      refine lv_iconst (v := 1) C.1.1 C.1.2.1 dL_costNow_15 (by decide) ?_
      exact L_ret (k := 1) C S O (Nat.le_of_ble_eq_true rfl) (Nat.le_of_ble_eq_true rfl) dL_costNow_16
  · subst h0
    refine lv_i2l C.1.1 C.1.2.1 dL_costNow_8 rfl ?_
    refine L_last C S O dL_costNow_9 (fun H locs S O => ?_)
    refine lv_goto (tgt := 17) C.1.1 C.1.2.1 dL_costNow_10 (by decide) ?_
    refine lv_iconst (v := 0) C.1.1 C.1.2.1 dL_costNow_17 (by decide) ?_
    exact L_ret (k := 0) C S O (Nat.le_of_ble_eq_true rfl) (Nat.le_of_ble_eq_true rfl) dL_costNow_18
theorem dL_held_0 : decode cL_held 0 = .ok (.aload_n 3, 1) := by decide +kernel
theorem dL_held_1 : decode cL_held 1 = .ok (.iconst 0, 1) := by decide +kernel
theorem dL_held_2 : decode cL_held 2 = .ok (.aload_n 0, 1) := by decide +kernel
theorem dL_held_3 : decode cL_held 3 = .ok (.iload_n 1, 1) := by decide +kernel
theorem dL_held_4 : decode cL_held 4 = .ok (.iload_n 2, 1) := by decide +kernel
theorem dL_held_5 : decode cL_held 5 = .ok (.invokevirtual 44, 3) := by decide +kernel
theorem dL_held_8 : decode cL_held 8 = .ok (.i2l, 1) := by decide +kernel
theorem dL_held_9 : decode cL_held 9 = .ok (.lastore, 1) := by decide +kernel
theorem dL_held_10 : decode cL_held 10 = .ok (.goto 11, 3) := by decide +kernel
theorem dL_held_13 : decode cL_held 13 = .ok (.astore 4, 2) := by decide +kernel
theorem dL_held_15 : decode cL_held 15 = .ok (.iconst 1, 1) := by decide +kernel
theorem dL_held_16 : decode cL_held 16 = .ok (.ireturn, 1) := by decide +kernel
theorem dL_held_17 : decode cL_held 17 = .ok (.astore 4, 2) := by decide +kernel
theorem dL_held_19 : decode cL_held 19 = .ok (.iconst 2, 1) := by decide +kernel
theorem dL_held_20 : decode cL_held 20 = .ok (.ireturn, 1) := by decide +kernel
theorem dL_held_21 : decode cL_held 21 = .ok (.iconst 0, 1) := by decide +kernel
theorem dL_held_22 : decode cL_held 22 = .ok (.ireturn, 1) := by decide +kernel
set_option maxHeartbeats 4000000 in
set_option maxRecDepth 100000 in
theorem m_L_held (l : Launch) (hst : l.stackTraces = false) (G : Gx) (ad : Ad) (σ : Sg) (v1 : Int32) (v2 : Int32) (q : Xr) (hf : f_X7_held σ v1 v2 = some q) (hq : q.1 = 0 ∨ q.1 = 1 ∨ q.1 = 4) (cL : ClassId) (ao : Nat) (v0 : Int64) (sz : Nat) : L_M l yL_held cL_held 5 [(0, 10, 13, 19), (0, 10, 17, 47)] 8 135 2 12 G ad σ sz [.ref (ad 7 0), .int v1, .int v2, .ref ao] cL ao (.inl v0) (L_k [(1, 1), (4, 2)] q.1) (if q.1 = 0 then .inl q.2.1.toInt64 else .inl v0) q.2.2 := by
  refine L_begin (by decide +kernel) rfl (Nat.le_of_ble_eq_true rfl) [(0, .ref (ad 7 0)), (1, .int v1), (2, .int v2), (3, .ref ao)] rfl (fun p e s m args below meth c ls C hz S O hl => ?_)
  subst hz
  obtain ⟨cq, rq, σq⟩ := q
  dsimp only at hq ⊢
  refine lv_aload_n C.1.1 C.1.2.1 dL_held_0 rfl (lv_at hl 3 rfl) ?_
  refine lv_iconst (v := 0) C.1.1 C.1.2.1 dL_held_1 (by decide) ?_
  refine lv_aload_n C.1.1 C.1.2.1 dL_held_2 rfl (lv_at hl 0 rfl) ?_
  refine lv_iload_n C.1.1 C.1.2.1 dL_held_3 rfl (lv_at hl 1 rfl) ?_
  refine lv_iload_n C.1.1 C.1.2.1 dL_held_4 rfl (lv_at hl 2 rfl) ?_
  refine L_callI C S O [.int v1, .int v2] rfl (m_X7_held l hst G ad σ v1 v2 (cq, rq, σq) hf _) kv_X7_held tw_4_157 ⟨(Nat.le_of_ble_eq_true rfl), (Nat.le_of_ble_eq_true rfl)⟩ rfl rfl (Nat.le_of_ble_eq_true rfl) hl.1 ⟨(Nat.le_of_ble_eq_true rfl), (Nat.le_of_ble_eq_true rfl)⟩ dL_held_5 (fun h0 ce q9 H locs S O hce hcv hcl => ?_) (fun h0 H locs S O => ?_)
  · rcases hq with rfl | rfl | rfl
    · exact absurd rfl h0
    · refine vx_catch (name := "java/lang/IndexOutOfBoundsException") C.1.2.2.2.1 [] ⟨0, 10, 13, 19⟩ [⟨0, 10, 17, 47⟩] (by rw [C.2.1]; rfl) (fun z hz => nomatch hz) rfl (by decide) (C.1.2.2.2.2.1 _ tw_4_50) (L_cast C (List.mem_of_getElem? (i := 16) rfl)) hce hcv hcl ?_
      show W _ _ _ _ _ _ _ _ _ _ _ _ _ _ _ (F0 m 13 ls [.ref q9])
      refine lv_astore (lv' := [(4, .ref q9), (0, .ref (ad 7 0)), (1, .int v1), (2, .int v2), (3, .ref ao)]) C.1.1 C.1.2.1 dL_held_13 hl (by decide) rfl (fun ls hl => ?_)
      refine lv_iconst (v := 1) C.1.1 C.1.2.1 dL_held_15 (by decide) ?_
      exact L_ret (k := 1) C S O (Nat.le_of_ble_eq_true rfl) (Nat.le_of_ble_eq_true rfl) dL_held_16
    · refine vx_catch (name := "java/util/NoSuchElementException") C.1.2.2.2.1 [⟨0, 10, 13, 19⟩] ⟨0, 10, 17, 47⟩ [] (by rw [C.2.1]; rfl) (fun z hz => by
      rcases List.mem_cons.mp hz with rfl | hz
      · exact Or.inr ⟨by decide, "java/lang/IndexOutOfBoundsException", C.1.2.2.2.2.1 _ tw_4_50, L_nc C (List.mem_of_getElem? (i := 1) rfl)⟩
      · exact nomatch hz) rfl (by decide) (C.1.2.2.2.2.1 _ tw_4_156) (L_cast C (List.mem_of_getElem? (i := 17) rfl)) hce hcv hcl ?_
      show W _ _ _ _ _ _ _ _ _ _ _ _ _ _ _ (F0 m 17 ls [.ref q9])
      refine lv_astore (lv' := [(4, .ref q9), (0, .ref (ad 7 0)), (1, .int v1), (2, .int v2), (3, .ref ao)]) C.1.1 C.1.2.1 dL_held_17 hl (by decide) rfl (fun ls hl => ?_)
      refine lv_iconst (v := 2) C.1.1 C.1.2.1 dL_held_19 (by decide) ?_
      exact L_ret (k := 2) C S O (Nat.le_of_ble_eq_true rfl) (Nat.le_of_ble_eq_true rfl) dL_held_20
  · subst h0
    refine lv_i2l C.1.1 C.1.2.1 dL_held_8 rfl ?_
    refine L_last C S O dL_held_9 (fun H locs S O => ?_)
    refine lv_goto (tgt := 21) C.1.1 C.1.2.1 dL_held_10 (by decide) ?_
    refine lv_iconst (v := 0) C.1.1 C.1.2.1 dL_held_21 (by decide) ?_
    exact L_ret (k := 0) C S O (Nat.le_of_ble_eq_true rfl) (Nat.le_of_ble_eq_true rfl) dL_held_22
theorem dL_goal_0 : decode cL_goal 0 = .ok (.aload_n 2, 1) := by decide +kernel
theorem dL_goal_1 : decode cL_goal 1 = .ok (.iconst 0, 1) := by decide +kernel
theorem dL_goal_2 : decode cL_goal 2 = .ok (.aload_n 0, 1) := by decide +kernel
theorem dL_goal_3 : decode cL_goal 3 = .ok (.iload_n 1, 1) := by decide +kernel
theorem dL_goal_4 : decode cL_goal 4 = .ok (.invokevirtual 49, 3) := by decide +kernel
theorem dL_goal_7 : decode cL_goal 7 = .ok (.i2l, 1) := by decide +kernel
theorem dL_goal_8 : decode cL_goal 8 = .ok (.lastore, 1) := by decide +kernel
theorem dL_goal_9 : decode cL_goal 9 = .ok (.goto 6, 3) := by decide +kernel
theorem dL_goal_12 : decode cL_goal 12 = .ok (.astore_n 3, 1) := by decide +kernel
theorem dL_goal_13 : decode cL_goal 13 = .ok (.iconst 1, 1) := by decide +kernel
theorem dL_goal_14 : decode cL_goal 14 = .ok (.ireturn, 1) := by decide +kernel
theorem dL_goal_15 : decode cL_goal 15 = .ok (.iconst 0, 1) := by decide +kernel
theorem dL_goal_16 : decode cL_goal 16 = .ok (.ireturn, 1) := by decide +kernel
set_option maxHeartbeats 4000000 in
set_option maxRecDepth 100000 in
theorem m_L_goal (l : Launch) (hst : l.stackTraces = false) (G : Gx) (ad : Ad) (σ : Sg) (v1 : Int32) (q : Xr) (hf : f_X7_goal σ v1 = some q) (hq : q.1 = 0 ∨ q.1 = 1) (cL : ClassId) (ao : Nat) (v0 : Int64) (sz : Nat) : L_M l yL_goal cL_goal 4 [(0, 9, 12, 19)] 8 132 1 6 G ad σ sz [.ref (ad 7 0), .int v1, .ref ao] cL ao (.inl v0) (L_k [(1, 1)] q.1) (if q.1 = 0 then .inl q.2.1.toInt64 else .inl v0) q.2.2 := by
  refine L_begin (by decide +kernel) rfl (Nat.le_of_ble_eq_true rfl) [(0, .ref (ad 7 0)), (1, .int v1), (2, .ref ao)] rfl (fun p e s m args below meth c ls C hz S O hl => ?_)
  subst hz
  obtain ⟨cq, rq, σq⟩ := q
  dsimp only at hq ⊢
  refine lv_aload_n C.1.1 C.1.2.1 dL_goal_0 rfl (lv_at hl 2 rfl) ?_
  refine lv_iconst (v := 0) C.1.1 C.1.2.1 dL_goal_1 (by decide) ?_
  refine lv_aload_n C.1.1 C.1.2.1 dL_goal_2 rfl (lv_at hl 0 rfl) ?_
  refine lv_iload_n C.1.1 C.1.2.1 dL_goal_3 rfl (lv_at hl 1 rfl) ?_
  refine L_callI C S O [.int v1] rfl (m_X7_goal l hst G ad σ v1 (cq, rq, σq) hf _) kv_X7_goal tw_4_180 ⟨(Nat.le_of_ble_eq_true rfl), (Nat.le_of_ble_eq_true rfl)⟩ rfl rfl (Nat.le_of_ble_eq_true rfl) hl.1 ⟨(Nat.le_of_ble_eq_true rfl), (Nat.le_of_ble_eq_true rfl)⟩ dL_goal_4 (fun h0 ce q9 H locs S O hce hcv hcl => ?_) (fun h0 H locs S O => ?_)
  · rcases hq with rfl | rfl
    · exact absurd rfl h0
    · refine vx_catch (name := "java/lang/IndexOutOfBoundsException") C.1.2.2.2.1 [] ⟨0, 9, 12, 19⟩ [] (by rw [C.2.1]; rfl) (fun z hz => nomatch hz) rfl (by decide) (C.1.2.2.2.2.1 _ tw_4_50) (L_cast C (List.mem_of_getElem? (i := 16) rfl)) hce hcv hcl ?_
      show W _ _ _ _ _ _ _ _ _ _ _ _ _ _ _ (F0 m 12 ls [.ref q9])
      refine lv_astore_n (lv' := [(3, .ref q9), (0, .ref (ad 7 0)), (1, .int v1), (2, .ref ao)]) C.1.1 C.1.2.1 dL_goal_12 rfl hl (by decide) rfl (fun ls hl => ?_)
      refine lv_iconst (v := 1) C.1.1 C.1.2.1 dL_goal_13 (by decide) ?_
      exact L_ret (k := 1) C S O (Nat.le_of_ble_eq_true rfl) (Nat.le_of_ble_eq_true rfl) dL_goal_14
  · subst h0
    refine lv_i2l C.1.1 C.1.2.1 dL_goal_7 rfl ?_
    refine L_last C S O dL_goal_8 (fun H locs S O => ?_)
    refine lv_goto (tgt := 15) C.1.1 C.1.2.1 dL_goal_9 (by decide) ?_
    refine lv_iconst (v := 0) C.1.1 C.1.2.1 dL_goal_15 (by decide) ?_
    exact L_ret (k := 0) C S O (Nat.le_of_ble_eq_true rfl) (Nat.le_of_ble_eq_true rfl) dL_goal_16
theorem dL_messages_0 : decode cL_messages 0 = .ok (.aload_n 3, 1) := by decide +kernel
theorem dL_messages_1 : decode cL_messages 1 = .ok (.iconst 0, 1) := by decide +kernel
theorem dL_messages_2 : decode cL_messages 2 = .ok (.aload_n 0, 1) := by decide +kernel
theorem dL_messages_3 : decode cL_messages 3 = .ok (.iload_n 1, 1) := by decide +kernel
theorem dL_messages_4 : decode cL_messages 4 = .ok (.iload_n 2, 1) := by decide +kernel
theorem dL_messages_5 : decode cL_messages 5 = .ok (.invokevirtual 52, 3) := by decide +kernel
theorem dL_messages_8 : decode cL_messages 8 = .ok (.i2l, 1) := by decide +kernel
theorem dL_messages_9 : decode cL_messages 9 = .ok (.lastore, 1) := by decide +kernel
theorem dL_messages_10 : decode cL_messages 10 = .ok (.goto 7, 3) := by decide +kernel
theorem dL_messages_13 : decode cL_messages 13 = .ok (.astore 4, 2) := by decide +kernel
theorem dL_messages_15 : decode cL_messages 15 = .ok (.iconst 1, 1) := by decide +kernel
theorem dL_messages_16 : decode cL_messages 16 = .ok (.ireturn, 1) := by decide +kernel
theorem dL_messages_17 : decode cL_messages 17 = .ok (.iconst 0, 1) := by decide +kernel
theorem dL_messages_18 : decode cL_messages 18 = .ok (.ireturn, 1) := by decide +kernel
set_option maxHeartbeats 4000000 in
set_option maxRecDepth 100000 in
theorem m_L_messages (l : Launch) (hst : l.stackTraces = false) (G : Gx) (ad : Ad) (σ : Sg) (v1 : Int32) (v2 : Int32) (q : Xr) (hf : f_X7_messages σ v1 v2 = some q) (hq : q.1 = 0 ∨ q.1 = 2) (cL : ClassId) (ao : Nat) (v0 : Int64) (sz : Nat) : L_M l yL_messages cL_messages 5 [(0, 10, 13, 13)] 8 135 1 6 G ad σ sz [.ref (ad 7 0), .int v1, .int v2, .ref ao] cL ao (.inl v0) (L_k [(2, 1)] q.1) (if q.1 = 0 then .inl q.2.1.toInt64 else .inl v0) q.2.2 := by
  refine L_begin (by decide +kernel) rfl (Nat.le_of_ble_eq_true rfl) [(0, .ref (ad 7 0)), (1, .int v1), (2, .int v2), (3, .ref ao)] rfl (fun p e s m args below meth c ls C hz S O hl => ?_)
  subst hz
  obtain ⟨cq, rq, σq⟩ := q
  dsimp only at hq ⊢
  refine lv_aload_n C.1.1 C.1.2.1 dL_messages_0 rfl (lv_at hl 3 rfl) ?_
  refine lv_iconst (v := 0) C.1.1 C.1.2.1 dL_messages_1 (by decide) ?_
  refine lv_aload_n C.1.1 C.1.2.1 dL_messages_2 rfl (lv_at hl 0 rfl) ?_
  refine lv_iload_n C.1.1 C.1.2.1 dL_messages_3 rfl (lv_at hl 1 rfl) ?_
  refine lv_iload_n C.1.1 C.1.2.1 dL_messages_4 rfl (lv_at hl 2 rfl) ?_
  refine L_callI C S O [.int v1, .int v2] rfl (m_X7_messages l hst G ad σ v1 v2 (cq, rq, σq) hf _) kv_X7_messages tw_4_203 ⟨(Nat.le_of_ble_eq_true rfl), (Nat.le_of_ble_eq_true rfl)⟩ rfl rfl (Nat.le_of_ble_eq_true rfl) hl.1 ⟨(Nat.le_of_ble_eq_true rfl), (Nat.le_of_ble_eq_true rfl)⟩ dL_messages_5 (fun h0 ce q9 H locs S O hce hcv hcl => ?_) (fun h0 H locs S O => ?_)
  · rcases hq with rfl | rfl
    · exact absurd rfl h0
    · refine vx_catch (name := "java/lang/IllegalArgumentException") C.1.2.2.2.1 [] ⟨0, 10, 13, 13⟩ [] (by rw [C.2.1]; rfl) (fun z hz => nomatch hz) rfl (by decide) (C.1.2.2.2.2.1 _ tw_3_211) (L_cast C (List.mem_of_getElem? (i := 9) rfl)) hce hcv hcl ?_
      show W _ _ _ _ _ _ _ _ _ _ _ _ _ _ _ (F0 m 13 ls [.ref q9])
      refine lv_astore (lv' := [(4, .ref q9), (0, .ref (ad 7 0)), (1, .int v1), (2, .int v2), (3, .ref ao)]) C.1.1 C.1.2.1 dL_messages_13 hl (by decide) rfl (fun ls hl => ?_)
      refine lv_iconst (v := 1) C.1.1 C.1.2.1 dL_messages_15 (by decide) ?_
      exact L_ret (k := 1) C S O (Nat.le_of_ble_eq_true rfl) (Nat.le_of_ble_eq_true rfl) dL_messages_16
  · subst h0
    refine lv_i2l C.1.1 C.1.2.1 dL_messages_8 rfl ?_
    refine L_last C S O dL_messages_9 (fun H locs S O => ?_)
    refine lv_goto (tgt := 17) C.1.1 C.1.2.1 dL_messages_10 (by decide) ?_
    refine lv_iconst (v := 0) C.1.1 C.1.2.1 dL_messages_17 (by decide) ?_
    exact L_ret (k := 0) C S O (Nat.le_of_ble_eq_true rfl) (Nat.le_of_ble_eq_true rfl) dL_messages_18
theorem dL_hasLost_0 : decode cL_hasLost 0 = .ok (.aload 4, 2) := by decide +kernel
theorem dL_hasLost_2 : decode cL_hasLost 2 = .ok (.iconst 0, 1) := by decide +kernel
theorem dL_hasLost_3 : decode cL_hasLost 3 = .ok (.aload_n 0, 1) := by decide +kernel
theorem dL_hasLost_4 : decode cL_hasLost 4 = .ok (.iload_n 1, 1) := by decide +kernel
theorem dL_hasLost_5 : decode cL_hasLost 5 = .ok (.iload_n 2, 1) := by decide +kernel
theorem dL_hasLost_6 : decode cL_hasLost 6 = .ok (.iload_n 3, 1) := by decide +kernel
theorem dL_hasLost_7 : decode cL_hasLost 7 = .ok (.invokevirtual 56, 3) := by decide +kernel
theorem dL_hasLost_10 : decode cL_hasLost 10 = .ok (.ifCond .eq 7, 3) := by decide +kernel
theorem dL_hasLost_13 : decode cL_hasLost 13 = .ok (.lconst 1, 1) := by decide +kernel
theorem dL_hasLost_14 : decode cL_hasLost 14 = .ok (.goto 4, 3) := by decide +kernel
theorem dL_hasLost_17 : decode cL_hasLost 17 = .ok (.lconst 0, 1) := by decide +kernel
theorem dL_hasLost_18 : decode cL_hasLost 18 = .ok (.lastore, 1) := by decide +kernel
theorem dL_hasLost_19 : decode cL_hasLost 19 = .ok (.goto 11, 3) := by decide +kernel
theorem dL_hasLost_22 : decode cL_hasLost 22 = .ok (.astore 5, 2) := by decide +kernel
theorem dL_hasLost_24 : decode cL_hasLost 24 = .ok (.iconst 1, 1) := by decide +kernel
theorem dL_hasLost_25 : decode cL_hasLost 25 = .ok (.ireturn, 1) := by decide +kernel
theorem dL_hasLost_26 : decode cL_hasLost 26 = .ok (.astore 5, 2) := by decide +kernel
theorem dL_hasLost_28 : decode cL_hasLost 28 = .ok (.iconst 2, 1) := by decide +kernel
theorem dL_hasLost_29 : decode cL_hasLost 29 = .ok (.ireturn, 1) := by decide +kernel
theorem dL_hasLost_30 : decode cL_hasLost 30 = .ok (.iconst 0, 1) := by decide +kernel
theorem dL_hasLost_31 : decode cL_hasLost 31 = .ok (.ireturn, 1) := by decide +kernel
set_option maxHeartbeats 4000000 in
set_option maxRecDepth 100000 in
theorem m_L_hasLost (l : Launch) (hst : l.stackTraces = false) (G : Gx) (ad : Ad) (σ : Sg) (v1 : Int32) (v2 : Int32) (v3 : Int32) (q : Xr) (hf : f_X7_hasLost σ v1 v2 v3 = some q) (hq : q.1 = 0 ∨ q.1 = 1 ∨ q.1 = 2) (cL : ClassId) (ao : Nat) (v0 : Int64) (sz : Nat) : L_M l yL_hasLost cL_hasLost 6 [(0, 19, 22, 19), (0, 19, 26, 13)] 8 135 3 18 G ad σ sz [.ref (ad 7 0), .int v1, .int v2, .int v3, .ref ao] cL ao (.inl v0) (L_k [(1, 1), (2, 2)] q.1) (if q.1 = 0 then .inl (if q.2.1 = 0 then 0 else 1) else .inl v0) q.2.2 := by
  refine L_begin (by decide +kernel) rfl (Nat.le_of_ble_eq_true rfl) [(0, .ref (ad 7 0)), (1, .int v1), (2, .int v2), (3, .int v3), (4, .ref ao)] rfl (fun p e s m args below meth c ls C hz S O hl => ?_)
  subst hz
  obtain ⟨cq, rq, σq⟩ := q
  dsimp only at hq ⊢
  refine lv_aload C.1.1 C.1.2.1 dL_hasLost_0 (lv_at hl 4 rfl) ?_
  refine lv_iconst (v := 0) C.1.1 C.1.2.1 dL_hasLost_2 (by decide) ?_
  refine lv_aload_n C.1.1 C.1.2.1 dL_hasLost_3 rfl (lv_at hl 0 rfl) ?_
  refine lv_iload_n C.1.1 C.1.2.1 dL_hasLost_4 rfl (lv_at hl 1 rfl) ?_
  refine lv_iload_n C.1.1 C.1.2.1 dL_hasLost_5 rfl (lv_at hl 2 rfl) ?_
  refine lv_iload_n C.1.1 C.1.2.1 dL_hasLost_6 rfl (lv_at hl 3 rfl) ?_
  refine L_callI C S O [.int v1, .int v2, .int v3] rfl (m_X7_hasLost l hst G ad σ v1 v2 v3 (cq, rq, σq) hf _) kv_X7_hasLost tw_4_213 ⟨(Nat.le_of_ble_eq_true rfl), (Nat.le_of_ble_eq_true rfl)⟩ rfl rfl (Nat.le_of_ble_eq_true rfl) hl.1 ⟨(Nat.le_of_ble_eq_true rfl), (Nat.le_of_ble_eq_true rfl)⟩ dL_hasLost_7 (fun h0 ce q9 H locs S O hce hcv hcl => ?_) (fun h0 H locs S O => ?_)
  · rcases hq with rfl | rfl | rfl
    · exact absurd rfl h0
    · refine vx_catch (name := "java/lang/IndexOutOfBoundsException") C.1.2.2.2.1 [] ⟨0, 19, 22, 19⟩ [⟨0, 19, 26, 13⟩] (by rw [C.2.1]; rfl) (fun z hz => nomatch hz) rfl (by decide) (C.1.2.2.2.2.1 _ tw_4_50) (L_cast C (List.mem_of_getElem? (i := 16) rfl)) hce hcv hcl ?_
      show W _ _ _ _ _ _ _ _ _ _ _ _ _ _ _ (F0 m 22 ls [.ref q9])
      refine lv_astore (lv' := [(5, .ref q9), (0, .ref (ad 7 0)), (1, .int v1), (2, .int v2), (3, .int v3), (4, .ref ao)]) C.1.1 C.1.2.1 dL_hasLost_22 hl (by decide) rfl (fun ls hl => ?_)
      refine lv_iconst (v := 1) C.1.1 C.1.2.1 dL_hasLost_24 (by decide) ?_
      exact L_ret (k := 1) C S O (Nat.le_of_ble_eq_true rfl) (Nat.le_of_ble_eq_true rfl) dL_hasLost_25
    · refine vx_catch (name := "java/lang/IllegalArgumentException") C.1.2.2.2.1 [⟨0, 19, 22, 19⟩] ⟨0, 19, 26, 13⟩ [] (by rw [C.2.1]; rfl) (fun z hz => by
      rcases List.mem_cons.mp hz with rfl | hz
      · exact Or.inr ⟨by decide, "java/lang/IndexOutOfBoundsException", C.1.2.2.2.2.1 _ tw_4_50, L_nc C (List.mem_of_getElem? (i := 0) rfl)⟩
      · exact nomatch hz) rfl (by decide) (C.1.2.2.2.2.1 _ tw_3_211) (L_cast C (List.mem_of_getElem? (i := 9) rfl)) hce hcv hcl ?_
      show W _ _ _ _ _ _ _ _ _ _ _ _ _ _ _ (F0 m 26 ls [.ref q9])
      refine lv_astore (lv' := [(5, .ref q9), (0, .ref (ad 7 0)), (1, .int v1), (2, .int v2), (3, .int v3), (4, .ref ao)]) C.1.1 C.1.2.1 dL_hasLost_26 hl (by decide) rfl (fun ls hl => ?_)
      refine lv_iconst (v := 2) C.1.1 C.1.2.1 dL_hasLost_28 (by decide) ?_
      exact L_ret (k := 2) C S O (Nat.le_of_ble_eq_true rfl) (Nat.le_of_ble_eq_true rfl) dL_hasLost_29
  · subst h0
    refine lv_if_eq (tgt := 17) C.1.1 C.1.2.1 dL_hasLost_10 (by decide) (fun c9 => ?_) (fun c9 => ?_)
    · rw [show (if (0 : Nat) = 0 then (Sum.inl (if rq = 0 then 0 else 1) : Int64 ⊕ UInt64) else Sum.inl v0) = Sum.inl 0 by rw [if_pos rfl, if_pos c9]]
      refine lv_lconst (v := 0) C.1.1 C.1.2.1 dL_hasLost_17 rfl ?_
      refine L_last C S O dL_hasLost_18 (fun H locs S O => ?_)
      refine lv_goto (tgt := 30) C.1.1 C.1.2.1 dL_hasLost_19 (by decide) ?_
      refine lv_iconst (v := 0) C.1.1 C.1.2.1 dL_hasLost_30 (by decide) ?_
      exact L_ret (k := 0) C S O (Nat.le_of_ble_eq_true rfl) (Nat.le_of_ble_eq_true rfl) dL_hasLost_31
    · rw [show (if (0 : Nat) = 0 then (Sum.inl (if rq = 0 then 0 else 1) : Int64 ⊕ UInt64) else Sum.inl v0) = Sum.inl 1 by rw [if_pos rfl, if_neg c9]]
      refine lv_lconst (v := 1) C.1.1 C.1.2.1 dL_hasLost_13 rfl ?_
      refine lv_goto (tgt := 18) C.1.1 C.1.2.1 dL_hasLost_14 (by decide) ?_
      refine L_last C S O dL_hasLost_18 (fun H locs S O => ?_)
      refine lv_goto (tgt := 30) C.1.1 C.1.2.1 dL_hasLost_19 (by decide) ?_
      refine lv_iconst (v := 0) C.1.1 C.1.2.1 dL_hasLost_30 (by decide) ?_
      exact L_ret (k := 0) C S O (Nat.le_of_ble_eq_true rfl) (Nat.le_of_ble_eq_true rfl) dL_hasLost_31
theorem dL_nobody_0 : decode cL_nobody 0 = .ok (.aload_n 2, 1) := by decide +kernel
theorem dL_nobody_1 : decode cL_nobody 1 = .ok (.iconst 0, 1) := by decide +kernel
theorem dL_nobody_2 : decode cL_nobody 2 = .ok (.aload_n 0, 1) := by decide +kernel
theorem dL_nobody_3 : decode cL_nobody 3 = .ok (.iload_n 1, 1) := by decide +kernel
theorem dL_nobody_4 : decode cL_nobody 4 = .ok (.invokevirtual 60, 3) := by decide +kernel
theorem dL_nobody_7 : decode cL_nobody 7 = .ok (.i2l, 1) := by decide +kernel
theorem dL_nobody_8 : decode cL_nobody 8 = .ok (.lastore, 1) := by decide +kernel
theorem dL_nobody_9 : decode cL_nobody 9 = .ok (.goto 6, 3) := by decide +kernel
theorem dL_nobody_12 : decode cL_nobody 12 = .ok (.astore_n 3, 1) := by decide +kernel
theorem dL_nobody_13 : decode cL_nobody 13 = .ok (.iconst 1, 1) := by decide +kernel
theorem dL_nobody_14 : decode cL_nobody 14 = .ok (.ireturn, 1) := by decide +kernel
theorem dL_nobody_15 : decode cL_nobody 15 = .ok (.iconst 0, 1) := by decide +kernel
theorem dL_nobody_16 : decode cL_nobody 16 = .ok (.ireturn, 1) := by decide +kernel
set_option maxHeartbeats 4000000 in
set_option maxRecDepth 100000 in
theorem m_L_nobody (l : Launch) (hst : l.stackTraces = false) (G : Gx) (ad : Ad) (σ : Sg) (v1 : Int32) (q : Xr) (hf : f_X7_nobody σ v1 = some q) (hq : q.1 = 0 ∨ q.1 = 2) (cL : ClassId) (ao : Nat) (v0 : Int64) (sz : Nat) : L_M l yL_nobody cL_nobody 4 [(0, 9, 12, 13)] 8 133 1 6 G ad σ sz [.ref (ad 7 0), .int v1, .ref ao] cL ao (.inl v0) (L_k [(2, 1)] q.1) (if q.1 = 0 then .inl q.2.1.toInt64 else .inl v0) q.2.2 := by
  refine L_begin (by decide +kernel) rfl (Nat.le_of_ble_eq_true rfl) [(0, .ref (ad 7 0)), (1, .int v1), (2, .ref ao)] rfl (fun p e s m args below meth c ls C hz S O hl => ?_)
  subst hz
  obtain ⟨cq, rq, σq⟩ := q
  dsimp only at hq ⊢
  refine lv_aload_n C.1.1 C.1.2.1 dL_nobody_0 rfl (lv_at hl 2 rfl) ?_
  refine lv_iconst (v := 0) C.1.1 C.1.2.1 dL_nobody_1 (by decide) ?_
  refine lv_aload_n C.1.1 C.1.2.1 dL_nobody_2 rfl (lv_at hl 0 rfl) ?_
  refine lv_iload_n C.1.1 C.1.2.1 dL_nobody_3 rfl (lv_at hl 1 rfl) ?_
  refine L_callI C S O [.int v1] rfl (m_X7_nobody l hst G ad σ v1 (cq, rq, σq) hf _) kv_X7_nobody tw_4_224 ⟨(Nat.le_of_ble_eq_true rfl), (Nat.le_of_ble_eq_true rfl)⟩ rfl rfl (Nat.le_of_ble_eq_true rfl) hl.1 ⟨(Nat.le_of_ble_eq_true rfl), (Nat.le_of_ble_eq_true rfl)⟩ dL_nobody_4 (fun h0 ce q9 H locs S O hce hcv hcl => ?_) (fun h0 H locs S O => ?_)
  · rcases hq with rfl | rfl
    · exact absurd rfl h0
    · refine vx_catch (name := "java/lang/IllegalArgumentException") C.1.2.2.2.1 [] ⟨0, 9, 12, 13⟩ [] (by rw [C.2.1]; rfl) (fun z hz => nomatch hz) rfl (by decide) (C.1.2.2.2.2.1 _ tw_3_211) (L_cast C (List.mem_of_getElem? (i := 9) rfl)) hce hcv hcl ?_
      show W _ _ _ _ _ _ _ _ _ _ _ _ _ _ _ (F0 m 12 ls [.ref q9])
      refine lv_astore_n (lv' := [(3, .ref q9), (0, .ref (ad 7 0)), (1, .int v1), (2, .ref ao)]) C.1.1 C.1.2.1 dL_nobody_12 rfl hl (by decide) rfl (fun ls hl => ?_)
      refine lv_iconst (v := 1) C.1.1 C.1.2.1 dL_nobody_13 (by decide) ?_
      exact L_ret (k := 1) C S O (Nat.le_of_ble_eq_true rfl) (Nat.le_of_ble_eq_true rfl) dL_nobody_14
  · subst h0
    refine lv_i2l C.1.1 C.1.2.1 dL_nobody_7 rfl ?_
    refine L_last C S O dL_nobody_8 (fun H locs S O => ?_)
    refine lv_goto (tgt := 15) C.1.1 C.1.2.1 dL_nobody_9 (by decide) ?_
    refine lv_iconst (v := 0) C.1.1 C.1.2.1 dL_nobody_15 (by decide) ?_
    exact L_ret (k := 0) C S O (Nat.le_of_ble_eq_true rfl) (Nat.le_of_ble_eq_true rfl) dL_nobody_16
theorem dL_makeCall_0 : decode cL_makeCall 0 = .ok (.aload_n 3, 1) := by decide +kernel
theorem dL_makeCall_1 : decode cL_makeCall 1 = .ok (.iconst 0, 1) := by decide +kernel
theorem dL_makeCall_2 : decode cL_makeCall 2 = .ok (.aload_n 0, 1) := by decide +kernel
theorem dL_makeCall_3 : decode cL_makeCall 3 = .ok (.iload_n 1, 1) := by decide +kernel
theorem dL_makeCall_4 : decode cL_makeCall 4 = .ok (.iload_n 2, 1) := by decide +kernel
theorem dL_makeCall_5 : decode cL_makeCall 5 = .ok (.invokevirtual 63, 3) := by decide +kernel
theorem dL_makeCall_8 : decode cL_makeCall 8 = .ok (.i2l, 1) := by decide +kernel
theorem dL_makeCall_9 : decode cL_makeCall 9 = .ok (.lastore, 1) := by decide +kernel
theorem dL_makeCall_10 : decode cL_makeCall 10 = .ok (.goto 11, 3) := by decide +kernel
theorem dL_makeCall_13 : decode cL_makeCall 13 = .ok (.astore 4, 2) := by decide +kernel
theorem dL_makeCall_15 : decode cL_makeCall 15 = .ok (.iconst 1, 1) := by decide +kernel
theorem dL_makeCall_16 : decode cL_makeCall 16 = .ok (.ireturn, 1) := by decide +kernel
theorem dL_makeCall_17 : decode cL_makeCall 17 = .ok (.astore 4, 2) := by decide +kernel
theorem dL_makeCall_19 : decode cL_makeCall 19 = .ok (.iconst 2, 1) := by decide +kernel
theorem dL_makeCall_20 : decode cL_makeCall 20 = .ok (.ireturn, 1) := by decide +kernel
theorem dL_makeCall_21 : decode cL_makeCall 21 = .ok (.iconst 0, 1) := by decide +kernel
theorem dL_makeCall_22 : decode cL_makeCall 22 = .ok (.ireturn, 1) := by decide +kernel
set_option maxHeartbeats 4000000 in
set_option maxRecDepth 100000 in
theorem m_L_makeCall (l : Launch) (hst : l.stackTraces = false) (G : Gx) (ad : Ad) (σ : Sg) (v1 : Int32) (v2 : Int32) (q : Xr) (hf : f_X7_makeCall σ v1 v2 = some q) (hq : q.1 = 0 ∨ q.1 = 2 ∨ q.1 = 3) (cL : ClassId) (ao : Nat) (v0 : Int64) (sz : Nat) : L_M l yL_makeCall cL_makeCall 5 [(0, 10, 13, 13), (0, 10, 17, 66)] 9 155 4 24 G ad σ sz [.ref (ad 7 0), .int v1, .int v2, .ref ao] cL ao (.inl v0) (L_k [(2, 1), (3, 2)] q.1) (if q.1 = 0 then .inl q.2.1.toInt64 else .inl v0) q.2.2 := by
  refine L_begin (by decide +kernel) rfl (Nat.le_of_ble_eq_true rfl) [(0, .ref (ad 7 0)), (1, .int v1), (2, .int v2), (3, .ref ao)] rfl (fun p e s m args below meth c ls C hz S O hl => ?_)
  subst hz
  obtain ⟨cq, rq, σq⟩ := q
  dsimp only at hq ⊢
  refine lv_aload_n C.1.1 C.1.2.1 dL_makeCall_0 rfl (lv_at hl 3 rfl) ?_
  refine lv_iconst (v := 0) C.1.1 C.1.2.1 dL_makeCall_1 (by decide) ?_
  refine lv_aload_n C.1.1 C.1.2.1 dL_makeCall_2 rfl (lv_at hl 0 rfl) ?_
  refine lv_iload_n C.1.1 C.1.2.1 dL_makeCall_3 rfl (lv_at hl 1 rfl) ?_
  refine lv_iload_n C.1.1 C.1.2.1 dL_makeCall_4 rfl (lv_at hl 2 rfl) ?_
  refine L_callI C S O [.int v1, .int v2] rfl (m_X7_makeCall l hst G ad σ v1 v2 (cq, rq, σq) hf _) kv_X7_makeCall tw_4_232 ⟨(Nat.le_of_ble_eq_true rfl), (Nat.le_of_ble_eq_true rfl)⟩ rfl rfl (Nat.le_of_ble_eq_true rfl) hl.1 ⟨(Nat.le_of_ble_eq_true rfl), (Nat.le_of_ble_eq_true rfl)⟩ dL_makeCall_5 (fun h0 ce q9 H locs S O hce hcv hcl => ?_) (fun h0 H locs S O => ?_)
  · rcases hq with rfl | rfl | rfl
    · exact absurd rfl h0
    · refine vx_catch (name := "java/lang/IllegalArgumentException") C.1.2.2.2.1 [] ⟨0, 10, 13, 13⟩ [⟨0, 10, 17, 66⟩] (by rw [C.2.1]; rfl) (fun z hz => nomatch hz) rfl (by decide) (C.1.2.2.2.2.1 _ tw_3_211) (L_cast C (List.mem_of_getElem? (i := 9) rfl)) hce hcv hcl ?_
      show W _ _ _ _ _ _ _ _ _ _ _ _ _ _ _ (F0 m 13 ls [.ref q9])
      refine lv_astore (lv' := [(4, .ref q9), (0, .ref (ad 7 0)), (1, .int v1), (2, .int v2), (3, .ref ao)]) C.1.1 C.1.2.1 dL_makeCall_13 hl (by decide) rfl (fun ls hl => ?_)
      refine lv_iconst (v := 1) C.1.1 C.1.2.1 dL_makeCall_15 (by decide) ?_
      exact L_ret (k := 1) C S O (Nat.le_of_ble_eq_true rfl) (Nat.le_of_ble_eq_true rfl) dL_makeCall_16
    · refine vx_catch (name := "java/lang/IllegalStateException") C.1.2.2.2.1 [⟨0, 10, 13, 13⟩] ⟨0, 10, 17, 66⟩ [] (by rw [C.2.1]; rfl) (fun z hz => by
      rcases List.mem_cons.mp hz with rfl | hz
      · exact Or.inr ⟨by decide, "java/lang/IllegalArgumentException", C.1.2.2.2.2.1 _ tw_3_211, L_nc C (List.mem_of_getElem? (i := 3) rfl)⟩
      · exact nomatch hz) rfl (by decide) (C.1.2.2.2.2.1 _ tw_4_231) (L_cast C (List.mem_of_getElem? (i := 18) rfl)) hce hcv hcl ?_
      show W _ _ _ _ _ _ _ _ _ _ _ _ _ _ _ (F0 m 17 ls [.ref q9])
      refine lv_astore (lv' := [(4, .ref q9), (0, .ref (ad 7 0)), (1, .int v1), (2, .int v2), (3, .ref ao)]) C.1.1 C.1.2.1 dL_makeCall_17 hl (by decide) rfl (fun ls hl => ?_)
      refine lv_iconst (v := 2) C.1.1 C.1.2.1 dL_makeCall_19 (by decide) ?_
      exact L_ret (k := 2) C S O (Nat.le_of_ble_eq_true rfl) (Nat.le_of_ble_eq_true rfl) dL_makeCall_20
  · subst h0
    refine lv_i2l C.1.1 C.1.2.1 dL_makeCall_8 rfl ?_
    refine L_last C S O dL_makeCall_9 (fun H locs S O => ?_)
    refine lv_goto (tgt := 21) C.1.1 C.1.2.1 dL_makeCall_10 (by decide) ?_
    refine lv_iconst (v := 0) C.1.1 C.1.2.1 dL_makeCall_21 (by decide) ?_
    exact L_ret (k := 0) C S O (Nat.le_of_ble_eq_true rfl) (Nat.le_of_ble_eq_true rfl) dL_makeCall_22
theorem dL_run_0 : decode cL_run 0 = .ok (.aload_n 2, 1) := by decide +kernel
theorem dL_run_1 : decode cL_run 1 = .ok (.iconst 0, 1) := by decide +kernel
theorem dL_run_2 : decode cL_run 2 = .ok (.aload_n 0, 1) := by decide +kernel
theorem dL_run_3 : decode cL_run 3 = .ok (.iload_n 1, 1) := by decide +kernel
theorem dL_run_4 : decode cL_run 4 = .ok (.invokevirtual 68, 3) := by decide +kernel
theorem dL_run_7 : decode cL_run 7 = .ok (.i2l, 1) := by decide +kernel
theorem dL_run_8 : decode cL_run 8 = .ok (.lastore, 1) := by decide +kernel
theorem dL_run_9 : decode cL_run 9 = .ok (.goto 6, 3) := by decide +kernel
theorem dL_run_12 : decode cL_run 12 = .ok (.astore_n 3, 1) := by decide +kernel
theorem dL_run_13 : decode cL_run 13 = .ok (.iconst 1, 1) := by decide +kernel
theorem dL_run_14 : decode cL_run 14 = .ok (.ireturn, 1) := by decide +kernel
theorem dL_run_15 : decode cL_run 15 = .ok (.iconst 0, 1) := by decide +kernel
theorem dL_run_16 : decode cL_run 16 = .ok (.ireturn, 1) := by decide +kernel
set_option maxHeartbeats 4000000 in
set_option maxRecDepth 100000 in
theorem m_L_run (l : Launch) (hst : l.stackTraces = false) (G : Gx) (ad : Ad) (σ : Sg) (v1 : Int32) (q : Xr) (hf : f_X7_run σ v1 = some q) (hq : q.1 = 0 ∨ q.1 = 2) (cL : ClassId) (ao : Nat) (v0 : Int64) (sz : Nat) : L_M l yL_run cL_run 4 [(0, 9, 12, 13)] 9 188 1 6 G ad σ sz [.ref (ad 7 0), .int v1, .ref ao] cL ao (.inl v0) (L_k [(2, 1)] q.1) (if q.1 = 0 then .inl q.2.1.toInt64 else .inl v0) q.2.2 := by
  refine L_begin (by decide +kernel) rfl (Nat.le_of_ble_eq_true rfl) [(0, .ref (ad 7 0)), (1, .int v1), (2, .ref ao)] rfl (fun p e s m args below meth c ls C hz S O hl => ?_)
  subst hz
  obtain ⟨cq, rq, σq⟩ := q
  dsimp only at hq ⊢
  refine lv_aload_n C.1.1 C.1.2.1 dL_run_0 rfl (lv_at hl 2 rfl) ?_
  refine lv_iconst (v := 0) C.1.1 C.1.2.1 dL_run_1 (by decide) ?_
  refine lv_aload_n C.1.1 C.1.2.1 dL_run_2 rfl (lv_at hl 0 rfl) ?_
  refine lv_iload_n C.1.1 C.1.2.1 dL_run_3 rfl (lv_at hl 1 rfl) ?_
  refine L_callI C S O [.int v1] rfl (m_X7_run l hst G ad σ v1 (cq, rq, σq) hf _) kv_X7_run tw_5_31 ⟨(Nat.le_of_ble_eq_true rfl), (Nat.le_of_ble_eq_true rfl)⟩ rfl rfl (Nat.le_of_ble_eq_true rfl) hl.1 ⟨(Nat.le_of_ble_eq_true rfl), (Nat.le_of_ble_eq_true rfl)⟩ dL_run_4 (fun h0 ce q9 H locs S O hce hcv hcl => ?_) (fun h0 H locs S O => ?_)
  · rcases hq with rfl | rfl
    · exact absurd rfl h0
    · refine vx_catch (name := "java/lang/IllegalArgumentException") C.1.2.2.2.1 [] ⟨0, 9, 12, 13⟩ [] (by rw [C.2.1]; rfl) (fun z hz => nomatch hz) rfl (by decide) (C.1.2.2.2.2.1 _ tw_3_211) (L_cast C (List.mem_of_getElem? (i := 9) rfl)) hce hcv hcl ?_
      show W _ _ _ _ _ _ _ _ _ _ _ _ _ _ _ (F0 m 12 ls [.ref q9])
      refine lv_astore_n (lv' := [(3, .ref q9), (0, .ref (ad 7 0)), (1, .int v1), (2, .ref ao)]) C.1.1 C.1.2.1 dL_run_12 rfl hl (by decide) rfl (fun ls hl => ?_)
      refine lv_iconst (v := 1) C.1.1 C.1.2.1 dL_run_13 (by decide) ?_
      exact L_ret (k := 1) C S O (Nat.le_of_ble_eq_true rfl) (Nat.le_of_ble_eq_true rfl) dL_run_14
  · subst h0
    refine lv_i2l C.1.1 C.1.2.1 dL_run_7 rfl ?_
    refine L_last C S O dL_run_8 (fun H locs S O => ?_)
    refine lv_goto (tgt := 15) C.1.1 C.1.2.1 dL_run_9 (by decide) ?_
    refine lv_iconst (v := 0) C.1.1 C.1.2.1 dL_run_15 (by decide) ?_
    exact L_ret (k := 0) C S O (Nat.le_of_ble_eq_true rfl) (Nat.le_of_ble_eq_true rfl) dL_run_16
theorem dL_setStopped_0 : decode cL_setStopped 0 = .ok (.aload_n 3, 1) := by decide +kernel
theorem dL_setStopped_1 : decode cL_setStopped 1 = .ok (.iconst 0, 1) := by decide +kernel
theorem dL_setStopped_2 : decode cL_setStopped 2 = .ok (.aload_n 0, 1) := by decide +kernel
theorem dL_setStopped_3 : decode cL_setStopped 3 = .ok (.iload_n 1, 1) := by decide +kernel
theorem dL_setStopped_4 : decode cL_setStopped 4 = .ok (.iload_n 2, 1) := by decide +kernel
theorem dL_setStopped_5 : decode cL_setStopped 5 = .ok (.invokevirtual 71, 3) := by decide +kernel
theorem dL_setStopped_8 : decode cL_setStopped 8 = .ok (.ifCond .eq 7, 3) := by decide +kernel
theorem dL_setStopped_11 : decode cL_setStopped 11 = .ok (.lconst 1, 1) := by decide +kernel
theorem dL_setStopped_12 : decode cL_setStopped 12 = .ok (.goto 4, 3) := by decide +kernel
theorem dL_setStopped_15 : decode cL_setStopped 15 = .ok (.lconst 0, 1) := by decide +kernel
theorem dL_setStopped_16 : decode cL_setStopped 16 = .ok (.lastore, 1) := by decide +kernel
theorem dL_setStopped_17 : decode cL_setStopped 17 = .ok (.goto 7, 3) := by decide +kernel
theorem dL_setStopped_20 : decode cL_setStopped 20 = .ok (.astore 4, 2) := by decide +kernel
theorem dL_setStopped_22 : decode cL_setStopped 22 = .ok (.iconst 1, 1) := by decide +kernel
theorem dL_setStopped_23 : decode cL_setStopped 23 = .ok (.ireturn, 1) := by decide +kernel
theorem dL_setStopped_24 : decode cL_setStopped 24 = .ok (.iconst 0, 1) := by decide +kernel
theorem dL_setStopped_25 : decode cL_setStopped 25 = .ok (.ireturn, 1) := by decide +kernel
set_option maxHeartbeats 4000000 in
set_option maxRecDepth 100000 in
theorem m_L_setStopped (l : Launch) (hst : l.stackTraces = false) (G : Gx) (ad : Ad) (σ : Sg) (v1 : Int32) (v2 : Int32) (q : Xr) (hf : f_X7_setStopped σ v1 v2 = some q) (hq : q.1 = 0 ∨ q.1 = 1) (cL : ClassId) (ao : Nat) (v0 : Int64) (sz : Nat) : L_M l yL_setStopped cL_setStopped 5 [(0, 17, 20, 19)] 8 135 1 6 G ad σ sz [.ref (ad 7 0), .int v1, .int v2, .ref ao] cL ao (.inl v0) (L_k [(1, 1)] q.1) (if q.1 = 0 then .inl (if q.2.1 = 0 then 0 else 1) else .inl v0) q.2.2 := by
  refine L_begin (by decide +kernel) rfl (Nat.le_of_ble_eq_true rfl) [(0, .ref (ad 7 0)), (1, .int v1), (2, .int v2), (3, .ref ao)] rfl (fun p e s m args below meth c ls C hz S O hl => ?_)
  subst hz
  obtain ⟨cq, rq, σq⟩ := q
  dsimp only at hq ⊢
  refine lv_aload_n C.1.1 C.1.2.1 dL_setStopped_0 rfl (lv_at hl 3 rfl) ?_
  refine lv_iconst (v := 0) C.1.1 C.1.2.1 dL_setStopped_1 (by decide) ?_
  refine lv_aload_n C.1.1 C.1.2.1 dL_setStopped_2 rfl (lv_at hl 0 rfl) ?_
  refine lv_iload_n C.1.1 C.1.2.1 dL_setStopped_3 rfl (lv_at hl 1 rfl) ?_
  refine lv_iload_n C.1.1 C.1.2.1 dL_setStopped_4 rfl (lv_at hl 2 rfl) ?_
  refine L_callI C S O [.int v1, .int v2] rfl (m_X7_setStopped l hst G ad σ v1 v2 (cq, rq, σq) hf _) kv_X7_setStopped tw_5_165 ⟨(Nat.le_of_ble_eq_true rfl), (Nat.le_of_ble_eq_true rfl)⟩ rfl rfl (Nat.le_of_ble_eq_true rfl) hl.1 ⟨(Nat.le_of_ble_eq_true rfl), (Nat.le_of_ble_eq_true rfl)⟩ dL_setStopped_5 (fun h0 ce q9 H locs S O hce hcv hcl => ?_) (fun h0 H locs S O => ?_)
  · rcases hq with rfl | rfl
    · exact absurd rfl h0
    · refine vx_catch (name := "java/lang/IndexOutOfBoundsException") C.1.2.2.2.1 [] ⟨0, 17, 20, 19⟩ [] (by rw [C.2.1]; rfl) (fun z hz => nomatch hz) rfl (by decide) (C.1.2.2.2.2.1 _ tw_4_50) (L_cast C (List.mem_of_getElem? (i := 16) rfl)) hce hcv hcl ?_
      show W _ _ _ _ _ _ _ _ _ _ _ _ _ _ _ (F0 m 20 ls [.ref q9])
      refine lv_astore (lv' := [(4, .ref q9), (0, .ref (ad 7 0)), (1, .int v1), (2, .int v2), (3, .ref ao)]) C.1.1 C.1.2.1 dL_setStopped_20 hl (by decide) rfl (fun ls hl => ?_)
      refine lv_iconst (v := 1) C.1.1 C.1.2.1 dL_setStopped_22 (by decide) ?_
      exact L_ret (k := 1) C S O (Nat.le_of_ble_eq_true rfl) (Nat.le_of_ble_eq_true rfl) dL_setStopped_23
  · subst h0
    refine lv_if_eq (tgt := 15) C.1.1 C.1.2.1 dL_setStopped_8 (by decide) (fun c9 => ?_) (fun c9 => ?_)
    · rw [show (if (0 : Nat) = 0 then (Sum.inl (if rq = 0 then 0 else 1) : Int64 ⊕ UInt64) else Sum.inl v0) = Sum.inl 0 by rw [if_pos rfl, if_pos c9]]
      refine lv_lconst (v := 0) C.1.1 C.1.2.1 dL_setStopped_15 rfl ?_
      refine L_last C S O dL_setStopped_16 (fun H locs S O => ?_)
      refine lv_goto (tgt := 24) C.1.1 C.1.2.1 dL_setStopped_17 (by decide) ?_
      refine lv_iconst (v := 0) C.1.1 C.1.2.1 dL_setStopped_24 (by decide) ?_
      exact L_ret (k := 0) C S O (Nat.le_of_ble_eq_true rfl) (Nat.le_of_ble_eq_true rfl) dL_setStopped_25
    · rw [show (if (0 : Nat) = 0 then (Sum.inl (if rq = 0 then 0 else 1) : Int64 ⊕ UInt64) else Sum.inl v0) = Sum.inl 1 by rw [if_pos rfl, if_neg c9]]
      refine lv_lconst (v := 1) C.1.1 C.1.2.1 dL_setStopped_11 rfl ?_
      refine lv_goto (tgt := 16) C.1.1 C.1.2.1 dL_setStopped_12 (by decide) ?_
      refine L_last C S O dL_setStopped_16 (fun H locs S O => ?_)
      refine lv_goto (tgt := 24) C.1.1 C.1.2.1 dL_setStopped_17 (by decide) ?_
      refine lv_iconst (v := 0) C.1.1 C.1.2.1 dL_setStopped_24 (by decide) ?_
      exact L_ret (k := 0) C S O (Nat.le_of_ble_eq_true rfl) (Nat.le_of_ble_eq_true rfl) dL_setStopped_25
theorem dL_setJammed_0 : decode cL_setJammed 0 = .ok (.aload_n 3, 1) := by decide +kernel
theorem dL_setJammed_1 : decode cL_setJammed 1 = .ok (.iconst 0, 1) := by decide +kernel
theorem dL_setJammed_2 : decode cL_setJammed 2 = .ok (.aload_n 0, 1) := by decide +kernel
theorem dL_setJammed_3 : decode cL_setJammed 3 = .ok (.iload_n 1, 1) := by decide +kernel
theorem dL_setJammed_4 : decode cL_setJammed 4 = .ok (.iload_n 2, 1) := by decide +kernel
theorem dL_setJammed_5 : decode cL_setJammed 5 = .ok (.invokevirtual 75, 3) := by decide +kernel
theorem dL_setJammed_8 : decode cL_setJammed 8 = .ok (.ifCond .eq 7, 3) := by decide +kernel
theorem dL_setJammed_11 : decode cL_setJammed 11 = .ok (.lconst 1, 1) := by decide +kernel
theorem dL_setJammed_12 : decode cL_setJammed 12 = .ok (.goto 4, 3) := by decide +kernel
theorem dL_setJammed_15 : decode cL_setJammed 15 = .ok (.lconst 0, 1) := by decide +kernel
theorem dL_setJammed_16 : decode cL_setJammed 16 = .ok (.lastore, 1) := by decide +kernel
theorem dL_setJammed_17 : decode cL_setJammed 17 = .ok (.goto 7, 3) := by decide +kernel
theorem dL_setJammed_20 : decode cL_setJammed 20 = .ok (.astore 4, 2) := by decide +kernel
theorem dL_setJammed_22 : decode cL_setJammed 22 = .ok (.iconst 1, 1) := by decide +kernel
theorem dL_setJammed_23 : decode cL_setJammed 23 = .ok (.ireturn, 1) := by decide +kernel
theorem dL_setJammed_24 : decode cL_setJammed 24 = .ok (.iconst 0, 1) := by decide +kernel
theorem dL_setJammed_25 : decode cL_setJammed 25 = .ok (.ireturn, 1) := by decide +kernel
set_option maxHeartbeats 4000000 in
set_option maxRecDepth 100000 in
theorem m_L_setJammed (l : Launch) (hst : l.stackTraces = false) (G : Gx) (ad : Ad) (σ : Sg) (v1 : Int32) (v2 : Int32) (q : Xr) (hf : f_X7_setJammed σ v1 v2 = some q) (hq : q.1 = 0 ∨ q.1 = 1) (cL : ClassId) (ao : Nat) (v0 : Int64) (sz : Nat) : L_M l yL_setJammed cL_setJammed 5 [(0, 17, 20, 19)] 8 134 1 6 G ad σ sz [.ref (ad 7 0), .int v1, .int v2, .ref ao] cL ao (.inl v0) (L_k [(1, 1)] q.1) (if q.1 = 0 then .inl (if q.2.1 = 0 then 0 else 1) else .inl v0) q.2.2 := by
  refine L_begin (by decide +kernel) rfl (Nat.le_of_ble_eq_true rfl) [(0, .ref (ad 7 0)), (1, .int v1), (2, .int v2), (3, .ref ao)] rfl (fun p e s m args below meth c ls C hz S O hl => ?_)
  subst hz
  obtain ⟨cq, rq, σq⟩ := q
  dsimp only at hq ⊢
  refine lv_aload_n C.1.1 C.1.2.1 dL_setJammed_0 rfl (lv_at hl 3 rfl) ?_
  refine lv_iconst (v := 0) C.1.1 C.1.2.1 dL_setJammed_1 (by decide) ?_
  refine lv_aload_n C.1.1 C.1.2.1 dL_setJammed_2 rfl (lv_at hl 0 rfl) ?_
  refine lv_iload_n C.1.1 C.1.2.1 dL_setJammed_3 rfl (lv_at hl 1 rfl) ?_
  refine lv_iload_n C.1.1 C.1.2.1 dL_setJammed_4 rfl (lv_at hl 2 rfl) ?_
  refine L_callI C S O [.int v1, .int v2] rfl (m_X7_setJammed l hst G ad σ v1 v2 (cq, rq, σq) hf _) kv_X7_setJammed tw_5_176 ⟨(Nat.le_of_ble_eq_true rfl), (Nat.le_of_ble_eq_true rfl)⟩ rfl rfl (Nat.le_of_ble_eq_true rfl) hl.1 ⟨(Nat.le_of_ble_eq_true rfl), (Nat.le_of_ble_eq_true rfl)⟩ dL_setJammed_5 (fun h0 ce q9 H locs S O hce hcv hcl => ?_) (fun h0 H locs S O => ?_)
  · rcases hq with rfl | rfl
    · exact absurd rfl h0
    · refine vx_catch (name := "java/lang/IndexOutOfBoundsException") C.1.2.2.2.1 [] ⟨0, 17, 20, 19⟩ [] (by rw [C.2.1]; rfl) (fun z hz => nomatch hz) rfl (by decide) (C.1.2.2.2.2.1 _ tw_4_50) (L_cast C (List.mem_of_getElem? (i := 16) rfl)) hce hcv hcl ?_
      show W _ _ _ _ _ _ _ _ _ _ _ _ _ _ _ (F0 m 20 ls [.ref q9])
      refine lv_astore (lv' := [(4, .ref q9), (0, .ref (ad 7 0)), (1, .int v1), (2, .int v2), (3, .ref ao)]) C.1.1 C.1.2.1 dL_setJammed_20 hl (by decide) rfl (fun ls hl => ?_)
      refine lv_iconst (v := 1) C.1.1 C.1.2.1 dL_setJammed_22 (by decide) ?_
      exact L_ret (k := 1) C S O (Nat.le_of_ble_eq_true rfl) (Nat.le_of_ble_eq_true rfl) dL_setJammed_23
  · subst h0
    refine lv_if_eq (tgt := 15) C.1.1 C.1.2.1 dL_setJammed_8 (by decide) (fun c9 => ?_) (fun c9 => ?_)
    · rw [show (if (0 : Nat) = 0 then (Sum.inl (if rq = 0 then 0 else 1) : Int64 ⊕ UInt64) else Sum.inl v0) = Sum.inl 0 by rw [if_pos rfl, if_pos c9]]
      refine lv_lconst (v := 0) C.1.1 C.1.2.1 dL_setJammed_15 rfl ?_
      refine L_last C S O dL_setJammed_16 (fun H locs S O => ?_)
      refine lv_goto (tgt := 24) C.1.1 C.1.2.1 dL_setJammed_17 (by decide) ?_
      refine lv_iconst (v := 0) C.1.1 C.1.2.1 dL_setJammed_24 (by decide) ?_
      exact L_ret (k := 0) C S O (Nat.le_of_ble_eq_true rfl) (Nat.le_of_ble_eq_true rfl) dL_setJammed_25
    · rw [show (if (0 : Nat) = 0 then (Sum.inl (if rq = 0 then 0 else 1) : Int64 ⊕ UInt64) else Sum.inl v0) = Sum.inl 1 by rw [if_pos rfl, if_neg c9]]
      refine lv_lconst (v := 1) C.1.1 C.1.2.1 dL_setJammed_11 rfl ?_
      refine lv_goto (tgt := 16) C.1.1 C.1.2.1 dL_setJammed_12 (by decide) ?_
      refine L_last C S O dL_setJammed_16 (fun H locs S O => ?_)
      refine lv_goto (tgt := 24) C.1.1 C.1.2.1 dL_setJammed_17 (by decide) ?_
      refine lv_iconst (v := 0) C.1.1 C.1.2.1 dL_setJammed_24 (by decide) ?_
      exact L_ret (k := 0) C S O (Nat.le_of_ble_eq_true rfl) (Nat.le_of_ble_eq_true rfl) dL_setJammed_25
theorem dL_set_0 : decode cL_set 0 = .ok (.aload_n 3, 1) := by decide +kernel
theorem dL_set_1 : decode cL_set 1 = .ok (.iconst 0, 1) := by decide +kernel
theorem dL_set_2 : decode cL_set 2 = .ok (.aload_n 0, 1) := by decide +kernel
theorem dL_set_3 : decode cL_set 3 = .ok (.iload_n 1, 1) := by decide +kernel
theorem dL_set_4 : decode cL_set 4 = .ok (.iload_n 2, 1) := by decide +kernel
theorem dL_set_5 : decode cL_set 5 = .ok (.invokevirtual 78, 3) := by decide +kernel
theorem dL_set_8 : decode cL_set 8 = .ok (.i2l, 1) := by decide +kernel
theorem dL_set_9 : decode cL_set 9 = .ok (.lastore, 1) := by decide +kernel
theorem dL_set_10 : decode cL_set 10 = .ok (.goto 7, 3) := by decide +kernel
theorem dL_set_13 : decode cL_set 13 = .ok (.astore 4, 2) := by decide +kernel
theorem dL_set_15 : decode cL_set 15 = .ok (.iconst 1, 1) := by decide +kernel
theorem dL_set_16 : decode cL_set 16 = .ok (.ireturn, 1) := by decide +kernel
theorem dL_set_17 : decode cL_set 17 = .ok (.iconst 0, 1) := by decide +kernel
theorem dL_set_18 : decode cL_set 18 = .ok (.ireturn, 1) := by decide +kernel
set_option maxHeartbeats 4000000 in
set_option maxRecDepth 100000 in
theorem m_L_set (l : Launch) (hst : l.stackTraces = false) (G : Gx) (ad : Ad) (σ : Sg) (v1 : Int32) (v2 : Int32) (q : Xr) (hf : f_X7_set σ v1 v2 = some q) (hq : q.1 = 0 ∨ q.1 = 2) (cL : ClassId) (ao : Nat) (v0 : Int64) (sz : Nat) : L_M l yL_set cL_set 5 [(0, 10, 13, 13)] 8 135 2 12 G ad σ sz [.ref (ad 7 0), .int v1, .int v2, .ref ao] cL ao (.inl v0) (L_k [(2, 1)] q.1) (if q.1 = 0 then .inl q.2.1.toInt64 else .inl v0) q.2.2 := by
  refine L_begin (by decide +kernel) rfl (Nat.le_of_ble_eq_true rfl) [(0, .ref (ad 7 0)), (1, .int v1), (2, .int v2), (3, .ref ao)] rfl (fun p e s m args below meth c ls C hz S O hl => ?_)
  subst hz
  obtain ⟨cq, rq, σq⟩ := q
  dsimp only at hq ⊢
  refine lv_aload_n C.1.1 C.1.2.1 dL_set_0 rfl (lv_at hl 3 rfl) ?_
  refine lv_iconst (v := 0) C.1.1 C.1.2.1 dL_set_1 (by decide) ?_
  refine lv_aload_n C.1.1 C.1.2.1 dL_set_2 rfl (lv_at hl 0 rfl) ?_
  refine lv_iload_n C.1.1 C.1.2.1 dL_set_3 rfl (lv_at hl 1 rfl) ?_
  refine lv_iload_n C.1.1 C.1.2.1 dL_set_4 rfl (lv_at hl 2 rfl) ?_
  refine L_callI C S O [.int v1, .int v2] rfl (m_X7_set l hst G ad σ v1 v2 (cq, rq, σq) hf _) kv_X7_set tw_5_183 ⟨(Nat.le_of_ble_eq_true rfl), (Nat.le_of_ble_eq_true rfl)⟩ rfl rfl (Nat.le_of_ble_eq_true rfl) hl.1 ⟨(Nat.le_of_ble_eq_true rfl), (Nat.le_of_ble_eq_true rfl)⟩ dL_set_5 (fun h0 ce q9 H locs S O hce hcv hcl => ?_) (fun h0 H locs S O => ?_)
  · rcases hq with rfl | rfl
    · exact absurd rfl h0
    · refine vx_catch (name := "java/lang/IllegalArgumentException") C.1.2.2.2.1 [] ⟨0, 10, 13, 13⟩ [] (by rw [C.2.1]; rfl) (fun z hz => nomatch hz) rfl (by decide) (C.1.2.2.2.2.1 _ tw_3_211) (L_cast C (List.mem_of_getElem? (i := 9) rfl)) hce hcv hcl ?_
      show W _ _ _ _ _ _ _ _ _ _ _ _ _ _ _ (F0 m 13 ls [.ref q9])
      refine lv_astore (lv' := [(4, .ref q9), (0, .ref (ad 7 0)), (1, .int v1), (2, .int v2), (3, .ref ao)]) C.1.1 C.1.2.1 dL_set_13 hl (by decide) rfl (fun ls hl => ?_)
      refine lv_iconst (v := 1) C.1.1 C.1.2.1 dL_set_15 (by decide) ?_
      exact L_ret (k := 1) C S O (Nat.le_of_ble_eq_true rfl) (Nat.le_of_ble_eq_true rfl) dL_set_16
  · subst h0
    refine lv_i2l C.1.1 C.1.2.1 dL_set_8 rfl ?_
    refine L_last C S O dL_set_9 (fun H locs S O => ?_)
    refine lv_goto (tgt := 17) C.1.1 C.1.2.1 dL_set_10 (by decide) ?_
    refine lv_iconst (v := 0) C.1.1 C.1.2.1 dL_set_17 (by decide) ?_
    exact L_ret (k := 0) C S O (Nat.le_of_ble_eq_true rfl) (Nat.le_of_ble_eq_true rfl) dL_set_18
theorem dL_forget_0 : decode cL_forget 0 = .ok (.aload_n 3, 1) := by decide +kernel
theorem dL_forget_1 : decode cL_forget 1 = .ok (.iconst 0, 1) := by decide +kernel
theorem dL_forget_2 : decode cL_forget 2 = .ok (.aload_n 0, 1) := by decide +kernel
theorem dL_forget_3 : decode cL_forget 3 = .ok (.iload_n 1, 1) := by decide +kernel
theorem dL_forget_4 : decode cL_forget 4 = .ok (.iload_n 2, 1) := by decide +kernel
theorem dL_forget_5 : decode cL_forget 5 = .ok (.invokevirtual 81, 3) := by decide +kernel
theorem dL_forget_8 : decode cL_forget 8 = .ok (.i2l, 1) := by decide +kernel
theorem dL_forget_9 : decode cL_forget 9 = .ok (.lastore, 1) := by decide +kernel
theorem dL_forget_10 : decode cL_forget 10 = .ok (.goto 11, 3) := by decide +kernel
theorem dL_forget_13 : decode cL_forget 13 = .ok (.astore 4, 2) := by decide +kernel
theorem dL_forget_15 : decode cL_forget 15 = .ok (.iconst 1, 1) := by decide +kernel
theorem dL_forget_16 : decode cL_forget 16 = .ok (.ireturn, 1) := by decide +kernel
theorem dL_forget_17 : decode cL_forget 17 = .ok (.astore 4, 2) := by decide +kernel
theorem dL_forget_19 : decode cL_forget 19 = .ok (.iconst 2, 1) := by decide +kernel
theorem dL_forget_20 : decode cL_forget 20 = .ok (.ireturn, 1) := by decide +kernel
theorem dL_forget_21 : decode cL_forget 21 = .ok (.iconst 0, 1) := by decide +kernel
theorem dL_forget_22 : decode cL_forget 22 = .ok (.ireturn, 1) := by decide +kernel
set_option maxHeartbeats 4000000 in
set_option maxRecDepth 100000 in
theorem m_L_forget (l : Launch) (hst : l.stackTraces = false) (G : Gx) (ad : Ad) (σ : Sg) (v1 : Int32) (v2 : Int32) (q : Xr) (hf : f_X7_forget σ v1 v2 = some q) (hq : q.1 = 0 ∨ q.1 = 1 ∨ q.1 = 3) (cL : ClassId) (ao : Nat) (v0 : Int64) (sz : Nat) : L_M l yL_forget cL_forget 5 [(0, 10, 13, 19), (0, 10, 17, 66)] 8 133 3 18 G ad σ sz [.ref (ad 7 0), .int v1, .int v2, .ref ao] cL ao (.inl v0) (L_k [(1, 1), (3, 2)] q.1) (if q.1 = 0 then .inl q.2.1.toInt64 else .inl v0) q.2.2 := by
  refine L_begin (by decide +kernel) rfl (Nat.le_of_ble_eq_true rfl) [(0, .ref (ad 7 0)), (1, .int v1), (2, .int v2), (3, .ref ao)] rfl (fun p e s m args below meth c ls C hz S O hl => ?_)
  subst hz
  obtain ⟨cq, rq, σq⟩ := q
  dsimp only at hq ⊢
  refine lv_aload_n C.1.1 C.1.2.1 dL_forget_0 rfl (lv_at hl 3 rfl) ?_
  refine lv_iconst (v := 0) C.1.1 C.1.2.1 dL_forget_1 (by decide) ?_
  refine lv_aload_n C.1.1 C.1.2.1 dL_forget_2 rfl (lv_at hl 0 rfl) ?_
  refine lv_iload_n C.1.1 C.1.2.1 dL_forget_3 rfl (lv_at hl 1 rfl) ?_
  refine lv_iload_n C.1.1 C.1.2.1 dL_forget_4 rfl (lv_at hl 2 rfl) ?_
  refine L_callI C S O [.int v1, .int v2] rfl (m_X7_forget l hst G ad σ v1 v2 (cq, rq, σq) hf _) kv_X7_forget tw_5_192 ⟨(Nat.le_of_ble_eq_true rfl), (Nat.le_of_ble_eq_true rfl)⟩ rfl rfl (Nat.le_of_ble_eq_true rfl) hl.1 ⟨(Nat.le_of_ble_eq_true rfl), (Nat.le_of_ble_eq_true rfl)⟩ dL_forget_5 (fun h0 ce q9 H locs S O hce hcv hcl => ?_) (fun h0 H locs S O => ?_)
  · rcases hq with rfl | rfl | rfl
    · exact absurd rfl h0
    · refine vx_catch (name := "java/lang/IndexOutOfBoundsException") C.1.2.2.2.1 [] ⟨0, 10, 13, 19⟩ [⟨0, 10, 17, 66⟩] (by rw [C.2.1]; rfl) (fun z hz => nomatch hz) rfl (by decide) (C.1.2.2.2.2.1 _ tw_4_50) (L_cast C (List.mem_of_getElem? (i := 16) rfl)) hce hcv hcl ?_
      show W _ _ _ _ _ _ _ _ _ _ _ _ _ _ _ (F0 m 13 ls [.ref q9])
      refine lv_astore (lv' := [(4, .ref q9), (0, .ref (ad 7 0)), (1, .int v1), (2, .int v2), (3, .ref ao)]) C.1.1 C.1.2.1 dL_forget_13 hl (by decide) rfl (fun ls hl => ?_)
      refine lv_iconst (v := 1) C.1.1 C.1.2.1 dL_forget_15 (by decide) ?_
      exact L_ret (k := 1) C S O (Nat.le_of_ble_eq_true rfl) (Nat.le_of_ble_eq_true rfl) dL_forget_16
    · refine vx_catch (name := "java/lang/IllegalStateException") C.1.2.2.2.1 [⟨0, 10, 13, 19⟩] ⟨0, 10, 17, 66⟩ [] (by rw [C.2.1]; rfl) (fun z hz => by
      rcases List.mem_cons.mp hz with rfl | hz
      · exact Or.inr ⟨by decide, "java/lang/IndexOutOfBoundsException", C.1.2.2.2.2.1 _ tw_4_50, L_nc C (List.mem_of_getElem? (i := 2) rfl)⟩
      · exact nomatch hz) rfl (by decide) (C.1.2.2.2.2.1 _ tw_4_231) (L_cast C (List.mem_of_getElem? (i := 18) rfl)) hce hcv hcl ?_
      show W _ _ _ _ _ _ _ _ _ _ _ _ _ _ _ (F0 m 17 ls [.ref q9])
      refine lv_astore (lv' := [(4, .ref q9), (0, .ref (ad 7 0)), (1, .int v1), (2, .int v2), (3, .ref ao)]) C.1.1 C.1.2.1 dL_forget_17 hl (by decide) rfl (fun ls hl => ?_)
      refine lv_iconst (v := 2) C.1.1 C.1.2.1 dL_forget_19 (by decide) ?_
      exact L_ret (k := 2) C S O (Nat.le_of_ble_eq_true rfl) (Nat.le_of_ble_eq_true rfl) dL_forget_20
  · subst h0
    refine lv_i2l C.1.1 C.1.2.1 dL_forget_8 rfl ?_
    refine L_last C S O dL_forget_9 (fun H locs S O => ?_)
    refine lv_goto (tgt := 21) C.1.1 C.1.2.1 dL_forget_10 (by decide) ?_
    refine lv_iconst (v := 0) C.1.1 C.1.2.1 dL_forget_21 (by decide) ?_
    exact L_ret (k := 0) C S O (Nat.le_of_ble_eq_true rfl) (Nat.le_of_ble_eq_true rfl) dL_forget_22
theorem dL_ride_0 : decode cL_ride 0 = .ok (.aload_n 2, 1) := by decide +kernel
theorem dL_ride_1 : decode cL_ride 1 = .ok (.iconst 0, 1) := by decide +kernel
theorem dL_ride_2 : decode cL_ride 2 = .ok (.aload_n 0, 1) := by decide +kernel
theorem dL_ride_3 : decode cL_ride 3 = .ok (.iload_n 1, 1) := by decide +kernel
theorem dL_ride_4 : decode cL_ride 4 = .ok (.invokevirtual 84, 3) := by decide +kernel
theorem dL_ride_7 : decode cL_ride 7 = .ok (.i2l, 1) := by decide +kernel
theorem dL_ride_8 : decode cL_ride 8 = .ok (.lastore, 1) := by decide +kernel
theorem dL_ride_9 : decode cL_ride 9 = .ok (.goto 6, 3) := by decide +kernel
theorem dL_ride_12 : decode cL_ride 12 = .ok (.astore_n 3, 1) := by decide +kernel
theorem dL_ride_13 : decode cL_ride 13 = .ok (.iconst 1, 1) := by decide +kernel
theorem dL_ride_14 : decode cL_ride 14 = .ok (.ireturn, 1) := by decide +kernel
theorem dL_ride_15 : decode cL_ride 15 = .ok (.iconst 0, 1) := by decide +kernel
theorem dL_ride_16 : decode cL_ride 16 = .ok (.ireturn, 1) := by decide +kernel
set_option maxHeartbeats 4000000 in
set_option maxRecDepth 100000 in
theorem m_L_ride (l : Launch) (hst : l.stackTraces = false) (G : Gx) (ad : Ad) (σ : Sg) (v1 : Int32) (q : Xr) (hf : f_X7_ride σ v1 = some q) (hq : q.1 = 0 ∨ q.1 = 1) (cL : ClassId) (ao : Nat) (v0 : Int64) (sz : Nat) : L_M l yL_ride cL_ride 4 [(0, 9, 12, 19)] 8 132 1 6 G ad σ sz [.ref (ad 7 0), .int v1, .ref ao] cL ao (.inl v0) (L_k [(1, 1)] q.1) (if q.1 = 0 then .inl q.2.1.toInt64 else .inl v0) q.2.2 := by
  refine L_begin (by decide +kernel) rfl (Nat.le_of_ble_eq_true rfl) [(0, .ref (ad 7 0)), (1, .int v1), (2, .ref ao)] rfl (fun p e s m args below meth c ls C hz S O hl => ?_)
  subst hz
  obtain ⟨cq, rq, σq⟩ := q
  dsimp only at hq ⊢
  refine lv_aload_n C.1.1 C.1.2.1 dL_ride_0 rfl (lv_at hl 2 rfl) ?_
  refine lv_iconst (v := 0) C.1.1 C.1.2.1 dL_ride_1 (by decide) ?_
  refine lv_aload_n C.1.1 C.1.2.1 dL_ride_2 rfl (lv_at hl 0 rfl) ?_
  refine lv_iload_n C.1.1 C.1.2.1 dL_ride_3 rfl (lv_at hl 1 rfl) ?_
  refine L_callI C S O [.int v1] rfl (m_X7_ride l hst G ad σ v1 (cq, rq, σq) hf _) kv_X7_ride tw_5_201 ⟨(Nat.le_of_ble_eq_true rfl), (Nat.le_of_ble_eq_true rfl)⟩ rfl rfl (Nat.le_of_ble_eq_true rfl) hl.1 ⟨(Nat.le_of_ble_eq_true rfl), (Nat.le_of_ble_eq_true rfl)⟩ dL_ride_4 (fun h0 ce q9 H locs S O hce hcv hcl => ?_) (fun h0 H locs S O => ?_)
  · rcases hq with rfl | rfl
    · exact absurd rfl h0
    · refine vx_catch (name := "java/lang/IndexOutOfBoundsException") C.1.2.2.2.1 [] ⟨0, 9, 12, 19⟩ [] (by rw [C.2.1]; rfl) (fun z hz => nomatch hz) rfl (by decide) (C.1.2.2.2.2.1 _ tw_4_50) (L_cast C (List.mem_of_getElem? (i := 16) rfl)) hce hcv hcl ?_
      show W _ _ _ _ _ _ _ _ _ _ _ _ _ _ _ (F0 m 12 ls [.ref q9])
      refine lv_astore_n (lv' := [(3, .ref q9), (0, .ref (ad 7 0)), (1, .int v1), (2, .ref ao)]) C.1.1 C.1.2.1 dL_ride_12 rfl hl (by decide) rfl (fun ls hl => ?_)
      refine lv_iconst (v := 1) C.1.1 C.1.2.1 dL_ride_13 (by decide) ?_
      exact L_ret (k := 1) C S O (Nat.le_of_ble_eq_true rfl) (Nat.le_of_ble_eq_true rfl) dL_ride_14
  · subst h0
    refine lv_i2l C.1.1 C.1.2.1 dL_ride_7 rfl ?_
    refine L_last C S O dL_ride_8 (fun H locs S O => ?_)
    refine lv_goto (tgt := 15) C.1.1 C.1.2.1 dL_ride_9 (by decide) ?_
    refine lv_iconst (v := 0) C.1.1 C.1.2.1 dL_ride_15 (by decide) ?_
    exact L_ret (k := 0) C S O (Nat.le_of_ble_eq_true rfl) (Nat.le_of_ble_eq_true rfl) dL_ride_16
theorem dL_riders_0 : decode cL_riders 0 = .ok (.aload_n 2, 1) := by decide +kernel
theorem dL_riders_1 : decode cL_riders 1 = .ok (.iconst 0, 1) := by decide +kernel
theorem dL_riders_2 : decode cL_riders 2 = .ok (.aload_n 0, 1) := by decide +kernel
theorem dL_riders_3 : decode cL_riders 3 = .ok (.iload_n 1, 1) := by decide +kernel
theorem dL_riders_4 : decode cL_riders 4 = .ok (.invokevirtual 87, 3) := by decide +kernel
theorem dL_riders_7 : decode cL_riders 7 = .ok (.i2l, 1) := by decide +kernel
theorem dL_riders_8 : decode cL_riders 8 = .ok (.lastore, 1) := by decide +kernel
theorem dL_riders_9 : decode cL_riders 9 = .ok (.goto 6, 3) := by decide +kernel
theorem dL_riders_12 : decode cL_riders 12 = .ok (.astore_n 3, 1) := by decide +kernel
theorem dL_riders_13 : decode cL_riders 13 = .ok (.iconst 1, 1) := by decide +kernel
theorem dL_riders_14 : decode cL_riders 14 = .ok (.ireturn, 1) := by decide +kernel
theorem dL_riders_15 : decode cL_riders 15 = .ok (.iconst 0, 1) := by decide +kernel
theorem dL_riders_16 : decode cL_riders 16 = .ok (.ireturn, 1) := by decide +kernel
set_option maxHeartbeats 4000000 in
set_option maxRecDepth 100000 in
theorem m_L_riders (l : Launch) (hst : l.stackTraces = false) (G : Gx) (ad : Ad) (σ : Sg) (v1 : Int32) (q : Xr) (hf : f_X7_riders σ v1 = some q) (hq : q.1 = 0 ∨ q.1 = 1) (cL : ClassId) (ao : Nat) (v0 : Int64) (sz : Nat) : L_M l yL_riders cL_riders 4 [(0, 9, 12, 19)] 8 132 1 6 G ad σ sz [.ref (ad 7 0), .int v1, .ref ao] cL ao (.inl v0) (L_k [(1, 1)] q.1) (if q.1 = 0 then .inl q.2.1.toInt64 else .inl v0) q.2.2 := by
  refine L_begin (by decide +kernel) rfl (Nat.le_of_ble_eq_true rfl) [(0, .ref (ad 7 0)), (1, .int v1), (2, .ref ao)] rfl (fun p e s m args below meth c ls C hz S O hl => ?_)
  subst hz
  obtain ⟨cq, rq, σq⟩ := q
  dsimp only at hq ⊢
  refine lv_aload_n C.1.1 C.1.2.1 dL_riders_0 rfl (lv_at hl 2 rfl) ?_
  refine lv_iconst (v := 0) C.1.1 C.1.2.1 dL_riders_1 (by decide) ?_
  refine lv_aload_n C.1.1 C.1.2.1 dL_riders_2 rfl (lv_at hl 0 rfl) ?_
  refine lv_iload_n C.1.1 C.1.2.1 dL_riders_3 rfl (lv_at hl 1 rfl) ?_
  refine L_callI C S O [.int v1] rfl (m_X7_riders l hst G ad σ v1 (cq, rq, σq) hf _) kv_X7_riders tw_5_209 ⟨(Nat.le_of_ble_eq_true rfl), (Nat.le_of_ble_eq_true rfl)⟩ rfl rfl (Nat.le_of_ble_eq_true rfl) hl.1 ⟨(Nat.le_of_ble_eq_true rfl), (Nat.le_of_ble_eq_true rfl)⟩ dL_riders_4 (fun h0 ce q9 H locs S O hce hcv hcl => ?_) (fun h0 H locs S O => ?_)
  · rcases hq with rfl | rfl
    · exact absurd rfl h0
    · refine vx_catch (name := "java/lang/IndexOutOfBoundsException") C.1.2.2.2.1 [] ⟨0, 9, 12, 19⟩ [] (by rw [C.2.1]; rfl) (fun z hz => nomatch hz) rfl (by decide) (C.1.2.2.2.2.1 _ tw_4_50) (L_cast C (List.mem_of_getElem? (i := 16) rfl)) hce hcv hcl ?_
      show W _ _ _ _ _ _ _ _ _ _ _ _ _ _ _ (F0 m 12 ls [.ref q9])
      refine lv_astore_n (lv' := [(3, .ref q9), (0, .ref (ad 7 0)), (1, .int v1), (2, .ref ao)]) C.1.1 C.1.2.1 dL_riders_12 rfl hl (by decide) rfl (fun ls hl => ?_)
      refine lv_iconst (v := 1) C.1.1 C.1.2.1 dL_riders_13 (by decide) ?_
      exact L_ret (k := 1) C S O (Nat.le_of_ble_eq_true rfl) (Nat.le_of_ble_eq_true rfl) dL_riders_14
  · subst h0
    refine lv_i2l C.1.1 C.1.2.1 dL_riders_7 rfl ?_
    refine L_last C S O dL_riders_8 (fun H locs S O => ?_)
    refine lv_goto (tgt := 15) C.1.1 C.1.2.1 dL_riders_9 (by decide) ?_
    refine lv_iconst (v := 0) C.1.1 C.1.2.1 dL_riders_15 (by decide) ?_
    exact L_ret (k := 0) C S O (Nat.le_of_ble_eq_true rfl) (Nat.le_of_ble_eq_true rfl) dL_riders_16
theorem dL_served_0 : decode cL_served 0 = .ok (.aload_n 2, 1) := by decide +kernel
theorem dL_served_1 : decode cL_served 1 = .ok (.iconst 0, 1) := by decide +kernel
theorem dL_served_2 : decode cL_served 2 = .ok (.aload_n 0, 1) := by decide +kernel
theorem dL_served_3 : decode cL_served 3 = .ok (.iload_n 1, 1) := by decide +kernel
theorem dL_served_4 : decode cL_served 4 = .ok (.invokevirtual 90, 3) := by decide +kernel
theorem dL_served_7 : decode cL_served 7 = .ok (.i2l, 1) := by decide +kernel
theorem dL_served_8 : decode cL_served 8 = .ok (.lastore, 1) := by decide +kernel
theorem dL_served_9 : decode cL_served 9 = .ok (.goto 6, 3) := by decide +kernel
theorem dL_served_12 : decode cL_served 12 = .ok (.astore_n 3, 1) := by decide +kernel
theorem dL_served_13 : decode cL_served 13 = .ok (.iconst 1, 1) := by decide +kernel
theorem dL_served_14 : decode cL_served 14 = .ok (.ireturn, 1) := by decide +kernel
theorem dL_served_15 : decode cL_served 15 = .ok (.iconst 0, 1) := by decide +kernel
theorem dL_served_16 : decode cL_served 16 = .ok (.ireturn, 1) := by decide +kernel
set_option maxHeartbeats 4000000 in
set_option maxRecDepth 100000 in
theorem m_L_served (l : Launch) (hst : l.stackTraces = false) (G : Gx) (ad : Ad) (σ : Sg) (v1 : Int32) (q : Xr) (hf : f_X7_served σ v1 = some q) (hq : q.1 = 0 ∨ q.1 = 1) (cL : ClassId) (ao : Nat) (v0 : Int64) (sz : Nat) : L_M l yL_served cL_served 4 [(0, 9, 12, 19)] 8 134 1 6 G ad σ sz [.ref (ad 7 0), .int v1, .ref ao] cL ao (.inl v0) (L_k [(1, 1)] q.1) (if q.1 = 0 then .inl q.2.1.toInt64 else .inl v0) q.2.2 := by
  refine L_begin (by decide +kernel) rfl (Nat.le_of_ble_eq_true rfl) [(0, .ref (ad 7 0)), (1, .int v1), (2, .ref ao)] rfl (fun p e s m args below meth c ls C hz S O hl => ?_)
  subst hz
  obtain ⟨cq, rq, σq⟩ := q
  dsimp only at hq ⊢
  refine lv_aload_n C.1.1 C.1.2.1 dL_served_0 rfl (lv_at hl 2 rfl) ?_
  refine lv_iconst (v := 0) C.1.1 C.1.2.1 dL_served_1 (by decide) ?_
  refine lv_aload_n C.1.1 C.1.2.1 dL_served_2 rfl (lv_at hl 0 rfl) ?_
  refine lv_iload_n C.1.1 C.1.2.1 dL_served_3 rfl (lv_at hl 1 rfl) ?_
  refine L_callI C S O [.int v1] rfl (m_X7_served l hst G ad σ v1 (cq, rq, σq) hf _) kv_X7_served tw_5_216 ⟨(Nat.le_of_ble_eq_true rfl), (Nat.le_of_ble_eq_true rfl)⟩ rfl rfl (Nat.le_of_ble_eq_true rfl) hl.1 ⟨(Nat.le_of_ble_eq_true rfl), (Nat.le_of_ble_eq_true rfl)⟩ dL_served_4 (fun h0 ce q9 H locs S O hce hcv hcl => ?_) (fun h0 H locs S O => ?_)
  · rcases hq with rfl | rfl
    · exact absurd rfl h0
    · refine vx_catch (name := "java/lang/IndexOutOfBoundsException") C.1.2.2.2.1 [] ⟨0, 9, 12, 19⟩ [] (by rw [C.2.1]; rfl) (fun z hz => nomatch hz) rfl (by decide) (C.1.2.2.2.2.1 _ tw_4_50) (L_cast C (List.mem_of_getElem? (i := 16) rfl)) hce hcv hcl ?_
      show W _ _ _ _ _ _ _ _ _ _ _ _ _ _ _ (F0 m 12 ls [.ref q9])
      refine lv_astore_n (lv' := [(3, .ref q9), (0, .ref (ad 7 0)), (1, .int v1), (2, .ref ao)]) C.1.1 C.1.2.1 dL_served_12 rfl hl (by decide) rfl (fun ls hl => ?_)
      refine lv_iconst (v := 1) C.1.1 C.1.2.1 dL_served_13 (by decide) ?_
      exact L_ret (k := 1) C S O (Nat.le_of_ble_eq_true rfl) (Nat.le_of_ble_eq_true rfl) dL_served_14
  · subst h0
    refine lv_i2l C.1.1 C.1.2.1 dL_served_7 rfl ?_
    refine L_last C S O dL_served_8 (fun H locs S O => ?_)
    refine lv_goto (tgt := 15) C.1.1 C.1.2.1 dL_served_9 (by decide) ?_
    refine lv_iconst (v := 0) C.1.1 C.1.2.1 dL_served_15 (by decide) ?_
    exact L_ret (k := 0) C S O (Nat.le_of_ble_eq_true rfl) (Nat.le_of_ble_eq_true rfl) dL_served_16
theorem dL_knownBest_0 : decode cL_knownBest 0 = .ok (.aload_n 3, 1) := by decide +kernel
theorem dL_knownBest_1 : decode cL_knownBest 1 = .ok (.iconst 0, 1) := by decide +kernel
theorem dL_knownBest_2 : decode cL_knownBest 2 = .ok (.aload_n 0, 1) := by decide +kernel
theorem dL_knownBest_3 : decode cL_knownBest 3 = .ok (.iload_n 1, 1) := by decide +kernel
theorem dL_knownBest_4 : decode cL_knownBest 4 = .ok (.iload_n 2, 1) := by decide +kernel
theorem dL_knownBest_5 : decode cL_knownBest 5 = .ok (.invokevirtual 93, 3) := by decide +kernel
theorem dL_knownBest_8 : decode cL_knownBest 8 = .ok (.i2l, 1) := by decide +kernel
theorem dL_knownBest_9 : decode cL_knownBest 9 = .ok (.lastore, 1) := by decide +kernel
theorem dL_knownBest_10 : decode cL_knownBest 10 = .ok (.goto 7, 3) := by decide +kernel
theorem dL_knownBest_13 : decode cL_knownBest 13 = .ok (.astore 4, 2) := by decide +kernel
theorem dL_knownBest_15 : decode cL_knownBest 15 = .ok (.iconst 1, 1) := by decide +kernel
theorem dL_knownBest_16 : decode cL_knownBest 16 = .ok (.ireturn, 1) := by decide +kernel
theorem dL_knownBest_17 : decode cL_knownBest 17 = .ok (.iconst 0, 1) := by decide +kernel
theorem dL_knownBest_18 : decode cL_knownBest 18 = .ok (.ireturn, 1) := by decide +kernel
set_option maxHeartbeats 4000000 in
set_option maxRecDepth 100000 in
theorem m_L_knownBest (l : Launch) (hst : l.stackTraces = false) (G : Gx) (ad : Ad) (σ : Sg) (v1 : Int32) (v2 : Int32) (q : Xr) (hf : f_X7_knownBest σ v1 v2 = some q) (hq : q.1 = 0 ∨ q.1 = 1) (cL : ClassId) (ao : Nat) (v0 : Int64) (sz : Nat) : L_M l yL_knownBest cL_knownBest 5 [(0, 10, 13, 19)] 8 138 2 12 G ad σ sz [.ref (ad 7 0), .int v1, .int v2, .ref ao] cL ao (.inl v0) (L_k [(1, 1)] q.1) (if q.1 = 0 then .inl q.2.1.toInt64 else .inl v0) q.2.2 := by
  refine L_begin (by decide +kernel) rfl (Nat.le_of_ble_eq_true rfl) [(0, .ref (ad 7 0)), (1, .int v1), (2, .int v2), (3, .ref ao)] rfl (fun p e s m args below meth c ls C hz S O hl => ?_)
  subst hz
  obtain ⟨cq, rq, σq⟩ := q
  dsimp only at hq ⊢
  refine lv_aload_n C.1.1 C.1.2.1 dL_knownBest_0 rfl (lv_at hl 3 rfl) ?_
  refine lv_iconst (v := 0) C.1.1 C.1.2.1 dL_knownBest_1 (by decide) ?_
  refine lv_aload_n C.1.1 C.1.2.1 dL_knownBest_2 rfl (lv_at hl 0 rfl) ?_
  refine lv_iload_n C.1.1 C.1.2.1 dL_knownBest_3 rfl (lv_at hl 1 rfl) ?_
  refine lv_iload_n C.1.1 C.1.2.1 dL_knownBest_4 rfl (lv_at hl 2 rfl) ?_
  refine L_callI C S O [.int v1, .int v2] rfl (m_X7_knownBest l hst G ad σ v1 v2 (cq, rq, σq) hf _) kv_X7_knownBest tw_5_223 ⟨(Nat.le_of_ble_eq_true rfl), (Nat.le_of_ble_eq_true rfl)⟩ rfl rfl (Nat.le_of_ble_eq_true rfl) hl.1 ⟨(Nat.le_of_ble_eq_true rfl), (Nat.le_of_ble_eq_true rfl)⟩ dL_knownBest_5 (fun h0 ce q9 H locs S O hce hcv hcl => ?_) (fun h0 H locs S O => ?_)
  · rcases hq with rfl | rfl
    · exact absurd rfl h0
    · refine vx_catch (name := "java/lang/IndexOutOfBoundsException") C.1.2.2.2.1 [] ⟨0, 10, 13, 19⟩ [] (by rw [C.2.1]; rfl) (fun z hz => nomatch hz) rfl (by decide) (C.1.2.2.2.2.1 _ tw_4_50) (L_cast C (List.mem_of_getElem? (i := 16) rfl)) hce hcv hcl ?_
      show W _ _ _ _ _ _ _ _ _ _ _ _ _ _ _ (F0 m 13 ls [.ref q9])
      refine lv_astore (lv' := [(4, .ref q9), (0, .ref (ad 7 0)), (1, .int v1), (2, .int v2), (3, .ref ao)]) C.1.1 C.1.2.1 dL_knownBest_13 hl (by decide) rfl (fun ls hl => ?_)
      refine lv_iconst (v := 1) C.1.1 C.1.2.1 dL_knownBest_15 (by decide) ?_
      exact L_ret (k := 1) C S O (Nat.le_of_ble_eq_true rfl) (Nat.le_of_ble_eq_true rfl) dL_knownBest_16
  · subst h0
    refine lv_i2l C.1.1 C.1.2.1 dL_knownBest_8 rfl ?_
    refine L_last C S O dL_knownBest_9 (fun H locs S O => ?_)
    refine lv_goto (tgt := 17) C.1.1 C.1.2.1 dL_knownBest_10 (by decide) ?_
    refine lv_iconst (v := 0) C.1.1 C.1.2.1 dL_knownBest_17 (by decide) ?_
    exact L_ret (k := 0) C S O (Nat.le_of_ble_eq_true rfl) (Nat.le_of_ble_eq_true rfl) dL_knownBest_18
theorem dL_cheapest_0 : decode cL_cheapest 0 = .ok (.aload_n 2, 1) := by decide +kernel
theorem dL_cheapest_1 : decode cL_cheapest 1 = .ok (.iconst 0, 1) := by decide +kernel
theorem dL_cheapest_2 : decode cL_cheapest 2 = .ok (.aload_n 0, 1) := by decide +kernel
theorem dL_cheapest_3 : decode cL_cheapest 3 = .ok (.iload_n 1, 1) := by decide +kernel
theorem dL_cheapest_4 : decode cL_cheapest 4 = .ok (.invokevirtual 96, 3) := by decide +kernel
theorem dL_cheapest_7 : decode cL_cheapest 7 = .ok (.i2l, 1) := by decide +kernel
theorem dL_cheapest_8 : decode cL_cheapest 8 = .ok (.lastore, 1) := by decide +kernel
theorem dL_cheapest_9 : decode cL_cheapest 9 = .ok (.goto 6, 3) := by decide +kernel
theorem dL_cheapest_12 : decode cL_cheapest 12 = .ok (.astore_n 3, 1) := by decide +kernel
theorem dL_cheapest_13 : decode cL_cheapest 13 = .ok (.iconst 1, 1) := by decide +kernel
theorem dL_cheapest_14 : decode cL_cheapest 14 = .ok (.ireturn, 1) := by decide +kernel
theorem dL_cheapest_15 : decode cL_cheapest 15 = .ok (.iconst 0, 1) := by decide +kernel
theorem dL_cheapest_16 : decode cL_cheapest 16 = .ok (.ireturn, 1) := by decide +kernel
set_option maxHeartbeats 4000000 in
set_option maxRecDepth 100000 in
theorem m_L_cheapest (l : Launch) (hst : l.stackTraces = false) (G : Gx) (ad : Ad) (σ : Sg) (v1 : Int32) (q : Xr) (hf : f_X7_cheapest σ v1 = some q) (hq : q.1 = 0 ∨ q.1 = 2) (cL : ClassId) (ao : Nat) (v0 : Int64) (sz : Nat) : L_M l yL_cheapest cL_cheapest 4 [(0, 9, 12, 13)] 8 136 1 6 G ad σ sz [.ref (ad 7 0), .int v1, .ref ao] cL ao (.inl v0) (L_k [(2, 1)] q.1) (if q.1 = 0 then .inl q.2.1.toInt64 else .inl v0) q.2.2 := by
  refine L_begin (by decide +kernel) rfl (Nat.le_of_ble_eq_true rfl) [(0, .ref (ad 7 0)), (1, .int v1), (2, .ref ao)] rfl (fun p e s m args below meth c ls C hz S O hl => ?_)
  subst hz
  obtain ⟨cq, rq, σq⟩ := q
  dsimp only at hq ⊢
  refine lv_aload_n C.1.1 C.1.2.1 dL_cheapest_0 rfl (lv_at hl 2 rfl) ?_
  refine lv_iconst (v := 0) C.1.1 C.1.2.1 dL_cheapest_1 (by decide) ?_
  refine lv_aload_n C.1.1 C.1.2.1 dL_cheapest_2 rfl (lv_at hl 0 rfl) ?_
  refine lv_iload_n C.1.1 C.1.2.1 dL_cheapest_3 rfl (lv_at hl 1 rfl) ?_
  refine L_callI C S O [.int v1] rfl (m_X7_cheapest l hst G ad σ v1 (cq, rq, σq) hf _) kv_X7_cheapest tw_5_230 ⟨(Nat.le_of_ble_eq_true rfl), (Nat.le_of_ble_eq_true rfl)⟩ rfl rfl (Nat.le_of_ble_eq_true rfl) hl.1 ⟨(Nat.le_of_ble_eq_true rfl), (Nat.le_of_ble_eq_true rfl)⟩ dL_cheapest_4 (fun h0 ce q9 H locs S O hce hcv hcl => ?_) (fun h0 H locs S O => ?_)
  · rcases hq with rfl | rfl
    · exact absurd rfl h0
    · refine vx_catch (name := "java/lang/IllegalArgumentException") C.1.2.2.2.1 [] ⟨0, 9, 12, 13⟩ [] (by rw [C.2.1]; rfl) (fun z hz => nomatch hz) rfl (by decide) (C.1.2.2.2.2.1 _ tw_3_211) (L_cast C (List.mem_of_getElem? (i := 9) rfl)) hce hcv hcl ?_
      show W _ _ _ _ _ _ _ _ _ _ _ _ _ _ _ (F0 m 12 ls [.ref q9])
      refine lv_astore_n (lv' := [(3, .ref q9), (0, .ref (ad 7 0)), (1, .int v1), (2, .ref ao)]) C.1.1 C.1.2.1 dL_cheapest_12 rfl hl (by decide) rfl (fun ls hl => ?_)
      refine lv_iconst (v := 1) C.1.1 C.1.2.1 dL_cheapest_13 (by decide) ?_
      exact L_ret (k := 1) C S O (Nat.le_of_ble_eq_true rfl) (Nat.le_of_ble_eq_true rfl) dL_cheapest_14
  · subst h0
    refine lv_i2l C.1.1 C.1.2.1 dL_cheapest_7 rfl ?_
    refine L_last C S O dL_cheapest_8 (fun H locs S O => ?_)
    refine lv_goto (tgt := 15) C.1.1 C.1.2.1 dL_cheapest_9 (by decide) ?_
    refine lv_iconst (v := 0) C.1.1 C.1.2.1 dL_cheapest_15 (by decide) ?_
    exact L_ret (k := 0) C S O (Nat.le_of_ble_eq_true rfl) (Nat.le_of_ble_eq_true rfl) dL_cheapest_16
theorem dL_claimLeft_0 : decode cL_claimLeft 0 = .ok (.aload_n 2, 1) := by decide +kernel
theorem dL_claimLeft_1 : decode cL_claimLeft 1 = .ok (.iconst 0, 1) := by decide +kernel
theorem dL_claimLeft_2 : decode cL_claimLeft 2 = .ok (.aload_n 0, 1) := by decide +kernel
theorem dL_claimLeft_3 : decode cL_claimLeft 3 = .ok (.iload_n 1, 1) := by decide +kernel
theorem dL_claimLeft_4 : decode cL_claimLeft 4 = .ok (.invokevirtual 99, 3) := by decide +kernel
theorem dL_claimLeft_7 : decode cL_claimLeft 7 = .ok (.i2l, 1) := by decide +kernel
theorem dL_claimLeft_8 : decode cL_claimLeft 8 = .ok (.lastore, 1) := by decide +kernel
theorem dL_claimLeft_9 : decode cL_claimLeft 9 = .ok (.goto 6, 3) := by decide +kernel
theorem dL_claimLeft_12 : decode cL_claimLeft 12 = .ok (.astore_n 3, 1) := by decide +kernel
theorem dL_claimLeft_13 : decode cL_claimLeft 13 = .ok (.iconst 1, 1) := by decide +kernel
theorem dL_claimLeft_14 : decode cL_claimLeft 14 = .ok (.ireturn, 1) := by decide +kernel
theorem dL_claimLeft_15 : decode cL_claimLeft 15 = .ok (.iconst 0, 1) := by decide +kernel
theorem dL_claimLeft_16 : decode cL_claimLeft 16 = .ok (.ireturn, 1) := by decide +kernel
set_option maxHeartbeats 4000000 in
set_option maxRecDepth 100000 in
theorem m_L_claimLeft (l : Launch) (hst : l.stackTraces = false) (G : Gx) (ad : Ad) (σ : Sg) (v1 : Int32) (q : Xr) (hf : f_X7_claimLeft σ v1 = some q) (hq : q.1 = 0 ∨ q.1 = 1) (cL : ClassId) (ao : Nat) (v0 : Int64) (sz : Nat) : L_M l yL_claimLeft cL_claimLeft 4 [(0, 9, 12, 19)] 8 133 1 6 G ad σ sz [.ref (ad 7 0), .int v1, .ref ao] cL ao (.inl v0) (L_k [(1, 1)] q.1) (if q.1 = 0 then .inl q.2.1.toInt64 else .inl v0) q.2.2 := by
  refine L_begin (by decide +kernel) rfl (Nat.le_of_ble_eq_true rfl) [(0, .ref (ad 7 0)), (1, .int v1), (2, .ref ao)] rfl (fun p e s m args below meth c ls C hz S O hl => ?_)
  subst hz
  obtain ⟨cq, rq, σq⟩ := q
  dsimp only at hq ⊢
  refine lv_aload_n C.1.1 C.1.2.1 dL_claimLeft_0 rfl (lv_at hl 2 rfl) ?_
  refine lv_iconst (v := 0) C.1.1 C.1.2.1 dL_claimLeft_1 (by decide) ?_
  refine lv_aload_n C.1.1 C.1.2.1 dL_claimLeft_2 rfl (lv_at hl 0 rfl) ?_
  refine lv_iload_n C.1.1 C.1.2.1 dL_claimLeft_3 rfl (lv_at hl 1 rfl) ?_
  refine L_callI C S O [.int v1] rfl (m_X7_claimLeft l hst G ad σ v1 (cq, rq, σq) hf _) kv_X7_claimLeft tw_5_237 ⟨(Nat.le_of_ble_eq_true rfl), (Nat.le_of_ble_eq_true rfl)⟩ rfl rfl (Nat.le_of_ble_eq_true rfl) hl.1 ⟨(Nat.le_of_ble_eq_true rfl), (Nat.le_of_ble_eq_true rfl)⟩ dL_claimLeft_4 (fun h0 ce q9 H locs S O hce hcv hcl => ?_) (fun h0 H locs S O => ?_)
  · rcases hq with rfl | rfl
    · exact absurd rfl h0
    · refine vx_catch (name := "java/lang/IndexOutOfBoundsException") C.1.2.2.2.1 [] ⟨0, 9, 12, 19⟩ [] (by rw [C.2.1]; rfl) (fun z hz => nomatch hz) rfl (by decide) (C.1.2.2.2.2.1 _ tw_4_50) (L_cast C (List.mem_of_getElem? (i := 16) rfl)) hce hcv hcl ?_
      show W _ _ _ _ _ _ _ _ _ _ _ _ _ _ _ (F0 m 12 ls [.ref q9])
      refine lv_astore_n (lv' := [(3, .ref q9), (0, .ref (ad 7 0)), (1, .int v1), (2, .ref ao)]) C.1.1 C.1.2.1 dL_claimLeft_12 rfl hl (by decide) rfl (fun ls hl => ?_)
      refine lv_iconst (v := 1) C.1.1 C.1.2.1 dL_claimLeft_13 (by decide) ?_
      exact L_ret (k := 1) C S O (Nat.le_of_ble_eq_true rfl) (Nat.le_of_ble_eq_true rfl) dL_claimLeft_14
  · subst h0
    refine lv_i2l C.1.1 C.1.2.1 dL_claimLeft_7 rfl ?_
    refine L_last C S O dL_claimLeft_8 (fun H locs S O => ?_)
    refine lv_goto (tgt := 15) C.1.1 C.1.2.1 dL_claimLeft_9 (by decide) ?_
    refine lv_iconst (v := 0) C.1.1 C.1.2.1 dL_claimLeft_15 (by decide) ?_
    exact L_ret (k := 0) C S O (Nat.le_of_ble_eq_true rfl) (Nat.le_of_ble_eq_true rfl) dL_claimLeft_16
theorem dL_lateIn_0 : decode cL_lateIn 0 = .ok (.aload_n 2, 1) := by decide +kernel
theorem dL_lateIn_1 : decode cL_lateIn 1 = .ok (.iconst 0, 1) := by decide +kernel
theorem dL_lateIn_2 : decode cL_lateIn 2 = .ok (.aload_n 0, 1) := by decide +kernel
theorem dL_lateIn_3 : decode cL_lateIn 3 = .ok (.iload_n 1, 1) := by decide +kernel
theorem dL_lateIn_4 : decode cL_lateIn 4 = .ok (.invokevirtual 102, 3) := by decide +kernel
theorem dL_lateIn_7 : decode cL_lateIn 7 = .ok (.i2l, 1) := by decide +kernel
theorem dL_lateIn_8 : decode cL_lateIn 8 = .ok (.lastore, 1) := by decide +kernel
theorem dL_lateIn_9 : decode cL_lateIn 9 = .ok (.goto 6, 3) := by decide +kernel
theorem dL_lateIn_12 : decode cL_lateIn 12 = .ok (.astore_n 3, 1) := by decide +kernel
theorem dL_lateIn_13 : decode cL_lateIn 13 = .ok (.iconst 1, 1) := by decide +kernel
theorem dL_lateIn_14 : decode cL_lateIn 14 = .ok (.ireturn, 1) := by decide +kernel
theorem dL_lateIn_15 : decode cL_lateIn 15 = .ok (.iconst 0, 1) := by decide +kernel
theorem dL_lateIn_16 : decode cL_lateIn 16 = .ok (.ireturn, 1) := by decide +kernel
set_option maxHeartbeats 4000000 in
set_option maxRecDepth 100000 in
theorem m_L_lateIn (l : Launch) (hst : l.stackTraces = false) (G : Gx) (ad : Ad) (σ : Sg) (v1 : Int32) (q : Xr) (hf : f_X7_lateIn σ v1 = some q) (hq : q.1 = 0 ∨ q.1 = 2) (cL : ClassId) (ao : Nat) (v0 : Int64) (sz : Nat) : L_M l yL_lateIn cL_lateIn 4 [(0, 9, 12, 13)] 9 187 1 6 G ad σ sz [.ref (ad 7 0), .int v1, .ref ao] cL ao (.inl v0) (L_k [(2, 1)] q.1) (if q.1 = 0 then .inl q.2.1.toInt64 else .inl v0) q.2.2 := by
  refine L_begin (by decide +kernel) rfl (Nat.le_of_ble_eq_true rfl) [(0, .ref (ad 7 0)), (1, .int v1), (2, .ref ao)] rfl (fun p e s m args below meth c ls C hz S O hl => ?_)
  subst hz
  obtain ⟨cq, rq, σq⟩ := q
  dsimp only at hq ⊢
  refine lv_aload_n C.1.1 C.1.2.1 dL_lateIn_0 rfl (lv_at hl 2 rfl) ?_
  refine lv_iconst (v := 0) C.1.1 C.1.2.1 dL_lateIn_1 (by decide) ?_
  refine lv_aload_n C.1.1 C.1.2.1 dL_lateIn_2 rfl (lv_at hl 0 rfl) ?_
  refine lv_iload_n C.1.1 C.1.2.1 dL_lateIn_3 rfl (lv_at hl 1 rfl) ?_
  refine L_callI C S O [.int v1] rfl (m_X7_lateIn l hst G ad σ v1 (cq, rq, σq) hf _) kv_X7_lateIn tw_6_5 ⟨(Nat.le_of_ble_eq_true rfl), (Nat.le_of_ble_eq_true rfl)⟩ rfl rfl (Nat.le_of_ble_eq_true rfl) hl.1 ⟨(Nat.le_of_ble_eq_true rfl), (Nat.le_of_ble_eq_true rfl)⟩ dL_lateIn_4 (fun h0 ce q9 H locs S O hce hcv hcl => ?_) (fun h0 H locs S O => ?_)
  · rcases hq with rfl | rfl
    · exact absurd rfl h0
    · refine vx_catch (name := "java/lang/IllegalArgumentException") C.1.2.2.2.1 [] ⟨0, 9, 12, 13⟩ [] (by rw [C.2.1]; rfl) (fun z hz => nomatch hz) rfl (by decide) (C.1.2.2.2.2.1 _ tw_3_211) (L_cast C (List.mem_of_getElem? (i := 9) rfl)) hce hcv hcl ?_
      show W _ _ _ _ _ _ _ _ _ _ _ _ _ _ _ (F0 m 12 ls [.ref q9])
      refine lv_astore_n (lv' := [(3, .ref q9), (0, .ref (ad 7 0)), (1, .int v1), (2, .ref ao)]) C.1.1 C.1.2.1 dL_lateIn_12 rfl hl (by decide) rfl (fun ls hl => ?_)
      refine lv_iconst (v := 1) C.1.1 C.1.2.1 dL_lateIn_13 (by decide) ?_
      exact L_ret (k := 1) C S O (Nat.le_of_ble_eq_true rfl) (Nat.le_of_ble_eq_true rfl) dL_lateIn_14
  · subst h0
    refine lv_i2l C.1.1 C.1.2.1 dL_lateIn_7 rfl ?_
    refine L_last C S O dL_lateIn_8 (fun H locs S O => ?_)
    refine lv_goto (tgt := 15) C.1.1 C.1.2.1 dL_lateIn_9 (by decide) ?_
    refine lv_iconst (v := 0) C.1.1 C.1.2.1 dL_lateIn_15 (by decide) ?_
    exact L_ret (k := 0) C S O (Nat.le_of_ble_eq_true rfl) (Nat.le_of_ble_eq_true rfl) dL_lateIn_16
theorem dL_crowd_0 : decode cL_crowd 0 = .ok (.aload_n 3, 1) := by decide +kernel
theorem dL_crowd_1 : decode cL_crowd 1 = .ok (.iconst 0, 1) := by decide +kernel
theorem dL_crowd_2 : decode cL_crowd 2 = .ok (.aload_n 0, 1) := by decide +kernel
theorem dL_crowd_3 : decode cL_crowd 3 = .ok (.iload_n 1, 1) := by decide +kernel
theorem dL_crowd_4 : decode cL_crowd 4 = .ok (.iload_n 2, 1) := by decide +kernel
theorem dL_crowd_5 : decode cL_crowd 5 = .ok (.invokevirtual 105, 3) := by decide +kernel
theorem dL_crowd_8 : decode cL_crowd 8 = .ok (.i2l, 1) := by decide +kernel
theorem dL_crowd_9 : decode cL_crowd 9 = .ok (.lastore, 1) := by decide +kernel
theorem dL_crowd_10 : decode cL_crowd 10 = .ok (.goto 7, 3) := by decide +kernel
theorem dL_crowd_13 : decode cL_crowd 13 = .ok (.astore 4, 2) := by decide +kernel
theorem dL_crowd_15 : decode cL_crowd 15 = .ok (.iconst 1, 1) := by decide +kernel
theorem dL_crowd_16 : decode cL_crowd 16 = .ok (.ireturn, 1) := by decide +kernel
theorem dL_crowd_17 : decode cL_crowd 17 = .ok (.iconst 0, 1) := by decide +kernel
theorem dL_crowd_18 : decode cL_crowd 18 = .ok (.ireturn, 1) := by decide +kernel
set_option maxHeartbeats 4000000 in
set_option maxRecDepth 100000 in
theorem m_L_crowd (l : Launch) (hst : l.stackTraces = false) (G : Gx) (ad : Ad) (σ : Sg) (v1 : Int32) (v2 : Int32) (q : Xr) (hf : f_X7_crowd σ v1 v2 = some q) (hq : q.1 = 0 ∨ q.1 = 2) (cL : ClassId) (ao : Nat) (v0 : Int64) (sz : Nat) : L_M l yL_crowd cL_crowd 5 [(0, 10, 13, 13)] 8 136 1 6 G ad σ sz [.ref (ad 7 0), .int v1, .int v2, .ref ao] cL ao (.inl v0) (L_k [(2, 1)] q.1) (if q.1 = 0 then .inl q.2.1.toInt64 else .inl v0) q.2.2 := by
  refine L_begin (by decide +kernel) rfl (Nat.le_of_ble_eq_true rfl) [(0, .ref (ad 7 0)), (1, .int v1), (2, .int v2), (3, .ref ao)] rfl (fun p e s m args below meth c ls C hz S O hl => ?_)
  subst hz
  obtain ⟨cq, rq, σq⟩ := q
  dsimp only at hq ⊢
  refine lv_aload_n C.1.1 C.1.2.1 dL_crowd_0 rfl (lv_at hl 3 rfl) ?_
  refine lv_iconst (v := 0) C.1.1 C.1.2.1 dL_crowd_1 (by decide) ?_
  refine lv_aload_n C.1.1 C.1.2.1 dL_crowd_2 rfl (lv_at hl 0 rfl) ?_
  refine lv_iload_n C.1.1 C.1.2.1 dL_crowd_3 rfl (lv_at hl 1 rfl) ?_
  refine lv_iload_n C.1.1 C.1.2.1 dL_crowd_4 rfl (lv_at hl 2 rfl) ?_
  refine L_callI C S O [.int v1, .int v2] rfl (m_X7_crowd l hst G ad σ v1 v2 (cq, rq, σq) hf _) kv_X7_crowd tw_6_12 ⟨(Nat.le_of_ble_eq_true rfl), (Nat.le_of_ble_eq_true rfl)⟩ rfl rfl (Nat.le_of_ble_eq_true rfl) hl.1 ⟨(Nat.le_of_ble_eq_true rfl), (Nat.le_of_ble_eq_true rfl)⟩ dL_crowd_5 (fun h0 ce q9 H locs S O hce hcv hcl => ?_) (fun h0 H locs S O => ?_)
  · rcases hq with rfl | rfl
    · exact absurd rfl h0
    · refine vx_catch (name := "java/lang/IllegalArgumentException") C.1.2.2.2.1 [] ⟨0, 10, 13, 13⟩ [] (by rw [C.2.1]; rfl) (fun z hz => nomatch hz) rfl (by decide) (C.1.2.2.2.2.1 _ tw_3_211) (L_cast C (List.mem_of_getElem? (i := 9) rfl)) hce hcv hcl ?_
      show W _ _ _ _ _ _ _ _ _ _ _ _ _ _ _ (F0 m 13 ls [.ref q9])
      refine lv_astore (lv' := [(4, .ref q9), (0, .ref (ad 7 0)), (1, .int v1), (2, .int v2), (3, .ref ao)]) C.1.1 C.1.2.1 dL_crowd_13 hl (by decide) rfl (fun ls hl => ?_)
      refine lv_iconst (v := 1) C.1.1 C.1.2.1 dL_crowd_15 (by decide) ?_
      exact L_ret (k := 1) C S O (Nat.le_of_ble_eq_true rfl) (Nat.le_of_ble_eq_true rfl) dL_crowd_16
  · subst h0
    refine lv_i2l C.1.1 C.1.2.1 dL_crowd_8 rfl ?_
    refine L_last C S O dL_crowd_9 (fun H locs S O => ?_)
    refine lv_goto (tgt := 17) C.1.1 C.1.2.1 dL_crowd_10 (by decide) ?_
    refine lv_iconst (v := 0) C.1.1 C.1.2.1 dL_crowd_17 (by decide) ?_
    exact L_ret (k := 0) C S O (Nat.le_of_ble_eq_true rfl) (Nat.le_of_ble_eq_true rfl) dL_crowd_18
theorem dL_meanCost_0 : decode cL_meanCost 0 = .ok (.aload_n 2, 1) := by decide +kernel
theorem dL_meanCost_1 : decode cL_meanCost 1 = .ok (.iconst 0, 1) := by decide +kernel
theorem dL_meanCost_2 : decode cL_meanCost 2 = .ok (.aload_n 0, 1) := by decide +kernel
theorem dL_meanCost_3 : decode cL_meanCost 3 = .ok (.iload_n 1, 1) := by decide +kernel
theorem dL_meanCost_4 : decode cL_meanCost 4 = .ok (.invokevirtual 108, 3) := by decide +kernel
theorem dL_meanCost_7 : decode cL_meanCost 7 = .ok (.dastore, 1) := by decide +kernel
theorem dL_meanCost_8 : decode cL_meanCost 8 = .ok (.goto 6, 3) := by decide +kernel
theorem dL_meanCost_11 : decode cL_meanCost 11 = .ok (.astore_n 3, 1) := by decide +kernel
theorem dL_meanCost_12 : decode cL_meanCost 12 = .ok (.iconst 1, 1) := by decide +kernel
theorem dL_meanCost_13 : decode cL_meanCost 13 = .ok (.ireturn, 1) := by decide +kernel
theorem dL_meanCost_14 : decode cL_meanCost 14 = .ok (.iconst 0, 1) := by decide +kernel
theorem dL_meanCost_15 : decode cL_meanCost 15 = .ok (.ireturn, 1) := by decide +kernel
set_option maxHeartbeats 4000000 in
set_option maxRecDepth 100000 in
theorem m_L_meanCost (l : Launch) (hst : l.stackTraces = false) (G : Gx) (ad : Ad) (σ : Sg) (v1 : Int32) (q : Xd) (hf : f_X7_meanCost σ v1 = some q) (hq : q.1 = 0 ∨ q.1 = 1) (cL : ClassId) (ao : Nat) (v0 : UInt64) (sz : Nat) : L_M l yL_meanCost cL_meanCost 4 [(0, 8, 11, 19)] 8 134 1 6 G ad σ sz [.ref (ad 7 0), .int v1, .ref ao] cL ao (.inr v0) (L_k [(1, 1)] q.1) (if q.1 = 0 then .inr q.2.1 else .inr v0) q.2.2 := by
  refine L_begin (by decide +kernel) rfl (Nat.le_of_ble_eq_true rfl) [(0, .ref (ad 7 0)), (1, .int v1), (2, .ref ao)] rfl (fun p e s m args below meth c ls C hz S O hl => ?_)
  subst hz
  obtain ⟨cq, rq, σq⟩ := q
  dsimp only at hq ⊢
  refine lv_aload_n C.1.1 C.1.2.1 dL_meanCost_0 rfl (lv_at hl 2 rfl) ?_
  refine lv_iconst (v := 0) C.1.1 C.1.2.1 dL_meanCost_1 (by decide) ?_
  refine lv_aload_n C.1.1 C.1.2.1 dL_meanCost_2 rfl (lv_at hl 0 rfl) ?_
  refine lv_iload_n C.1.1 C.1.2.1 dL_meanCost_3 rfl (lv_at hl 1 rfl) ?_
  refine L_callD C S O [.int v1] rfl (m_X7_meanCost l hst G ad σ v1 (cq, rq, σq) hf _) kv_X7_meanCost tw_6_19 ⟨(Nat.le_of_ble_eq_true rfl), (Nat.le_of_ble_eq_true rfl)⟩ rfl rfl (Nat.le_of_ble_eq_true rfl) hl.1 ⟨(Nat.le_of_ble_eq_true rfl), (Nat.le_of_ble_eq_true rfl)⟩ dL_meanCost_4 (fun h0 ce q9 H locs S O hce hcv hcl => ?_) (fun h0 H locs S O => ?_)
  · rcases hq with rfl | rfl
    · exact absurd rfl h0
    · refine vx_catch (name := "java/lang/IndexOutOfBoundsException") C.1.2.2.2.1 [] ⟨0, 8, 11, 19⟩ [] (by rw [C.2.1]; rfl) (fun z hz => nomatch hz) rfl (by decide) (C.1.2.2.2.2.1 _ tw_4_50) (L_cast C (List.mem_of_getElem? (i := 16) rfl)) hce hcv hcl ?_
      show W _ _ _ _ _ _ _ _ _ _ _ _ _ _ _ (F0 m 11 ls [.ref q9])
      refine lv_astore_n (lv' := [(3, .ref q9), (0, .ref (ad 7 0)), (1, .int v1), (2, .ref ao)]) C.1.1 C.1.2.1 dL_meanCost_11 rfl hl (by decide) rfl (fun ls hl => ?_)
      refine lv_iconst (v := 1) C.1.1 C.1.2.1 dL_meanCost_12 (by decide) ?_
      exact L_ret (k := 1) C S O (Nat.le_of_ble_eq_true rfl) (Nat.le_of_ble_eq_true rfl) dL_meanCost_13
  · subst h0
    refine L_dast C S O dL_meanCost_7 (fun H locs S O => ?_)
    refine lv_goto (tgt := 14) C.1.1 C.1.2.1 dL_meanCost_8 (by decide) ?_
    refine lv_iconst (v := 0) C.1.1 C.1.2.1 dL_meanCost_14 (by decide) ?_
    exact L_ret (k := 0) C S O (Nat.le_of_ble_eq_true rfl) (Nat.le_of_ble_eq_true rfl) dL_meanCost_15
theorem dL_aboardIn_0 : decode cL_aboardIn 0 = .ok (.aload_n 3, 1) := by decide +kernel
theorem dL_aboardIn_1 : decode cL_aboardIn 1 = .ok (.iconst 0, 1) := by decide +kernel
theorem dL_aboardIn_2 : decode cL_aboardIn 2 = .ok (.aload_n 0, 1) := by decide +kernel
theorem dL_aboardIn_3 : decode cL_aboardIn 3 = .ok (.iload_n 1, 1) := by decide +kernel
theorem dL_aboardIn_4 : decode cL_aboardIn 4 = .ok (.iload_n 2, 1) := by decide +kernel
theorem dL_aboardIn_5 : decode cL_aboardIn 5 = .ok (.invokevirtual 112, 3) := by decide +kernel
theorem dL_aboardIn_8 : decode cL_aboardIn 8 = .ok (.i2l, 1) := by decide +kernel
theorem dL_aboardIn_9 : decode cL_aboardIn 9 = .ok (.lastore, 1) := by decide +kernel
theorem dL_aboardIn_10 : decode cL_aboardIn 10 = .ok (.goto 11, 3) := by decide +kernel
theorem dL_aboardIn_13 : decode cL_aboardIn 13 = .ok (.astore 4, 2) := by decide +kernel
theorem dL_aboardIn_15 : decode cL_aboardIn 15 = .ok (.iconst 1, 1) := by decide +kernel
theorem dL_aboardIn_16 : decode cL_aboardIn 16 = .ok (.ireturn, 1) := by decide +kernel
theorem dL_aboardIn_17 : decode cL_aboardIn 17 = .ok (.astore 4, 2) := by decide +kernel
theorem dL_aboardIn_19 : decode cL_aboardIn 19 = .ok (.iconst 2, 1) := by decide +kernel
theorem dL_aboardIn_20 : decode cL_aboardIn 20 = .ok (.ireturn, 1) := by decide +kernel
theorem dL_aboardIn_21 : decode cL_aboardIn 21 = .ok (.iconst 0, 1) := by decide +kernel
theorem dL_aboardIn_22 : decode cL_aboardIn 22 = .ok (.ireturn, 1) := by decide +kernel
set_option maxHeartbeats 4000000 in
set_option maxRecDepth 100000 in
theorem m_L_aboardIn (l : Launch) (hst : l.stackTraces = false) (G : Gx) (ad : Ad) (σ : Sg) (v1 : Int32) (v2 : Int32) (q : Xr) (hf : f_X7_aboardIn σ v1 v2 = some q) (hq : q.1 = 0 ∨ q.1 = 1 ∨ q.1 = 2) (cL : ClassId) (ao : Nat) (v0 : Int64) (sz : Nat) : L_M l yL_aboardIn cL_aboardIn 5 [(0, 10, 13, 19), (0, 10, 17, 13)] 9 188 2 12 G ad σ sz [.ref (ad 7 0), .int v1, .int v2, .ref ao] cL ao (.inl v0) (L_k [(1, 1), (2, 2)] q.1) (if q.1 = 0 then .inl q.2.1.toInt64 else .inl v0) q.2.2 := by
  refine L_begin (by decide +kernel) rfl (Nat.le_of_ble_eq_true rfl) [(0, .ref (ad 7 0)), (1, .int v1), (2, .int v2), (3, .ref ao)] rfl (fun p e s m args below meth c ls C hz S O hl => ?_)
  subst hz
  obtain ⟨cq, rq, σq⟩ := q
  dsimp only at hq ⊢
  refine lv_aload_n C.1.1 C.1.2.1 dL_aboardIn_0 rfl (lv_at hl 3 rfl) ?_
  refine lv_iconst (v := 0) C.1.1 C.1.2.1 dL_aboardIn_1 (by decide) ?_
  refine lv_aload_n C.1.1 C.1.2.1 dL_aboardIn_2 rfl (lv_at hl 0 rfl) ?_
  refine lv_iload_n C.1.1 C.1.2.1 dL_aboardIn_3 rfl (lv_at hl 1 rfl) ?_
  refine lv_iload_n C.1.1 C.1.2.1 dL_aboardIn_4 rfl (lv_at hl 2 rfl) ?_
  refine L_callI C S O [.int v1, .int v2] rfl (m_X7_aboardIn l hst G ad σ v1 v2 (cq, rq, σq) hf _) kv_X7_aboardIn tw_6_26 ⟨(Nat.le_of_ble_eq_true rfl), (Nat.le_of_ble_eq_true rfl)⟩ rfl rfl (Nat.le_of_ble_eq_true rfl) hl.1 ⟨(Nat.le_of_ble_eq_true rfl), (Nat.le_of_ble_eq_true rfl)⟩ dL_aboardIn_5 (fun h0 ce q9 H locs S O hce hcv hcl => ?_) (fun h0 H locs S O => ?_)
  · rcases hq with rfl | rfl | rfl
    · exact absurd rfl h0
    · refine vx_catch (name := "java/lang/IndexOutOfBoundsException") C.1.2.2.2.1 [] ⟨0, 10, 13, 19⟩ [⟨0, 10, 17, 13⟩] (by rw [C.2.1]; rfl) (fun z hz => nomatch hz) rfl (by decide) (C.1.2.2.2.2.1 _ tw_4_50) (L_cast C (List.mem_of_getElem? (i := 16) rfl)) hce hcv hcl ?_
      show W _ _ _ _ _ _ _ _ _ _ _ _ _ _ _ (F0 m 13 ls [.ref q9])
      refine lv_astore (lv' := [(4, .ref q9), (0, .ref (ad 7 0)), (1, .int v1), (2, .int v2), (3, .ref ao)]) C.1.1 C.1.2.1 dL_aboardIn_13 hl (by decide) rfl (fun ls hl => ?_)
      refine lv_iconst (v := 1) C.1.1 C.1.2.1 dL_aboardIn_15 (by decide) ?_
      exact L_ret (k := 1) C S O (Nat.le_of_ble_eq_true rfl) (Nat.le_of_ble_eq_true rfl) dL_aboardIn_16
    · refine vx_catch (name := "java/lang/IllegalArgumentException") C.1.2.2.2.1 [⟨0, 10, 13, 19⟩] ⟨0, 10, 17, 13⟩ [] (by rw [C.2.1]; rfl) (fun z hz => by
      rcases List.mem_cons.mp hz with rfl | hz
      · exact Or.inr ⟨by decide, "java/lang/IndexOutOfBoundsException", C.1.2.2.2.2.1 _ tw_4_50, L_nc C (List.mem_of_getElem? (i := 0) rfl)⟩
      · exact nomatch hz) rfl (by decide) (C.1.2.2.2.2.1 _ tw_3_211) (L_cast C (List.mem_of_getElem? (i := 9) rfl)) hce hcv hcl ?_
      show W _ _ _ _ _ _ _ _ _ _ _ _ _ _ _ (F0 m 17 ls [.ref q9])
      refine lv_astore (lv' := [(4, .ref q9), (0, .ref (ad 7 0)), (1, .int v1), (2, .int v2), (3, .ref ao)]) C.1.1 C.1.2.1 dL_aboardIn_17 hl (by decide) rfl (fun ls hl => ?_)
      refine lv_iconst (v := 2) C.1.1 C.1.2.1 dL_aboardIn_19 (by decide) ?_
      exact L_ret (k := 2) C S O (Nat.le_of_ble_eq_true rfl) (Nat.le_of_ble_eq_true rfl) dL_aboardIn_20
  · subst h0
    refine lv_i2l C.1.1 C.1.2.1 dL_aboardIn_8 rfl ?_
    refine L_last C S O dL_aboardIn_9 (fun H locs S O => ?_)
    refine lv_goto (tgt := 21) C.1.1 C.1.2.1 dL_aboardIn_10 (by decide) ?_
    refine lv_iconst (v := 0) C.1.1 C.1.2.1 dL_aboardIn_21 (by decide) ?_
    exact L_ret (k := 0) C S O (Nat.le_of_ble_eq_true rfl) (Nat.le_of_ble_eq_true rfl) dL_aboardIn_22
theorem dL_doneIn_0 : decode cL_doneIn 0 = .ok (.aload_n 2, 1) := by decide +kernel
theorem dL_doneIn_1 : decode cL_doneIn 1 = .ok (.iconst 0, 1) := by decide +kernel
theorem dL_doneIn_2 : decode cL_doneIn 2 = .ok (.aload_n 0, 1) := by decide +kernel
theorem dL_doneIn_3 : decode cL_doneIn 3 = .ok (.iload_n 1, 1) := by decide +kernel
theorem dL_doneIn_4 : decode cL_doneIn 4 = .ok (.invokevirtual 115, 3) := by decide +kernel
theorem dL_doneIn_7 : decode cL_doneIn 7 = .ok (.i2l, 1) := by decide +kernel
theorem dL_doneIn_8 : decode cL_doneIn 8 = .ok (.lastore, 1) := by decide +kernel
theorem dL_doneIn_9 : decode cL_doneIn 9 = .ok (.goto 6, 3) := by decide +kernel
theorem dL_doneIn_12 : decode cL_doneIn 12 = .ok (.astore_n 3, 1) := by decide +kernel
theorem dL_doneIn_13 : decode cL_doneIn 13 = .ok (.iconst 1, 1) := by decide +kernel
theorem dL_doneIn_14 : decode cL_doneIn 14 = .ok (.ireturn, 1) := by decide +kernel
theorem dL_doneIn_15 : decode cL_doneIn 15 = .ok (.iconst 0, 1) := by decide +kernel
theorem dL_doneIn_16 : decode cL_doneIn 16 = .ok (.ireturn, 1) := by decide +kernel
set_option maxHeartbeats 4000000 in
set_option maxRecDepth 100000 in
theorem m_L_doneIn (l : Launch) (hst : l.stackTraces = false) (G : Gx) (ad : Ad) (σ : Sg) (v1 : Int32) (q : Xr) (hf : f_X7_doneIn σ v1 = some q) (hq : q.1 = 0 ∨ q.1 = 2) (cL : ClassId) (ao : Nat) (v0 : Int64) (sz : Nat) : L_M l yL_doneIn cL_doneIn 4 [(0, 9, 12, 13)] 9 186 1 6 G ad σ sz [.ref (ad 7 0), .int v1, .ref ao] cL ao (.inl v0) (L_k [(2, 1)] q.1) (if q.1 = 0 then .inl q.2.1.toInt64 else .inl v0) q.2.2 := by
  refine L_begin (by decide +kernel) rfl (Nat.le_of_ble_eq_true rfl) [(0, .ref (ad 7 0)), (1, .int v1), (2, .ref ao)] rfl (fun p e s m args below meth c ls C hz S O hl => ?_)
  subst hz
  obtain ⟨cq, rq, σq⟩ := q
  dsimp only at hq ⊢
  refine lv_aload_n C.1.1 C.1.2.1 dL_doneIn_0 rfl (lv_at hl 2 rfl) ?_
  refine lv_iconst (v := 0) C.1.1 C.1.2.1 dL_doneIn_1 (by decide) ?_
  refine lv_aload_n C.1.1 C.1.2.1 dL_doneIn_2 rfl (lv_at hl 0 rfl) ?_
  refine lv_iload_n C.1.1 C.1.2.1 dL_doneIn_3 rfl (lv_at hl 1 rfl) ?_
  refine L_callI C S O [.int v1] rfl (m_X7_doneIn l hst G ad σ v1 (cq, rq, σq) hf _) kv_X7_doneIn tw_6_38 ⟨(Nat.le_of_ble_eq_true rfl), (Nat.le_of_ble_eq_true rfl)⟩ rfl rfl (Nat.le_of_ble_eq_true rfl) hl.1 ⟨(Nat.le_of_ble_eq_true rfl), (Nat.le_of_ble_eq_true rfl)⟩ dL_doneIn_4 (fun h0 ce q9 H locs S O hce hcv hcl => ?_) (fun h0 H locs S O => ?_)
  · rcases hq with rfl | rfl
    · exact absurd rfl h0
    · refine vx_catch (name := "java/lang/IllegalArgumentException") C.1.2.2.2.1 [] ⟨0, 9, 12, 13⟩ [] (by rw [C.2.1]; rfl) (fun z hz => nomatch hz) rfl (by decide) (C.1.2.2.2.2.1 _ tw_3_211) (L_cast C (List.mem_of_getElem? (i := 9) rfl)) hce hcv hcl ?_
      show W _ _ _ _ _ _ _ _ _ _ _ _ _ _ _ (F0 m 12 ls [.ref q9])
      refine lv_astore_n (lv' := [(3, .ref q9), (0, .ref (ad 7 0)), (1, .int v1), (2, .ref ao)]) C.1.1 C.1.2.1 dL_doneIn_12 rfl hl (by decide) rfl (fun ls hl => ?_)
      refine lv_iconst (v := 1) C.1.1 C.1.2.1 dL_doneIn_13 (by decide) ?_
      exact L_ret (k := 1) C S O (Nat.le_of_ble_eq_true rfl) (Nat.le_of_ble_eq_true rfl) dL_doneIn_14
  · subst h0
    refine lv_i2l C.1.1 C.1.2.1 dL_doneIn_7 rfl ?_
    refine L_last C S O dL_doneIn_8 (fun H locs S O => ?_)
    refine lv_goto (tgt := 15) C.1.1 C.1.2.1 dL_doneIn_9 (by decide) ?_
    refine lv_iconst (v := 0) C.1.1 C.1.2.1 dL_doneIn_15 (by decide) ?_
    exact L_ret (k := 0) C S O (Nat.le_of_ble_eq_true rfl) (Nat.le_of_ble_eq_true rfl) dL_doneIn_16
theorem dL_nobodyIn_0 : decode cL_nobodyIn 0 = .ok (.aload_n 2, 1) := by decide +kernel
theorem dL_nobodyIn_1 : decode cL_nobodyIn 1 = .ok (.iconst 0, 1) := by decide +kernel
theorem dL_nobodyIn_2 : decode cL_nobodyIn 2 = .ok (.aload_n 0, 1) := by decide +kernel
theorem dL_nobodyIn_3 : decode cL_nobodyIn 3 = .ok (.iload_n 1, 1) := by decide +kernel
theorem dL_nobodyIn_4 : decode cL_nobodyIn 4 = .ok (.invokevirtual 118, 3) := by decide +kernel
theorem dL_nobodyIn_7 : decode cL_nobodyIn 7 = .ok (.i2l, 1) := by decide +kernel
theorem dL_nobodyIn_8 : decode cL_nobodyIn 8 = .ok (.lastore, 1) := by decide +kernel
theorem dL_nobodyIn_9 : decode cL_nobodyIn 9 = .ok (.goto 6, 3) := by decide +kernel
theorem dL_nobodyIn_12 : decode cL_nobodyIn 12 = .ok (.astore_n 3, 1) := by decide +kernel
theorem dL_nobodyIn_13 : decode cL_nobodyIn 13 = .ok (.iconst 1, 1) := by decide +kernel
theorem dL_nobodyIn_14 : decode cL_nobodyIn 14 = .ok (.ireturn, 1) := by decide +kernel
theorem dL_nobodyIn_15 : decode cL_nobodyIn 15 = .ok (.iconst 0, 1) := by decide +kernel
theorem dL_nobodyIn_16 : decode cL_nobodyIn 16 = .ok (.ireturn, 1) := by decide +kernel
set_option maxHeartbeats 4000000 in
set_option maxRecDepth 100000 in
theorem m_L_nobodyIn (l : Launch) (hst : l.stackTraces = false) (G : Gx) (ad : Ad) (σ : Sg) (v1 : Int32) (q : Xr) (hf : f_X7_nobodyIn σ v1 = some q) (hq : q.1 = 0 ∨ q.1 = 2) (cL : ClassId) (ao : Nat) (v0 : Int64) (sz : Nat) : L_M l yL_nobodyIn cL_nobodyIn 4 [(0, 9, 12, 13)] 9 187 1 6 G ad σ sz [.ref (ad 7 0), .int v1, .ref ao] cL ao (.inl v0) (L_k [(2, 1)] q.1) (if q.1 = 0 then .inl q.2.1.toInt64 else .inl v0) q.2.2 := by
  refine L_begin (by decide +kernel) rfl (Nat.le_of_ble_eq_true rfl) [(0, .ref (ad 7 0)), (1, .int v1), (2, .ref ao)] rfl (fun p e s m args below meth c ls C hz S O hl => ?_)
  subst hz
  obtain ⟨cq, rq, σq⟩ := q
  dsimp only at hq ⊢
  refine lv_aload_n C.1.1 C.1.2.1 dL_nobodyIn_0 rfl (lv_at hl 2 rfl) ?_
  refine lv_iconst (v := 0) C.1.1 C.1.2.1 dL_nobodyIn_1 (by decide) ?_
  refine lv_aload_n C.1.1 C.1.2.1 dL_nobodyIn_2 rfl (lv_at hl 0 rfl) ?_
  refine lv_iload_n C.1.1 C.1.2.1 dL_nobodyIn_3 rfl (lv_at hl 1 rfl) ?_
  refine L_callI C S O [.int v1] rfl (m_X7_nobodyIn l hst G ad σ v1 (cq, rq, σq) hf _) kv_X7_nobodyIn tw_6_54 ⟨(Nat.le_of_ble_eq_true rfl), (Nat.le_of_ble_eq_true rfl)⟩ rfl rfl (Nat.le_of_ble_eq_true rfl) hl.1 ⟨(Nat.le_of_ble_eq_true rfl), (Nat.le_of_ble_eq_true rfl)⟩ dL_nobodyIn_4 (fun h0 ce q9 H locs S O hce hcv hcl => ?_) (fun h0 H locs S O => ?_)
  · rcases hq with rfl | rfl
    · exact absurd rfl h0
    · refine vx_catch (name := "java/lang/IllegalArgumentException") C.1.2.2.2.1 [] ⟨0, 9, 12, 13⟩ [] (by rw [C.2.1]; rfl) (fun z hz => nomatch hz) rfl (by decide) (C.1.2.2.2.2.1 _ tw_3_211) (L_cast C (List.mem_of_getElem? (i := 9) rfl)) hce hcv hcl ?_
      show W _ _ _ _ _ _ _ _ _ _ _ _ _ _ _ (F0 m 12 ls [.ref q9])
      refine lv_astore_n (lv' := [(3, .ref q9), (0, .ref (ad 7 0)), (1, .int v1), (2, .ref ao)]) C.1.1 C.1.2.1 dL_nobodyIn_12 rfl hl (by decide) rfl (fun ls hl => ?_)
      refine lv_iconst (v := 1) C.1.1 C.1.2.1 dL_nobodyIn_13 (by decide) ?_
      exact L_ret (k := 1) C S O (Nat.le_of_ble_eq_true rfl) (Nat.le_of_ble_eq_true rfl) dL_nobodyIn_14
  · subst h0
    refine lv_i2l C.1.1 C.1.2.1 dL_nobodyIn_7 rfl ?_
    refine L_last C S O dL_nobodyIn_8 (fun H locs S O => ?_)
    refine lv_goto (tgt := 15) C.1.1 C.1.2.1 dL_nobodyIn_9 (by decide) ?_
    refine lv_iconst (v := 0) C.1.1 C.1.2.1 dL_nobodyIn_15 (by decide) ?_
    exact L_ret (k := 0) C S O (Nat.le_of_ble_eq_true rfl) (Nat.le_of_ble_eq_true rfl) dL_nobodyIn_16
theorem dL_bestNoise_0 : decode cL_bestNoise 0 = .ok (.aload_n 2, 1) := by decide +kernel
theorem dL_bestNoise_1 : decode cL_bestNoise 1 = .ok (.iconst 0, 1) := by decide +kernel
theorem dL_bestNoise_2 : decode cL_bestNoise 2 = .ok (.aload_n 0, 1) := by decide +kernel
theorem dL_bestNoise_3 : decode cL_bestNoise 3 = .ok (.iload_n 1, 1) := by decide +kernel
theorem dL_bestNoise_4 : decode cL_bestNoise 4 = .ok (.invokevirtual 121, 3) := by decide +kernel
theorem dL_bestNoise_7 : decode cL_bestNoise 7 = .ok (.i2l, 1) := by decide +kernel
theorem dL_bestNoise_8 : decode cL_bestNoise 8 = .ok (.lastore, 1) := by decide +kernel
theorem dL_bestNoise_9 : decode cL_bestNoise 9 = .ok (.goto 6, 3) := by decide +kernel
theorem dL_bestNoise_12 : decode cL_bestNoise 12 = .ok (.astore_n 3, 1) := by decide +kernel
theorem dL_bestNoise_13 : decode cL_bestNoise 13 = .ok (.iconst 1, 1) := by decide +kernel
theorem dL_bestNoise_14 : decode cL_bestNoise 14 = .ok (.ireturn, 1) := by decide +kernel
theorem dL_bestNoise_15 : decode cL_bestNoise 15 = .ok (.iconst 0, 1) := by decide +kernel
theorem dL_bestNoise_16 : decode cL_bestNoise 16 = .ok (.ireturn, 1) := by decide +kernel
set_option maxHeartbeats 4000000 in
set_option maxRecDepth 100000 in
theorem m_L_bestNoise (l : Launch) (hst : l.stackTraces = false) (G : Gx) (ad : Ad) (σ : Sg) (v1 : Int32) (q : Xr) (hf : f_X7_bestNoise σ v1 = some q) (hq : q.1 = 0 ∨ q.1 = 2) (cL : ClassId) (ao : Nat) (v0 : Int64) (sz : Nat) : L_M l yL_bestNoise cL_bestNoise 4 [(0, 9, 12, 13)] 9 190 1 6 G ad σ sz [.ref (ad 7 0), .int v1, .ref ao] cL ao (.inl v0) (L_k [(2, 1)] q.1) (if q.1 = 0 then .inl q.2.1.toInt64 else .inl v0) q.2.2 := by
  refine L_begin (by decide +kernel) rfl (Nat.le_of_ble_eq_true rfl) [(0, .ref (ad 7 0)), (1, .int v1), (2, .ref ao)] rfl (fun p e s m args below meth c ls C hz S O hl => ?_)
  subst hz
  obtain ⟨cq, rq, σq⟩ := q
  dsimp only at hq ⊢
  refine lv_aload_n C.1.1 C.1.2.1 dL_bestNoise_0 rfl (lv_at hl 2 rfl) ?_
  refine lv_iconst (v := 0) C.1.1 C.1.2.1 dL_bestNoise_1 (by decide) ?_
  refine lv_aload_n C.1.1 C.1.2.1 dL_bestNoise_2 rfl (lv_at hl 0 rfl) ?_
  refine lv_iload_n C.1.1 C.1.2.1 dL_bestNoise_3 rfl (lv_at hl 1 rfl) ?_
  refine L_callI C S O [.int v1] rfl (m_X7_bestNoise l hst G ad σ v1 (cq, rq, σq) hf _) kv_X7_bestNoise tw_6_61 ⟨(Nat.le_of_ble_eq_true rfl), (Nat.le_of_ble_eq_true rfl)⟩ rfl rfl (Nat.le_of_ble_eq_true rfl) hl.1 ⟨(Nat.le_of_ble_eq_true rfl), (Nat.le_of_ble_eq_true rfl)⟩ dL_bestNoise_4 (fun h0 ce q9 H locs S O hce hcv hcl => ?_) (fun h0 H locs S O => ?_)
  · rcases hq with rfl | rfl
    · exact absurd rfl h0
    · refine vx_catch (name := "java/lang/IllegalArgumentException") C.1.2.2.2.1 [] ⟨0, 9, 12, 13⟩ [] (by rw [C.2.1]; rfl) (fun z hz => nomatch hz) rfl (by decide) (C.1.2.2.2.2.1 _ tw_3_211) (L_cast C (List.mem_of_getElem? (i := 9) rfl)) hce hcv hcl ?_
      show W _ _ _ _ _ _ _ _ _ _ _ _ _ _ _ (F0 m 12 ls [.ref q9])
      refine lv_astore_n (lv' := [(3, .ref q9), (0, .ref (ad 7 0)), (1, .int v1), (2, .ref ao)]) C.1.1 C.1.2.1 dL_bestNoise_12 rfl hl (by decide) rfl (fun ls hl => ?_)
      refine lv_iconst (v := 1) C.1.1 C.1.2.1 dL_bestNoise_13 (by decide) ?_
      exact L_ret (k := 1) C S O (Nat.le_of_ble_eq_true rfl) (Nat.le_of_ble_eq_true rfl) dL_bestNoise_14
  · subst h0
    refine lv_i2l C.1.1 C.1.2.1 dL_bestNoise_7 rfl ?_
    refine L_last C S O dL_bestNoise_8 (fun H locs S O => ?_)
    refine lv_goto (tgt := 15) C.1.1 C.1.2.1 dL_bestNoise_9 (by decide) ?_
    refine lv_iconst (v := 0) C.1.1 C.1.2.1 dL_bestNoise_15 (by decide) ?_
    exact L_ret (k := 0) C S O (Nat.le_of_ble_eq_true rfl) (Nat.le_of_ble_eq_true rfl) dL_bestNoise_16
theorem dL_wouldWait_0 : decode cL_wouldWait 0 = .ok (.aload_n 3, 1) := by decide +kernel
theorem dL_wouldWait_1 : decode cL_wouldWait 1 = .ok (.iconst 0, 1) := by decide +kernel
theorem dL_wouldWait_2 : decode cL_wouldWait 2 = .ok (.aload_n 0, 1) := by decide +kernel
theorem dL_wouldWait_3 : decode cL_wouldWait 3 = .ok (.iload_n 1, 1) := by decide +kernel
theorem dL_wouldWait_4 : decode cL_wouldWait 4 = .ok (.iload_n 2, 1) := by decide +kernel
theorem dL_wouldWait_5 : decode cL_wouldWait 5 = .ok (.invokevirtual 124, 3) := by decide +kernel
theorem dL_wouldWait_8 : decode cL_wouldWait 8 = .ok (.i2l, 1) := by decide +kernel
theorem dL_wouldWait_9 : decode cL_wouldWait 9 = .ok (.lastore, 1) := by decide +kernel
theorem dL_wouldWait_10 : decode cL_wouldWait 10 = .ok (.goto 7, 3) := by decide +kernel
theorem dL_wouldWait_13 : decode cL_wouldWait 13 = .ok (.astore 4, 2) := by decide +kernel
theorem dL_wouldWait_15 : decode cL_wouldWait 15 = .ok (.iconst 1, 1) := by decide +kernel
theorem dL_wouldWait_16 : decode cL_wouldWait 16 = .ok (.ireturn, 1) := by decide +kernel
theorem dL_wouldWait_17 : decode cL_wouldWait 17 = .ok (.iconst 0, 1) := by decide +kernel
theorem dL_wouldWait_18 : decode cL_wouldWait 18 = .ok (.ireturn, 1) := by decide +kernel
set_option maxHeartbeats 4000000 in
set_option maxRecDepth 100000 in
theorem m_L_wouldWait (l : Launch) (hst : l.stackTraces = false) (G : Gx) (ad : Ad) (σ : Sg) (v1 : Int32) (v2 : Int32) (q : Xr) (hf : f_X7_wouldWait σ v1 v2 = some q) (hq : q.1 = 0 ∨ q.1 = 2) (cL : ClassId) (ao : Nat) (v0 : Int64) (sz : Nat) : L_M l yL_wouldWait cL_wouldWait 5 [(0, 10, 13, 13)] 9 189 3 18 G ad σ sz [.ref (ad 7 0), .int v1, .int v2, .ref ao] cL ao (.inl v0) (L_k [(2, 1)] q.1) (if q.1 = 0 then .inl q.2.1.toInt64 else .inl v0) q.2.2 := by
  refine L_begin (by decide +kernel) rfl (Nat.le_of_ble_eq_true rfl) [(0, .ref (ad 7 0)), (1, .int v1), (2, .int v2), (3, .ref ao)] rfl (fun p e s m args below meth c ls C hz S O hl => ?_)
  subst hz
  obtain ⟨cq, rq, σq⟩ := q
  dsimp only at hq ⊢
  refine lv_aload_n C.1.1 C.1.2.1 dL_wouldWait_0 rfl (lv_at hl 3 rfl) ?_
  refine lv_iconst (v := 0) C.1.1 C.1.2.1 dL_wouldWait_1 (by decide) ?_
  refine lv_aload_n C.1.1 C.1.2.1 dL_wouldWait_2 rfl (lv_at hl 0 rfl) ?_
  refine lv_iload_n C.1.1 C.1.2.1 dL_wouldWait_3 rfl (lv_at hl 1 rfl) ?_
  refine lv_iload_n C.1.1 C.1.2.1 dL_wouldWait_4 rfl (lv_at hl 2 rfl) ?_
  refine L_callI C S O [.int v1, .int v2] rfl (m_X7_wouldWait l hst G ad σ v1 v2 (cq, rq, σq) hf _) kv_X7_wouldWait tw_6_68 ⟨(Nat.le_of_ble_eq_true rfl), (Nat.le_of_ble_eq_true rfl)⟩ rfl rfl (Nat.le_of_ble_eq_true rfl) hl.1 ⟨(Nat.le_of_ble_eq_true rfl), (Nat.le_of_ble_eq_true rfl)⟩ dL_wouldWait_5 (fun h0 ce q9 H locs S O hce hcv hcl => ?_) (fun h0 H locs S O => ?_)
  · rcases hq with rfl | rfl
    · exact absurd rfl h0
    · refine vx_catch (name := "java/lang/IllegalArgumentException") C.1.2.2.2.1 [] ⟨0, 10, 13, 13⟩ [] (by rw [C.2.1]; rfl) (fun z hz => nomatch hz) rfl (by decide) (C.1.2.2.2.2.1 _ tw_3_211) (L_cast C (List.mem_of_getElem? (i := 9) rfl)) hce hcv hcl ?_
      show W _ _ _ _ _ _ _ _ _ _ _ _ _ _ _ (F0 m 13 ls [.ref q9])
      refine lv_astore (lv' := [(4, .ref q9), (0, .ref (ad 7 0)), (1, .int v1), (2, .int v2), (3, .ref ao)]) C.1.1 C.1.2.1 dL_wouldWait_13 hl (by decide) rfl (fun ls hl => ?_)
      refine lv_iconst (v := 1) C.1.1 C.1.2.1 dL_wouldWait_15 (by decide) ?_
      exact L_ret (k := 1) C S O (Nat.le_of_ble_eq_true rfl) (Nat.le_of_ble_eq_true rfl) dL_wouldWait_16
  · subst h0
    refine lv_i2l C.1.1 C.1.2.1 dL_wouldWait_8 rfl ?_
    refine L_last C S O dL_wouldWait_9 (fun H locs S O => ?_)
    refine lv_goto (tgt := 17) C.1.1 C.1.2.1 dL_wouldWait_10 (by decide) ?_
    refine lv_iconst (v := 0) C.1.1 C.1.2.1 dL_wouldWait_17 (by decide) ?_
    exact L_ret (k := 0) C S O (Nat.le_of_ble_eq_true rfl) (Nat.le_of_ble_eq_true rfl) dL_wouldWait_18
theorem dL_bestPatience_0 : decode cL_bestPatience 0 = .ok (.aload_n 2, 1) := by decide +kernel
theorem dL_bestPatience_1 : decode cL_bestPatience 1 = .ok (.iconst 0, 1) := by decide +kernel
theorem dL_bestPatience_2 : decode cL_bestPatience 2 = .ok (.aload_n 0, 1) := by decide +kernel
theorem dL_bestPatience_3 : decode cL_bestPatience 3 = .ok (.iload_n 1, 1) := by decide +kernel
theorem dL_bestPatience_4 : decode cL_bestPatience 4 = .ok (.invokevirtual 127, 3) := by decide +kernel
theorem dL_bestPatience_7 : decode cL_bestPatience 7 = .ok (.i2l, 1) := by decide +kernel
theorem dL_bestPatience_8 : decode cL_bestPatience 8 = .ok (.lastore, 1) := by decide +kernel
theorem dL_bestPatience_9 : decode cL_bestPatience 9 = .ok (.goto 6, 3) := by decide +kernel
theorem dL_bestPatience_12 : decode cL_bestPatience 12 = .ok (.astore_n 3, 1) := by decide +kernel
theorem dL_bestPatience_13 : decode cL_bestPatience 13 = .ok (.iconst 1, 1) := by decide +kernel
theorem dL_bestPatience_14 : decode cL_bestPatience 14 = .ok (.ireturn, 1) := by decide +kernel
theorem dL_bestPatience_15 : decode cL_bestPatience 15 = .ok (.iconst 0, 1) := by decide +kernel
theorem dL_bestPatience_16 : decode cL_bestPatience 16 = .ok (.ireturn, 1) := by decide +kernel
set_option maxHeartbeats 4000000 in
set_option maxRecDepth 100000 in
theorem m_L_bestPatience (l : Launch) (hst : l.stackTraces = false) (G : Gx) (ad : Ad) (σ : Sg) (v1 : Int32) (q : Xr) (hf : f_X7_bestPatience σ v1 = some q) (hq : q.1 = 0 ∨ q.1 = 2) (cL : ClassId) (ao : Nat) (v0 : Int64) (sz : Nat) : L_M l yL_bestPatience cL_bestPatience 4 [(0, 9, 12, 13)] 9 192 1 6 G ad σ sz [.ref (ad 7 0), .int v1, .ref ao] cL ao (.inl v0) (L_k [(2, 1)] q.1) (if q.1 = 0 then .inl q.2.1.toInt64 else .inl v0) q.2.2 := by
  refine L_begin (by decide +kernel) rfl (Nat.le_of_ble_eq_true rfl) [(0, .ref (ad 7 0)), (1, .int v1), (2, .ref ao)] rfl (fun p e s m args below meth c ls C hz S O hl => ?_)
  subst hz
  obtain ⟨cq, rq, σq⟩ := q
  dsimp only at hq ⊢
  refine lv_aload_n C.1.1 C.1.2.1 dL_bestPatience_0 rfl (lv_at hl 2 rfl) ?_
  refine lv_iconst (v := 0) C.1.1 C.1.2.1 dL_bestPatience_1 (by decide) ?_
  refine lv_aload_n C.1.1 C.1.2.1 dL_bestPatience_2 rfl (lv_at hl 0 rfl) ?_
  refine lv_iload_n C.1.1 C.1.2.1 dL_bestPatience_3 rfl (lv_at hl 1 rfl) ?_
  refine L_callI C S O [.int v1] rfl (m_X7_bestPatience l hst G ad σ v1 (cq, rq, σq) hf _) kv_X7_bestPatience tw_6_75 ⟨(Nat.le_of_ble_eq_true rfl), (Nat.le_of_ble_eq_true rfl)⟩ rfl rfl (Nat.le_of_ble_eq_true rfl) hl.1 ⟨(Nat.le_of_ble_eq_true rfl), (Nat.le_of_ble_eq_true rfl)⟩ dL_bestPatience_4 (fun h0 ce q9 H locs S O hce hcv hcl => ?_) (fun h0 H locs S O => ?_)
  · rcases hq with rfl | rfl
    · exact absurd rfl h0
    · refine vx_catch (name := "java/lang/IllegalArgumentException") C.1.2.2.2.1 [] ⟨0, 9, 12, 13⟩ [] (by rw [C.2.1]; rfl) (fun z hz => nomatch hz) rfl (by decide) (C.1.2.2.2.2.1 _ tw_3_211) (L_cast C (List.mem_of_getElem? (i := 9) rfl)) hce hcv hcl ?_
      show W _ _ _ _ _ _ _ _ _ _ _ _ _ _ _ (F0 m 12 ls [.ref q9])
      refine lv_astore_n (lv' := [(3, .ref q9), (0, .ref (ad 7 0)), (1, .int v1), (2, .ref ao)]) C.1.1 C.1.2.1 dL_bestPatience_12 rfl hl (by decide) rfl (fun ls hl => ?_)
      refine lv_iconst (v := 1) C.1.1 C.1.2.1 dL_bestPatience_13 (by decide) ?_
      exact L_ret (k := 1) C S O (Nat.le_of_ble_eq_true rfl) (Nat.le_of_ble_eq_true rfl) dL_bestPatience_14
  · subst h0
    refine lv_i2l C.1.1 C.1.2.1 dL_bestPatience_7 rfl ?_
    refine L_last C S O dL_bestPatience_8 (fun H locs S O => ?_)
    refine lv_goto (tgt := 15) C.1.1 C.1.2.1 dL_bestPatience_9 (by decide) ?_
    refine lv_iconst (v := 0) C.1.1 C.1.2.1 dL_bestPatience_15 (by decide) ?_
    exact L_ret (k := 0) C S O (Nat.le_of_ble_eq_true rfl) (Nat.le_of_ble_eq_true rfl) dL_bestPatience_16
theorem dL_printCar_0 : decode cL_printCar 0 = .ok (.aload_n 2, 1) := by decide +kernel
theorem dL_printCar_1 : decode cL_printCar 1 = .ok (.iconst 0, 1) := by decide +kernel
theorem dL_printCar_2 : decode cL_printCar 2 = .ok (.aload_n 0, 1) := by decide +kernel
theorem dL_printCar_3 : decode cL_printCar 3 = .ok (.iload_n 1, 1) := by decide +kernel
theorem dL_printCar_4 : decode cL_printCar 4 = .ok (.invokevirtual 130, 3) := by decide +kernel
theorem dL_printCar_7 : decode cL_printCar 7 = .ok (.i2l, 1) := by decide +kernel
theorem dL_printCar_8 : decode cL_printCar 8 = .ok (.lastore, 1) := by decide +kernel
theorem dL_printCar_9 : decode cL_printCar 9 = .ok (.goto 6, 3) := by decide +kernel
theorem dL_printCar_12 : decode cL_printCar 12 = .ok (.astore_n 3, 1) := by decide +kernel
theorem dL_printCar_13 : decode cL_printCar 13 = .ok (.iconst 1, 1) := by decide +kernel
theorem dL_printCar_14 : decode cL_printCar 14 = .ok (.ireturn, 1) := by decide +kernel
theorem dL_printCar_15 : decode cL_printCar 15 = .ok (.iconst 0, 1) := by decide +kernel
theorem dL_printCar_16 : decode cL_printCar 16 = .ok (.ireturn, 1) := by decide +kernel
set_option maxHeartbeats 4000000 in
set_option maxRecDepth 100000 in
theorem m_L_printCar (l : Launch) (hst : l.stackTraces = false) (G : Gx) (ad : Ad) (σ : Sg) (v1 : Int32) (q : Xr) (hf : f_X7_printCar σ v1 = some q) (hq : q.1 = 0 ∨ q.1 = 1) (cL : ClassId) (ao : Nat) (v0 : Int64) (sz : Nat) : L_M l yL_printCar cL_printCar 4 [(0, 9, 12, 19)] 8 133 1 6 G ad σ sz [.ref (ad 7 0), .int v1, .ref ao] cL ao (.inl v0) (L_k [(1, 1)] q.1) (if q.1 = 0 then .inl q.2.1.toInt64 else .inl v0) q.2.2 := by
  refine L_begin (by decide +kernel) rfl (Nat.le_of_ble_eq_true rfl) [(0, .ref (ad 7 0)), (1, .int v1), (2, .ref ao)] rfl (fun p e s m args below meth c ls C hz S O hl => ?_)
  subst hz
  obtain ⟨cq, rq, σq⟩ := q
  dsimp only at hq ⊢
  refine lv_aload_n C.1.1 C.1.2.1 dL_printCar_0 rfl (lv_at hl 2 rfl) ?_
  refine lv_iconst (v := 0) C.1.1 C.1.2.1 dL_printCar_1 (by decide) ?_
  refine lv_aload_n C.1.1 C.1.2.1 dL_printCar_2 rfl (lv_at hl 0 rfl) ?_
  refine lv_iload_n C.1.1 C.1.2.1 dL_printCar_3 rfl (lv_at hl 1 rfl) ?_
  refine L_callI C S O [.int v1] rfl (m_X7_printCar l hst G ad σ v1 (cq, rq, σq) hf _) kv_X7_printCar tw_6_87 ⟨(Nat.le_of_ble_eq_true rfl), (Nat.le_of_ble_eq_true rfl)⟩ rfl rfl (Nat.le_of_ble_eq_true rfl) hl.1 ⟨(Nat.le_of_ble_eq_true rfl), (Nat.le_of_ble_eq_true rfl)⟩ dL_printCar_4 (fun h0 ce q9 H locs S O hce hcv hcl => ?_) (fun h0 H locs S O => ?_)
  · rcases hq with rfl | rfl
    · exact absurd rfl h0
    · refine vx_catch (name := "java/lang/IndexOutOfBoundsException") C.1.2.2.2.1 [] ⟨0, 9, 12, 19⟩ [] (by rw [C.2.1]; rfl) (fun z hz => nomatch hz) rfl (by decide) (C.1.2.2.2.2.1 _ tw_4_50) (L_cast C (List.mem_of_getElem? (i := 16) rfl)) hce hcv hcl ?_
      show W _ _ _ _ _ _ _ _ _ _ _ _ _ _ _ (F0 m 12 ls [.ref q9])
      refine lv_astore_n (lv' := [(3, .ref q9), (0, .ref (ad 7 0)), (1, .int v1), (2, .ref ao)]) C.1.1 C.1.2.1 dL_printCar_12 rfl hl (by decide) rfl (fun ls hl => ?_)
      refine lv_iconst (v := 1) C.1.1 C.1.2.1 dL_printCar_13 (by decide) ?_
      exact L_ret (k := 1) C S O (Nat.le_of_ble_eq_true rfl) (Nat.le_of_ble_eq_true rfl) dL_printCar_14
  · subst h0
    refine lv_i2l C.1.1 C.1.2.1 dL_printCar_7 rfl ?_
    refine L_last C S O dL_printCar_8 (fun H locs S O => ?_)
    refine lv_goto (tgt := 15) C.1.1 C.1.2.1 dL_printCar_9 (by decide) ?_
    refine lv_iconst (v := 0) C.1.1 C.1.2.1 dL_printCar_15 (by decide) ?_
    exact L_ret (k := 0) C S O (Nat.le_of_ble_eq_true rfl) (Nat.le_of_ble_eq_true rfl) dL_printCar_16
theorem dL_restoreState_0 : decode cL_restoreState 0 = .ok (.aload_n 1, 1) := by decide +kernel
theorem dL_restoreState_1 : decode cL_restoreState 1 = .ok (.iconst 0, 1) := by decide +kernel
theorem dL_restoreState_2 : decode cL_restoreState 2 = .ok (.aload_n 0, 1) := by decide +kernel
theorem dL_restoreState_3 : decode cL_restoreState 3 = .ok (.invokevirtual 133, 3) := by decide +kernel
theorem dL_restoreState_6 : decode cL_restoreState 6 = .ok (.i2l, 1) := by decide +kernel
theorem dL_restoreState_7 : decode cL_restoreState 7 = .ok (.lastore, 1) := by decide +kernel
theorem dL_restoreState_8 : decode cL_restoreState 8 = .ok (.goto 6, 3) := by decide +kernel
theorem dL_restoreState_11 : decode cL_restoreState 11 = .ok (.astore_n 2, 1) := by decide +kernel
theorem dL_restoreState_12 : decode cL_restoreState 12 = .ok (.iconst 1, 1) := by decide +kernel
theorem dL_restoreState_13 : decode cL_restoreState 13 = .ok (.ireturn, 1) := by decide +kernel
theorem dL_restoreState_14 : decode cL_restoreState 14 = .ok (.iconst 0, 1) := by decide +kernel
theorem dL_restoreState_15 : decode cL_restoreState 15 = .ok (.ireturn, 1) := by decide +kernel
set_option maxHeartbeats 4000000 in
set_option maxRecDepth 100000 in
theorem m_L_restoreState (l : Launch) (hst : l.stackTraces = false) (G : Gx) (ad : Ad) (σ : Sg)  (q : Xr) (hf : f_X7_restoreState σ  = some q) (hq : q.1 = 0 ∨ q.1 = 3) (cL : ClassId) (ao : Nat) (v0 : Int64) (sz : Nat) : L_M l yL_restoreState cL_restoreState 3 [(0, 8, 11, 66)] 7 110 1 6 G ad σ sz [.ref (ad 7 0), .ref ao] cL ao (.inl v0) (L_k [(3, 1)] q.1) (if q.1 = 0 then .inl q.2.1.toInt64 else .inl v0) q.2.2 := by
  refine L_begin (by decide +kernel) rfl (Nat.le_of_ble_eq_true rfl) [(0, .ref (ad 7 0)), (1, .ref ao)] rfl (fun p e s m args below meth c ls C hz S O hl => ?_)
  subst hz
  obtain ⟨cq, rq, σq⟩ := q
  dsimp only at hq ⊢
  refine lv_aload_n C.1.1 C.1.2.1 dL_restoreState_0 rfl (lv_at hl 1 rfl) ?_
  refine lv_iconst (v := 0) C.1.1 C.1.2.1 dL_restoreState_1 (by decide) ?_
  refine lv_aload_n C.1.1 C.1.2.1 dL_restoreState_2 rfl (lv_at hl 0 rfl) ?_
  refine L_callI C S O [] rfl (m_X7_restoreState l hst G ad σ  (cq, rq, σq) hf _) kv_X7_restoreState tw_6_99 ⟨(Nat.le_of_ble_eq_true rfl), (Nat.le_of_ble_eq_true rfl)⟩ rfl rfl (Nat.le_of_ble_eq_true rfl) hl.1 ⟨(Nat.le_of_ble_eq_true rfl), (Nat.le_of_ble_eq_true rfl)⟩ dL_restoreState_3 (fun h0 ce q9 H locs S O hce hcv hcl => ?_) (fun h0 H locs S O => ?_)
  · rcases hq with rfl | rfl
    · exact absurd rfl h0
    · refine vx_catch (name := "java/lang/IllegalStateException") C.1.2.2.2.1 [] ⟨0, 8, 11, 66⟩ [] (by rw [C.2.1]; rfl) (fun z hz => nomatch hz) rfl (by decide) (C.1.2.2.2.2.1 _ tw_4_231) (L_cast C (List.mem_of_getElem? (i := 18) rfl)) hce hcv hcl ?_
      show W _ _ _ _ _ _ _ _ _ _ _ _ _ _ _ (F0 m 11 ls [.ref q9])
      refine lv_astore_n (lv' := [(2, .ref q9), (0, .ref (ad 7 0)), (1, .ref ao)]) C.1.1 C.1.2.1 dL_restoreState_11 rfl hl (by decide) rfl (fun ls hl => ?_)
      refine lv_iconst (v := 1) C.1.1 C.1.2.1 dL_restoreState_12 (by decide) ?_
      exact L_ret (k := 1) C S O (Nat.le_of_ble_eq_true rfl) (Nat.le_of_ble_eq_true rfl) dL_restoreState_13
  · subst h0
    refine lv_i2l C.1.1 C.1.2.1 dL_restoreState_6 rfl ?_
    refine L_last C S O dL_restoreState_7 (fun H locs S O => ?_)
    refine lv_goto (tgt := 14) C.1.1 C.1.2.1 dL_restoreState_8 (by decide) ?_
    refine lv_iconst (v := 0) C.1.1 C.1.2.1 dL_restoreState_14 (by decide) ?_
    exact L_ret (k := 0) C S O (Nat.le_of_ble_eq_true rfl) (Nat.le_of_ble_eq_true rfl) dL_restoreState_15
