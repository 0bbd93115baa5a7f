/-! methods that throw: contracts, the throw itself, calls of them -/
abbrev Xr : Type := Nat × Int32 × Sg
def z_xn : Nat → String := fun c => match c with
  | 1 => "java/lang/IndexOutOfBoundsException"
  | 2 => "java/lang/IllegalArgumentException"
  | 3 => "java/lang/IllegalStateException"
  | _ => "java/util/NoSuchElementException"
def z_nm : List String := ["java/lang/RuntimeException", "java/lang/Exception"]
def bx (x : Option Xr) (f : Int32 → Sg → Option Xr) : Option Xr := x.bind (fun q => if q.1 = 0 then f q.2.1 q.2.2 else some q)
theorem bxb {x : Option Xr} {f : Int32 → Sg → Option Xr} {r : Xr} (h : bx x f = some r) : ∃ (c : Nat) (v : Int32) (y : Sg), x = some (c, v, y) ∧ (c ≠ 0 → (c, v, y) = r) ∧ (c = 0 → f v y = some r) := by
  obtain ⟨⟨c, v, y⟩, h1, h2⟩ := bd h
  dsimp only at h2
  refine ⟨c, v, y, h1, fun hq => ?_, fun hq => ?_⟩
  · rw [if_neg hq] at h2; exact Option.some.inj h2
  · rw [if_pos hq] at h2; exact h2
def z_XC (b : Nat) (G : Gx) (ad : Ad) (sz : Nat) (res : Xr) : String → State → State → Prop := vx_X (S := Unit) (fun _ => res.1 ≠ 0) (fun E _ t => E = z_xn res.1 ∧ z_W b G ad res.2.2 t.heap) (z_A b ad sz)
def z_QXI (b : Nat) (G : Gx) (ad : Ad) (sz : Nat) (res : Xr) : Array Value → State → Outcome → State → Prop := va_Qi (S := Unit) (fun r1 _ => res.1 = 0 ∧ r1 = res.2.1) (fun _ t => z_W b G ad res.2.2 t.heap) (z_A b ad sz)
def z_QXV (b : Nat) (G : Gx) (ad : Ad) (sz : Nat) (res : Xr) : Array Value → State → Outcome → State → Prop := va_Qv (S := Unit) (fun _ => res.1 = 0) (fun _ t => z_W b G ad res.2.2 t.heap) (z_A b ad sz)
def z_XI (l : Launch) (y : MethodName) (bytes : ByteArray) (maxL : Nat) (ret : Option FieldType) (fr lo mc ms b : Nat) (G : Gx) (ad : Ad) (σ : Sg) (sz : Nat) (av : List Value) (res : Xr) : Prop :=
  vx_Met l y (z_ws y bytes maxL ret) { frames := fr, cells := mc, slots := ms, locals := lo } (va_Pc av (z_Pre b G ad σ sz)) (z_QXI b G ad sz res) (z_XC b G ad sz res) mc ms (z_A b ad sz)
def z_XV (l : Launch) (y : MethodName) (bytes : ByteArray) (maxL : Nat) (ret : Option FieldType) (fr lo mc ms b : Nat) (G : Gx) (ad : Ad) (σ : Sg) (sz : Nat) (av : List Value) (res : Xr) : Prop :=
  vx_Met l y (z_ws y bytes maxL ret) { frames := fr, cells := mc, slots := ms, locals := lo } (va_Pc av (z_Pre b G ad σ sz)) (z_QXV b G ad sz res) (z_XC b G ad sz res) mc ms (z_A b ad sz)
def Cz (l : Launch) (s : State) (c : Code) (G : Gx) : Prop :=
  l.stackTraces = false ∧ (∀ x ∈ c.exceptionTable.toList, False) ∧ G.2.2.1.size ≤ s.heap.size ∧ ∀ q, q < G.2.2.1.size → s.heap[q]? = G.2.2.1[q]?
theorem z_xbegin {l : Launch} (hst : l.stackTraces = false) {y : MethodName} {bytes : ByteArray} {maxL : Nat} {ret : Option FieldType} {fr lo mc ms b : Nat} {G : Gx} {ad : Ad} {σ : Sg} {sz : Nat} {av : List Value} {Qc : Array Value → State → Outcome → State → Prop} {XC : String → State → State → Prop} (hy : plainName y.cls = true) (hl : (lg_sl av).length ≤ maxL) (lv : List (Nat × Value)) (hlv : lv_args 0 av = lv)
    (body : ∀ (p : Program) (e : Env) (s : State) (m : MethodId) (args : Array Value) (below : List Frame) (meth : Method) (c : Code) (ls : Array Slot), Cx p s m args meth c y.cls bytes maxL ret G → Cz l s c G → sz = s.heap.size → z_S b G ad σ (z_A b ad s.heap.size) s.heap s.heap [] → lv_has ls maxL lv →
      W p l e { frames := fr, cells := mc, slots := ms, locals := lo } s m args below meth c s.heap [] 0 0 (vx_MQ below Qc XC args s mc ms (z_A b ad s.heap.size)) (F0 m 0 ls [])) :
    vx_Met l y (z_ws y bytes maxL ret) { frames := fr, cells := mc, slots := ms, locals := lo } (va_Pc av (z_Pre b G ad σ sz)) Qc XC mc ms (z_A b ad sz) := by
  refine vx_ofW (cc := bytes) (maxL := maxL) (ret := ret) hy rfl ?_
  intro p e s m args below meth c s₁ B hml hout hv
  obtain ⟨rfl, hsz, hW, hK⟩ := hv
  subst hsz
  have hts := atoms_spec (ws := z_ws y bytes maxL ret) B.pre
  have hl0 := lv_entry av hl
  rw [lg_entry_eq]
  rw [hlv] at hl0
  exact body p e s m _ below meth c _ ⟨B.exec, B.bytes, hml, findClass_of_methodNamed B.named, fun w hw => hts w (List.mem_cons_of_mem _ hw), hK, B.notSynchronized, B.returns⟩ ⟨hst, hout, hW.2.2.2.1, hW.2.2.2.2⟩ rfl ⟨hW, va_S.rf, fun k o hk ho => Or.inl ⟨k, o, hk, ho, rfl⟩, fun q hq => Or.inr hq⟩ hl0
theorem z_W.grow {b : Nat} {G : Gx} {ad : Ad} {σ : Sg} {H H1 : Heap} (h : z_W b G ad σ H) (hz : H.size ≤ H1.size) (hk : ∀ q, q < H.size → H1[q]? = H[q]?) : z_W b G ad σ H1 :=
  ⟨fun k o h1 h2 => (h.1 k o h1 h2).kept (hk _ (h.1 k o h1 h2).lt), h.2.1, h.2.2.1, Nat.le_trans h.2.2.2.1 hz, fun q hq => by rw [hk q (Nat.lt_of_lt_of_le hq h.2.2.2.1)]; exact h.2.2.2.2 q hq⟩
section ZX
variable {p : Program} {l : Launch} {e : Env} {R : Room} {s : State} {m : MethodId} {args : Array Value} {below : List Frame} {meth : Method} {c : Code} {H : Heap} {locs : List Loc} {cells slots mc ms : Nat} {Q : State → Prop}
variable {cc : ByteArray} {pc : Nat} {ls : Array Slot} {rest : List Value} {own : String} {nL : Nat} {ret : Option FieldType} {G : Gx} {b : Nat} {ad : Ad} {σ : Sg} {res : Xr} {XC : String → State → State → Prop}
theorem z_xiret {v : Int32} (C : Cx p s m args meth c own cc nL (some .int) G) (S : z_S b G ad σ (z_A b ad s.heap.size) s.heap H locs) (hf : (some (0, v, σ) : Option Xr) = some res) (hc : cells ≤ mc) (hs : slots ≤ ms) (hdg : decode cc pc = .ok (.ireturn, 1)) :
    W p l e R s m args below meth c H locs cells slots (vx_MQ below (z_QXI b G ad s.heap.size res) XC args s mc ms (z_A b ad s.heap.size)) (F0 m pc ls [.int v]) := by
  cases hf
  obtain ⟨x1, x2, x3, x4, x5, x6, x7, x8⟩ := C
  exact vx_ret (W.widen hc hs (W.iret x1 x2 x8 (fun t ht hW => ⟨⟨_, (), rfl, ⟨rfl, rfl⟩, by show z_W b G ad σ t.heap; rw [ht]; exact S.1⟩, S.2.1.F ht⟩) S.2.1.2.2 hdg x7))
theorem z_xzret {v : Int32} (C : Cx p s m args meth c own cc nL (some .boolean) G) (S : z_S b G ad σ (z_A b ad s.heap.size) s.heap H locs) (hn : narrow .boolean (.int v) = .int v) (hf : (some (0, v, σ) : Option Xr) = some res) (hc : cells ≤ mc) (hs : slots ≤ ms) (hdg : decode cc pc = .ok (.ireturn, 1)) :
    W p l e R s m args below meth c H locs cells slots (vx_MQ below (z_QXI b G ad s.heap.size res) XC args s mc ms (z_A b ad s.heap.size)) (F0 m pc ls [.int v]) := by
  cases hf
  obtain ⟨x1, x2, x3, x4, x5, x6, x7, x8⟩ := C
  exact vx_ret (W.widen hc hs (W.zret x1 x2 x8 hn (fun t ht hW => ⟨⟨_, (), rfl, ⟨rfl, rfl⟩, by show z_W b G ad σ t.heap; rw [ht]; exact S.1⟩, S.2.1.F ht⟩) S.2.1.2.2 hdg x7))
theorem z_xvret (C : Cx p s m args meth c own cc nL none G) (S : z_S b G ad σ (z_A b ad s.heap.size) s.heap H locs) (hf : (some (0, 0, σ) : Option Xr) = some res) (hc : cells ≤ mc) (hs : slots ≤ ms) (hdg : decode cc pc = .ok (.return_, 1)) :
    W p l e R s m args below meth c H locs cells slots (vx_MQ below (z_QXV b G ad s.heap.size res) XC args s mc ms (z_A b ad s.heap.size)) (F0 m pc ls []) := by
  cases hf
  obtain ⟨x1, x2, x3, x4, x5, x6, x7, x8⟩ := C
  exact vx_ret (W.widen hc hs (W.vret x1 x2 x8 (fun t ht hW => ⟨⟨(), rfl, rfl, by show z_W b G ad σ t.heap; rw [ht]; exact S.1⟩, S.2.1.F ht⟩) S.2.1.2.2 hdg x7))
theorem z_AB (S : z_S b G ad σ (z_A b ad s.heap.size) s.heap H locs) (Z : Cz l s c G) : ∀ q, z_A b ad s.heap.size q → z_B G q := by
  intro q hq
  rcases hq with ⟨k, o, hk, ho, rfl⟩ | hq
  · exact S.1.2.2.1 k o hk ho
  · exact Nat.le_trans Z.2.2.1 hq
theorem z_xZq {C n d : String} (h : vx_Zq C n d (z_B G) s G.2.2.1) (S : z_S b G ad σ (z_A b ad s.heap.size) s.heap H locs) (Z : Cz l s c G) : vx_Zq C n d (z_A b ad s.heap.size) s s.heap :=
  (h.kept (H1 := s.heap) (fun a ha _ => Z.2.2.2 a ha)).narrow (z_AB S Z)
theorem z_xthrow {Qc : Array Value → State → Outcome → State → Prop} {cls text : String} {ik is ic sa : Nat} (C : Cx p s m args meth c own cc nL ret G) (Z : Cz l s c G) (S : z_S b G ad σ (z_A b ad s.heap.size) s.heap H locs) (hls : ls.size = nL) (n : Nat) (hn0 : n ≠ 0) (hn : z_xn n = cls)
    (hcls : Bundle.fit cls = true) (hk : Cond.classLink own ik cls ∈ TT) (hini : Cond.initialized cls ∈ TT) (hstr : (own, is, text, sa) ∈ z_txts)
    (h1 : ∀ w ∈ (vx_atS own ic cls z_nm).filter goodWord, w ∈ TT) (h2 : ∀ w ∈ (vx_atS own ic cls z_nm).filter (fun w => !goodWord w), w ∈ z_nest) (hgood : ∀ w ∈ Cond.classLink own ik cls :: Cond.initialized cls :: vx_atS own ic cls z_nm, vx_ot w = true)
    (d0 : decode cc pc = .ok (.new ik, 3)) (d3 : decode cc (pc + 3) = .ok (.dup, 1)) (d4 : decode cc (pc + 4) = .ok (.ldc is, 2)) (d6 : decode cc (pc + 6) = .ok (.invokespecial ic, 3)) (d9 : decode cc (pc + 9) = .ok (.athrow, 1))
    (hRf : 5 < R.frames) (hRl : (rest.map fun v => v.category).sum + 82 ≤ R.locals) (hRc : cells + 1 ≤ R.cells) (hRs : slots + 6 ≤ R.slots) (hc : cells + 1 ≤ mc) (hs : slots + 6 ≤ ms) (hf : (some (n, 0, σ) : Option Xr) = some res) :
    W p l e R s m args below meth c H locs cells slots (vx_MQ below Qc (z_XC b G ad s.heap.size res) args s mc ms (z_A b ad s.heap.size)) (F0 m pc ls rest) := by
  cases hf
  obtain ⟨x1, x2, x3, x4, x5, x6, x7, x8⟩ := C
  have hnest : ∀ w ∈ z_nest, w.before args s = true := fun w hw => by
    have h9 := x6.2.2.2.2.1 w hw
    have ho : w.onTables = true := by
      simp only [z_nest, List.mem_cons, List.not_mem_nil, or_false] at hw
      rcases hw with rfl | rfl | rfl | rfl | rfl | rfl | rfl | rfl | rfl | rfl | rfl | rfl | rfl | rfl | rfl | rfl | rfl | rfl | rfl <;> rfl
    exact va_Nw.use ho h9
  have hat : ∀ w ∈ vx_atS own ic cls z_nm, w.before args s = true := vx_hat (fun w hw => x5 w (h1 w hw)) h2 hnest
  have hR : vk_R own is text (G.2.2.2 sa) s := x6.2.2.2.1 _ hstr
  refine vx_throwS (names := z_nm) x1 x2 Z.1 x4 hcls (fun q hq => by
      simp only [z_nm, List.mem_cons, List.not_mem_nil, or_false] at hq
      rcases hq with rfl | rfl <;> decide +kernel) (x5 _ hk) (x5 _ hini) hR hat hgood (z_xZq x6.2.2.2.2.2.1 S Z) (z_xZq x6.2.2.2.2.2.2.1 S Z) S.2.1 (hls.trans x3.symm) d0 d3 d4 d6 d9 (fun x hx => (Z.2.1 x hx).elim) hRf hRl hRc hRs x7 ?_ S.2.1.2.2 hc hs
  intro t hvm hz hq
  exact ⟨(), hn0, ⟨hn.symm, S.1.grow hz hq⟩, Nat.le_trans S.2.1.1 hz, fun q h1 h2 => by rw [hq q (Nat.lt_of_lt_of_le h1 S.2.1.1)]; exact S.2.1.2.1 q h1 h2⟩
theorem z_xthrowW {Qc : Array Value → State → Outcome → State → Prop} {cls text : String} {ik is ic sa : Nat} (C : Cx p s m args meth c own cc nL ret G) (Z : Cz l s c G) (S : z_S b G ad σ (z_A b ad s.heap.size) s.heap H locs) (hls : ls.size = nL) (n : Nat) (hn0 : n ≠ 0) (hn : z_xn n = cls)
    (hcls : Bundle.fit cls = true) (hk : Cond.classLink own ik cls ∈ TT) (hini : Cond.initialized cls ∈ TT) (hstr : (own, is, text, sa) ∈ z_txts)
    (h1 : ∀ w ∈ (vx_atS own ic cls z_nm).filter goodWord, w ∈ TT) (h2 : ∀ w ∈ (vx_atS own ic cls z_nm).filter (fun w => !goodWord w), w ∈ z_nest) (hgood : ∀ w ∈ Cond.classLink own ik cls :: Cond.initialized cls :: vx_atS own ic cls z_nm, vx_ot w = true)
    (d0 : decode cc pc = .ok (.new ik, 3)) (d3 : decode cc (pc + 3) = .ok (.dup, 1)) (d4 : decode cc (pc + 4) = .ok (.ldc_w is, 3)) (d6 : decode cc (pc + 7) = .ok (.invokespecial ic, 3)) (d9 : decode cc (pc + 10) = .ok (.athrow, 1))
    (hRf : 5 < R.frames) (hRl : (rest.map fun v => v.category).sum + 82 ≤ R.locals) (hRc : cells + 1 ≤ R.cells) (hRs : slots + 6 ≤ R.slots) (hc : cells + 1 ≤ mc) (hs : slots + 6 ≤ ms) (hf : (some (n, 0, σ) : Option Xr) = some res) :
    W p l e R s m args below meth c H locs cells slots (vx_MQ below Qc (z_XC b G ad s.heap.size res) args s mc ms (z_A b ad s.heap.size)) (F0 m pc ls rest) := by
  cases hf
  obtain ⟨x1, x2, x3, x4, x5, x6, x7, x8⟩ := C
  have hnest : ∀ w ∈ z_nest, w.before args s = true := fun w hw => by
    have h9 := x6.2.2.2.2.1 w hw
    have ho : w.onTables = true := by
      simp only [z_nest, List.mem_cons, List.not_mem_nil, or_false] at hw
      rcases hw with rfl | rfl | rfl | rfl | rfl | rfl | rfl | rfl | rfl | rfl | rfl | rfl | rfl | rfl | rfl | rfl | rfl | rfl | rfl <;> rfl
    exact va_Nw.use ho h9
  have hat : ∀ w ∈ vx_atS own ic cls z_nm, w.before args s = true := vx_hat (fun w hw => x5 w (h1 w hw)) h2 hnest
  have hR : vk_R own is text (G.2.2.2 sa) s := x6.2.2.2.1 _ hstr
  refine vx_throwSW (names := z_nm) x1 x2 Z.1 x4 hcls (fun q hq => by
      simp only [z_nm, List.mem_cons, List.not_mem_nil, or_false] at hq
      rcases hq with rfl | rfl <;> decide +kernel) (x5 _ hk) (x5 _ hini) hR hat hgood (z_xZq x6.2.2.2.2.2.1 S Z) (z_xZq x6.2.2.2.2.2.2.1 S Z) S.2.1 (hls.trans x3.symm) d0 d3 d4 d6 d9 (fun x hx => (Z.2.1 x hx).elim) hRf hRl hRc hRs x7 ?_ S.2.1.2.2 hc hs
  intro t hvm hz hq
  exact ⟨(), hn0, ⟨hn.symm, S.1.grow hz hq⟩, Nat.le_trans S.2.1.1 hz, fun q h1 h2 => by rw [hq q (Nat.lt_of_lt_of_le h1 S.2.1.1)]; exact S.2.1.2.1 q h1 h2⟩
theorem z_xout {Qc : Array Value → State → Outcome → State → Prop} {E : String} {ce : Cell} {q9 : Addr} {q : Xr} {H1 : Heap} {locs1 : List Loc} {k n : Nat} (C : Cx p s m args meth c own cc nL ret G) (Z : Cz l s c G) (hS1 : va_S (z_A b ad s.heap.size) s.heap H1 locs1) (hb : E = z_xn q.1 ∧ z_W b G ad q.2.2 H1) (hp : q.1 ≠ 0) (hx : q.1 ≠ 0 → q = res)
    (hcell : H1[q9]? = some ce) (hv : ce.vm = .none) (hcl : s.vm.findClass E = some ce.cls) (hc : k ≤ mc) (hs : n ≤ ms) :
    vx_W p l e R s m args below meth c H1 locs1 k n (vx_MQ below Qc (z_XC b G ad s.heap.size res) args s mc ms (z_A b ad s.heap.size)) (F0 m pc ls rest) q9 := by
  have e := hx hp
  subst e
  exact vx_out (fun x hx => (Z.2.1 x hx).elim) C.2.2.2.2.2.2.1 hcell hv hcl (fun t ht hvm => ⟨(), hp, ⟨hb.1, by rw [ht]; exact hb.2⟩, hS1.F ht⟩) hS1.2.2 hc hs
theorem z_xcallI {y : MethodName} {bytes : ByteArray} {maxL n fr lo index my ny : Nat} {ret2 : Option FieldType} {st : List Value} {cq : Nat} {rq : Int32} {σq : Sg} {Qc : Array Value → State → Outcome → State → Prop} (C : Cx p s m args meth c own cc nL ret G) (Z : Cz l s c G) (S : z_S b G ad σ (z_A b ad s.heap.size) s.heap H locs) (k o : Nat) (hk : z_side k = b) (ho : o < z_cnt k) {ci : Nat} {T : u_T} {N : Nat} {ty : Nat → FieldType} (F : CF ci y.cls T N ty) (hcl : ∃ fs, z_cel G ad k o (σ k o) = .inr (ci, fs)) (As : List Value)
    (hM : z_XI l y bytes maxL ret2 fr lo my ny b G ad σ H.size (.ref (ad k o) :: As) (cq, rq, σq)) (kv : KV y bytes maxL ret2 n) (hl : Cond.methodLink own index y ∈ TT) (hR : fr + 1 ≤ R.frames ∧ 8 + (maxL + 11) + lo ≤ R.locals) (hn : As.length = n) (hst : st = As.reverse ++ .ref (ad k o) :: rest) (hW8 : (rest.map fun v => v.category).sum ≤ 8) (hls : ls.size = nL) (hcs : cells + my ≤ R.cells ∧ slots + ny ≤ R.slots) (hc : cells + my ≤ mc) (hs : slots + ny ≤ ms)
    (hdg : decode cc pc = .ok (.invokevirtual index, 3)) (hx : cq ≠ 0 → (cq, rq, σq) = res)
    (kk : cq = 0 → ∀ (H1 : Heap) (locs1 : List Loc), z_S b G ad σq (z_A b ad s.heap.size) s.heap H1 locs1 → W p l e R s m args below meth c H1 locs1 (cells + my) (slots + ny) (vx_MQ below Qc (z_XC b G ad s.heap.size res) args s mc ms (z_A b ad s.heap.size)) (F0 m (pc + 3) ls (.int rq :: rest))) :
    W p l e R s m args below meth c H locs cells slots (vx_MQ below Qc (z_XC b G ad s.heap.size res) args s mc ms (z_A b ad s.heap.size)) (F0 m pc ls st) := by
  have C2 := C
  obtain ⟨x1, x2, x3, x4, x5, x6, x7, x8⟩ := C
  obtain ⟨k1, k2, k3, k4, k5, k6, k7⟩ := kv
  have cw : CallW R s args own y.cls index y bytes maxL ret2 (z_ws y bytes maxL ret2) { frames := fr, cells := my, slots := ny, locals := lo } my ny n := ⟨callB_of n x5 (tt_good k1) rfl rfl rfl (x5 _ k4) (x5 _ hl) ⟨k5, k6, k7⟩ hR, x5 _ k2, x5 _ k3⟩
  exact vx_calli (vx_runV (As := As) (rest := rest) ⟨x1, x2, x3, x4, x5⟩ hM cw ⟨z_blind _ b G ad σ H.size, z_recv (fs := []) x6 S hk ho F hcl, fun U hU hW => ⟨rfl, by rw [hU], by rw [hU]; exact S.1, x6.warm hW⟩⟩ rfl hn hls hst (lv_room hW8) hdg hcs) S.2.1 (fun q _ h => z_Ain S q h) (z_Ain S) (fun q _ h => z_Ain S q h)
    (fun E ce q9 u t H1 locs1 ht hvm hp hb hz hk1 hS1 hce hcv hcl => z_xout C2 Z hS1 (by rw [← ht]; exact hb) hp hx hce hcv hcl hc hs)
    (fun r1 u t H1 locs1 ht hvm hr hB hz1 hk1 hS1 => by
      obtain ⟨h0, rfl⟩ := hr
      exact kk h0 H1 locs1 (z_after S (by rw [← ht]; exact hB) hS1))
theorem z_xcallV {y : MethodName} {bytes : ByteArray} {maxL n fr lo index my ny : Nat} {ret2 : Option FieldType} {st : List Value} {cq : Nat} {rq : Int32} {σq : Sg} {Qc : Array Value → State → Outcome → State → Prop} (C : Cx p s m args meth c own cc nL ret G) (Z : Cz l s c G) (S : z_S b G ad σ (z_A b ad s.heap.size) s.heap H locs) (k o : Nat) (hk : z_side k = b) (ho : o < z_cnt k) {ci : Nat} {T : u_T} {N : Nat} {ty : Nat → FieldType} (F : CF ci y.cls T N ty) (hcl : ∃ fs, z_cel G ad k o (σ k o) = .inr (ci, fs)) (As : List Value)
    (hM : z_XV l y bytes maxL ret2 fr lo my ny b G ad σ H.size (.ref (ad k o) :: As) (cq, rq, σq)) (kv : KV y bytes maxL ret2 n) (hl : Cond.methodLink own index y ∈ TT) (hR : fr + 1 ≤ R.frames ∧ 8 + (maxL + 11) + lo ≤ R.locals) (hn : As.length = n) (hst : st = As.reverse ++ .ref (ad k o) :: rest) (hW8 : (rest.map fun v => v.category).sum ≤ 8) (hls : ls.size = nL) (hcs : cells + my ≤ R.cells ∧ slots + ny ≤ R.slots) (hc : cells + my ≤ mc) (hs : slots + ny ≤ ms)
    (hdg : decode cc pc = .ok (.invokevirtual index, 3)) (hx : cq ≠ 0 → (cq, rq, σq) = res)
    (kk : cq = 0 → ∀ (H1 : Heap) (locs1 : List Loc), z_S b G ad σq (z_A b ad s.heap.size) s.heap H1 locs1 → W p l e R s m args below meth c H1 locs1 (cells + my) (slots + ny) (vx_MQ below Qc (z_XC b G ad s.heap.size res) args s mc ms (z_A b ad s.heap.size)) (F0 m (pc + 3) ls rest)) :
    W p l e R s m args below meth c H locs cells slots (vx_MQ below Qc (z_XC b G ad s.heap.size res) args s mc ms (z_A b ad s.heap.size)) (F0 m pc ls st) := by
  have C2 := C
  obtain ⟨x1, x2, x3, x4, x5, x6, x7, x8⟩ := C
  obtain ⟨k1, k2, k3, k4, k5, k6, k7⟩ := kv
  have cw : CallW R s args own y.cls index y bytes maxL ret2 (z_ws y bytes maxL ret2) { frames := fr, cells := my, slots := ny, locals := lo } my ny n := ⟨callB_of n x5 (tt_good k1) rfl rfl rfl (x5 _ k4) (x5 _ hl) ⟨k5, k6, k7⟩ hR, x5 _ k2, x5 _ k3⟩
  exact vx_callv (vx_runV (As := As) (rest := rest) ⟨x1, x2, x3, x4, x5⟩ hM cw ⟨z_blind _ b G ad σ H.size, z_recv (fs := []) x6 S hk ho F hcl, fun U hU hW => ⟨rfl, by rw [hU], by rw [hU]; exact S.1, x6.warm hW⟩⟩ rfl hn hls hst (lv_room hW8) hdg hcs) S.2.1 (fun q _ h => z_Ain S q h) (z_Ain S) (fun q _ h => z_Ain S q h)
    (fun E ce q9 u t H1 locs1 ht hvm hp hb hz hk1 hS1 hce hcv hcl => z_xout C2 Z hS1 (by rw [← ht]; exact hb) hp hx hce hcv hcl hc hs)
    (fun u t H1 locs1 ht hvm hr hB hz1 hk1 hS1 => kk hr H1 locs1 (z_after S (by rw [← ht]; exact hB) hS1))
theorem z_xcallSV {y : MethodName} {bytes : ByteArray} {maxL n fr lo index my ny : Nat} {ret2 : Option FieldType} {st : List Value} {cq : Nat} {rq : Int32} {σq : Sg} {Qc : Array Value → State → Outcome → State → Prop} (C : Cx p s m args meth c own cc nL ret G) (Z : Cz l s c G) (S : z_S b G ad σ (z_A b ad s.heap.size) s.heap H locs) (As : List Value)
    (hM : z_XV l y bytes maxL ret2 fr lo my ny b G ad σ H.size As (cq, rq, σq)) (kv : KS y bytes maxL ret2 n) (hl : Cond.methodLink own index y ∈ TT) (hR : fr + 1 ≤ R.frames ∧ 8 + (maxL + 11) + lo ≤ R.locals) (hn : As.length = n) (hst : st = As.reverse ++ rest) (hW8 : (rest.map fun v => v.category).sum ≤ 8) (hls : ls.size = nL) (hcs : cells + my ≤ R.cells ∧ slots + ny ≤ R.slots) (hc : cells + my ≤ mc) (hs : slots + ny ≤ ms)
    (hdg : decode cc pc = .ok (.invokestatic index, 3)) (hx : cq ≠ 0 → (cq, rq, σq) = res)
    (kk : cq = 0 → ∀ (H1 : Heap) (locs1 : List Loc), z_S b G ad σq (z_A b ad s.heap.size) s.heap H1 locs1 → W p l e R s m args below meth c H1 locs1 (cells + my) (slots + ny) (vx_MQ below Qc (z_XC b G ad s.heap.size res) args s mc ms (z_A b ad s.heap.size)) (F0 m (pc + 3) ls rest)) :
    W p l e R s m args below meth c H locs cells slots (vx_MQ below Qc (z_XC b G ad s.heap.size res) args s mc ms (z_A b ad s.heap.size)) (F0 m pc ls st) := by
  have C2 := C
  obtain ⟨x1, x2, x3, x4, x5, x6, x7, x8⟩ := C
  obtain ⟨k1, k2, k3, k4, k5, k6⟩ := kv
  have cw : CallB R s args own index y bytes maxL ret2 (z_ws y bytes maxL ret2) { frames := fr, cells := my, slots := ny, locals := lo } my ny n ∧ (Cond.static y).before args s = true := ⟨callB_of n x5 (tt_good k1) rfl rfl rfl (x5 _ k3) (x5 _ hl) ⟨k4, k5, k6⟩ hR, x5 _ k2⟩
  exact vx_callv (vx_runS (As := As) (rest := rest) ⟨x1, x2, x3, x4, x5⟩ hM cw ⟨z_blind _ b G ad σ H.size, fun U hU hW => ⟨rfl, by rw [hU], by rw [hU]; exact S.1, x6.warm hW⟩⟩ rfl hn hls hst (lv_room hW8) hdg hcs) S.2.1 (fun q _ h => z_Ain S q h) (z_Ain S) (fun q _ h => z_Ain S q h)
    (fun E ce q9 u t H1 locs1 ht hvm hp hb hz hk1 hS1 hce hcv hcl => z_xout C2 Z hS1 (by rw [← ht]; exact hb) hp hx hce hcv hcl hc hs)
    (fun u t H1 locs1 ht hvm hr hB hz1 hk1 hS1 => kk hr H1 locs1 (z_after S (by rw [← ht]; exact hB) hS1))
end ZX
theorem xg_90 : ∀ w ∈ (vx_atS "BusLifts" 94 "java/lang/IndexOutOfBoundsException" z_nm).filter goodWord, w ∈ TT := by
  have h : ∀ w ∈ (vx_atS "BusLifts" 94 "java/lang/IndexOutOfBoundsException" z_nm).filter goodWord, w ∈ lw_tbl := by decide +kernel
  exact fun w hw => tt_in (h w hw) (List.mem_filter.mp hw).2
theorem xn_90 : ∀ w ∈ (vx_atS "BusLifts" 94 "java/lang/IndexOutOfBoundsException" z_nm).filter (fun w => !goodWord w), w ∈ z_nest := by decide +kernel
theorem xo_90 : ∀ w ∈ Cond.classLink "BusLifts" 90 "java/lang/IndexOutOfBoundsException" :: Cond.initialized "java/lang/IndexOutOfBoundsException" :: vx_atS "BusLifts" 94 "java/lang/IndexOutOfBoundsException" z_nm, vx_ot w = true := by decide +kernel
theorem xg_105 : ∀ w ∈ (vx_atS "BusLifts" 109 "java/lang/IllegalArgumentException" z_nm).filter goodWord, w ∈ TT := by
  have h : ∀ w ∈ (vx_atS "BusLifts" 109 "java/lang/IllegalArgumentException" z_nm).filter goodWord, w ∈ lw_tbl := by decide +kernel
  exact fun w hw => tt_in (h w hw) (List.mem_filter.mp hw).2
theorem xn_105 : ∀ w ∈ (vx_atS "BusLifts" 109 "java/lang/IllegalArgumentException" z_nm).filter (fun w => !goodWord w), w ∈ z_nest := by decide +kernel
theorem xo_105 : ∀ w ∈ Cond.classLink "BusLifts" 105 "java/lang/IllegalArgumentException" :: Cond.initialized "java/lang/IllegalArgumentException" :: vx_atS "BusLifts" 109 "java/lang/IllegalArgumentException" z_nm, vx_ot w = true := by decide +kernel
theorem xg_300 : ∀ w ∈ (vx_atS "BusLifts" 304 "java/lang/IllegalStateException" z_nm).filter goodWord, w ∈ TT := by
  have h : ∀ w ∈ (vx_atS "BusLifts" 304 "java/lang/IllegalStateException" z_nm).filter goodWord, w ∈ lw_tbl := by decide +kernel
  exact fun w hw => tt_in (h w hw) (List.mem_filter.mp hw).2
theorem xn_300 : ∀ w ∈ (vx_atS "BusLifts" 304 "java/lang/IllegalStateException" z_nm).filter (fun w => !goodWord w), w ∈ z_nest := by decide +kernel
theorem xo_300 : ∀ w ∈ Cond.classLink "BusLifts" 300 "java/lang/IllegalStateException" :: Cond.initialized "java/lang/IllegalStateException" :: vx_atS "BusLifts" 304 "java/lang/IllegalStateException" z_nm, vx_ot w = true := by decide +kernel
