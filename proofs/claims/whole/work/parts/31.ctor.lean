/-! constructors: rows over a heap that grows; every object at its own address -/
def y_K (G : Gx) (U : State) : Prop := z_K G U ∧ va_AO RX2 U ∧ va_AO RX1 U ∧ va_AO RX4 U
theorem y_K.warm {G : Gx} {s U : State} (hW : s.WarmedH U.vm) (h : y_K G s) : y_K G U := ⟨z_K.warm hW h.1, va_AO.moved hW.alike h.2.1, va_AO.moved hW.alike h.2.2.1, va_AO.moved hW.alike h.2.2.2⟩
theorem y_K.calling {G : Gx} {U : State} (g : JFrame) (mk : MethodId) (a : Array Value) (h : y_K G U) : y_K G (U.calling g mk a) := y_K.warm (s := U) (State.WarmedH.refl U) h
def y_C (p : Program) (s : State) (m : MethodId) (args : Array Value) (meth : Method) (c : Code) (own : String) (cc : ByteArray) (nL : Nat) (G : Gx) : Prop := Cx p s m args meth c own cc nL none G ∧ y_K G s ∧ meth.name = "<init>"
abbrev y_S (b0 : Nat) (s : State) (H : Heap) (locs : List Loc) : Prop := va_S (fun q => b0 ≤ q) s.heap H locs
theorem y_S.grow {b0 : Nat} {s : State} {H H1 : Heap} {locs : List Loc} (h : y_S b0 s H locs) (z : H1.size = H.size + 1) (o : ∀ q : Nat, q < H.size → H1[q]? = H[q]?) : y_S b0 s H1 locs :=
  ⟨Nat.le_trans h.1 (by omega), fun q h1 h2 => (o q (Nat.lt_of_lt_of_le h1 h.1)).trans (h.2.1 q h1 h2), h.2.2⟩
section YR
variable {p : Program} {l : Launch} {e : Env} {R : Room} {s : State} {m : MethodId} {args : Array Value} {below : List Frame} {meth : Method} {c : Code} {H : Heap} {locs : List Loc} {cells slots : Nat} {Q : State → Prop}
variable {cc : ByteArray} {pc : Nat} {ls : Array Slot} {rest : List Value} {own : String} {nL : Nat} {G : Gx} {b0 : Nat}
theorem y_obj (C : y_C p s m args meth c own cc nL G) {idx a : Nat} (hl : Cond.methodLink own idx objectInit ∈ TT) (hls : ls.size = nL) (hRf : 1 ≤ R.frames) (hRl : (rest.map fun v => v.category).sum + 12 ≤ R.locals) (hdg : decode cc pc = .ok (.invokespecial idx, 3))
    (kk : W p l e R s m args below meth c H locs cells slots Q (F0 m (pc + 3) ls rest)) : W p l e R s m args below meth c H locs cells slots Q (F0 m pc ls (.ref a :: rest)) := by
  obtain ⟨⟨x1, x2, x3, x4, x5, x6, x7, x8⟩, -, -⟩ := C
  exact W.objInit x1 x2 x4 (x5 _ hl) (x5 _ tw_1_30) (x5 _ tw_1_31) rfl (hls.trans x3.symm) rfl hdg hRf (by show 2 * 0 + _ + 12 ≤ _; omega) kk
theorem y_newI (C : y_C p s m args meth c own cc nL G) (S : y_S b0 s H locs) {q0 : Nat} (hq0 : H.size = q0) {i : Int32} (n : Nat) (hn : ¬ i < 0) (hN : i.toNatClampNeg = n) (hb : n * 4 ≤ 536870912) (hc : cells + 1 ≤ R.cells) (hs : slots + n ≤ R.slots) (hdg : decode cc pc = .ok (.newarray .int, 2))
    (kk : ∀ H1 : Heap, H1.size = q0 + 1 → (∀ q : Nat, q < q0 → H1[q]? = H[q]?) → va_at G.1 z_cl (q0, .inl (G.2.1 0, n, .inl (fun _ => 0))) H1 → y_S b0 s H1 locs → W p l e R s m args below meth c H1 locs (cells + 1) (slots + n) Q (F0 m (pc + 2) ls (.ref q0 :: rest))) :
    W p l e R s m args below meth c H locs cells slots Q (F0 m pc ls (.int i :: rest)) := by
  subst hq0
  obtain ⟨⟨x1, x2, x3, x4, x5, x6, x7, x8⟩, -, -⟩ := C
  refine va_newaK (atype := .int) x1 x2 (x5 _ tw_1_71) rfl hdg rfl hn hN hb hc hs rfl fun H1 cA e1 z1 o1 hAr hNm => ?_
  have hid : cA = G.2.1 0 := Option.some.inj (hNm.symm.trans (x6.1.2 0 _ rfl).2)
  subst hid
  refine kk H1 z1 o1 ?_ (S.grow z1 o1)
  show H1[H.size]? = some (vp_cell _ _)
  rw [vp_cell_i]
  exact e1
theorem y_newO (C : y_C p s m args meth c own cc nL G) (S : y_S b0 s H locs) {q0 : Nat} (hq0 : H.size = q0) {ci index : Nat} {Cn : String} {T : u_T} {N : Nat} {ty : Nat → FieldType} (F : CF ci Cn T N ty) (hcl : Cond.classLink own index Cn ∈ TT) (hinst : Cond.instantiable Cn N ∈ TT) (hini : Cond.initialized Cn ∈ TT)
    {fs : List Value} (hfs : ∀ j, j < N → defaultValue (ty j) = vp_V fs j) (hc : cells + 1 ≤ R.cells) (hs : slots + N ≤ R.slots) (hdg : decode cc pc = .ok (.new index, 3))
    (kk : ∀ H1 : Heap, H1.size = q0 + 1 → (∀ q : Nat, q < q0 → H1[q]? = H[q]?) → va_at G.1 z_cl (q0, .inr (ci, fs)) H1 → y_S b0 s H1 locs → W p l e R s m args below meth c H1 locs (cells + 1) (slots + N) Q (F0 m (pc + 3) ls (.ref q0 :: rest))) :
    W p l e R s m args below meth c H locs cells slots Q (F0 m pc ls rest) := by
  subst hq0
  obtain ⟨⟨x1, x2, x3, x4, x5, x6, x7, x8⟩, -, -⟩ := C
  obtain ⟨F1, F2, F3, F4⟩ := F
  have hKn := x6.1.1 ci _ F1
  refine W.newcK x1 x2 x4 (x5 _ hcl) (x5 _ hinst) (x5 _ hini) rfl hdg hc hs hKn.2.1 rfl fun H1 kC hkC e1 z1 o1 => ?_
  exact kk H1 z1 o1 ⟨_, F1, (u_born ty x5 F2 hKn hkC e1 F3).to hfs⟩ (S.grow z1 o1)
theorem y_newQ (C : y_C p s m args meth c own cc nL G) (S : y_S b0 s H locs) {q0 : Nat} (hq0 : H.size = q0) {index t : Nat} {Cn : String} (ht : (z_tys G)[t]? = some (G.2.1 t, .object Cn)) (hover : va_AO Cn s) (hcl : Cond.classLink own index Cn ∈ TT) {i : Int32} (n : Nat) (hn : ¬ i < 0) (hN : i.toNatClampNeg = n) (hb : n * 4 ≤ 536870912) (hc : cells + 1 ≤ R.cells) (hs : slots + n ≤ R.slots) (hdg : decode cc pc = .ok (.anewarray index, 3))
    (kk : ∀ H1 : Heap, H1.size = q0 + 1 → (∀ q : Nat, q < q0 → H1[q]? = H[q]?) → va_at G.1 z_cl (q0, .inl (G.2.1 t, n, .inr (.inr (.inr (.inr (fun _ => none)))))) H1 → y_S b0 s H1 locs → W p l e R s m args below meth c H1 locs (cells + 1) (slots + n) Q (F0 m (pc + 3) ls (.ref q0 :: rest))) :
    W p l e R s m args below meth c H locs cells slots Q (F0 m pc ls (.int i :: rest)) := by
  subst hq0
  obtain ⟨⟨x1, x2, x3, x4, x5, x6, x7, x8⟩, -, -⟩ := C
  subst hN
  refine W.anew x1 x2 x4 (x5 _ hcl) (va_AO.use hover) rfl hdg rfl hn hb hc hs fun cA kA comp f1 f2 f3 f4 => ?_
  obtain ⟨kA', comp', -, -, -, g4⟩ := (x6.1.2 t _ ht).2
  have hid : cA = G.2.1 t := Option.some.inj (f1.symm.trans g4)
  subst hid
  generalize hH1 : H.push ({ cls := G.2.1 t, slots := Array.replicate i.toNatClampNeg .null, vm := .none } : Cell) = H1
  have z1 : H1.size = H.size + 1 := by rw [← hH1, Array.size_push]
  have e1 : H1[H.size]? = some (arrV (G.2.1 t) i.toNatClampNeg (fun _ => .null)) := by rw [← hH1, Array.getElem?_push_size, ← arrV_new]
  have o1 : ∀ q : Nat, q < H.size → H1[q]? = H[q]? := fun q hq => by rw [← hH1, Array.getElem?_push, if_neg (Nat.ne_of_lt hq)]
  refine kk H1 z1 o1 ?_ (S.grow z1 o1)
  show H1[H.size]? = some (vp_cell _ _)
  rw [vp_cell_q]
  exact e1
theorem y_putF (C : y_C p s m args meth c own cc nL G) (S : y_S b0 s H locs) {a ci : Nat} {fs : List Value} (hat : va_at G.1 z_cl (a, .inr (ci, fs)) H) (ha : b0 ≤ a) {T : u_T} {N : Nat} {ty : Nat → FieldType} (F : CF ci own T N ty) (f : Nat) (hf : f < N) {v : Value} (hfl : f < fs.length)
    (hfin : (T f).2.2.2 = true) (hdecl : (T f).1 = own) (hn : narrow (ty f) v = v) (hfit : fits (ty f) v = true) {index : Nat} (hl : Cond.fieldLink own index (T f).1 (T f).2.1 (T f).2.2.1 ∈ TT) (hdg : decode cc pc = .ok (.putfield index, 3))
    (kk : ∀ (H1 : Heap) (locs1 : List Loc), H1.size = H.size → (∀ q : Nat, q ≠ a → H1[q]? = H[q]?) → va_at G.1 z_cl (a, .inr (ci, fs.set f v)) H1 → y_S b0 s H1 locs1 → W p l e R s m args below meth c H1 locs1 cells slots Q (F0 m (pc + 3) ls rest)) :
    W p l e R s m args below meth c H locs cells slots Q (F0 m pc ls (v :: .ref a :: rest)) := by
  obtain ⟨⟨x1, x2, x3, x4, x5, x6, x7, x8⟩, -, hin2⟩ := C
  obtain ⟨F1, F2, F3, F4⟩ := F
  have hK := x6.1
  have hap := va_apart (own := own) x5 F2 ty F3 F4 hK F1
  obtain ⟨r, h1, cell, q1, q2, q3, q4⟩ := hat
  have hr : r = (own, T, N) := Option.some.inj (h1.symm.trans F1)
  subst hr
  obtain ⟨hS, hfc, kC, hkC, hkind⟩ := hK.1 ci _ F1
  obtain ⟨cf, kf, fi, f9, hi, hsl⟩ := hS f hf
  have hlay := x5 _ (F2 _ (u_in_lay hf))
  unfold u_lay at hlay
  rw [if_pos hfin] at hlay
  have hst := (u_facts hfc hkC (u_lays x5 F2 hf) hi).1
  have hcf : m.cls = cf := by
    obtain ⟨_, _, c', _, _, _, -, -, hf', -, -, -, hown2, -⟩ := Cond.laysFinal_spec hlay
    have e1 : c' = cf := by have := hi.symm.trans hf'; simp at this; exact this.1.symm
    rw [hdecl] at hown2
    rw [← e1]; exact Option.some.inj (x4.symm.trans hown2)
  have h6 := u_fits hfc hkC hkind (Or.inr hlay) hi (F3 f hf) hn hfit
  refine W.putFinK x1 x2 x4 (x5 _ hl) hi hst hcf hin2 (by rw [q2]; exact h6) q1 q3 (by rw [hsl]; exact k2_hasslot (q4 f hf)) rfl rfl hdg fun H' e1 e2 e3 => ?_
  rw [hsl] at e1 ⊢
  exact kk H' _ e2 e3 ⟨_, F1, t_OB.to (V := updV (vp_V fs) f v) ⟨_, e1, q2, q3, t_set q4 hap hf v⟩ (fun j _ => vp_updV_set hfl v j)⟩ (S.put e2 e3 ha)
theorem y_putV (C : y_C p s m args meth c own cc nL G) (S : y_S b0 s H locs) {a ci : Nat} {fs : List Value} (hat : va_at G.1 z_cl (a, .inr (ci, fs)) H) (ha : b0 ≤ a) {T : u_T} {N : Nat} {ty : Nat → FieldType} (F : CF ci own T N ty) (f : Nat) (hf : f < N) {v : Value} (hfl : f < fs.length)
    (hfin : (T f).2.2.2 = false) (hn : narrow (ty f) v = v) (hfit : fits (ty f) v = true) {index : Nat} (hl : Cond.fieldLink own index (T f).1 (T f).2.1 (T f).2.2.1 ∈ TT) (hdg : decode cc pc = .ok (.putfield index, 3))
    (kk : ∀ (H1 : Heap) (locs1 : List Loc), H1.size = H.size → (∀ q : Nat, q ≠ a → H1[q]? = H[q]?) → va_at G.1 z_cl (a, .inr (ci, fs.set f v)) H1 → y_S b0 s H1 locs1 → W p l e R s m args below meth c H1 locs1 cells slots Q (F0 m (pc + 3) ls rest)) :
    W p l e R s m args below meth c H locs cells slots Q (F0 m pc ls (v :: .ref a :: rest)) := by
  obtain ⟨⟨x1, x2, x3, x4, x5, x6, x7, x8⟩, -, hin2⟩ := C
  obtain ⟨F1, F2, F3, F4⟩ := F
  have hK := x6.1
  have hap := va_apart (own := own) x5 F2 ty F3 F4 hK F1
  obtain ⟨r, h1, cell, q1, q2, q3, q4⟩ := hat
  have hr : r = (own, T, N) := Option.some.inj (h1.symm.trans F1)
  subst hr
  obtain ⟨hS, hfc, kC, hkC, hkind⟩ := hK.1 ci _ F1
  obtain ⟨cf, kf, fi, f9, hi, hsl⟩ := hS f hf
  have hlay := x5 _ (F2 _ (u_in_lay hf))
  unfold u_lay at hlay
  rw [if_neg (by rw [hfin]; decide)] at hlay
  have hst := (u_facts hfc hkC (u_lays x5 F2 hf) hi).1
  have h6 := u_store hfc hkC hkind hlay hi (F3 f hf) hn hfit
  refine W.putK x1 x2 (f := f9) ⟨x4, x5 _ hl, ⟨_, _, _, hi⟩, hst⟩ (by rw [q2]; exact h6) q1 q3 (by rw [hsl]; exact k2_hasslot (q4 f hf)) rfl rfl hdg fun H' e1 e2 e3 => ?_
  rw [hsl] at e1 ⊢
  exact kk H' _ e2 e3 ⟨_, F1, t_OB.to (V := updV (vp_V fs) f v) ⟨_, e1, q2, q3, t_set q4 hap hf v⟩ (fun j _ => vp_updV_set hfl v j)⟩ (S.put e2 e3 ha)
theorem y_get (C : y_C p s m args meth c own cc nL G) {a ci : Nat} {fs : List Value} (hat : va_at G.1 z_cl (a, .inr (ci, fs)) H) {T : u_T} {N : Nat} {ty : Nat → FieldType} (F : CF ci own T N ty) (f : Nat) (hf : f < N) {v : Value} (hv : fs[f]? = some v) {index : Nat} (hl : Cond.fieldLink own index (T f).1 (T f).2.1 (T f).2.2.1 ∈ TT) (hdg : decode cc pc = .ok (.getfield index, 3))
    (kk : W p l e R s m args below meth c H locs cells slots Q (F0 m (pc + 3) ls (v :: rest))) : W p l e R s m args below meth c H locs cells slots Q (F0 m pc ls (.ref a :: rest)) := by
  obtain ⟨⟨x1, x2, x3, x4, x5, x6, x7, x8⟩, -, -⟩ := C
  obtain ⟨F1, F2, F3, F4⟩ := F
  exact va_get (ws := [(a, .inr (ci, fs))]) (C := own) (T := T) (N := N) x1 x2 x5 F2 x4 x6.1 (va_P1 hat) 0 rfl F1 f hf (x5 _ hl) (fun _ h => h) hv hdg kk
theorem y_ast (C : y_C p s m args meth c own cc nL G) (S : y_S b0 s H locs) {a t n ci v : Nat} {f : Nat → Option Nat} {vs : List Value} {Cn : String} {T : u_T} {N : Nat} (hat : va_at G.1 z_cl (a, .inl (G.2.1 t, n, .inr (.inr (.inr (.inr f))))) H) (ha : b0 ≤ a) (ht : (z_tys G)[t]? = some (G.2.1 t, .object Cn)) (hv : va_at G.1 z_cl (v, .inr (ci, vs)) H) (hc : z_cl[ci]? = some (Cn, T, N))
    {i : Int32} (hin : ¬ (i < 0 ∨ n ≤ i.toNatClampNeg)) (hdg : decode cc pc = .ok (.aastore, 1))
    (kk : ∀ (H1 : Heap) (locs1 : List Loc), H1.size = H.size → (∀ q : Nat, q ≠ a → H1[q]? = H[q]?) → va_at G.1 z_cl (a, .inl (G.2.1 t, n, .inr (.inr (.inr (.inr (va_up f i.toNatClampNeg (some v))))))) H1 → y_S b0 s H1 locs1 → W p l e R s m args below meth c H1 locs1 cells slots Q (F0 m (pc + 1) ls rest)) :
    W p l e R s m args below meth c H locs cells slots Q (F0 m pc ls (.ref v :: .int i :: .ref a :: rest)) := by
  obtain ⟨⟨x1, x2, x3, x4, x5, x6, x7, x8⟩, -, -⟩ := C
  have hlt : i.toNatClampNeg < n := Nat.not_le.mp fun q => hin (Or.inr q)
  have h0 : ¬ i < 0 := fun q => hin (Or.inl q)
  obtain ⟨r', hr', cellV, g1, g2, g3, -⟩ := hv
  have hcls := (x6.1.1 ci _ hc).2
  obtain ⟨kA, comp, k1, k2, k3, -⟩ := (x6.1.2 t _ ht).2
  have hcomp : comp = G.1.1 ci := Option.some.inj (k3.symm.trans hcls.1)
  subst hcomp
  obtain ⟨kC, hkC, -⟩ := hcls.2
  refine W.aast x1 x2 hat (fun q h => by cases h) (fun h => by cases h) k1 k2 rfl hkC ⟨h0, by show _ < (arrV _ _ _).slots.size; rw [arrV_size]; exact hlt⟩ g1 (fun q h => by rw [g3] at h; cases h) (by rw [g2]; exact hkC) (by rw [g2]; exact va_assign hcls) rfl rfl hdg fun H1 e z oq => ?_
  refine kk H1 _ z oq ?_ (S.put z oq ha)
  show H1[a]? = some (vp_cell _ _)
  rw [e]
  rw [vp_cell_q, vp_cell_q, arrV_store]
  congr 2
  funext q
  by_cases hq : q = i.toNatClampNeg
  · subst hq
    simp [updV, va_up, va_rf]
  · simp [updV, va_up, hq]
end YR
/-- a constructor's contract: of an object just born, the last of the heap -/
def y_M (l : Launch) (y : MethodName) (bytes : ByteArray) (maxL fr lo mc ms : Nat) (G : Gx) (a ci : Nat) (fs : List Value) (n : Nat) (D : Heap → Prop) : Prop :=
  Met l y (z_ws y bytes maxL none) { frames := fr, cells := mc, slots := ms, locals := lo } (va_Pc [.ref a] (fun U => U.heap.size = a + 1 ∧ va_at G.1 z_cl (a, .inr (ci, fs)) U.heap ∧ y_K G U))
    (va_Qv (S := Unit) (fun _ => True) (fun _ t => t.heap.size = a + n ∧ D t.heap) (fun q => a ≤ q)) mc ms (fun q => a ≤ q)
theorem y_begin {l : Launch} {y : MethodName} {bytes : ByteArray} {maxL fr lo mc ms : Nat} {G : Gx} {a ci : Nat} {fs : List Value} {n : Nat} {D : Heap → Prop} (hy : plainName y.cls = true) (hy1 : y.name = "<init>") (hl : 1 ≤ maxL)
    (body : ∀ (p : Program) (e : Env) (s : State) (m : MethodId) (args : Array Value) (below : List Frame) (meth : Method) (c : Code) (ls : Array Slot), y_C p s m args meth c y.cls bytes maxL G → s.heap.size = a + 1 → va_at G.1 z_cl (a, .inr (ci, fs)) s.heap → y_S a s s.heap [] → lv_has ls maxL [(0, .ref a)] →
      W p l e { frames := fr, cells := mc, slots := ms, locals := lo } s m args below meth c s.heap [] 0 0 (MQ below (va_Qv (S := Unit) (fun _ => True) (fun _ t => t.heap.size = a + n ∧ D t.heap) (fun q => a ≤ q)) args s mc ms (fun q => a ≤ q)) (F0 m 0 ls [])) :
    y_M l y bytes maxL fr lo mc ms G a ci fs n D := by
  refine Met.ofW (cc := bytes) (maxL := maxL) (ret := none) hy rfl ?_
  intro p e s m args below meth c s₁ B hml hv
  obtain ⟨rfl, hsz, hat, hK⟩ := hv
  have hts := atoms_spec (ws := z_ws y bytes maxL none) B.pre
  have hl0 := lv_entry [Value.ref a] (show (lg_sl [Value.ref a]).length ≤ maxL from hl)
  rw [lg_entry_eq]
  exact body p e s m _ below meth c _ ⟨⟨B.exec, B.bytes, hml, findClass_of_methodNamed B.named, fun w hw => hts w (List.mem_cons_of_mem _ hw), hK.1, B.notSynchronized, B.returns⟩, hK, (name_of_methodNamed B.named B.method).1.trans hy1⟩ hsz hat va_S.rf hl0
section YE
variable {p : Program} {l : Launch} {e : Env} {R : Room} {s : State} {m : MethodId} {args : Array Value} {below : List Frame} {meth : Method} {c : Code} {H : Heap} {locs : List Loc} {cells slots mc ms : Nat} {Q : State → Prop}
variable {cc : ByteArray} {pc : Nat} {ls : Array Slot} {rest : List Value} {own : String} {nL : Nat} {G : Gx} {b0 : Nat}
theorem y_ret {n : Nat} {D : Heap → Prop} (C : y_C p s m args meth c own cc nL G) (S : y_S b0 s H locs) (hz : H.size = b0 + n) (hD : D H) (hc : cells ≤ mc) (hs : slots ≤ ms) (hdg : decode cc pc = .ok (.return_, 1)) :
    W p l e R s m args below meth c H locs cells slots (MQ below (va_Qv (S := Unit) (fun _ => True) (fun _ t => t.heap.size = b0 + n ∧ D t.heap) (fun q => b0 ≤ q)) args s mc ms (fun q => b0 ≤ q)) (F0 m pc ls []) := by
  obtain ⟨⟨x1, x2, x3, x4, x5, x6, x7, x8⟩, -, -⟩ := C
  exact W.widen hc hs (W.vret x1 x2 x8 (fun t ht hW => ⟨⟨(), rfl, trivial, by show t.heap.size = b0 + n ∧ D t.heap; rw [ht]; exact ⟨hz, hD⟩⟩, S.F ht⟩) S.2.2 hdg x7)
def y_KI (y : MethodName) (bytes : ByteArray) (maxL : Nat) : Prop := Cond.code y bytes maxL none ∈ TT ∧ Cond.instanceMethod y ∈ TT ∧ Cond.initialized y.cls ∈ TT ∧ y.name = "<init>" ∧ y.cls ≠ "java/lang/invoke/MethodHandle" ∧ y.cls ≠ "java/lang/invoke/VarHandle" ∧ (parseMethodDescriptor y.desc).map (fun d => d.parameters.length) = some 0
theorem y_blind {av : List Value} {a ci : Nat} {fs : List Value} {G : Gx} : FrameBlind (va_Pc av (fun U => U.heap.size = a + 1 ∧ va_at G.1 z_cl (a, .inr (ci, fs)) U.heap ∧ y_K G U)) := fun _ _ g mk q => ⟨q.1, q.2.1, q.2.2.1, q.2.2.2.calling g mk _⟩
theorem y_call {y : MethodName} {bytes : ByteArray} {maxL fr lo mc2 ms2 index a ci n : Nat} {fs : List Value} {D : Heap → Prop} (C : y_C p s m args meth c own cc nL G) (S : y_S b0 s H locs) (hb : b0 ≤ a) (hM : y_M l y bytes maxL fr lo mc2 ms2 G a ci fs n D) (kv : y_KI y bytes maxL) (hl : Cond.methodLink own index y ∈ TT) (hz : H.size = a + 1) (hat : va_at G.1 z_cl (a, .inr (ci, fs)) H)
    (hR : fr + 1 ≤ R.frames ∧ 8 + (maxL + 11) + lo ≤ R.locals) (hW8 : (rest.map fun v => v.category).sum ≤ 8) (hls : ls.size = nL) (hcs : cells + mc2 ≤ R.cells ∧ slots + ms2 ≤ R.slots) (hdg : decode cc pc = .ok (.invokespecial index, 3))
    (kk : ∀ (H1 : Heap) (locs1 : List Loc), H1.size = a + n → D H1 → (∀ q : Nat, q < a → H1[q]? = H[q]?) → y_S b0 s H1 locs1 → W p l e R s m args below meth c H1 locs1 (cells + mc2) (slots + ms2) Q (F0 m (pc + 3) ls rest)) :
    W p l e R s m args below meth c H locs cells slots Q (F0 m pc ls (.ref a :: rest)) := by
  have C2 := C
  obtain ⟨⟨x1, x2, x3, x4, x5, x6, x7, x8⟩, xk, -⟩ := C
  obtain ⟨k1, k2, k3, k4, k5, k6, k7⟩ := kv
  refine va_callv (va_runI (As := []) (rest := rest) ⟨x1, x2, x3, x4, x5⟩ hM (cwI 0 x5 (tt_good k1) rfl rfl rfl (x5 _ k3) (x5 _ hl) (x5 _ k2) k4 ⟨k5, k6, k7⟩ hR) ⟨y_blind, fun U hU hW => ⟨rfl, by rw [hU]; exact hz, by rw [hU]; exact hat, xk.warm hW⟩⟩ rfl rfl hls rfl (lv_room hW8) hdg hcs) S (fun q _ h => Nat.le_trans hb h) (fun q h => Nat.le_trans hb h)
    (fun u t H1 locs1 ht hvm hr hB hz1 hk1 hS1 => kk H1 locs1 (by rw [← ht]; exact hB.1) (by rw [← ht]; exact hB.2) (fun q hq => hk1 q (by omega) (by omega)) hS1)
theorem y_callN {y : MethodName} {bytes : ByteArray} {maxL fr lo mc2 ms2 index a ci n : Nat} {fs : List Value} {D : Heap → Prop} (C : y_C p s m args meth c own cc nL G) (S : y_S b0 s H locs) (hb : b0 ≤ a) (hM : y_M l y bytes maxL fr lo mc2 ms2 G a ci fs n D) (kv : y_KI y bytes maxL) (hl : Cond.methodLinkNest own index y RX7 ∈ z_nest) (hz : H.size = a + 1) (hat : va_at G.1 z_cl (a, .inr (ci, fs)) H)
    (hR : fr + 1 ≤ R.frames ∧ 8 + (maxL + 11) + lo ≤ R.locals) (hW8 : (rest.map fun v => v.category).sum ≤ 8) (hls : ls.size = nL) (hcs : cells + mc2 ≤ R.cells ∧ slots + ms2 ≤ R.slots) (hdg : decode cc pc = .ok (.invokespecial index, 3))
    (kk : ∀ (H1 : Heap) (locs1 : List Loc), H1.size = a + n → D H1 → (∀ q : Nat, q < a → H1[q]? = H[q]?) → y_S b0 s H1 locs1 → W p l e R s m args below meth c H1 locs1 (cells + mc2) (slots + ms2) Q (F0 m (pc + 3) ls rest)) :
    W p l e R s m args below meth c H locs cells slots Q (F0 m pc ls (.ref a :: rest)) := by
  have C2 := C
  obtain ⟨⟨x1, x2, x3, x4, x5, x6, x7, x8⟩, xk, -⟩ := C
  obtain ⟨k1, k2, k3, k4, k5, k6, k7⟩ := kv
  refine va_callv (va_runIN (As := []) (rest := rest) ⟨x1, x2, x3, x4, x5⟩ hM ⟨va_cnB 0 x5 (tt_good k1) rfl rfl rfl (x6.2.2.2.2.1 _ hl) (x5 _ k3) ⟨k5, k6, k7⟩ hR, k4, x5 _ k2⟩ ⟨y_blind, fun U hU hW => ⟨rfl, by rw [hU]; exact hz, by rw [hU]; exact hat, xk.warm hW⟩⟩ rfl rfl hls rfl (lv_room hW8) hdg hcs) S (fun q _ h => Nat.le_trans hb h) (fun q h => Nat.le_trans hb h)
    (fun u t H1 locs1 ht hvm hr hB hz1 hk1 hS1 => kk H1 locs1 (by rw [← ht]; exact hB.1) (by rw [← ht]; exact hB.2) (fun q hq => hk1 q (by omega) (by omega)) hS1)
end YE
