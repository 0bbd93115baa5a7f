/-! constructors: rows over a heap that grows; every object at its own address -/
def y_K (G : Gx) (U : State) : Prop := z_K G U ∧ va_AO RX2 U ∧ va_AO RX1 U ∧ va_AO RX4 U
theorem y_K.warm {G : Gx} {s U : State} (hW : s.WarmedH U.vm) (h : y_K G s) : y_K G U := ⟨z_K.warm hW h.1, va_AO.moved hW.alike h.2.1, va_AO.moved hW.alike h.2.2.1, va_AO.moved hW.alike h.2.2.2⟩
theorem y_K.calling {G : Gx} {U : State} (g : JFrame) (mk : MethodId) (a : Array Value) (h : y_K G U) : y_K G (U.calling g mk a) := y_K.warm (s := U) (State.WarmedH.refl U) h
def y_C (p : Program) (s : State) (m : MethodId) (args : Array Value) (meth : Method) (c : Code) (own : String) (cc : ByteArray) (nL : Nat) (G : Gx) : Prop := Cx p s m args meth c own cc nL none G ∧ y_K G s ∧ meth.name = "<init>"
abbrev y_S (b0 : Nat) (s : State) (H : Heap) (locs : List Loc) : Prop := va_S (fun q => b0 ≤ q) s.heap H locs
theorem y_S.grow {b0 : Nat} {s : State} {H H1 : Heap} {locs : List Loc} (h : y_S b0 s H locs) (z : H1.size = H.size + 1) (o : ∀ q : Nat, q < H.size → H1[q]? = H[q]?) : y_S b0 s H1 locs :=
  ⟨Nat.le_trans h.1 (by omega), fun q h1 h2 => (o q (Nat.lt_of_lt_of_le h1 h.1)).trans (h.2.1 q h1 h2), h.2.2⟩
section YR
variable {p : Program} {l : Launch} {e : Env} {R : Room} {s : State} {m : MethodId} {args : Array Value} {below : List Frame} {meth : Method} {c : Code} {H : Heap} {locs : List Loc} {cells slots : Nat} {Q : State → Prop}
variable {cc : ByteArray} {pc : Nat} {ls : Array Slot} {rest : List Value} {own : String} {nL : Nat} {G : Gx} {b0 : Nat}
theorem y_obj (C : y_C p s m args meth c own cc nL G) {idx a : Nat} (hl : Cond.methodLink own idx objectInit ∈ TT) (hls : ls.size = nL) (hRf : 1 ≤ R.frames) (hRl : (rest.map fun v => v.category).sum + 12 ≤ R.locals) (hdg : decode cc pc = .ok (.invokespecial idx, 3))
    (kk : W p l e R s m args below meth c H locs cells slots Q (F0 m (pc + 3) ls rest)) : W p l e R s m args below meth c H locs cells slots Q (F0 m pc ls (.ref a :: rest)) := by
  obtain ⟨⟨x1, x2, x3, x4, x5, x6, x7, x8⟩, -, -⟩ := C
  exact W.objInit x1 x2 x4 (x5 _ hl) (x5 _ tw_1_41) (x5 _ tw_1_42) rfl (hls.trans x3.symm) rfl hdg hRf (by show 2 * 0 + _ + 12 ≤ _; omega) kk
theorem y_newI (C : y_C p s m args meth c own cc nL G) (S : y_S b0 s H locs) {q0 : Nat} (hq0 : H.size = q0) {i : Int32} (n : Nat) (hn : ¬ i < 0) (hN : i.toNatClampNeg = n) (hb : n * 4 ≤ 536870912) (hc : cells + 1 ≤ R.cells) (hs : slots + n ≤ R.slots) (hdg : decode cc pc = .ok (.newarray .int, 2))
    (kk : ∀ H1 : Heap, H1.size = q0 + 1 → (∀ q : Nat, q < q0 → H1[q]? = H[q]?) → va_at G.1 z_cl (q0, .inl (G.2.1 0, n, .inl (fun _ => 0))) H1 → y_S b0 s H1 locs → W p l e R s m args below meth c H1 locs (cells + 1) (slots + n) Q (F0 m (pc + 2) ls (.ref q0 :: rest))) :
    W p l e R s m args below meth c H locs cells slots Q (F0 m pc ls (.int i :: rest)) := by
  subst hq0
  obtain ⟨⟨x1, x2, x3, x4, x5, x6, x7, x8⟩, -, -⟩ := C
  refine va_newaK (atype := .int) x1 x2 (x5 _ tw_1_82) rfl hdg rfl hn hN hb hc hs rfl fun H1 cA e1 z1 o1 hAr hNm => ?_
  have hid : cA = G.2.1 0 := Option.some.inj (hNm.symm.trans (x6.1.2 0 _ rfl).2)
  subst hid
  refine kk H1 z1 o1 ?_ (S.grow z1 o1)
  show H1[H.size]? = some (vp_cell _ _)
  rw [vp_cell_i]
  exact e1
theorem y_newO (C : y_C p s m args meth c own cc nL G) (S : y_S b0 s H locs) {q0 : Nat} (hq0 : H.size = q0) {ci index : Nat} {Cn : String} {T : u_T} {N : Nat} {ty : Nat → FieldType} (F : CF ci Cn T N ty) (hcl : Cond.classLink own index Cn ∈ TT) (hinst : Cond.instantiable Cn N ∈ TT) (hini : Cond.initialized Cn ∈ TT)
    {fs : List Value} (hfs : ∀ j, j < N → defaultValue (ty j) = vp_V fs j) (hc : cells + 1 ≤ R.cells) (hs : slots + N ≤ R.slots) (hdg : decode cc pc = .ok (.new index, 3))
    (kk : ∀ H1 : Heap, H1.size = q0 + 1 → (∀ q : Nat, q < q0 → H1[q]? = H[q]?) → va_at G.1 z_cl (q0, .inr (ci, fs)) H1 → y_S b0 s H1 locs → W p l e R s m args below meth c H1 locs (cells + 1) (slots + N) Q (F0 m (pc + 3) ls (.ref q0 :: rest))) :
    W p l e R s m args below meth c H locs cells slots Q (F0 m pc ls rest) := by
  subst hq0
  obtain ⟨⟨x1, x2, x3, x4, x5, x6, x7, x8⟩, -, -⟩ := C
  obtain ⟨F1, F2, F3, F4⟩ := F
  have hKn := x6.1.1 ci _ F1
  refine W.newcK x1 x2 x4 (x5 _ hcl) (x5 _ hinst) (x5 _ hini) rfl hdg hc hs hKn.2.1 rfl fun H1 kC hkC e1 z1 o1 => ?_
  exact kk H1 z1 o1 ⟨_, F1, (u_born ty x5 F2 hKn hkC e1 F3).to hfs⟩ (S.grow z1 o1)
theorem y_newQ (C : y_C p s m args meth c own cc nL G) (S : y_S b0 s H locs) {q0 : Nat} (hq0 : H.size = q0) {index t : Nat} {Cn : String} (ht : (z_tys G)[t]? = some (G.2.1 t, .object Cn)) (hover : va_AO Cn s) (hcl : Cond.classLink own index Cn ∈ TT) {i : Int32} (n : Nat) (hn : ¬ i < 0) (hN : i.toNatClampNeg = n) (hb : n * 4 ≤ 536870912) (hc : cells + 1 ≤ R.cells) (hs : slots + n ≤ R.slots) (hdg : decode cc pc = .ok (.anewarray index, 3))
    (kk : ∀ H1 : Heap, H1.size = q0 + 1 → (∀ q : Nat, q < q0 → H1[q]? = H[q]?) → va_at G.1 z_cl (q0, .inl (G.2.1 t, n, .inr (.inr (.inr (.inr (fun _ => none)))))) H1 → y_S b0 s H1 locs → W p l e R s m args below meth c H1 locs (cells + 1) (slots + n) Q (F0 m (pc + 3) ls (.ref q0 :: rest))) :
    W p l e R s m args below meth c H locs cells slots Q (F0 m pc ls (.int i :: rest)) := by
  subst hq0
  obtain ⟨⟨x1, x2, x3, x4, x5, x6, x7, x8⟩, -, -⟩ := C
  subst hN
  refine W.anew x1 x2 x4 (x5 _ hcl) (va_AO.use hover) rfl hdg rfl hn hb hc hs fun cA kA comp f1 f2 f3 f4 => ?_
  obtain ⟨kA', comp', -, -, -, g4⟩ := (x6.1.2 t _ ht).2
  have hid : cA = G.2.1 t := Option.some.inj (f1.symm.trans g4)
  subst hid
  generalize hH1 : H.push ({ cls := G.2.1 t, slots := Array.replicate i.toNatClampNeg .null, vm := .none } : Cell) = H1
  have z1 : H1.size = H.size + 1 := by rw [← hH1, Array.size_push]
  have e1 : H1[H.size]? = some (arrV (G.2.1 t) i.toNatClampNeg (fun _ => .null)) := by rw [← hH1, Array.getElem?_push_size, ← arrV_new]
  have o1 : ∀ q : Nat, q < H.size → H1[q]? = H[q]? := fun q hq => by rw [← hH1, Array.getElem?_push, if_neg (Nat.ne_of_lt hq)]
  refine kk H1 z1 o1 ?_ (S.grow z1 o1)
  show H1[H.size]? = some (vp_cell _ _)
  rw [vp_cell_q]
  exact e1
theorem y_putF (C : y_C p s m args meth c own cc nL G) (S : y_S b0 s H locs) {a ci : Nat} {fs : List Value} (hat : va_at G.1 z_cl (a, .inr (ci, fs)) H) (ha : b0 ≤ a) {T : u_T} {N : Nat} {ty : Nat → FieldType} (F : CF ci own T N ty) (f : Nat) (hf : f < N) {v : Value} (hfl : f < fs.length)
    (hfin : (T f).2.2.2 = true) (hdecl : (T f).1 = own) (hn : narrow (ty f) v = v) (hfit : fits (ty f) v = true) {index : Nat} (hl : Cond.fieldLink own index (T f).1 (T f).2.1 (T f).2.2.1 ∈ TT) (hdg : decode cc pc = .ok (.putfield index, 3))
    (kk : ∀ (H1 : Heap) (locs1 : List Loc), H1.size = H.size → (∀ q : Nat, q ≠ a → H1[q]? = H[q]?) → va_at G.1 z_cl (a, .inr (ci, fs.set f v)) H1 → y_S b0 s H1 locs1 → W p l e R s m args below meth c H1 locs1 cells slots Q (F0 m (pc + 3) ls rest)) :
    W p l e R s m args below meth c H locs cells slots Q (F0 m pc ls (v :: .ref a :: rest)) := by
  obtain ⟨⟨x1, x2, x3, x4, x5, x6, x7, x8⟩, -, hin2⟩ := C
  obtain ⟨F1, F2, F3, F4⟩ := F
  have hK := x6.1
  have hap := va_apart (own := own) x5 F2 ty F3 F4 hK F1
  obtain ⟨r, h1, cell, q1, q2, q3, q4⟩ := hat
  have hr : r = (own, T, N) := Option.some.inj (h1.symm.trans F1)
  subst hr
  obtain ⟨hS, hfc, kC, hkC, hkind⟩ := hK.1 ci _ F1
  obtain ⟨cf, kf, fi, f9, hi, hsl⟩ := hS f hf
  have hlay := x5 _ (F2 _ (u_in_lay hf))
  unfold u_lay at hlay
  rw [if_pos hfin] at hlay
  have hst := (u_facts hfc hkC (u_lays x5 F2 hf) hi).1
  have hcf : m.cls = cf := by
    obtain ⟨_, _, c', _, _, _, -, -, hf', -, -, -, hown2, -⟩ := Cond.laysFinal_spec hlay
    have e1 : c' = cf := by have := hi.symm.trans hf'; simp at this; exact this.1.symm
    rw [hdecl] at hown2
    rw [← e1]; exact Option.some.inj (x4.symm.trans hown2)
  have h6 := u_fits hfc hkC hkind (Or.inr hlay) hi (F3 f hf) hn hfit
  refine W.putFinK x1 x2 x4 (x5 _ hl) hi hst hcf hin2 (by rw [q2]; exact h6) q1 q3 (by rw [hsl]; exact k2_hasslot (q4 f hf)) rfl rfl hdg fun H' e1 e2 e3 => ?_
  rw [hsl] at e1 ⊢
  exact kk H' _ e2 e3 ⟨_, F1, t_OB.to (V := updV (vp_V fs) f v) ⟨_, e1, q2, q3, t_set q4 hap hf v⟩ (fun j _ => vp_updV_set hfl v j)⟩ (S.put e2 e3 ha)
theorem y_putV (C : y_C p s m args meth c own cc nL G) (S : y_S b0 s H locs) {a ci : Nat} {fs : List Value} (hat : va_at G.1 z_cl (a, .inr (ci, fs)) H) (ha : b0 ≤ a) {T : u_T} {N : Nat} {ty : Nat → FieldType} (F : CF ci own T N ty) (f : Nat) (hf : f < N) {v : Value} (hfl : f < fs.length)
    (hfin : (T f).2.2.2 = false) (hn : narrow (ty f) v = v) (hfit : fits (ty f) v = true) {index : Nat} (hl : Cond.fieldLink own index (T f).1 (T f).2.1 (T f).2.2.1 ∈ TT) (hdg : decode cc pc = .ok (.putfield index, 3))
    (kk : ∀ (H1 : Heap) (locs1 : List Loc), H1.size = H.size → (∀ q : Nat, q ≠ a → H1[q]? = H[q]?) → va_at G.1 z_cl (a, .inr (ci, fs.set f v)) H1 → y_S b0 s H1 locs1 → W p l e R s m args below meth c H1 locs1 cells slots Q (F0 m (pc + 3) ls rest)) :
    W p l e R s m args below meth c H locs cells slots Q (F0 m pc ls (v :: .ref a :: rest)) := by
  obtain ⟨⟨x1, x2, x3, x4, x5, x6, x7, x8⟩, -, hin2⟩ := C
  obtain ⟨F1, F2, F3, F4⟩ := F
  have hK := x6.1
  have hap := va_apart (own := own) x5 F2 ty F3 F4 hK F1
  obtain ⟨r, h1, cell, q1, q2, q3, q4⟩ := hat
  have hr : r = (own, T, N) := Option.some.inj (h1.symm.trans F1)
  subst hr
  obtain ⟨hS, hfc, kC, hkC, hkind⟩ := hK.1 ci _ F1
  obtain ⟨cf, kf, fi, f9, hi, hsl⟩ := hS f hf
  have hlay := x5 _ (F2 _ (u_in_lay hf))
  unfold u_lay at hlay
  rw [if_neg (by rw [hfin]; decide)] at hlay
  have hst := (u_facts hfc hkC (u_lays x5 F2 hf) hi).1
  have h6 := u_store hfc hkC hkind hlay hi (F3 f hf) hn hfit
  refine W.putK x1 x2 (f := f9) ⟨x4, x5 _ hl, ⟨_, _, _, hi⟩, hst⟩ (by rw [q2]; exact h6) q1 q3 (by rw [hsl]; exact k2_hasslot (q4 f hf)) rfl rfl hdg fun H' e1 e2 e3 => ?_
  rw [hsl] at e1 ⊢
  exact kk H' _ e2 e3 ⟨_, F1, t_OB.to (V := updV (vp_V fs) f v) ⟨_, e1, q2, q3, t_set q4 hap hf v⟩ (fun j _ => vp_updV_set hfl v j)⟩ (S.put e2 e3 ha)
theorem y_get (C : y_C p s m args meth c own cc nL G) {a ci : Nat} {fs : List Value} (hat : va_at G.1 z_cl (a, .inr (ci, fs)) H) {T : u_T} {N : Nat} {ty : Nat → FieldType} (F : CF ci own T N ty) (f : Nat) (hf : f < N) {v : Value} (hv : fs[f]? = some v) {index : Nat} (hl : Cond.fieldLink own index (T f).1 (T f).2.1 (T f).2.2.1 ∈ TT) (hdg : decode cc pc = .ok (.getfield index, 3))
    (kk : W p l e R s m args below meth c H locs cells slots Q (F0 m (pc + 3) ls (v :: rest))) : W p l e R s m args below meth c H locs cells slots Q (F0 m pc ls (.ref a :: rest)) := by
  obtain ⟨⟨x1, x2, x3, x4, x5, x6, x7, x8⟩, -, -⟩ := C
  obtain ⟨F1, F2, F3, F4⟩ := F
  exact va_get (ws := [(a, .inr (ci, fs))]) (C := own) (T := T) (N := N) x1 x2 x5 F2 x4 x6.1 (va_P1 hat) 0 rfl F1 f hf (x5 _ hl) (fun _ h => h) hv hdg kk
theorem y_ast (C : y_C p s m args meth c own cc nL G) (S : y_S b0 s H locs) {a t n ci v : Nat} {f : Nat → Option Nat} {vs : List Value} {Cn : String} {T : u_T} {N : Nat} (hat : va_at G.1 z_cl (a, .inl (G.2.1 t, n, .inr (.inr (.inr (.inr f))))) H) (ha : b0 ≤ a) (ht : (z_tys G)[t]? = some (G.2.1 t, .object Cn)) (hv : va_at G.1 z_cl (v, .inr (ci, vs)) H) (hc : z_cl[ci]? = some (Cn, T, N))
    {i : Int32} (hin : ¬ (i < 0 ∨ n ≤ i.toNatClampNeg)) (hdg : decode cc pc = .ok (.aastore, 1))
    (kk : ∀ (H1 : Heap) (locs1 : List Loc), H1.size = H.size → (∀ q : Nat, q ≠ a → H1[q]? = H[q]?) → va_at G.1 z_cl (a, .inl (G.2.1 t, n, .inr (.inr (.inr (.inr (va_up f i.toNatClampNeg (some v))))))) H1 → y_S b0 s H1 locs1 → W p l e R s m args below meth c H1 locs1 cells slots Q (F0 m (pc + 1) ls rest)) :
    W p l e R s m args below meth c H locs cells slots Q (F0 m pc ls (.ref v :: .int i :: .ref a :: rest)) := by
  obtain ⟨⟨x1, x2, x3, x4, x5, x6, x7, x8⟩, -, -⟩ := C
  have hlt : i.toNatClampNeg < n := Nat.not_le.mp fun q => hin (Or.inr q)
  have h0 : ¬ i < 0 := fun q => hin (Or.inl q)
  obtain ⟨r', hr', cellV, g1, g2, g3, -⟩ := hv
  have hcls := (x6.1.1 ci _ hc).2
  obtain ⟨kA, comp, k1, k2, k3, -⟩ := (x6.1.2 t _ ht).2
  have hcomp : comp = G.1.1 ci := Option.some.inj (k3.symm.trans hcls.1)
  subst hcomp
  obtain ⟨kC, hkC, -⟩ := hcls.2
  refine W.aast x1 x2 hat (fun q h => by cases h) (fun h => by cases h) k1 k2 rfl hkC ⟨h0, by show _ < (arrV _ _ _).slots.size; rw [arrV_size]; exact hlt⟩ g1 (fun q h => by rw [g3] at h; cases h) (by rw [g2]; exact hkC) (by rw [g2]; exact va_assign hcls) rfl rfl hdg fun H1 e z oq => ?_
  refine kk H1 _ z oq ?_ (S.put z oq ha)
  show H1[a]? = some (vp_cell _ _)
  rw [e]
  rw [vp_cell_q, vp_cell_q, arrV_store]
  congr 2
  funext q
  by_cases hq : q = i.toNatClampNeg
  · subst hq
    simp [updV, va_up, va_rf]
  · simp [updV, va_up, hq]
end YR
/-- a constructor's contract: of an object just born, the last of the heap -/
def y_M (l : Launch) (y : MethodName) (bytes : ByteArray) (maxL fr lo mc ms : Nat) (G : Gx) (a ci : Nat) (fs : List Value) (n : Nat) (D : Heap → Prop) : Prop :=
  Met l y (z_ws y bytes maxL none) { frames := fr, cells := mc, slots := ms, locals := lo } (va_Pc [.ref a] (fun U => U.heap.size = a + 1 ∧ va_at G.1 z_cl (a, .inr (ci, fs)) U.heap ∧ y_K G U))
    (va_Qv (S := Unit) (fun _ => True) (fun _ t => t.heap.size = a + n ∧ D t.heap) (fun q => a ≤ q)) mc ms (fun q => a ≤ q)
theorem y_begin {l : Launch} {y : MethodName} {bytes : ByteArray} {maxL fr lo mc ms : Nat} {G : Gx} {a ci : Nat} {fs : List Value} {n : Nat} {D : Heap → Prop} (hy : plainName y.cls = true) (hy1 : y.name = "<init>") (hl : 1 ≤ maxL)
    (body : ∀ (p : Program) (e : Env) (s : State) (m : MethodId) (args : Array Value) (below : List Frame) (meth : Method) (c : Code) (ls : Array Slot), y_C p s m args meth c y.cls bytes maxL G → s.heap.size = a + 1 → va_at G.1 z_cl (a, .inr (ci, fs)) s.heap → y_S a s s.heap [] → lv_has ls maxL [(0, .ref a)] →
      W p l e { frames := fr, cells := mc, slots := ms, locals := lo } s m args below meth c s.heap [] 0 0 (MQ below (va_Qv (S := Unit) (fun _ => True) (fun _ t => t.heap.size = a + n ∧ D t.heap) (fun q => a ≤ q)) args s mc ms (fun q => a ≤ q)) (F0 m 0 ls [])) :
    y_M l y bytes maxL fr lo mc ms G a ci fs n D := by
  refine Met.ofW (cc := bytes) (maxL := maxL) (ret := none) hy rfl ?_
  intro p e s m args below meth c s₁ B hml hv
  obtain ⟨rfl, hsz, hat, hK⟩ := hv
  have hts := atoms_spec (ws := z_ws y bytes maxL none) B.pre
  have hl0 := lv_entry [Value.ref a] (show (lg_sl [Value.ref a]).length ≤ maxL from hl)
  rw [lg_entry_eq]
  exact body p e s m _ below meth c _ ⟨⟨B.exec, B.bytes, hml, findClass_of_methodNamed B.named, fun w hw => hts w (List.mem_cons_of_mem _ hw), hK.1, B.notSynchronized, B.returns⟩, hK, (name_of_methodNamed B.named B.method).1.trans hy1⟩ hsz hat va_S.rf hl0
section YE
variable {p : Program} {l : Launch} {e : Env} {R : Room} {s : State} {m : MethodId} {args : Array Value} {below : List Frame} {meth : Method} {c : Code} {H : Heap} {locs : List Loc} {cells slots mc ms : Nat} {Q : State → Prop}
variable {cc : ByteArray} {pc : Nat} {ls : Array Slot} {rest : List Value} {own : String} {nL : Nat} {G : Gx} {b0 : Nat}
theorem y_ret {n : Nat} {D : Heap → Prop} (C : y_C p s m args meth c own cc nL G) (S : y_S b0 s H locs) (hz : H.size = b0 + n) (hD : D H) (hc : cells ≤ mc) (hs : slots ≤ ms) (hdg : decode cc pc = .ok (.return_, 1)) :
    W p l e R s m args below meth c H locs cells slots (MQ below (va_Qv (S := Unit) (fun _ => True) (fun _ t => t.heap.size = b0 + n ∧ D t.heap) (fun q => b0 ≤ q)) args s mc ms (fun q => b0 ≤ q)) (F0 m pc ls []) := by
  obtain ⟨⟨x1, x2, x3, x4, x5, x6, x7, x8⟩, -, -⟩ := C
  exact W.widen hc hs (W.vret x1 x2 x8 (fun t ht hW => ⟨⟨(), rfl, trivial, by show t.heap.size = b0 + n ∧ D t.heap; rw [ht]; exact ⟨hz, hD⟩⟩, S.F ht⟩) S.2.2 hdg x7)
def y_KI (y : MethodName) (bytes : ByteArray) (maxL : Nat) : Prop := Cond.code y bytes maxL none ∈ TT ∧ Cond.instanceMethod y ∈ TT ∧ Cond.initialized y.cls ∈ TT ∧ y.name = "<init>" ∧ y.cls ≠ "java/lang/invoke/MethodHandle" ∧ y.cls ≠ "java/lang/invoke/VarHandle" ∧ (parseMethodDescriptor y.desc).map (fun d => d.parameters.length) = some 0
theorem y_blind {av : List Value} {a ci : Nat} {fs : List Value} {G : Gx} : FrameBlind (va_Pc av (fun U => U.heap.size = a + 1 ∧ va_at G.1 z_cl (a, .inr (ci, fs)) U.heap ∧ y_K G U)) := fun _ _ g mk q => ⟨q.1, q.2.1, q.2.2.1, q.2.2.2.calling g mk _⟩
theorem y_call {y : MethodName} {bytes : ByteArray} {maxL fr lo mc2 ms2 index a ci n : Nat} {fs : List Value} {D : Heap → Prop} (C : y_C p s m args meth c own cc nL G) (S : y_S b0 s H locs) (hb : b0 ≤ a) (hM : y_M l y bytes maxL fr lo mc2 ms2 G a ci fs n D) (kv : y_KI y bytes maxL) (hl : Cond.methodLink own index y ∈ TT) (hz : H.size = a + 1) (hat : va_at G.1 z_cl (a, .inr (ci, fs)) H)
    (hR : fr + 1 ≤ R.frames ∧ 8 + (maxL + 11) + lo ≤ R.locals) (hW8 : (rest.map fun v => v.category).sum ≤ 8) (hls : ls.size = nL) (hcs : cells + mc2 ≤ R.cells ∧ slots + ms2 ≤ R.slots) (hdg : decode cc pc = .ok (.invokespecial index, 3))
    (kk : ∀ (H1 : Heap) (locs1 : List Loc), H1.size = a + n → D H1 → (∀ q : Nat, q < a → H1[q]? = H[q]?) → y_S b0 s H1 locs1 → W p l e R s m args below meth c H1 locs1 (cells + mc2) (slots + ms2) Q (F0 m (pc + 3) ls rest)) :
    W p l e R s m args below meth c H locs cells slots Q (F0 m pc ls (.ref a :: rest)) := by
  have C2 := C
  obtain ⟨⟨x1, x2, x3, x4, x5, x6, x7, x8⟩, xk, -⟩ := C
  obtain ⟨k1, k2, k3, k4, k5, k6, k7⟩ := kv
  refine va_callv (va_runI (As := []) (rest := rest) ⟨x1, x2, x3, x4, x5⟩ hM (cwI 0 x5 (tt_good k1) rfl rfl rfl (x5 _ k3) (x5 _ hl) (x5 _ k2) k4 ⟨k5, k6, k7⟩ hR) ⟨y_blind, fun U hU hW => ⟨rfl, by rw [hU]; exact hz, by rw [hU]; exact hat, xk.warm hW⟩⟩ rfl rfl hls rfl (lv_room hW8) hdg hcs) S (fun q _ h => Nat.le_trans hb h) (fun q h => Nat.le_trans hb h)
    (fun u t H1 locs1 ht hvm hr hB hz1 hk1 hS1 => kk H1 locs1 (by rw [← ht]; exact hB.1) (by rw [← ht]; exact hB.2) (fun q hq => hk1 q (by omega) (by omega)) hS1)
theorem y_callN {y : MethodName} {bytes : ByteArray} {maxL fr lo mc2 ms2 index a ci n : Nat} {fs : List Value} {D : Heap → Prop} (C : y_C p s m args meth c own cc nL G) (S : y_S b0 s H locs) (hb : b0 ≤ a) (hM : y_M l y bytes maxL fr lo mc2 ms2 G a ci fs n D) (kv : y_KI y bytes maxL) (hl : Cond.methodLinkNest own index y RX7 ∈ z_nest) (hz : H.size = a + 1) (hat : va_at G.1 z_cl (a, .inr (ci, fs)) H)
    (hR : fr + 1 ≤ R.frames ∧ 8 + (maxL + 11) + lo ≤ R.locals) (hW8 : (rest.map fun v => v.category).sum ≤ 8) (hls : ls.size = nL) (hcs : cells + mc2 ≤ R.cells ∧ slots + ms2 ≤ R.slots) (hdg : decode cc pc = .ok (.invokespecial index, 3))
    (kk : ∀ (H1 : Heap) (locs1 : List Loc), H1.size = a + n → D H1 → (∀ q : Nat, q < a → H1[q]? = H[q]?) → y_S b0 s H1 locs1 → W p l e R s m args below meth c H1 locs1 (cells + mc2) (slots + ms2) Q (F0 m (pc + 3) ls rest)) :
    W p l e R s m args below meth c H locs cells slots Q (F0 m pc ls (.ref a :: rest)) := by
  have C2 := C
  obtain ⟨⟨x1, x2, x3, x4, x5, x6, x7, x8⟩, xk, -⟩ := C
  obtain ⟨k1, k2, k3, k4, k5, k6, k7⟩ := kv
  refine va_callv (va_runIN (As := []) (rest := rest) ⟨x1, x2, x3, x4, x5⟩ hM ⟨va_cnB 0 x5 (tt_good k1) rfl rfl rfl (x6.2.2.2.2.1 _ hl) (x5 _ k3) ⟨k5, k6, k7⟩ hR, k4, x5 _ k2⟩ ⟨y_blind, fun U hU hW => ⟨rfl, by rw [hU]; exact hz, by rw [hU]; exact hat, xk.warm hW⟩⟩ rfl rfl hls rfl (lv_room hW8) hdg hcs) S (fun q _ h => Nat.le_trans hb h) (fun q h => Nat.le_trans hb h)
    (fun u t H1 locs1 ht hvm hr hB hz1 hk1 hS1 => kk H1 locs1 (by rw [← ht]; exact hB.1) (by rw [← ht]; exact hB.2) (fun q hq => hk1 q (by omega) (by omega)) hS1)
end YE

/-! the new objects: where each lies, what each holds -/
def z_lo (j : Nat) : Nat := if j < 3 then 3 + 56 * j else 5 + 56 * j
def z_mo (n0 j : Nat) : Nat := if j < 13 then n0 + z_lo j + 4 else n0 + 734
def z_ca (n0 o : Nat) : Nat := n0 + z_lo (o / 4) + 12 + 5 * (o % 4)
def z_ad (n0 m0 : Nat) : Ad := fun k o => match k with
  | 0 => n0 + 733
  | 1 => n0 + z_lo (o / 24) + 32 + o % 24
  | 2 => z_ca n0 o
  | 3 => n0 + 171
  | 4 => n0 + z_lo o
  | 5 => z_mo n0 o
  | 6 => n0 + 739
  | 7 => n0
  | 10 => n0 + 1
  | 11 => n0 + 2
  | 12 => n0 + z_lo o + 1
  | 13 => n0 + z_lo o + 9
  | 14 => n0 + z_lo o + 10
  | 15 => n0 + z_lo o + 11
  | 16 => z_ca n0 o + 1
  | 17 => z_ca n0 o + 2
  | 18 => z_ca n0 o + 3
  | 19 => z_ca n0 o + 4
  | 20 => z_mo n0 o + 1
  | 21 => z_mo n0 o + 2
  | 22 => z_mo n0 o + 3
  | 23 => z_mo n0 o + 4
  | 24 => n0 + 740
  | 25 => n0 + z_lo o + 2
  | 26 => n0 + z_lo o + 3
  | 27 => n0 + 172
  | _ => 0
def z_0 : Nat → Int32 := fun _ => 0
def y_e (G : Gx) (ad : Ad) (q : Nat × Nat) : va_E := z_cel G ad q.1 q.2 z_0
def z_ivC (o i : Nat) : Nat × Nat := match i with
  | 0 => (2, o)
  | 1 => (16, o)
  | 2 => (17, o)
  | 3 => (18, o)
  | _ => (19, o)
def z_ivM (o i : Nat) : Nat × Nat := match i with
  | 0 => (5, o)
  | 1 => (20, o)
  | 2 => (21, o)
  | 3 => (22, o)
  | _ => (23, o)
def z_ivR (i : Nat) : Nat × Nat := match i with
  | 0 => (6, 0)
  | _ => (24, 0)
def z_ivB (i : Nat) : Nat × Nat := match i with
  | 0 => (0, 0)
  | i + 1 => z_ivM 13 i
def z_ivL (j i : Nat) : Nat × Nat := if i = 0 then (4, j) else if i = 1 then (12, j) else if i = 2 then (25, j) else if i = 3 then (26, j) else if i < 9 then z_ivM j (i - 4) else if i = 9 then (13, j) else if i = 10 then (14, j) else if i = 11 then (15, j)
  else if i < 32 then z_ivC (4 * j + (i - 12) / 5) ((i - 12) % 5) else (1, 24 * j + (i - 32))
def z_ivH (i : Nat) : Nat × Nat := if i = 0 then (3, 0) else if i = 1 then (27, 0) else z_ivL (3 + (i - 2) / 56) ((i - 2) % 56)
def z_iv (i : Nat) : Nat × Nat := if i = 0 then (7, 0) else if i = 1 then (10, 0) else if i = 2 then (11, 0) else if i < 171 then z_ivL ((i - 3) / 56) ((i - 3) % 56) else if i < 733 then z_ivH (i - 171) else if i < 739 then z_ivB (i - 733) else z_ivR (i - 739)
def y_eC (G : Gx) (ad : Ad) (o i : Nat) : va_E := y_e G ad (z_ivC o i)
def y_eM (G : Gx) (ad : Ad) (o i : Nat) : va_E := y_e G ad (z_ivM o i)
def y_eR (G : Gx) (ad : Ad) (i : Nat) : va_E := y_e G ad (z_ivR i)
def y_eB (G : Gx) (ad : Ad) (i : Nat) : va_E := y_e G ad (z_ivB i)
def y_eL (G : Gx) (ad : Ad) (j i : Nat) : va_E := y_e G ad (z_ivL j i)
def y_eH (G : Gx) (ad : Ad) (i : Nat) : va_E := y_e G ad (z_ivH i)
theorem y_qeq {q : Nat × va_E} {e : va_E} {D : va_G} {cl : List vw_C} {H : Heap} {a b : Nat} {x : va_E} (h : va_at D cl (a, x) H) (h1 : a = b) (h2 : x = e) : va_at D cl (b, e) H := by
  subst h1; subst h2; exact h
theorem y_df0 : ∀ j, j < 1 → defaultValue (tyX0 j) = vp_V [.null] j := by
  intro j hj
  match j, hj with
  | 0, _ => rfl
theorem y_df1 : ∀ j, j < 11 → defaultValue (tyX1 j) = vp_V [.int 0, .int 0, .int 0, .int 0, .int 0, .int 0, .int 0, .int 0, .int 0, .int 0, .int 0] j := by
  intro j hj
  match j, hj with
  | 0, _ => rfl
  | 1, _ => rfl
  | 2, _ => rfl
  | 3, _ => rfl
  | 4, _ => rfl
  | 5, _ => rfl
  | 6, _ => rfl
  | 7, _ => rfl
  | 8, _ => rfl
  | 9, _ => rfl
  | 10, _ => rfl
theorem y_df2 : ∀ j, j < 14 → defaultValue (tyX2 j) = vp_V [.int 0, .int 0, .int 0, .int 0, .int 0, .int 0, .int 0, .int 0, .int 0, .int 0, .null, .null, .null, .null] j := by
  intro j hj
  match j, hj with
  | 0, _ => rfl
  | 1, _ => rfl
  | 2, _ => rfl
  | 3, _ => rfl
  | 4, _ => rfl
  | 5, _ => rfl
  | 6, _ => rfl
  | 7, _ => rfl
  | 8, _ => rfl
  | 9, _ => rfl
  | 10, _ => rfl
  | 11, _ => rfl
  | 12, _ => rfl
  | 13, _ => rfl
theorem y_df3 : ∀ j, j < 3 → defaultValue (tyX3 j) = vp_V [.int 0, .int 0, .null] j := by
  intro j hj
  match j, hj with
  | 0, _ => rfl
  | 1, _ => rfl
  | 2, _ => rfl
theorem y_df4 : ∀ j, j < 12 → defaultValue (tyX4 j) = vp_V [.int 0, .int 0, .int 0, .int 0, .int 0, .null, .null, .null, .null, .null, .null, .null] j := by
  intro j hj
  match j, hj with
  | 0, _ => rfl
  | 1, _ => rfl
  | 2, _ => rfl
  | 3, _ => rfl
  | 4, _ => rfl
  | 5, _ => rfl
  | 6, _ => rfl
  | 7, _ => rfl
  | 8, _ => rfl
  | 9, _ => rfl
  | 10, _ => rfl
  | 11, _ => rfl
theorem y_df5 : ∀ j, j < 5 → defaultValue (tyX5 j) = vp_V [.int 0, .null, .null, .null, .null] j := by
  intro j hj
  match j, hj with
  | 0, _ => rfl
  | 1, _ => rfl
  | 2, _ => rfl
  | 3, _ => rfl
  | 4, _ => rfl
theorem y_df6 : ∀ j, j < 9 → defaultValue (tyX6 j) = vp_V [.int 0, .int 0, .null, .int 0, .int 0, .int 0, .int 0, .int 0, .int 0] j := by
  intro j hj
  match j, hj with
  | 0, _ => rfl
  | 1, _ => rfl
  | 2, _ => rfl
  | 3, _ => rfl
  | 4, _ => rfl
  | 5, _ => rfl
  | 6, _ => rfl
  | 7, _ => rfl
  | 8, _ => rfl
theorem y_df7 : ∀ j, j < 13 → defaultValue (tyX7 j) = vp_V [.null, .int 0, .int 0, .int 0, .null, .int 0, .null, .null, .null, .int 0, .null, .null, .null] j := by
  intro j hj
  match j, hj with
  | 0, _ => rfl
  | 1, _ => rfl
  | 2, _ => rfl
  | 3, _ => rfl
  | 4, _ => rfl
  | 5, _ => rfl
  | 6, _ => rfl
  | 7, _ => rfl
  | 8, _ => rfl
  | 9, _ => rfl
  | 10, _ => rfl
  | 11, _ => rfl
  | 12, _ => rfl
theorem dX1_init_0 : decode cX1_init 0 = .ok (.aload_n 0, 1) := by decide +kernel
theorem dX1_init_1 : decode cX1_init 1 = .ok (.invokespecial 3, 3) := by decide +kernel
theorem dX1_init_4 : decode cX1_init 4 = .ok (.return_, 1) := by decide +kernel
theorem kv_X1_init : y_KI yX1_init cX1_init 1 := ⟨tw_1_160, tw_1_159, tw_1_15, rfl, by decide, by decide, by decide +kernel⟩
set_option maxHeartbeats 4000000 in
set_option maxRecDepth 100000 in
theorem m_X1_init (l : Launch) (G : Gx) (ad : Ad) (o : Nat) (a : Nat)  : y_M l yX1_init cX1_init 1 1 12 0 0 G a 1 [.int 0, .int 0, .int 0, .int 0, .int 0, .int 0, .int 0, .int 0, .int 0, .int 0, .int 0] 1 (fun H => ∀ i, i < 1 → va_at G.1 z_cl (a + i, z_cel G ad 1 o z_0) H) := by
  refine y_begin (by decide +kernel) rfl (Nat.le_of_ble_eq_true rfl) (fun p e s m args below meth c ls C hz h0 S hl => ?_)
  refine lv_aload_n C.1.1 C.1.2.1 dX1_init_0 rfl (lv_at hl 0 rfl) ?_
  refine y_obj C tw_1_161 hl.1 (Nat.le_of_ble_eq_true rfl) (Nat.le_of_ble_eq_true rfl) dX1_init_1 ?_
  refine y_ret (n := 1) (D := fun H => ∀ i, i < 1 → va_at G.1 z_cl (a + i, z_cel G ad 1 o z_0) H) C S hz (fun i hi => ?_) (Nat.le_of_ble_eq_true rfl) (Nat.le_of_ble_eq_true rfl) dX1_init_4
  match i, hi with
  | 0, _ => exact h0
theorem dX5_init_0 : decode cX5_init 0 = .ok (.aload_n 0, 1) := by decide +kernel
theorem dX5_init_1 : decode cX5_init 1 = .ok (.invokespecial 3, 3) := by decide +kernel
theorem dX5_init_4 : decode cX5_init 4 = .ok (.aload_n 0, 1) := by decide +kernel
theorem dX5_init_5 : decode cX5_init 5 = .ok (.sipush 240, 3) := by decide +kernel
theorem dX5_init_8 : decode cX5_init 8 = .ok (.newarray .int, 2) := by decide +kernel
theorem dX5_init_10 : decode cX5_init 10 = .ok (.putfield 9, 3) := by decide +kernel
theorem dX5_init_13 : decode cX5_init 13 = .ok (.aload_n 0, 1) := by decide +kernel
theorem dX5_init_14 : decode cX5_init 14 = .ok (.sipush 240, 3) := by decide +kernel
theorem dX5_init_17 : decode cX5_init 17 = .ok (.newarray .int, 2) := by decide +kernel
theorem dX5_init_19 : decode cX5_init 19 = .ok (.putfield 15, 3) := by decide +kernel
theorem dX5_init_22 : decode cX5_init 22 = .ok (.aload_n 0, 1) := by decide +kernel
theorem dX5_init_23 : decode cX5_init 23 = .ok (.sipush 240, 3) := by decide +kernel
theorem dX5_init_26 : decode cX5_init 26 = .ok (.newarray .int, 2) := by decide +kernel
theorem dX5_init_28 : decode cX5_init 28 = .ok (.putfield 18, 3) := by decide +kernel
theorem dX5_init_31 : decode cX5_init 31 = .ok (.aload_n 0, 1) := by decide +kernel
theorem dX5_init_32 : decode cX5_init 32 = .ok (.sipush 240, 3) := by decide +kernel
theorem dX5_init_35 : decode cX5_init 35 = .ok (.newarray .int, 2) := by decide +kernel
theorem dX5_init_37 : decode cX5_init 37 = .ok (.putfield 21, 3) := by decide +kernel
theorem dX5_init_40 : decode cX5_init 40 = .ok (.return_, 1) := by decide +kernel
theorem kv_X5_init : y_KI yX5_init cX5_init 1 := ⟨tw_1_57, tw_1_56, tw_1_13, rfl, by decide, by decide, by decide +kernel⟩
set_option maxHeartbeats 4000000 in
set_option maxRecDepth 100000 in
theorem m_X5_init (l : Launch) (G : Gx) (ad : Ad) (o : Nat) (a : Nat) (e1 : ad 20 o = a + 1) (e2 : ad 21 o = a + 2) (e3 : ad 22 o = a + 3) (e4 : ad 23 o = a + 4) : y_M l yX5_init cX5_init 1 1 12 4 960 G a 5 [.int 0, .null, .null, .null, .null] 5 (fun H => ∀ i, i < 5 → va_at G.1 z_cl (a + i, y_eM G ad o i) H) := by
  refine y_begin (by decide +kernel) rfl (Nat.le_of_ble_eq_true rfl) (fun p e s m args below meth c ls C hz h0 S hl => ?_)
  refine lv_aload_n C.1.1 C.1.2.1 dX5_init_0 rfl (lv_at hl 0 rfl) ?_
  refine y_obj C tw_1_58 hl.1 (Nat.le_of_ble_eq_true rfl) (Nat.le_of_ble_eq_true rfl) dX5_init_1 ?_
  refine lv_aload_n C.1.1 C.1.2.1 dX5_init_4 rfl (lv_at hl 0 rfl) ?_
  refine lv_sipush (v := 240) C.1.1 C.1.2.1 dX5_init_5 (by decide) ?_
  refine y_newI C S hz 240 (by decide) (by decide) (Nat.le_of_ble_eq_true rfl) (Nat.le_of_ble_eq_true rfl) (Nat.le_of_ble_eq_true rfl) dX5_init_8 (fun H z9 o9 h1 S => ?_)
  have h0 := va_at.kept h0 (o9 _ (show a < a + 1 by omega))
  have hz : H.size = a + 2 := z9
  clear o9 z9
  refine y_putF C S h0 (Nat.le_refl _) cf_5 1 (by decide) (Nat.le_of_ble_eq_true rfl) rfl rfl rfl rfl tw_1_63 dX5_init_10 (fun H locs z9 o9 h0 S => ?_)
  have h0 : va_at G.1 z_cl (a, .inr (5, [.int 0, .ref (a + 1), .null, .null, .null])) H := h0
  have h1 := va_at.kept h1 (o9 _ (show a + 1 ≠ a by omega))
  have hz : H.size = a + 2 := z9.trans hz
  clear o9 z9
  refine lv_aload_n C.1.1 C.1.2.1 dX5_init_13 rfl (lv_at hl 0 rfl) ?_
  refine lv_sipush (v := 240) C.1.1 C.1.2.1 dX5_init_14 (by decide) ?_
  refine y_newI C S hz 240 (by decide) (by decide) (Nat.le_of_ble_eq_true rfl) (Nat.le_of_ble_eq_true rfl) (Nat.le_of_ble_eq_true rfl) dX5_init_17 (fun H z9 o9 h2 S => ?_)
  have h0 := va_at.kept h0 (o9 _ (show a < a + 2 by omega))
  have h1 := va_at.kept h1 (o9 _ (show a + 1 < a + 2 by omega))
  have hz : H.size = a + 3 := z9
  clear o9 z9
  refine y_putF C S h0 (Nat.le_refl _) cf_5 2 (by decide) (Nat.le_of_ble_eq_true rfl) rfl rfl rfl rfl tw_1_65 dX5_init_19 (fun H locs z9 o9 h0 S => ?_)
  have h0 : va_at G.1 z_cl (a, .inr (5, [.int 0, .ref (a + 1), .ref (a + 2), .null, .null])) H := h0
  have h1 := va_at.kept h1 (o9 _ (show a + 1 ≠ a by omega))
  have h2 := va_at.kept h2 (o9 _ (show a + 2 ≠ a by omega))
  have hz : H.size = a + 3 := z9.trans hz
  clear o9 z9
  refine lv_aload_n C.1.1 C.1.2.1 dX5_init_22 rfl (lv_at hl 0 rfl) ?_
  refine lv_sipush (v := 240) C.1.1 C.1.2.1 dX5_init_23 (by decide) ?_
  refine y_newI C S hz 240 (by decide) (by decide) (Nat.le_of_ble_eq_true rfl) (Nat.le_of_ble_eq_true rfl) (Nat.le_of_ble_eq_true rfl) dX5_init_26 (fun H z9 o9 h3 S => ?_)
  have h0 := va_at.kept h0 (o9 _ (show a < a + 3 by omega))
  have h1 := va_at.kept h1 (o9 _ (show a + 1 < a + 3 by omega))
  have h2 := va_at.kept h2 (o9 _ (show a + 2 < a + 3 by omega))
  have hz : H.size = a + 4 := z9
  clear o9 z9
  refine y_putF C S h0 (Nat.le_refl _) cf_5 3 (by decide) (Nat.le_of_ble_eq_true rfl) rfl rfl rfl rfl tw_1_67 dX5_init_28 (fun H locs z9 o9 h0 S => ?_)
  have h0 : va_at G.1 z_cl (a, .inr (5, [.int 0, .ref (a + 1), .ref (a + 2), .ref (a + 3), .null])) H := h0
  have h1 := va_at.kept h1 (o9 _ (show a + 1 ≠ a by omega))
  have h2 := va_at.kept h2 (o9 _ (show a + 2 ≠ a by omega))
  have h3 := va_at.kept h3 (o9 _ (show a + 3 ≠ a by omega))
  have hz : H.size = a + 4 := z9.trans hz
  clear o9 z9
  refine lv_aload_n C.1.1 C.1.2.1 dX5_init_31 rfl (lv_at hl 0 rfl) ?_
  refine lv_sipush (v := 240) C.1.1 C.1.2.1 dX5_init_32 (by decide) ?_
  refine y_newI C S hz 240 (by decide) (by decide) (Nat.le_of_ble_eq_true rfl) (Nat.le_of_ble_eq_true rfl) (Nat.le_of_ble_eq_true rfl) dX5_init_35 (fun H z9 o9 h4 S => ?_)
  have h0 := va_at.kept h0 (o9 _ (show a < a + 4 by omega))
  have h1 := va_at.kept h1 (o9 _ (show a + 1 < a + 4 by omega))
  have h2 := va_at.kept h2 (o9 _ (show a + 2 < a + 4 by omega))
  have h3 := va_at.kept h3 (o9 _ (show a + 3 < a + 4 by omega))
  have hz : H.size = a + 5 := z9
  clear o9 z9
  refine y_putF C S h0 (Nat.le_refl _) cf_5 4 (by decide) (Nat.le_of_ble_eq_true rfl) rfl rfl rfl rfl tw_1_69 dX5_init_37 (fun H locs z9 o9 h0 S => ?_)
  have h0 : va_at G.1 z_cl (a, .inr (5, [.int 0, .ref (a + 1), .ref (a + 2), .ref (a + 3), .ref (a + 4)])) H := h0
  have h1 := va_at.kept h1 (o9 _ (show a + 1 ≠ a by omega))
  have h2 := va_at.kept h2 (o9 _ (show a + 2 ≠ a by omega))
  have h3 := va_at.kept h3 (o9 _ (show a + 3 ≠ a by omega))
  have h4 := va_at.kept h4 (o9 _ (show a + 4 ≠ a by omega))
  have hz : H.size = a + 5 := z9.trans hz
  clear o9 z9
  refine y_ret (n := 5) (D := fun H => ∀ i, i < 5 → va_at G.1 z_cl (a + i, y_eM G ad o i) H) C S hz (fun i hi => ?_) (Nat.le_of_ble_eq_true rfl) (Nat.le_of_ble_eq_true rfl) dX5_init_40
  match i, hi with
  | 0, _ => exact y_qeq (q := (0, .inr (0, []))) h0 rfl (by simp only [y_eM, y_e, z_ivM, z_cel, z_0, e1, e2, e3, e4])
  | 1, _ => exact h1
  | 2, _ => exact h2
  | 3, _ => exact h3
  | 4, _ => exact h4
theorem dX2_init_0 : decode cX2_init 0 = .ok (.aload_n 0, 1) := by decide +kernel
theorem dX2_init_1 : decode cX2_init 1 = .ok (.invokespecial 3, 3) := by decide +kernel
theorem dX2_init_4 : decode cX2_init 4 = .ok (.aload_n 0, 1) := by decide +kernel
theorem dX2_init_5 : decode cX2_init 5 = .ok (.bipush 24, 2) := by decide +kernel
theorem dX2_init_7 : decode cX2_init 7 = .ok (.newarray .int, 2) := by decide +kernel
theorem dX2_init_9 : decode cX2_init 9 = .ok (.putfield 9, 3) := by decide +kernel
theorem dX2_init_12 : decode cX2_init 12 = .ok (.aload_n 0, 1) := by decide +kernel
theorem dX2_init_13 : decode cX2_init 13 = .ok (.bipush 24, 2) := by decide +kernel
theorem dX2_init_15 : decode cX2_init 15 = .ok (.newarray .int, 2) := by decide +kernel
theorem dX2_init_17 : decode cX2_init 17 = .ok (.putfield 15, 3) := by decide +kernel
theorem dX2_init_20 : decode cX2_init 20 = .ok (.aload_n 0, 1) := by decide +kernel
theorem dX2_init_21 : decode cX2_init 21 = .ok (.bipush 96, 2) := by decide +kernel
theorem dX2_init_23 : decode cX2_init 23 = .ok (.newarray .int, 2) := by decide +kernel
theorem dX2_init_25 : decode cX2_init 25 = .ok (.putfield 18, 3) := by decide +kernel
theorem dX2_init_28 : decode cX2_init 28 = .ok (.aload_n 0, 1) := by decide +kernel
theorem dX2_init_29 : decode cX2_init 29 = .ok (.iconst 4, 1) := by decide +kernel
theorem dX2_init_30 : decode cX2_init 30 = .ok (.newarray .int, 2) := by decide +kernel
theorem dX2_init_32 : decode cX2_init 32 = .ok (.putfield 21, 3) := by decide +kernel
theorem dX2_init_35 : decode cX2_init 35 = .ok (.return_, 1) := by decide +kernel
theorem kv_X2_init : y_KI yX2_init cX2_init 1 := ⟨tw_1_86, tw_1_85, tw_1_14, rfl, by decide, by decide, by decide +kernel⟩
set_option maxHeartbeats 4000000 in
set_option maxRecDepth 100000 in
theorem m_X2_init (l : Launch) (G : Gx) (ad : Ad) (o : Nat) (a : Nat) (e1 : ad 16 o = a + 1) (e2 : ad 17 o = a + 2) (e3 : ad 18 o = a + 3) (e4 : ad 19 o = a + 4) : y_M l yX2_init cX2_init 1 1 12 4 148 G a 2 [.int 0, .int 0, .int 0, .int 0, .int 0, .int 0, .int 0, .int 0, .int 0, .int 0, .null, .null, .null, .null] 5 (fun H => ∀ i, i < 5 → va_at G.1 z_cl (a + i, y_eC G ad o i) H) := by
  refine y_begin (by decide +kernel) rfl (Nat.le_of_ble_eq_true rfl) (fun p e s m args below meth c ls C hz h0 S hl => ?_)
  refine lv_aload_n C.1.1 C.1.2.1 dX2_init_0 rfl (lv_at hl 0 rfl) ?_
  refine y_obj C tw_1_87 hl.1 (Nat.le_of_ble_eq_true rfl) (Nat.le_of_ble_eq_true rfl) dX2_init_1 ?_
  refine lv_aload_n C.1.1 C.1.2.1 dX2_init_4 rfl (lv_at hl 0 rfl) ?_
  refine lv_bipush (v := 24) C.1.1 C.1.2.1 dX2_init_5 (by decide) ?_
  refine y_newI C S hz 24 (by decide) (by decide) (Nat.le_of_ble_eq_true rfl) (Nat.le_of_ble_eq_true rfl) (Nat.le_of_ble_eq_true rfl) dX2_init_7 (fun H z9 o9 h1 S => ?_)
  have h0 := va_at.kept h0 (o9 _ (show a < a + 1 by omega))
  have hz : H.size = a + 2 := z9
  clear o9 z9
  refine y_putF C S h0 (Nat.le_refl _) cf_2 10 (by decide) (Nat.le_of_ble_eq_true rfl) rfl rfl rfl rfl tw_1_120 dX2_init_9 (fun H locs z9 o9 h0 S => ?_)
  have h0 : va_at G.1 z_cl (a, .inr (2, [.int 0, .int 0, .int 0, .int 0, .int 0, .int 0, .int 0, .int 0, .int 0, .int 0, .ref (a + 1), .null, .null, .null])) H := h0
  have h1 := va_at.kept h1 (o9 _ (show a + 1 ≠ a by omega))
  have hz : H.size = a + 2 := z9.trans hz
  clear o9 z9
  refine lv_aload_n C.1.1 C.1.2.1 dX2_init_12 rfl (lv_at hl 0 rfl) ?_
  refine lv_bipush (v := 24) C.1.1 C.1.2.1 dX2_init_13 (by decide) ?_
  refine y_newI C S hz 24 (by decide) (by decide) (Nat.le_of_ble_eq_true rfl) (Nat.le_of_ble_eq_true rfl) (Nat.le_of_ble_eq_true rfl) dX2_init_15 (fun H z9 o9 h2 S => ?_)
  have h0 := va_at.kept h0 (o9 _ (show a < a + 2 by omega))
  have h1 := va_at.kept h1 (o9 _ (show a + 1 < a + 2 by omega))
  have hz : H.size = a + 3 := z9
  clear o9 z9
  refine y_putF C S h0 (Nat.le_refl _) cf_2 11 (by decide) (Nat.le_of_ble_eq_true rfl) rfl rfl rfl rfl tw_1_122 dX2_init_17 (fun H locs z9 o9 h0 S => ?_)
  have h0 : va_at G.1 z_cl (a, .inr (2, [.int 0, .int 0, .int 0, .int 0, .int 0, .int 0, .int 0, .int 0, .int 0, .int 0, .ref (a + 1), .ref (a + 2), .null, .null])) H := h0
  have h1 := va_at.kept h1 (o9 _ (show a + 1 ≠ a by omega))
  have h2 := va_at.kept h2 (o9 _ (show a + 2 ≠ a by omega))
  have hz : H.size = a + 3 := z9.trans hz
  clear o9 z9
  refine lv_aload_n C.1.1 C.1.2.1 dX2_init_20 rfl (lv_at hl 0 rfl) ?_
  refine lv_bipush (v := 96) C.1.1 C.1.2.1 dX2_init_21 (by decide) ?_
  refine y_newI C S hz 96 (by decide) (by decide) (Nat.le_of_ble_eq_true rfl) (Nat.le_of_ble_eq_true rfl) (Nat.le_of_ble_eq_true rfl) dX2_init_23 (fun H z9 o9 h3 S => ?_)
  have h0 := va_at.kept h0 (o9 _ (show a < a + 3 by omega))
  have h1 := va_at.kept h1 (o9 _ (show a + 1 < a + 3 by omega))
  have h2 := va_at.kept h2 (o9 _ (show a + 2 < a + 3 by omega))
  have hz : H.size = a + 4 := z9
  clear o9 z9
  refine y_putF C S h0 (Nat.le_refl _) cf_2 12 (by decide) (Nat.le_of_ble_eq_true rfl) rfl rfl rfl rfl tw_1_125 dX2_init_25 (fun H locs z9 o9 h0 S => ?_)
  have h0 : va_at G.1 z_cl (a, .inr (2, [.int 0, .int 0, .int 0, .int 0, .int 0, .int 0, .int 0, .int 0, .int 0, .int 0, .ref (a + 1), .ref (a + 2), .ref (a + 3), .null])) H := h0
  have h1 := va_at.kept h1 (o9 _ (show a + 1 ≠ a by omega))
  have h2 := va_at.kept h2 (o9 _ (show a + 2 ≠ a by omega))
  have h3 := va_at.kept h3 (o9 _ (show a + 3 ≠ a by omega))
  have hz : H.size = a + 4 := z9.trans hz
  clear o9 z9
  refine lv_aload_n C.1.1 C.1.2.1 dX2_init_28 rfl (lv_at hl 0 rfl) ?_
  refine lv_iconst (v := 4) C.1.1 C.1.2.1 dX2_init_29 (by decide) ?_
  refine y_newI C S hz 4 (by decide) (by decide) (Nat.le_of_ble_eq_true rfl) (Nat.le_of_ble_eq_true rfl) (Nat.le_of_ble_eq_true rfl) dX2_init_30 (fun H z9 o9 h4 S => ?_)
  have h0 := va_at.kept h0 (o9 _ (show a < a + 4 by omega))
  have h1 := va_at.kept h1 (o9 _ (show a + 1 < a + 4 by omega))
  have h2 := va_at.kept h2 (o9 _ (show a + 2 < a + 4 by omega))
  have h3 := va_at.kept h3 (o9 _ (show a + 3 < a + 4 by omega))
  have hz : H.size = a + 5 := z9
  clear o9 z9
  refine y_putF C S h0 (Nat.le_refl _) cf_2 13 (by decide) (Nat.le_of_ble_eq_true rfl) rfl rfl rfl rfl tw_1_126 dX2_init_32 (fun H locs z9 o9 h0 S => ?_)
  have h0 : va_at G.1 z_cl (a, .inr (2, [.int 0, .int 0, .int 0, .int 0, .int 0, .int 0, .int 0, .int 0, .int 0, .int 0, .ref (a + 1), .ref (a + 2), .ref (a + 3), .ref (a + 4)])) H := h0
  have h1 := va_at.kept h1 (o9 _ (show a + 1 ≠ a by omega))
  have h2 := va_at.kept h2 (o9 _ (show a + 2 ≠ a by omega))
  have h3 := va_at.kept h3 (o9 _ (show a + 3 ≠ a by omega))
  have h4 := va_at.kept h4 (o9 _ (show a + 4 ≠ a by omega))
  have hz : H.size = a + 5 := z9.trans hz
  clear o9 z9
  refine y_ret (n := 5) (D := fun H => ∀ i, i < 5 → va_at G.1 z_cl (a + i, y_eC G ad o i) H) C S hz (fun i hi => ?_) (Nat.le_of_ble_eq_true rfl) (Nat.le_of_ble_eq_true rfl) dX2_init_35
  match i, hi with
  | 0, _ => exact y_qeq (q := (0, .inr (0, []))) h0 rfl (by simp only [y_eC, y_e, z_ivC, z_cel, z_0, e1, e2, e3, e4])
  | 1, _ => exact h1
  | 2, _ => exact h2
  | 3, _ => exact h3
  | 4, _ => exact h4
theorem dX6_init_0 : decode cX6_init 0 = .ok (.aload_n 0, 1) := by decide +kernel
theorem dX6_init_1 : decode cX6_init 1 = .ok (.invokespecial 3, 3) := by decide +kernel
theorem dX6_init_4 : decode cX6_init 4 = .ok (.aload_n 0, 1) := by decide +kernel
theorem dX6_init_5 : decode cX6_init 5 = .ok (.iconst 0, 1) := by decide +kernel
theorem dX6_init_6 : decode cX6_init 6 = .ok (.newarray .int, 2) := by decide +kernel
theorem dX6_init_8 : decode cX6_init 8 = .ok (.putfield 9, 3) := by decide +kernel
theorem dX6_init_11 : decode cX6_init 11 = .ok (.return_, 1) := by decide +kernel
theorem kv_X6_init : y_KI yX6_init cX6_init 1 := ⟨tw_2_79, tw_2_78, tw_1_18, rfl, by decide, by decide, by decide +kernel⟩
set_option maxHeartbeats 4000000 in
set_option maxRecDepth 100000 in
theorem m_X6_init (l : Launch) (G : Gx) (ad : Ad)  (a : Nat) (e1 : ad 24 0 = a + 1) : y_M l yX6_init cX6_init 1 1 12 1 0 G a 6 [.int 0, .int 0, .null, .int 0, .int 0, .int 0, .int 0, .int 0, .int 0] 2 (fun H => ∀ i, i < 2 → va_at G.1 z_cl (a + i, y_eR G ad i) H) := by
  refine y_begin (by decide +kernel) rfl (Nat.le_of_ble_eq_true rfl) (fun p e s m args below meth c ls C hz h0 S hl => ?_)
  refine lv_aload_n C.1.1 C.1.2.1 dX6_init_0 rfl (lv_at hl 0 rfl) ?_
  refine y_obj C tw_2_80 hl.1 (Nat.le_of_ble_eq_true rfl) (Nat.le_of_ble_eq_true rfl) dX6_init_1 ?_
  refine lv_aload_n C.1.1 C.1.2.1 dX6_init_4 rfl (lv_at hl 0 rfl) ?_
  refine lv_iconst (v := 0) C.1.1 C.1.2.1 dX6_init_5 (by decide) ?_
  refine y_newI C S hz 0 (by decide) (by decide) (Nat.le_of_ble_eq_true rfl) (Nat.le_of_ble_eq_true rfl) (Nat.le_of_ble_eq_true rfl) dX6_init_6 (fun H z9 o9 h1 S => ?_)
  have h0 := va_at.kept h0 (o9 _ (show a < a + 1 by omega))
  have hz : H.size = a + 2 := z9
  clear o9 z9
  refine y_putV C S h0 (Nat.le_refl _) cf_6 2 (by decide) (Nat.le_of_ble_eq_true rfl) rfl rfl rfl tw_2_85 dX6_init_8 (fun H locs z9 o9 h0 S => ?_)
  have h0 : va_at G.1 z_cl (a, .inr (6, [.int 0, .int 0, .ref (a + 1), .int 0, .int 0, .int 0, .int 0, .int 0, .int 0])) H := h0
  have h1 := va_at.kept h1 (o9 _ (show a + 1 ≠ a by omega))
  have hz : H.size = a + 2 := z9.trans hz
  clear o9 z9
  refine y_ret (n := 2) (D := fun H => ∀ i, i < 2 → va_at G.1 z_cl (a + i, y_eR G ad i) H) C S hz (fun i hi => ?_) (Nat.le_of_ble_eq_true rfl) (Nat.le_of_ble_eq_true rfl) dX6_init_11
  match i, hi with
  | 0, _ => exact y_qeq (q := (0, .inr (0, []))) h0 rfl (by simp only [y_eR, y_e, z_ivR, z_cel, z_0, e1, if_pos])
  | 1, _ => exact h1
theorem dX0_init_0 : decode cX0_init 0 = .ok (.aload_n 0, 1) := by decide +kernel
theorem dX0_init_1 : decode cX0_init 1 = .ok (.invokespecial 3, 3) := by decide +kernel
theorem dX0_init_4 : decode cX0_init 4 = .ok (.aload_n 0, 1) := by decide +kernel
theorem dX0_init_5 : decode cX0_init 5 = .ok (.new 9, 3) := by decide +kernel
theorem dX0_init_8 : decode cX0_init 8 = .ok (.dup, 1) := by decide +kernel
theorem dX0_init_9 : decode cX0_init 9 = .ok (.invokespecial 11, 3) := by decide +kernel
theorem dX0_init_12 : decode cX0_init 12 = .ok (.putfield 12, 3) := by decide +kernel
theorem dX0_init_15 : decode cX0_init 15 = .ok (.return_, 1) := by decide +kernel
theorem kv_X0_init : y_KI yX0_init cX0_init 1 := ⟨tw_2_67, tw_2_66, tw_1_17, rfl, by decide, by decide, by decide +kernel⟩
set_option maxHeartbeats 4000000 in
set_option maxRecDepth 100000 in
theorem m_X0_init (l : Launch) (G : Gx) (ad : Ad)  (a : Nat) (e1 : ad 5 13 = a + 1) (f1 : ad 20 13 = a + 1 + 1) (f2 : ad 21 13 = a + 1 + 2) (f3 : ad 22 13 = a + 1 + 3) (f4 : ad 23 13 = a + 1 + 4) : y_M l yX0_init cX0_init 1 2 40 5 965 G a 0 [.null] 6 (fun H => ∀ i, i < 6 → va_at G.1 z_cl (a + i, y_eB G ad i) H) := by
  refine y_begin (by decide +kernel) rfl (Nat.le_of_ble_eq_true rfl) (fun p e s m args below meth c ls C hz h0 S hl => ?_)
  refine lv_aload_n C.1.1 C.1.2.1 dX0_init_0 rfl (lv_at hl 0 rfl) ?_
  refine y_obj C tw_2_68 hl.1 (Nat.le_of_ble_eq_true rfl) (Nat.le_of_ble_eq_true rfl) dX0_init_1 ?_
  refine lv_aload_n C.1.1 C.1.2.1 dX0_init_4 rfl (lv_at hl 0 rfl) ?_
  refine y_newO (fs := [.int 0, .null, .null, .null, .null]) C S hz cf_5 tw_2_69 tw_1_54 tw_1_13 (y_df5) (Nat.le_of_ble_eq_true rfl) (Nat.le_of_ble_eq_true rfl) dX0_init_5 (fun H z9 o9 h1 S => ?_)
  have h0 := va_at.kept h0 (o9 _ (show a < a + 1 by omega))
  have hz : H.size = a + 2 := z9
  clear o9 z9
  refine lv_dup C.1.1 C.1.2.1 dX0_init_8 rfl ?_
  refine y_callN C S (show a ≤ a + 1 by omega) (m_X5_init l G ad 13 (a + 1) f1 f2 f3 f4) kv_X5_init (List.mem_of_getElem? (i := 4) rfl) hz h1 ⟨(Nat.le_of_ble_eq_true rfl), (Nat.le_of_ble_eq_true rfl)⟩ (Nat.le_of_ble_eq_true rfl) hl.1 ⟨(Nat.le_of_ble_eq_true rfl), (Nat.le_of_ble_eq_true rfl)⟩ dX0_init_9 (fun H locs z9 d1 o9 S => ?_)
  have h0 := va_at.kept h0 (o9 _ (show a < a + 1 by omega))
  have hz : H.size = a + 6 := z9
  clear o9 z9 h1
  refine y_putF C S h0 (Nat.le_refl _) cf_0 0 (by decide) (Nat.le_of_ble_eq_true rfl) rfl rfl rfl rfl tw_2_71 dX0_init_12 (fun H locs z9 o9 h0 S => ?_)
  have h0 : va_at G.1 z_cl (a, .inr (0, [.ref (a + 1)])) H := h0
  have d1 : ∀ i, i < 5 → va_at G.1 z_cl (a + 1 + i, y_eM G ad 13 i) _ := fun i hi => va_at.kept (d1 i hi) (o9 _ (show a + 1 + i ≠ a by omega))
  have hz : H.size = a + 6 := z9.trans hz
  clear o9 z9
  refine y_ret (n := 6) (D := fun H => ∀ i, i < 6 → va_at G.1 z_cl (a + i, y_eB G ad i) H) C S hz (fun i hi => ?_) (Nat.le_of_ble_eq_true rfl) (Nat.le_of_ble_eq_true rfl) dX0_init_15
  match i, hi with
  | 0, _ => exact y_qeq (q := (0, .inr (0, []))) h0 rfl (by simp only [y_eB, y_e, z_ivB, z_cel, z_0, e1])
  | i + 1, hi => exact y_qeq (q := (0, .inr (0, []))) (d1 i (by omega)) (by omega) rfl
theorem y_arrq {D : va_G} {cl : List vw_C} {a n : Nat} {cA : ClassId} {f g : Nat → Option Nat} {H : Heap} (h : va_at D cl (a, .inl (cA, n, .inr (.inr (.inr (.inr f))))) H) (he : ∀ i, i < n → f i = g i) : va_at D cl (a, .inl (cA, n, .inr (.inr (.inr (.inr g))))) H := by
  have h' : H[a]? = some (vp_cell cA (n, .inr (.inr (.inr (.inr f))))) := h
  show H[a]? = some (vp_cell cA (n, .inr (.inr (.inr (.inr g)))))
  rw [h', vp_cell_q, vp_cell_q]
  congr 1
  unfold arrV
  congr 2
  funext j
  show va_rf (f j.val) = va_rf (g j.val)
  rw [he j.val j.isLt]
theorem y_lt (n : Nat) (hn : n < 30) : ∀ k, k ≤ n → ((Int32.ofNat n ≤ Int32.ofNat k ↔ n ≤ k) ∧ (Int32.ofNat k).toNatClampNeg = k ∧ ¬ Int32.ofNat k < 0 ∧ Int32.ofNat k + 1 = Int32.ofNat (k + 1)) := by
  have h1 : ∀ n, n < 30 → ∀ k, k < 30 → (Int32.ofNat n ≤ Int32.ofNat k ↔ n ≤ k) := by decide +kernel
  have h2 : ∀ k, k < 30 → (Int32.ofNat k).toNatClampNeg = k := by decide +kernel
  have h3 : ∀ k, k < 30 → ¬ Int32.ofNat k < 0 := by decide +kernel
  have h4 : ∀ k, k < 30 → Int32.ofNat k + 1 = Int32.ofNat (k + 1) := by decide +kernel
  exact fun k hk => ⟨h1 n hn k (by omega), h2 k (by omega), h3 k (by omega), h4 k (by omega)⟩
theorem y_ivLc {j k : Nat} : z_ivL j (32 + k) = (1, 24 * j + k) := by
  unfold z_ivL
  rw [if_neg (by omega), if_neg (by omega), if_neg (by omega), if_neg (by omega), if_neg (by omega), if_neg (by omega), if_neg (by omega), if_neg (by omega), if_neg (by omega), show 32 + k - 32 = k by omega]
theorem y_ivLk {j k t : Nat} (hk : k < 4) (ht : t < 5) : z_ivL j (12 + 5 * k + t) = z_ivC (4 * j + k) t := by
  unfold z_ivL
  rw [if_neg (by omega), if_neg (by omega), if_neg (by omega), if_neg (by omega), if_neg (by omega), if_neg (by omega), if_neg (by omega), if_neg (by omega), if_pos (by omega), show (12 + 5 * k + t - 12) / 5 = k by omega, show (12 + 5 * k + t - 12) % 5 = t by omega]
theorem y_ivLm {j t : Nat} (ht : t < 5) : z_ivL j (4 + t) = z_ivM j t := by
  unfold z_ivL
  rw [if_neg (by omega), if_neg (by omega), if_neg (by omega), if_neg (by omega), if_pos (by omega), show 4 + t - 4 = t by omega]
theorem y_mo {n0 j a : Nat} (hj : j < 13) (ha : n0 + z_lo j = a) : z_mo n0 j = a + 4 := by
  unfold z_mo
  rw [if_pos hj, ha]
theorem y_ca {n0 j k a : Nat} (hk : k < 4) (ha : n0 + z_lo j = a) : z_ca n0 (4 * j + k) = a + 12 + 5 * k := by
  unfold z_ca
  rw [show (4 * j + k) / 4 = j by omega, show (4 * j + k) % 4 = k by omega, ha]
theorem dX4_init_0 : decode cX4_init 0 = .ok (.aload_n 0, 1) := by decide +kernel
theorem dX4_init_1 : decode cX4_init 1 = .ok (.invokespecial 3, 3) := by decide +kernel
theorem dX4_init_4 : decode cX4_init 4 = .ok (.aload_n 0, 1) := by decide +kernel
theorem dX4_init_5 : decode cX4_init 5 = .ok (.iconst 5, 1) := by decide +kernel
theorem dX4_init_6 : decode cX4_init 6 = .ok (.newarray .int, 2) := by decide +kernel
theorem dX4_init_8 : decode cX4_init 8 = .ok (.putfield 9, 3) := by decide +kernel
theorem dX4_init_11 : decode cX4_init 11 = .ok (.aload_n 0, 1) := by decide +kernel
theorem dX4_init_12 : decode cX4_init 12 = .ok (.iconst 4, 1) := by decide +kernel
theorem dX4_init_13 : decode cX4_init 13 = .ok (.anewarray 15, 3) := by decide +kernel
theorem dX4_init_16 : decode cX4_init 16 = .ok (.putfield 17, 3) := by decide +kernel
theorem dX4_init_19 : decode cX4_init 19 = .ok (.aload_n 0, 1) := by decide +kernel
theorem dX4_init_20 : decode cX4_init 20 = .ok (.bipush 24, 2) := by decide +kernel
theorem dX4_init_22 : decode cX4_init 22 = .ok (.anewarray 21, 3) := by decide +kernel
theorem dX4_init_25 : decode cX4_init 25 = .ok (.putfield 23, 3) := by decide +kernel
theorem dX4_init_28 : decode cX4_init 28 = .ok (.aload_n 0, 1) := by decide +kernel
theorem dX4_init_29 : decode cX4_init 29 = .ok (.new 27, 3) := by decide +kernel
theorem dX4_init_32 : decode cX4_init 32 = .ok (.dup, 1) := by decide +kernel
theorem dX4_init_33 : decode cX4_init 33 = .ok (.invokespecial 29, 3) := by decide +kernel
theorem dX4_init_36 : decode cX4_init 36 = .ok (.putfield 30, 3) := by decide +kernel
theorem dX4_init_39 : decode cX4_init 39 = .ok (.aload_n 0, 1) := by decide +kernel
theorem dX4_init_40 : decode cX4_init 40 = .ok (.iconst 4, 1) := by decide +kernel
theorem dX4_init_41 : decode cX4_init 41 = .ok (.newarray .int, 2) := by decide +kernel
theorem dX4_init_43 : decode cX4_init 43 = .ok (.putfield 34, 3) := by decide +kernel
theorem dX4_init_46 : decode cX4_init 46 = .ok (.aload_n 0, 1) := by decide +kernel
theorem dX4_init_47 : decode cX4_init 47 = .ok (.iconst 4, 1) := by decide +kernel
theorem dX4_init_48 : decode cX4_init 48 = .ok (.newarray .int, 2) := by decide +kernel
theorem dX4_init_50 : decode cX4_init 50 = .ok (.putfield 37, 3) := by decide +kernel
theorem dX4_init_53 : decode cX4_init 53 = .ok (.aload_n 0, 1) := by decide +kernel
theorem dX4_init_54 : decode cX4_init 54 = .ok (.iconst 5, 1) := by decide +kernel
theorem dX4_init_55 : decode cX4_init 55 = .ok (.newarray .int, 2) := by decide +kernel
theorem dX4_init_57 : decode cX4_init 57 = .ok (.putfield 40, 3) := by decide +kernel
theorem dX4_init_60 : decode cX4_init 60 = .ok (.iconst 0, 1) := by decide +kernel
theorem dX4_init_61 : decode cX4_init 61 = .ok (.istore_n 1, 1) := by decide +kernel
theorem dX4_init_62 : decode cX4_init 62 = .ok (.iload_n 1, 1) := by decide +kernel
theorem dX4_init_63 : decode cX4_init 63 = .ok (.iconst 4, 1) := by decide +kernel
theorem dX4_init_64 : decode cX4_init 64 = .ok (.if_icmp .ge 22, 3) := by decide +kernel
theorem dX4_init_67 : decode cX4_init 67 = .ok (.aload_n 0, 1) := by decide +kernel
theorem dX4_init_68 : decode cX4_init 68 = .ok (.getfield 17, 3) := by decide +kernel
theorem dX4_init_71 : decode cX4_init 71 = .ok (.iload_n 1, 1) := by decide +kernel
theorem dX4_init_72 : decode cX4_init 72 = .ok (.new 15, 3) := by decide +kernel
theorem dX4_init_75 : decode cX4_init 75 = .ok (.dup, 1) := by decide +kernel
theorem dX4_init_76 : decode cX4_init 76 = .ok (.invokespecial 43, 3) := by decide +kernel
theorem dX4_init_79 : decode cX4_init 79 = .ok (.aastore, 1) := by decide +kernel
theorem dX4_init_80 : decode cX4_init 80 = .ok (.iinc 1 1, 3) := by decide +kernel
theorem dX4_init_83 : decode cX4_init 83 = .ok (.goto (-21), 3) := by decide +kernel
theorem dX4_init_86 : decode cX4_init 86 = .ok (.iconst 0, 1) := by decide +kernel
theorem dX4_init_87 : decode cX4_init 87 = .ok (.istore_n 1, 1) := by decide +kernel
theorem dX4_init_88 : decode cX4_init 88 = .ok (.iload_n 1, 1) := by decide +kernel
theorem dX4_init_89 : decode cX4_init 89 = .ok (.bipush 24, 2) := by decide +kernel
theorem dX4_init_91 : decode cX4_init 91 = .ok (.if_icmp .ge 22, 3) := by decide +kernel
theorem dX4_init_94 : decode cX4_init 94 = .ok (.aload_n 0, 1) := by decide +kernel
theorem dX4_init_95 : decode cX4_init 95 = .ok (.getfield 23, 3) := by decide +kernel
theorem dX4_init_98 : decode cX4_init 98 = .ok (.iload_n 1, 1) := by decide +kernel
theorem dX4_init_99 : decode cX4_init 99 = .ok (.new 21, 3) := by decide +kernel
theorem dX4_init_102 : decode cX4_init 102 = .ok (.dup, 1) := by decide +kernel
theorem dX4_init_103 : decode cX4_init 103 = .ok (.invokespecial 44, 3) := by decide +kernel
theorem dX4_init_106 : decode cX4_init 106 = .ok (.aastore, 1) := by decide +kernel
theorem dX4_init_107 : decode cX4_init 107 = .ok (.iinc 1 1, 3) := by decide +kernel
theorem dX4_init_110 : decode cX4_init 110 = .ok (.goto (-22), 3) := by decide +kernel
theorem dX4_init_113 : decode cX4_init 113 = .ok (.return_, 1) := by decide +kernel
theorem kv_X4_init : y_KI yX4_init cX4_init 2 := ⟨tw_1_47, tw_1_46, tw_1_12, rfl, by decide, by decide, by decide +kernel⟩
theorem y_this {G : Gx} {n0 m0 j a : Nat} (hj : j < 13) (ha : n0 + z_lo j = a) : y_eL G (z_ad n0 m0) j 0 = .inr (4, [.int 0, .int 0, .int 0, .int 0, .int 0, .ref (a + 1), .ref (a + 2), .ref (a + 3), .ref (a + 4), .ref (a + 9), .ref (a + 10), .ref (a + 11)]) := by
  show z_cel G (z_ad n0 m0) 4 j z_0 = _
  simp only [z_cel, z_0, z_ad, y_mo hj ha, ha]
set_option maxHeartbeats 4000000 in
set_option maxRecDepth 100000 in
theorem w_X4_init_88 {p : Program} {l : Launch} {e : Env} {s : State} {m : MethodId} {args : Array Value} {below : List Frame} {meth : Method} {c : Code} {G : Gx} {n0 m0 j a : Nat} (hj : j < 13) (ha : n0 + z_lo j = a) (C : y_C p s m args meth c yX4_init.cls cX4_init 2 G) : ∀ n k, k + n = 24 → ∀ (H : Heap) (locs : List Loc) (ls : Array Slot), y_S a s H locs → lv_has ls 2 [(0, .ref a), (1, .int (Int32.ofNat k))] → H.size = a + 32 + k →
    (∀ i, i < 32 + k → i ≠ 3 → va_at G.1 z_cl (a + i, y_eL G (z_ad n0 m0) j i) H) → (∃ f, va_at G.1 z_cl (a + 3, .inl (G.2.1 2, 24, .inr (.inr (.inr (.inr f))))) H ∧ ∀ i, i < k → f i = some (z_ad n0 m0 1 (24 * j + i))) →
    W p l e { frames := 2, cells := 55, slots := 1923, locals := 60 } s m args below meth c H locs (31 + k) (1659 + 11 * k) (MQ below (va_Qv (S := Unit) (fun _ => True) (fun _ t => t.heap.size = a + 56 ∧ (fun H => ∀ i, i < 56 → va_at G.1 z_cl (a + i, y_eL G (z_ad n0 m0) j i) H) t.heap) (fun q => a ≤ q)) args s 55 1923 (fun q => a ≤ q)) (F0 m 88 ls []) := by
  intro n
  induction n with
  | zero =>
    intro k hk H locs ls S hl hz hD ⟨f, hf, hfi⟩
    have hk24 : k = 24 := by omega
    subst hk24
    refine lv_iload_n C.1.1 C.1.2.1 dX4_init_88 rfl (lv_at hl 1 rfl) ?_
    refine lv_bipush (v := 24) C.1.1 C.1.2.1 dX4_init_89 (by decide) ?_
    refine lv_icmp_ge (tgt := 113) C.1.1 C.1.2.1 dX4_init_91 (by decide) (fun c9 => ?_) (fun c9 => absurd (show (24 : Int32) ≤ Int32.ofNat 24 by decide) c9)
    refine y_ret (n := 56) (D := fun H => ∀ i, i < 56 → va_at G.1 z_cl (a + i, y_eL G (z_ad n0 m0) j i) H) C S hz (fun i hi => ?_) (Nat.le_of_ble_eq_true rfl) (Nat.le_of_ble_eq_true rfl) dX4_init_113
    by_cases h3 : i = 3
    · subst h3
      exact y_arrq hf hfi
    · exact hD i (by omega) h3
  | succ n ih =>
    intro k hk H locs ls S hl hz hD ⟨f, hf, hfi⟩
    obtain ⟨y1, y2, y3, y4⟩ := y_lt 24 (by decide) k (by omega)
    refine lv_iload_n C.1.1 C.1.2.1 dX4_init_88 rfl (lv_at hl 1 rfl) ?_
    refine lv_bipush (v := 24) C.1.1 C.1.2.1 dX4_init_89 (by decide) ?_
    refine lv_icmp_ge (tgt := 113) C.1.1 C.1.2.1 dX4_init_91 (by decide) (fun c9 => absurd (y1.mp c9) (by omega)) (fun c9 => ?_)
    refine lv_aload_n C.1.1 C.1.2.1 dX4_init_94 rfl (lv_at hl 0 rfl) ?_
    have h0 := y_qeq (q := (0, .inr (0, []))) (hD 0 (by omega) (by decide)) (show a + 0 = a from rfl) (y_this hj ha)
    refine y_get C h0 cf_4 7 (by decide) rfl tw_2_4 dX4_init_95 ?_
    refine lv_iload_n C.1.1 C.1.2.1 dX4_init_98 rfl (lv_at hl 1 rfl) ?_
    refine y_newO (fs := [.int 0, .int 0, .int 0, .int 0, .int 0, .int 0, .int 0, .int 0, .int 0, .int 0, .int 0]) C S hz cf_1 tw_1_51 tw_1_157 tw_1_15 y_df1 (by show 31 + k + 1 ≤ 55; omega) (by show 1659 + 11 * k + 11 ≤ 1923; omega) dX4_init_99 (fun H z9 o9 hc S => ?_)
    have hD : ∀ i, i < 32 + k → i ≠ 3 → va_at G.1 z_cl (a + i, y_eL G (z_ad n0 m0) j i) H := fun i hi h3 => va_at.kept (hD i hi h3) (o9 _ (show a + i < a + 32 + k by omega))
    have hf := va_at.kept hf (o9 _ (show a + 3 < a + 32 + k by omega))
    clear o9
    refine lv_dup C.1.1 C.1.2.1 dX4_init_102 rfl ?_
    refine y_callN C S (show a ≤ a + 32 + k by omega) (m_X1_init l G (z_ad n0 m0) (24 * j + k) (a + 32 + k)) kv_X1_init (List.mem_of_getElem? (i := 2) rfl) z9 hc ⟨(Nat.le_of_ble_eq_true rfl), (Nat.le_of_ble_eq_true rfl)⟩ (show 1 + (1 + (1 + 0)) ≤ 8 by decide) hl.1 ⟨by show 31 + k + 1 + 0 ≤ 55; omega, by show 1659 + 11 * k + 11 + 0 ≤ 1923; omega⟩ dX4_init_103 (fun H locs z9 d9 o9 S => ?_)
    have hD : ∀ i, i < 32 + k → i ≠ 3 → va_at G.1 z_cl (a + i, y_eL G (z_ad n0 m0) j i) H := fun i hi h3 => va_at.kept (hD i hi h3) (o9 _ (show a + i < a + 32 + k by omega))
    have hf := va_at.kept hf (o9 _ (show a + 3 < a + 32 + k by omega))
    clear o9 hc
    have hv : va_at G.1 z_cl (a + 32 + k, z_cel G (z_ad n0 m0) 1 (24 * j + k) z_0) H := d9 0 (by decide)
    refine y_ast (t := 2) (ci := 1) C S hf (by omega) rfl hv cf_1.1 (fun q => q.elim y3 (fun q => by rw [y2] at q; omega)) dX4_init_106 (fun H locs z8 o9 hf S => ?_)
    have hv := va_at.kept hv (o9 _ (show a + 32 + k ≠ a + 3 by omega))
    have hD : ∀ i, i < 32 + k → i ≠ 3 → va_at G.1 z_cl (a + i, y_eL G (z_ad n0 m0) j i) H := fun i hi h3 => va_at.kept (hD i hi h3) (o9 _ (show a + i ≠ a + 3 by omega))
    clear o9
    refine lv_iinc (v := Int32.ofNat k + 1) (lv' := [(1, .int (Int32.ofNat k + 1)), (0, .ref a)]) C.1.1 C.1.2.1 dX4_init_107 hl (k := 1) rfl rfl (by decide) rfl (fun ls hl => ?_)
    refine lv_goto (tgt := 88) C.1.1 C.1.2.1 dX4_init_110 (by decide) ?_
    rw [y4] at hl
    refine ih (k + 1) (by omega) H locs ls S (lv_sub hl [1, 0] rfl) (by omega) (fun i hi h3 => ?_) ⟨_, hf, fun i hi => ?_⟩
    · by_cases h9 : i = 32 + k
      · subst h9
        exact y_qeq (q := (0, .inr (0, []))) hv (by omega) (by unfold y_eL; rw [y_ivLc]; rfl)
      · exact hD i (by omega) h3
    · rw [y2]
      unfold va_up
      by_cases h9 : i = k
      · rw [if_pos h9]
        subst h9
        show some (a + 32 + i) = some (n0 + z_lo ((24 * j + i) / 24) + 32 + (24 * j + i) % 24)
        rw [show (24 * j + i) / 24 = j by omega, show (24 * j + i) % 24 = i by omega, ha]
      · rw [if_neg h9]
        exact hfi i (by omega)
set_option maxHeartbeats 4000000 in
set_option maxRecDepth 100000 in
theorem w_X4_init_62 {p : Program} {l : Launch} {e : Env} {s : State} {m : MethodId} {args : Array Value} {below : List Frame} {meth : Method} {c : Code} {G : Gx} {n0 m0 j a : Nat} (hj : j < 13) (ha : n0 + z_lo j = a) (C : y_C p s m args meth c yX4_init.cls cX4_init 2 G) : ∀ n k, k + n = 4 → ∀ (H : Heap) (locs : List Loc) (ls : Array Slot), y_S a s H locs → lv_has ls 2 [(0, .ref a), (1, .int (Int32.ofNat k))] → H.size = a + 12 + 5 * k →
    (∀ i, i < 12 + 5 * k → i ≠ 2 → i ≠ 3 → va_at G.1 z_cl (a + i, y_eL G (z_ad n0 m0) j i) H) → (∃ f, va_at G.1 z_cl (a + 2, .inl (G.2.1 1, 4, .inr (.inr (.inr (.inr f))))) H ∧ ∀ i, i < k → f i = some (z_ad n0 m0 2 (4 * j + i))) → va_at G.1 z_cl (a + 3, .inl (G.2.1 2, 24, .inr (.inr (.inr (.inr fun _ => none))))) H →
    W p l e { frames := 2, cells := 55, slots := 1923, locals := 60 } s m args below meth c H locs (11 + 5 * k) (1011 + 162 * k) (MQ below (va_Qv (S := Unit) (fun _ => True) (fun _ t => t.heap.size = a + 56 ∧ (fun H => ∀ i, i < 56 → va_at G.1 z_cl (a + i, y_eL G (z_ad n0 m0) j i) H) t.heap) (fun q => a ≤ q)) args s 55 1923 (fun q => a ≤ q)) (F0 m 62 ls []) := by
  intro n
  induction n with
  | zero =>
    intro k hk H locs ls S hl hz hD ⟨f, hf, hfi⟩ hq
    have hk4 : k = 4 := by omega
    subst hk4
    refine lv_iload_n C.1.1 C.1.2.1 dX4_init_62 rfl (lv_at hl 1 rfl) ?_
    refine lv_iconst (v := 4) C.1.1 C.1.2.1 dX4_init_63 (by decide) ?_
    refine lv_icmp_ge (tgt := 86) C.1.1 C.1.2.1 dX4_init_64 (by decide) (fun c9 => ?_) (fun c9 => absurd (show (4 : Int32) ≤ Int32.ofNat 4 by decide) c9)
    refine lv_iconst (v := 0) C.1.1 C.1.2.1 dX4_init_86 (by decide) ?_
    refine lv_istore_n (lv' := [(1, .int 0), (0, .ref a)]) C.1.1 C.1.2.1 dX4_init_87 rfl hl (by decide) rfl (fun ls hl => ?_)
    refine w_X4_init_88 hj ha C 24 0 rfl H locs ls S (lv_sub hl [1, 0] rfl) hz (fun i hi h3 => ?_) ⟨_, hq, fun i hi => absurd hi (by omega)⟩
    by_cases h2 : i = 2
    · subst h2
      exact y_arrq hf hfi
    · exact hD i (by omega) h2 h3
  | succ n ih =>
    intro k hk H locs ls S hl hz hD ⟨f, hf, hfi⟩ hq
    obtain ⟨y1, y2, y3, y4⟩ := y_lt 4 (by decide) k (by omega)
    have hca := y_ca (n0 := n0) (j := j) (k := k) (by omega) ha
    refine lv_iload_n C.1.1 C.1.2.1 dX4_init_62 rfl (lv_at hl 1 rfl) ?_
    refine lv_iconst (v := 4) C.1.1 C.1.2.1 dX4_init_63 (by decide) ?_
    refine lv_icmp_ge (tgt := 86) C.1.1 C.1.2.1 dX4_init_64 (by decide) (fun c9 => absurd (y1.mp c9) (by omega)) (fun c9 => ?_)
    refine lv_aload_n C.1.1 C.1.2.1 dX4_init_67 rfl (lv_at hl 0 rfl) ?_
    have h0 := y_qeq (q := (0, .inr (0, []))) (hD 0 (by omega) (by decide) (by decide)) (show a + 0 = a from rfl) (y_this hj ha)
    refine y_get C h0 cf_4 6 (by decide) rfl tw_2_1 dX4_init_68 ?_
    refine lv_iload_n C.1.1 C.1.2.1 dX4_init_71 rfl (lv_at hl 1 rfl) ?_
    refine y_newO (fs := [.int 0, .int 0, .int 0, .int 0, .int 0, .int 0, .int 0, .int 0, .int 0, .int 0, .null, .null, .null, .null]) C S hz cf_2 tw_1_49 tw_1_83 tw_1_14 y_df2 (by show 11 + 5 * k + 1 ≤ 55; omega) (by show 1011 + 162 * k + 14 ≤ 1923; omega) dX4_init_72 (fun H z9 o9 hc S => ?_)
    have hD : ∀ i, i < 12 + 5 * k → i ≠ 2 → i ≠ 3 → va_at G.1 z_cl (a + i, y_eL G (z_ad n0 m0) j i) H := fun i hi h2 h3 => va_at.kept (hD i hi h2 h3) (o9 _ (show a + i < a + 12 + 5 * k by omega))
    have hf := va_at.kept hf (o9 _ (show a + 2 < a + 12 + 5 * k by omega))
    have hq := va_at.kept hq (o9 _ (show a + 3 < a + 12 + 5 * k by omega))
    clear o9
    refine lv_dup C.1.1 C.1.2.1 dX4_init_75 rfl ?_
    refine y_callN C S (show a ≤ a + 12 + 5 * k by omega) (m_X2_init l G (z_ad n0 m0) (4 * j + k) (a + 12 + 5 * k) (congrArg (· + 1) hca) (congrArg (· + 2) hca) (congrArg (· + 3) hca) (congrArg (· + 4) hca)) kv_X2_init (List.mem_of_getElem? (i := 1) rfl) z9 hc ⟨(Nat.le_of_ble_eq_true rfl), (Nat.le_of_ble_eq_true rfl)⟩ (show 1 + (1 + (1 + 0)) ≤ 8 by decide) hl.1 ⟨by show 11 + 5 * k + 1 + 4 ≤ 55; omega, by show 1011 + 162 * k + 14 + 148 ≤ 1923; omega⟩ dX4_init_76 (fun H locs z9 d9 o9 S => ?_)
    have hD : ∀ i, i < 12 + 5 * k → i ≠ 2 → i ≠ 3 → va_at G.1 z_cl (a + i, y_eL G (z_ad n0 m0) j i) H := fun i hi h2 h3 => va_at.kept (hD i hi h2 h3) (o9 _ (show a + i < a + 12 + 5 * k by omega))
    have hf := va_at.kept hf (o9 _ (show a + 2 < a + 12 + 5 * k by omega))
    have hq := va_at.kept hq (o9 _ (show a + 3 < a + 12 + 5 * k by omega))
    clear o9 hc
    have hv : va_at G.1 z_cl (a + 12 + 5 * k, z_cel G (z_ad n0 m0) 2 (4 * j + k) z_0) H := d9 0 (by decide)
    refine y_ast (t := 1) (ci := 2) C S hf (by omega) rfl hv cf_2.1 (fun q => q.elim y3 (fun q => by rw [y2] at q; omega)) dX4_init_79 (fun H locs z8 o9 hf S => ?_)
    have d9 : ∀ t, t < 5 → va_at G.1 z_cl (a + 12 + 5 * k + t, y_eC G (z_ad n0 m0) (4 * j + k) t) H := fun t ht => va_at.kept (d9 t ht) (o9 _ (show a + 12 + 5 * k + t ≠ a + 2 by omega))
    have hD : ∀ i, i < 12 + 5 * k → i ≠ 2 → i ≠ 3 → va_at G.1 z_cl (a + i, y_eL G (z_ad n0 m0) j i) H := fun i hi h2 h3 => va_at.kept (hD i hi h2 h3) (o9 _ (show a + i ≠ a + 2 by omega))
    have hq := va_at.kept hq (o9 _ (show a + 3 ≠ a + 2 by omega))
    clear o9
    refine lv_iinc (v := Int32.ofNat k + 1) (lv' := [(1, .int (Int32.ofNat k + 1)), (0, .ref a)]) C.1.1 C.1.2.1 dX4_init_80 hl (k := 1) rfl rfl (by decide) rfl (fun ls hl => ?_)
    refine lv_goto (tgt := 62) C.1.1 C.1.2.1 dX4_init_83 (by decide) ?_
    rw [y4] at hl
    refine cast ?_ (ih (k + 1) (by omega) H locs ls S (lv_sub hl [1, 0] rfl) (by omega) (fun i hi h2 h3 => ?_) ⟨_, hf, fun i hi => ?_⟩ hq)
    · rw [show 11 + 5 * (k + 1) = 11 + 5 * k + 1 + 4 by omega, show 1011 + 162 * (k + 1) = 1011 + 162 * k + 14 + 148 by omega]
    · by_cases h9 : i < 12 + 5 * k
      · exact hD i h9 h2 h3
      · refine y_qeq (q := (0, .inr (0, []))) (d9 (i - 12 - 5 * k) (by omega)) (by omega) ?_
        unfold y_eL y_eC
        rw [show i = 12 + 5 * k + (i - 12 - 5 * k) by omega, y_ivLk (by omega) (by omega), show 12 + 5 * k + (i - 12 - 5 * k) - 12 - 5 * k = i - 12 - 5 * k by omega]
    · rw [y2]
      unfold va_up
      by_cases h9 : i = k
      · rw [if_pos h9]
        subst h9
        exact congrArg some hca.symm
      · rw [if_neg h9]
        exact hfi i (by omega)
set_option maxHeartbeats 4000000 in
set_option maxRecDepth 100000 in
theorem m_X4_init (l : Launch) (G : Gx) (n0 m0 j a : Nat) (hj : j < 13) (ha : n0 + z_lo j = a) : y_M l yX4_init cX4_init 2 2 60 55 1923 G a 4 [.int 0, .int 0, .int 0, .int 0, .int 0, .null, .null, .null, .null, .null, .null, .null] 56 (fun H => ∀ i, i < 56 → va_at G.1 z_cl (a + i, y_eL G (z_ad n0 m0) j i) H) := by
  have hmo := y_mo hj ha
  refine y_begin (by decide +kernel) rfl (Nat.le_of_ble_eq_true rfl) (fun p e s m args below meth c ls C hz h0 S hl => ?_)
  refine lv_aload_n C.1.1 C.1.2.1 dX4_init_0 rfl (lv_at hl 0 rfl) ?_
  refine y_obj C tw_1_48 hl.1 (Nat.le_of_ble_eq_true rfl) (Nat.le_of_ble_eq_true rfl) dX4_init_1 ?_
  refine lv_aload_n C.1.1 C.1.2.1 dX4_init_4 rfl (lv_at hl 0 rfl) ?_
  refine lv_iconst (v := 5) C.1.1 C.1.2.1 dX4_init_5 (by decide) ?_
  refine y_newI C S hz 5 (by decide) (by decide) (Nat.le_of_ble_eq_true rfl) (Nat.le_of_ble_eq_true rfl) (Nat.le_of_ble_eq_true rfl) dX4_init_6 (fun H z9 o9 h1 S => ?_)
  have h0 := va_at.kept h0 (o9 _ (show a < a + 1 by omega))
  have hz : H.size = a + 2 := z9
  clear o9 z9
  refine y_putF C S h0 (Nat.le_refl _) cf_4 5 (by decide) (Nat.le_of_ble_eq_true rfl) rfl rfl rfl rfl tw_1_237 dX4_init_8 (fun H locs z9 o9 h0 S => ?_)
  have h0 : va_at G.1 z_cl (a, .inr (4, [.int 0, .int 0, .int 0, .int 0, .int 0, .ref (a + 1), .null, .null, .null, .null, .null, .null])) H := h0
  have h1 := va_at.kept h1 (o9 _ (show a + 1 ≠ a by omega))
  have hz : H.size = a + 2 := z9.trans hz
  clear o9 z9
  refine lv_aload_n C.1.1 C.1.2.1 dX4_init_11 rfl (lv_at hl 0 rfl) ?_
  refine lv_iconst (v := 4) C.1.1 C.1.2.1 dX4_init_12 (by decide) ?_
  refine y_newQ (t := 1) C S hz rfl C.2.1.2.1 tw_1_49 4 (by decide) (by decide) (Nat.le_of_ble_eq_true rfl) (Nat.le_of_ble_eq_true rfl) (Nat.le_of_ble_eq_true rfl) dX4_init_13 (fun H z9 o9 h2 S => ?_)
  have h0 := va_at.kept h0 (o9 _ (show a < a + 2 by omega))
  have h1 := va_at.kept h1 (o9 _ (show a + 1 < a + 2 by omega))
  have hz : H.size = a + 3 := z9
  clear o9 z9
  refine y_putF C S h0 (Nat.le_refl _) cf_4 6 (by decide) (Nat.le_of_ble_eq_true rfl) rfl rfl rfl rfl tw_2_1 dX4_init_16 (fun H locs z9 o9 h0 S => ?_)
  have h0 : va_at G.1 z_cl (a, .inr (4, [.int 0, .int 0, .int 0, .int 0, .int 0, .ref (a + 1), .ref (a + 2), .null, .null, .null, .null, .null])) H := h0
  have h1 := va_at.kept h1 (o9 _ (show a + 1 ≠ a by omega))
  have h2 := va_at.kept h2 (o9 _ (show a + 2 ≠ a by omega))
  have hz : H.size = a + 3 := z9.trans hz
  clear o9 z9
  refine lv_aload_n C.1.1 C.1.2.1 dX4_init_19 rfl (lv_at hl 0 rfl) ?_
  refine lv_bipush (v := 24) C.1.1 C.1.2.1 dX4_init_20 (by decide) ?_
  refine y_newQ (t := 2) C S hz rfl C.2.1.2.2.1 tw_1_51 24 (by decide) (by decide) (Nat.le_of_ble_eq_true rfl) (Nat.le_of_ble_eq_true rfl) (Nat.le_of_ble_eq_true rfl) dX4_init_22 (fun H z9 o9 h3 S => ?_)
  have h0 := va_at.kept h0 (o9 _ (show a < a + 3 by omega))
  have h1 := va_at.kept h1 (o9 _ (show a + 1 < a + 3 by omega))
  have h2 := va_at.kept h2 (o9 _ (show a + 2 < a + 3 by omega))
  have hz : H.size = a + 4 := z9
  clear o9 z9
  refine y_putF C S h0 (Nat.le_refl _) cf_4 7 (by decide) (Nat.le_of_ble_eq_true rfl) rfl rfl rfl rfl tw_2_4 dX4_init_25 (fun H locs z9 o9 h0 S => ?_)
  have h0 : va_at G.1 z_cl (a, .inr (4, [.int 0, .int 0, .int 0, .int 0, .int 0, .ref (a + 1), .ref (a + 2), .ref (a + 3), .null, .null, .null, .null])) H := h0
  have h1 := va_at.kept h1 (o9 _ (show a + 1 ≠ a by omega))
  have h2 := va_at.kept h2 (o9 _ (show a + 2 ≠ a by omega))
  have h3 := va_at.kept h3 (o9 _ (show a + 3 ≠ a by omega))
  have hz : H.size = a + 4 := z9.trans hz
  clear o9 z9
  refine lv_aload_n C.1.1 C.1.2.1 dX4_init_28 rfl (lv_at hl 0 rfl) ?_
  refine y_newO (fs := [.int 0, .null, .null, .null, .null]) C S hz cf_5 tw_1_53 tw_1_54 tw_1_13 (y_df5) (Nat.le_of_ble_eq_true rfl) (Nat.le_of_ble_eq_true rfl) dX4_init_29 (fun H z9 o9 h4 S => ?_)
  have h0 := va_at.kept h0 (o9 _ (show a < a + 4 by omega))
  have h1 := va_at.kept h1 (o9 _ (show a + 1 < a + 4 by omega))
  have h2 := va_at.kept h2 (o9 _ (show a + 2 < a + 4 by omega))
  have h3 := va_at.kept h3 (o9 _ (show a + 3 < a + 4 by omega))
  have hz : H.size = a + 5 := z9
  clear o9 z9
  refine lv_dup C.1.1 C.1.2.1 dX4_init_32 rfl ?_
  refine y_callN C S (show a ≤ a + 4 by omega) (m_X5_init l G (z_ad n0 m0) j (a + 4) (congrArg (· + 1) hmo) (congrArg (· + 2) hmo) (congrArg (· + 3) hmo) (congrArg (· + 4) hmo)) kv_X5_init (List.mem_of_getElem? (i := 0) rfl) hz h4 ⟨(Nat.le_of_ble_eq_true rfl), (Nat.le_of_ble_eq_true rfl)⟩ (Nat.le_of_ble_eq_true rfl) hl.1 ⟨(Nat.le_of_ble_eq_true rfl), (Nat.le_of_ble_eq_true rfl)⟩ dX4_init_33 (fun H locs z9 d4 o9 S => ?_)
  have h0 := va_at.kept h0 (o9 _ (show a < a + 4 by omega))
  have h1 := va_at.kept h1 (o9 _ (show a + 1 < a + 4 by omega))
  have h2 := va_at.kept h2 (o9 _ (show a + 2 < a + 4 by omega))
  have h3 := va_at.kept h3 (o9 _ (show a + 3 < a + 4 by omega))
  have hz : H.size = a + 9 := z9
  clear o9 z9 h4
  refine y_putF C S h0 (Nat.le_refl _) cf_4 8 (by decide) (Nat.le_of_ble_eq_true rfl) rfl rfl rfl rfl tw_2_7 dX4_init_36 (fun H locs z9 o9 h0 S => ?_)
  have h0 : va_at G.1 z_cl (a, .inr (4, [.int 0, .int 0, .int 0, .int 0, .int 0, .ref (a + 1), .ref (a + 2), .ref (a + 3), .ref (a + 4), .null, .null, .null])) H := h0
  have h1 := va_at.kept h1 (o9 _ (show a + 1 ≠ a by omega))
  have h2 := va_at.kept h2 (o9 _ (show a + 2 ≠ a by omega))
  have h3 := va_at.kept h3 (o9 _ (show a + 3 ≠ a by omega))
  have d4 : ∀ i, i < 5 → va_at G.1 z_cl (a + 4 + i, y_eM G (z_ad n0 m0) j i) _ := fun i hi => va_at.kept (d4 i hi) (o9 _ (show a + 4 + i ≠ a by omega))
  have hz : H.size = a + 9 := z9.trans hz
  clear o9 z9
  refine lv_aload_n C.1.1 C.1.2.1 dX4_init_39 rfl (lv_at hl 0 rfl) ?_
  refine lv_iconst (v := 4) C.1.1 C.1.2.1 dX4_init_40 (by decide) ?_
  refine y_newI C S hz 4 (by decide) (by decide) (Nat.le_of_ble_eq_true rfl) (Nat.le_of_ble_eq_true rfl) (Nat.le_of_ble_eq_true rfl) dX4_init_41 (fun H z9 o9 h9 S => ?_)
  have h0 := va_at.kept h0 (o9 _ (show a < a + 9 by omega))
  have h1 := va_at.kept h1 (o9 _ (show a + 1 < a + 9 by omega))
  have h2 := va_at.kept h2 (o9 _ (show a + 2 < a + 9 by omega))
  have h3 := va_at.kept h3 (o9 _ (show a + 3 < a + 9 by omega))
  have d4 : ∀ i, i < 5 → va_at G.1 z_cl (a + 4 + i, y_eM G (z_ad n0 m0) j i) _ := fun i hi => va_at.kept (d4 i hi) (o9 _ (show a + 4 + i < a + 9 by omega))
  have hz : H.size = a + 10 := z9
  clear o9 z9
  refine y_putF C S h0 (Nat.le_refl _) cf_4 9 (by decide) (Nat.le_of_ble_eq_true rfl) rfl rfl rfl rfl tw_2_10 dX4_init_43 (fun H locs z9 o9 h0 S => ?_)
  have h0 : va_at G.1 z_cl (a, .inr (4, [.int 0, .int 0, .int 0, .int 0, .int 0, .ref (a + 1), .ref (a + 2), .ref (a + 3), .ref (a + 4), .ref (a + 9), .null, .null])) H := h0
  have h1 := va_at.kept h1 (o9 _ (show a + 1 ≠ a by omega))
  have h2 := va_at.kept h2 (o9 _ (show a + 2 ≠ a by omega))
  have h3 := va_at.kept h3 (o9 _ (show a + 3 ≠ a by omega))
  have h9 := va_at.kept h9 (o9 _ (show a + 9 ≠ a by omega))
  have d4 : ∀ i, i < 5 → va_at G.1 z_cl (a + 4 + i, y_eM G (z_ad n0 m0) j i) _ := fun i hi => va_at.kept (d4 i hi) (o9 _ (show a + 4 + i ≠ a by omega))
  have hz : H.size = a + 10 := z9.trans hz
  clear o9 z9
  refine lv_aload_n C.1.1 C.1.2.1 dX4_init_46 rfl (lv_at hl 0 rfl) ?_
  refine lv_iconst (v := 4) C.1.1 C.1.2.1 dX4_init_47 (by decide) ?_
  refine y_newI C S hz 4 (by decide) (by decide) (Nat.le_of_ble_eq_true rfl) (Nat.le_of_ble_eq_true rfl) (Nat.le_of_ble_eq_true rfl) dX4_init_48 (fun H z9 o9 h10 S => ?_)
  have h0 := va_at.kept h0 (o9 _ (show a < a + 10 by omega))
  have h1 := va_at.kept h1 (o9 _ (show a + 1 < a + 10 by omega))
  have h2 := va_at.kept h2 (o9 _ (show a + 2 < a + 10 by omega))
  have h3 := va_at.kept h3 (o9 _ (show a + 3 < a + 10 by omega))
  have h9 := va_at.kept h9 (o9 _ (show a + 9 < a + 10 by omega))
  have d4 : ∀ i, i < 5 → va_at G.1 z_cl (a + 4 + i, y_eM G (z_ad n0 m0) j i) _ := fun i hi => va_at.kept (d4 i hi) (o9 _ (show a + 4 + i < a + 10 by omega))
  have hz : H.size = a + 11 := z9
  clear o9 z9
  refine y_putF C S h0 (Nat.le_refl _) cf_4 10 (by decide) (Nat.le_of_ble_eq_true rfl) rfl rfl rfl rfl tw_2_12 dX4_init_50 (fun H locs z9 o9 h0 S => ?_)
  have h0 : va_at G.1 z_cl (a, .inr (4, [.int 0, .int 0, .int 0, .int 0, .int 0, .ref (a + 1), .ref (a + 2), .ref (a + 3), .ref (a + 4), .ref (a + 9), .ref (a + 10), .null])) H := h0
  have h1 := va_at.kept h1 (o9 _ (show a + 1 ≠ a by omega))
  have h2 := va_at.kept h2 (o9 _ (show a + 2 ≠ a by omega))
  have h3 := va_at.kept h3 (o9 _ (show a + 3 ≠ a by omega))
  have h9 := va_at.kept h9 (o9 _ (show a + 9 ≠ a by omega))
  have h10 := va_at.kept h10 (o9 _ (show a + 10 ≠ a by omega))
  have d4 : ∀ i, i < 5 → va_at G.1 z_cl (a + 4 + i, y_eM G (z_ad n0 m0) j i) _ := fun i hi => va_at.kept (d4 i hi) (o9 _ (show a + 4 + i ≠ a by omega))
  have hz : H.size = a + 11 := z9.trans hz
  clear o9 z9
  refine lv_aload_n C.1.1 C.1.2.1 dX4_init_53 rfl (lv_at hl 0 rfl) ?_
  refine lv_iconst (v := 5) C.1.1 C.1.2.1 dX4_init_54 (by decide) ?_
  refine y_newI C S hz 5 (by decide) (by decide) (Nat.le_of_ble_eq_true rfl) (Nat.le_of_ble_eq_true rfl) (Nat.le_of_ble_eq_true rfl) dX4_init_55 (fun H z9 o9 h11 S => ?_)
  have h0 := va_at.kept h0 (o9 _ (show a < a + 11 by omega))
  have h1 := va_at.kept h1 (o9 _ (show a + 1 < a + 11 by omega))
  have h2 := va_at.kept h2 (o9 _ (show a + 2 < a + 11 by omega))
  have h3 := va_at.kept h3 (o9 _ (show a + 3 < a + 11 by omega))
  have h9 := va_at.kept h9 (o9 _ (show a + 9 < a + 11 by omega))
  have h10 := va_at.kept h10 (o9 _ (show a + 10 < a + 11 by omega))
  have d4 : ∀ i, i < 5 → va_at G.1 z_cl (a + 4 + i, y_eM G (z_ad n0 m0) j i) _ := fun i hi => va_at.kept (d4 i hi) (o9 _ (show a + 4 + i < a + 11 by omega))
  have hz : H.size = a + 12 := z9
  clear o9 z9
  refine y_putF C S h0 (Nat.le_refl _) cf_4 11 (by decide) (Nat.le_of_ble_eq_true rfl) rfl rfl rfl rfl tw_2_15 dX4_init_57 (fun H locs z9 o9 h0 S => ?_)
  have h0 : va_at G.1 z_cl (a, .inr (4, [.int 0, .int 0, .int 0, .int 0, .int 0, .ref (a + 1), .ref (a + 2), .ref (a + 3), .ref (a + 4), .ref (a + 9), .ref (a + 10), .ref (a + 11)])) H := h0
  have h1 := va_at.kept h1 (o9 _ (show a + 1 ≠ a by omega))
  have h2 := va_at.kept h2 (o9 _ (show a + 2 ≠ a by omega))
  have h3 := va_at.kept h3 (o9 _ (show a + 3 ≠ a by omega))
  have h9 := va_at.kept h9 (o9 _ (show a + 9 ≠ a by omega))
  have h10 := va_at.kept h10 (o9 _ (show a + 10 ≠ a by omega))
  have h11 := va_at.kept h11 (o9 _ (show a + 11 ≠ a by omega))
  have d4 : ∀ i, i < 5 → va_at G.1 z_cl (a + 4 + i, y_eM G (z_ad n0 m0) j i) _ := fun i hi => va_at.kept (d4 i hi) (o9 _ (show a + 4 + i ≠ a by omega))
  have hz : H.size = a + 12 := z9.trans hz
  clear o9 z9
  refine lv_iconst (v := 0) C.1.1 C.1.2.1 dX4_init_60 (by decide) ?_
  refine lv_istore_n (lv' := [(1, .int 0), (0, .ref a)]) C.1.1 C.1.2.1 dX4_init_61 rfl hl (by decide) rfl (fun ls hl => ?_)
  refine w_X4_init_62 (m0 := m0) hj ha C 4 0 rfl H locs ls S (lv_sub hl [1, 0] rfl) hz (fun i hi g2 g3 => ?_) ⟨_, h2, fun i hi => absurd hi (by omega)⟩ h3
  match i, hi, g2, g3 with
  | 0, _, _, _ => exact y_qeq (q := (0, .inr (0, []))) h0 rfl (y_this hj ha).symm
  | 1, _, _, _ => exact h1
  | 4, _, _, _ => exact d4 0 (by decide)
  | 5, _, _, _ => exact d4 1 (by decide)
  | 6, _, _, _ => exact d4 2 (by decide)
  | 7, _, _, _ => exact d4 3 (by decide)
  | 8, _, _, _ => exact d4 4 (by decide)
  | 9, _, _, _ => exact h9
  | 10, _, _, _ => exact h10
  | 11, _, _, _ => exact h11
  | i + 12, hi, _, _ => exact absurd hi (by omega)
theorem dX3_init_0 : decode cX3_init 0 = .ok (.aload_n 0, 1) := by decide +kernel
theorem dX3_init_1 : decode cX3_init 1 = .ok (.invokespecial 3, 3) := by decide +kernel
theorem dX3_init_4 : decode cX3_init 4 = .ok (.aload_n 0, 1) := by decide +kernel
theorem dX3_init_5 : decode cX3_init 5 = .ok (.bipush 10, 2) := by decide +kernel
theorem dX3_init_7 : decode cX3_init 7 = .ok (.anewarray 9, 3) := by decide +kernel
theorem dX3_init_10 : decode cX3_init 10 = .ok (.putfield 11, 3) := by decide +kernel
theorem dX3_init_13 : decode cX3_init 13 = .ok (.iconst 0, 1) := by decide +kernel
theorem dX3_init_14 : decode cX3_init 14 = .ok (.istore_n 1, 1) := by decide +kernel
theorem dX3_init_15 : decode cX3_init 15 = .ok (.iload_n 1, 1) := by decide +kernel
theorem dX3_init_16 : decode cX3_init 16 = .ok (.bipush 10, 2) := by decide +kernel
theorem dX3_init_18 : decode cX3_init 18 = .ok (.if_icmp .ge 22, 3) := by decide +kernel
theorem dX3_init_21 : decode cX3_init 21 = .ok (.aload_n 0, 1) := by decide +kernel
theorem dX3_init_22 : decode cX3_init 22 = .ok (.getfield 11, 3) := by decide +kernel
theorem dX3_init_25 : decode cX3_init 25 = .ok (.iload_n 1, 1) := by decide +kernel
theorem dX3_init_26 : decode cX3_init 26 = .ok (.new 9, 3) := by decide +kernel
theorem dX3_init_29 : decode cX3_init 29 = .ok (.dup, 1) := by decide +kernel
theorem dX3_init_30 : decode cX3_init 30 = .ok (.invokespecial 17, 3) := by decide +kernel
theorem dX3_init_33 : decode cX3_init 33 = .ok (.aastore, 1) := by decide +kernel
theorem dX3_init_34 : decode cX3_init 34 = .ok (.iinc 1 1, 3) := by decide +kernel
theorem dX3_init_37 : decode cX3_init 37 = .ok (.goto (-22), 3) := by decide +kernel
theorem dX3_init_40 : decode cX3_init 40 = .ok (.return_, 1) := by decide +kernel
theorem kv_X3_init : y_KI yX3_init cX3_init 2 := ⟨tw_2_47, tw_2_46, tw_1_16, rfl, by decide, by decide, by decide +kernel⟩
theorem y_ivHk {k t : Nat} (ht : t < 56) : z_ivH (2 + 56 * k + t) = z_ivL (3 + k) t := by
  unfold z_ivH
  rw [if_neg (by omega), if_neg (by omega), show (2 + 56 * k + t - 2) / 56 = k by omega, show (2 + 56 * k + t - 2) % 56 = t by omega]
theorem y_loH {n0 k a : Nat} (ha : n0 + 171 = a) : n0 + z_lo (3 + k) = a + 2 + 56 * k := by
  unfold z_lo
  rw [if_neg (by omega)]
  omega
set_option maxHeartbeats 4000000 in
set_option maxRecDepth 100000 in
theorem w_X3_init_15 {p : Program} {l : Launch} {e : Env} {s : State} {m : MethodId} {args : Array Value} {below : List Frame} {meth : Method} {c : Code} {G : Gx} {n0 m0 a : Nat} (ha : n0 + 171 = a) (C : y_C p s m args meth c yX3_init.cls cX3_init 2 G) : ∀ n k, k + n = 10 → ∀ (H : Heap) (locs : List Loc) (ls : Array Slot), y_S a s H locs → lv_has ls 2 [(0, .ref a), (1, .int (Int32.ofNat k))] → H.size = a + 2 + 56 * k →
    (∀ i, i < 2 + 56 * k → i ≠ 1 → va_at G.1 z_cl (a + i, y_eH G (z_ad n0 m0) i) H) → (∃ f, va_at G.1 z_cl (a + 1, .inl (G.2.1 3, 10, .inr (.inr (.inr (.inr f))))) H ∧ ∀ i, i < k → f i = some (z_ad n0 m0 4 (3 + i))) →
    W p l e { frames := 3, cells := 561, slots := 19360, locals := 85 } s m args below meth c H locs (1 + 56 * k) (10 + 1935 * k) (MQ below (va_Qv (S := Unit) (fun _ => True) (fun _ t => t.heap.size = a + 562 ∧ (fun H => ∀ i, i < 562 → va_at G.1 z_cl (a + i, y_eH G (z_ad n0 m0) i) H) t.heap) (fun q => a ≤ q)) args s 561 19360 (fun q => a ≤ q)) (F0 m 15 ls []) := by
  intro n
  induction n with
  | zero =>
    intro k hk H locs ls S hl hz hD ⟨f, hf, hfi⟩
    have hk10 : k = 10 := by omega
    subst hk10
    refine lv_iload_n C.1.1 C.1.2.1 dX3_init_15 rfl (lv_at hl 1 rfl) ?_
    refine lv_bipush (v := 10) C.1.1 C.1.2.1 dX3_init_16 (by decide) ?_
    refine lv_icmp_ge (tgt := 40) C.1.1 C.1.2.1 dX3_init_18 (by decide) (fun c9 => ?_) (fun c9 => absurd (show (10 : Int32) ≤ Int32.ofNat 10 by decide) c9)
    refine y_ret (n := 562) (D := fun H => ∀ i, i < 562 → va_at G.1 z_cl (a + i, y_eH G (z_ad n0 m0) i) H) C S hz (fun i hi => ?_) (Nat.le_of_ble_eq_true rfl) (Nat.le_of_ble_eq_true rfl) dX3_init_40
    by_cases h3 : i = 1
    · subst h3
      exact y_arrq hf hfi
    · exact hD i (by omega) h3
  | succ n ih =>
    intro k hk H locs ls S hl hz hD ⟨f, hf, hfi⟩
    obtain ⟨y1, y2, y3, y4⟩ := y_lt 10 (by decide) k (by omega)
    have hlo := y_loH (k := k) ha
    refine lv_iload_n C.1.1 C.1.2.1 dX3_init_15 rfl (lv_at hl 1 rfl) ?_
    refine lv_bipush (v := 10) C.1.1 C.1.2.1 dX3_init_16 (by decide) ?_
    refine lv_icmp_ge (tgt := 40) C.1.1 C.1.2.1 dX3_init_18 (by decide) (fun c9 => absurd (y1.mp c9) (by omega)) (fun c9 => ?_)
    refine lv_aload_n C.1.1 C.1.2.1 dX3_init_21 rfl (lv_at hl 0 rfl) ?_
    have h0 : va_at G.1 z_cl (a, .inr (3, [.int 0, .int 0, .ref (a + 1)])) H := y_qeq (q := (0, .inr (0, []))) (hD 0 (by omega) (by decide)) (show a + 0 = a from rfl) (by show Sum.inr (3, [Value.int 0, Value.int 0, Value.ref (n0 + 172)]) = _; rw [show n0 + 172 = a + 1 by omega])
    refine y_get C h0 cf_3 2 (by decide) rfl tw_2_55 dX3_init_22 ?_
    refine lv_iload_n C.1.1 C.1.2.1 dX3_init_25 rfl (lv_at hl 1 rfl) ?_
    refine y_newO (fs := [.int 0, .int 0, .int 0, .int 0, .int 0, .null, .null, .null, .null, .null, .null, .null]) C S hz cf_4 tw_2_49 tw_1_44 tw_1_12 y_df4 (by show 1 + 56 * k + 1 ≤ 561; omega) (by show 10 + 1935 * k + 12 ≤ 19360; omega) dX3_init_26 (fun H z9 o9 hc S => ?_)
    have hD : ∀ i, i < 2 + 56 * k → i ≠ 1 → va_at G.1 z_cl (a + i, y_eH G (z_ad n0 m0) i) H := fun i hi h3 => va_at.kept (hD i hi h3) (o9 _ (show a + i < a + 2 + 56 * k by omega))
    have hf := va_at.kept hf (o9 _ (show a + 1 < a + 2 + 56 * k by omega))
    clear o9
    refine lv_dup C.1.1 C.1.2.1 dX3_init_29 rfl ?_
    refine y_call C S (show a ≤ a + 2 + 56 * k by omega) (m_X4_init l G n0 m0 (3 + k) (a + 2 + 56 * k) (by omega) hlo) kv_X4_init tw_2_51 z9 hc ⟨(Nat.le_of_ble_eq_true rfl), (Nat.le_of_ble_eq_true rfl)⟩ (show 1 + (1 + (1 + 0)) ≤ 8 by decide) hl.1 ⟨by show 1 + 56 * k + 1 + 55 ≤ 561; omega, by show 10 + 1935 * k + 12 + 1923 ≤ 19360; omega⟩ dX3_init_30 (fun H locs z9 d9 o9 S => ?_)
    have hD : ∀ i, i < 2 + 56 * k → i ≠ 1 → va_at G.1 z_cl (a + i, y_eH G (z_ad n0 m0) i) H := fun i hi h3 => va_at.kept (hD i hi h3) (o9 _ (show a + i < a + 2 + 56 * k by omega))
    have hf := va_at.kept hf (o9 _ (show a + 1 < a + 2 + 56 * k by omega))
    clear o9 hc
    have hv := y_qeq (q := (0, .inr (0, []))) (d9 0 (by decide)) (show a + 2 + 56 * k + 0 = a + 2 + 56 * k from rfl) (y_this (by omega) hlo)
    refine y_ast (t := 3) (ci := 4) C S hf (by omega) rfl hv cf_4.1 (fun q => q.elim y3 (fun q => by rw [y2] at q; omega)) dX3_init_33 (fun H locs z8 o9 hf S => ?_)
    have d9 : ∀ t, t < 56 → va_at G.1 z_cl (a + 2 + 56 * k + t, y_eL G (z_ad n0 m0) (3 + k) t) H := fun t ht => va_at.kept (d9 t ht) (o9 _ (show a + 2 + 56 * k + t ≠ a + 1 by omega))
    have hD : ∀ i, i < 2 + 56 * k → i ≠ 1 → va_at G.1 z_cl (a + i, y_eH G (z_ad n0 m0) i) H := fun i hi h3 => va_at.kept (hD i hi h3) (o9 _ (show a + i ≠ a + 1 by omega))
    clear o9
    refine lv_iinc (v := Int32.ofNat k + 1) (lv' := [(1, .int (Int32.ofNat k + 1)), (0, .ref a)]) C.1.1 C.1.2.1 dX3_init_34 hl (k := 1) rfl rfl (by decide) rfl (fun ls hl => ?_)
    refine lv_goto (tgt := 15) C.1.1 C.1.2.1 dX3_init_37 (by decide) ?_
    rw [y4] at hl
    refine cast ?_ (ih (k + 1) (by omega) H locs ls S (lv_sub hl [1, 0] rfl) (by omega) (fun i hi h3 => ?_) ⟨_, hf, fun i hi => ?_⟩)
    · rw [show 1 + 56 * (k + 1) = 1 + 56 * k + 1 + 55 by omega, show 10 + 1935 * (k + 1) = 10 + 1935 * k + 12 + 1923 by omega]
    · by_cases h9 : i < 2 + 56 * k
      · exact hD i h9 h3
      · refine y_qeq (q := (0, .inr (0, []))) (d9 (i - 2 - 56 * k) (by omega)) (by omega) ?_
        unfold y_eH y_eL
        rw [show i = 2 + 56 * k + (i - 2 - 56 * k) by omega, y_ivHk (by omega), show 2 + 56 * k + (i - 2 - 56 * k) - 2 - 56 * k = i - 2 - 56 * k by omega]
    · rw [y2]
      unfold va_up
      by_cases h9 : i = k
      · rw [if_pos h9]
        subst h9
        exact congrArg some hlo.symm
      · rw [if_neg h9]
        exact hfi i (by omega)
set_option maxHeartbeats 4000000 in
set_option maxRecDepth 100000 in
theorem m_X3_init (l : Launch) (G : Gx) (n0 m0 a : Nat) (ha : n0 + 171 = a) : y_M l yX3_init cX3_init 2 3 85 561 19360 G a 3 [.int 0, .int 0, .null] 562 (fun H => ∀ i, i < 562 → va_at G.1 z_cl (a + i, y_eH G (z_ad n0 m0) i) H) := by
  refine y_begin (by decide +kernel) rfl (Nat.le_of_ble_eq_true rfl) (fun p e s m args below meth c ls C hz h0 S hl => ?_)
  refine lv_aload_n C.1.1 C.1.2.1 dX3_init_0 rfl (lv_at hl 0 rfl) ?_
  refine y_obj C tw_2_48 hl.1 (Nat.le_of_ble_eq_true rfl) (Nat.le_of_ble_eq_true rfl) dX3_init_1 ?_
  refine lv_aload_n C.1.1 C.1.2.1 dX3_init_4 rfl (lv_at hl 0 rfl) ?_
  refine lv_bipush (v := 10) C.1.1 C.1.2.1 dX3_init_5 (by decide) ?_
  refine y_newQ (t := 3) C S hz rfl C.2.1.2.2.2 tw_2_49 10 (by decide) (by decide) (Nat.le_of_ble_eq_true rfl) (Nat.le_of_ble_eq_true rfl) (Nat.le_of_ble_eq_true rfl) dX3_init_7 (fun H z9 o9 h1 S => ?_)
  have h0 := va_at.kept h0 (o9 _ (show a < a + 1 by omega))
  have hz : H.size = a + 2 := z9
  clear o9 z9
  refine y_putF C S h0 (Nat.le_refl _) cf_3 2 (by decide) (Nat.le_of_ble_eq_true rfl) rfl rfl rfl rfl tw_2_55 dX3_init_10 (fun H locs z9 o9 h0 S => ?_)
  have h0 : va_at G.1 z_cl (a, .inr (3, [.int 0, .int 0, .ref (a + 1)])) H := h0
  have h1 := va_at.kept h1 (o9 _ (show a + 1 ≠ a by omega))
  have hz : H.size = a + 2 := z9.trans hz
  clear o9 z9
  refine lv_iconst (v := 0) C.1.1 C.1.2.1 dX3_init_13 (by decide) ?_
  refine lv_istore_n (lv' := [(1, .int 0), (0, .ref a)]) C.1.1 C.1.2.1 dX3_init_14 rfl hl (by decide) rfl (fun ls hl => ?_)
  refine w_X3_init_15 (m0 := m0) ha C 10 0 rfl H locs ls S (lv_sub hl [1, 0] rfl) hz (fun i hi g1 => ?_) ⟨_, h1, fun i hi => absurd hi (by omega)⟩
  match i, hi, g1 with
  | 0, _, _ => exact y_qeq (q := (0, .inr (0, []))) h0 rfl (by show _ = Sum.inr (3, [Value.int 0, Value.int 0, Value.ref (n0 + 172)]); rw [show n0 + 172 = a + 1 by omega])
  | i + 2, hi, _ => exact absurd hi (by omega)
def y_σ0 : Sg := fun k _ i => if (k = 7 ∧ i = 3) then -1 else 0
theorem y_ivX {j r : Nat} (hj : j < 13) (hr : r < 56) : z_lo j + r < 741 ∧ z_iv (z_lo j + r) = z_ivL j r := by
  unfold z_lo z_iv
  by_cases h : j < 3
  · rw [if_pos h]
    refine ⟨by omega, ?_⟩
    rw [if_neg (by omega), if_neg (by omega), if_neg (by omega), if_pos (by omega), show (3 + 56 * j + r - 3) / 56 = j by omega, show (3 + 56 * j + r - 3) % 56 = r by omega]
  · rw [if_neg h]
    refine ⟨by omega, ?_⟩
    rw [if_neg (by omega), if_neg (by omega), if_neg (by omega), if_neg (by omega), if_pos (by omega)]
    unfold z_ivH
    rw [if_neg (by omega), if_neg (by omega), show (5 + 56 * j + r - 171 - 2) / 56 = j - 3 by omega, show (5 + 56 * j + r - 171 - 2) % 56 = r by omega, show 3 + (j - 3) = j by omega]
set_option maxHeartbeats 4000000 in
set_option maxRecDepth 100000 in
theorem y_key0 (a : Nat) (k o : Nat) (hk : z_side k = 0) (ho : o < z_cnt k) : ∃ i, i < 741 ∧ z_ad a 0 k o = a + i ∧ z_iv i = (k, o) :=
  match k, hk, ho with
  | 0, _, ho => by
    have ho0 : o = 0 := Nat.lt_one_iff.mp ho
    subst ho0
    exact ⟨733, by decide, rfl, by decide⟩
  | 1, _, ho => by
    have ho : o < 312 := ho
    have hq := y_ivX (j := o / 24) (r := 32 + o % 24) (by omega) (by omega)
    refine ⟨z_lo (o / 24) + (32 + o % 24), hq.1, by show a + z_lo (o / 24) + 32 + o % 24 = _; omega, hq.2.trans ?_⟩
    rw [y_ivLc, show 24 * (o / 24) + o % 24 = o by omega]
  | 2, _, ho => by
    have ho : o < 52 := ho
    have hq := y_ivX (j := o / 4) (r := 12 + 5 * (o % 4) + 0) (by omega) (by omega)
    refine ⟨z_lo (o / 4) + (12 + 5 * (o % 4) + 0), hq.1, by show z_ca a o = _; unfold z_ca; omega, hq.2.trans ?_⟩
    rw [y_ivLk (by omega) (by decide), show 4 * (o / 4) + o % 4 = o by omega]
    rfl
  | 3, _, ho => by
    have ho0 : o = 0 := Nat.lt_one_iff.mp ho
    subst ho0
    exact ⟨171, by decide, rfl, by decide⟩
  | 4, _, ho => ⟨z_lo o + 0, (y_ivX ho (r := 0) (by decide)).1, by show a + z_lo o = _; omega, (y_ivX ho (r := 0) (by decide)).2⟩
  | 5, _, ho => by
    have ho : o < 14 := ho
    by_cases h13 : o < 13
    · have hq := y_ivX (j := o) (r := 4) h13 (by decide)
      exact ⟨z_lo o + 4, hq.1, by show z_mo a o = _; unfold z_mo; rw [if_pos h13]; omega, hq.2⟩
    · have h14 : o = 13 := by omega
      subst h14
      exact ⟨734, by decide, rfl, by decide⟩
  | 6, _, ho => by
    have ho0 : o = 0 := Nat.lt_one_iff.mp ho
    subst ho0
    exact ⟨739, by decide, rfl, by decide⟩
  | 7, _, ho => by
    have ho0 : o = 0 := Nat.lt_one_iff.mp ho
    subst ho0
    exact ⟨0, by decide, rfl, by decide⟩
  | 8, _, ho => absurd ho (Nat.not_lt_zero _)
  | 9, _, ho => absurd ho (Nat.not_lt_zero _)
  | 10, _, ho => by
    have ho0 : o = 0 := Nat.lt_one_iff.mp ho
    subst ho0
    exact ⟨1, by decide, rfl, by decide⟩
  | 11, _, ho => by
    have ho0 : o = 0 := Nat.lt_one_iff.mp ho
    subst ho0
    exact ⟨2, by decide, rfl, by decide⟩
  | 12, _, ho => ⟨z_lo o + 1, (y_ivX ho (r := 1) (by decide)).1, by show a + z_lo o + 1 = _; omega, (y_ivX ho (r := 1) (by decide)).2⟩
  | 13, _, ho => ⟨z_lo o + 9, (y_ivX ho (r := 9) (by decide)).1, by show a + z_lo o + 9 = _; omega, (y_ivX ho (r := 9) (by decide)).2⟩
  | 14, _, ho => ⟨z_lo o + 10, (y_ivX ho (r := 10) (by decide)).1, by show a + z_lo o + 10 = _; omega, (y_ivX ho (r := 10) (by decide)).2⟩
  | 15, _, ho => ⟨z_lo o + 11, (y_ivX ho (r := 11) (by decide)).1, by show a + z_lo o + 11 = _; omega, (y_ivX ho (r := 11) (by decide)).2⟩
  | 16, _, ho => by
    have ho : o < 52 := ho
    have hq := y_ivX (j := o / 4) (r := 12 + 5 * (o % 4) + 1) (by omega) (by omega)
    refine ⟨z_lo (o / 4) + (12 + 5 * (o % 4) + 1), hq.1, by show z_ca a o + 1 = _; unfold z_ca; omega, hq.2.trans ?_⟩
    rw [y_ivLk (by omega) (by decide), show 4 * (o / 4) + o % 4 = o by omega]
    rfl
  | 17, _, ho => by
    have ho : o < 52 := ho
    have hq := y_ivX (j := o / 4) (r := 12 + 5 * (o % 4) + 2) (by omega) (by omega)
    refine ⟨z_lo (o / 4) + (12 + 5 * (o % 4) + 2), hq.1, by show z_ca a o + 2 = _; unfold z_ca; omega, hq.2.trans ?_⟩
    rw [y_ivLk (by omega) (by decide), show 4 * (o / 4) + o % 4 = o by omega]
    rfl
  | 18, _, ho => by
    have ho : o < 52 := ho
    have hq := y_ivX (j := o / 4) (r := 12 + 5 * (o % 4) + 3) (by omega) (by omega)
    refine ⟨z_lo (o / 4) + (12 + 5 * (o % 4) + 3), hq.1, by show z_ca a o + 3 = _; unfold z_ca; omega, hq.2.trans ?_⟩
    rw [y_ivLk (by omega) (by decide), show 4 * (o / 4) + o % 4 = o by omega]
    rfl
  | 19, _, ho => by
    have ho : o < 52 := ho
    have hq := y_ivX (j := o / 4) (r := 12 + 5 * (o % 4) + 4) (by omega) (by omega)
    refine ⟨z_lo (o / 4) + (12 + 5 * (o % 4) + 4), hq.1, by show z_ca a o + 4 = _; unfold z_ca; omega, hq.2.trans ?_⟩
    rw [y_ivLk (by omega) (by decide), show 4 * (o / 4) + o % 4 = o by omega]
    rfl
  | 20, _, ho => by
    have ho : o < 14 := ho
    by_cases h13 : o < 13
    · have hq := y_ivX (j := o) (r := 5) h13 (by decide)
      exact ⟨z_lo o + 5, hq.1, by show z_mo a o + 1 = _; unfold z_mo; rw [if_pos h13]; omega, hq.2⟩
    · have h14 : o = 13 := by omega
      subst h14
      exact ⟨735, by decide, rfl, by decide⟩
  | 21, _, ho => by
    have ho : o < 14 := ho
    by_cases h13 : o < 13
    · have hq := y_ivX (j := o) (r := 6) h13 (by decide)
      exact ⟨z_lo o + 6, hq.1, by show z_mo a o + 2 = _; unfold z_mo; rw [if_pos h13]; omega, hq.2⟩
    · have h14 : o = 13 := by omega
      subst h14
      exact ⟨736, by decide, rfl, by decide⟩
  | 22, _, ho => by
    have ho : o < 14 := ho
    by_cases h13 : o < 13
    · have hq := y_ivX (j := o) (r := 7) h13 (by decide)
      exact ⟨z_lo o + 7, hq.1, by show z_mo a o + 3 = _; unfold z_mo; rw [if_pos h13]; omega, hq.2⟩
    · have h14 : o = 13 := by omega
      subst h14
      exact ⟨737, by decide, rfl, by decide⟩
  | 23, _, ho => by
    have ho : o < 14 := ho
    by_cases h13 : o < 13
    · have hq := y_ivX (j := o) (r := 8) h13 (by decide)
      exact ⟨z_lo o + 8, hq.1, by show z_mo a o + 4 = _; unfold z_mo; rw [if_pos h13]; omega, hq.2⟩
    · have h14 : o = 13 := by omega
      subst h14
      exact ⟨738, by decide, rfl, by decide⟩
  | 24, _, ho => by
    have ho0 : o = 0 := Nat.lt_one_iff.mp ho
    subst ho0
    exact ⟨740, by decide, rfl, by decide⟩
  | 25, _, ho => ⟨z_lo o + 2, (y_ivX ho (r := 2) (by decide)).1, by show a + z_lo o + 2 = _; omega, (y_ivX ho (r := 2) (by decide)).2⟩
  | 26, _, ho => ⟨z_lo o + 3, (y_ivX ho (r := 3) (by decide)).1, by show a + z_lo o + 3 = _; omega, (y_ivX ho (r := 3) (by decide)).2⟩
  | 27, _, ho => by
    have ho0 : o = 0 := Nat.lt_one_iff.mp ho
    subst ho0
    exact ⟨172, by decide, rfl, by decide⟩
  | n + 28, _, ho => absurd ho (Nat.not_lt_zero _)
theorem y_asm0 {G : Gx} {H : Heap} {a : Nat} (h0 : va_at G.1 z_cl (a, z_cel G (z_ad a 0) 7 0 (y_σ0 7 0)) H) (h : ∀ i, i < 741 → i ≠ 0 → va_at G.1 z_cl (a + i, y_e G (z_ad a 0) (z_iv i)) H) (h1 : G.2.2.1.size ≤ a) (h2 : a ≤ H.size) (h3 : ∀ q, q < G.2.2.1.size → H[q]? = G.2.2.1[q]?) : z_W 0 G (z_ad a 0) y_σ0 H := by
  refine ⟨fun k o hk ho => ?_, fun k o k' o' hk ho hk' ho' he => ?_, fun k o hk ho => ?_, by omega, h3⟩
  · obtain ⟨i, hi, e1, e2⟩ := y_key0 a k o hk ho
    by_cases hi0 : i = 0
    · subst hi0
      have e3 : (7, 0) = (k, o) := e2
      cases e3
      exact h0
    · have h9 := h i hi hi0
      rw [e2, ← e1] at h9
      have hk7 : ¬ k = 7 := by
        intro e
        subst e
        have ho0 : o = 0 := Nat.lt_one_iff.mp ho
        subst ho0
        have : a = a + i := e1
        omega
      have hs : y_σ0 k o = z_0 := by
        funext x
        refine if_neg (fun q => ?_)
        exact hk7 q.1
      rw [hs]
      exact h9
  · obtain ⟨i, hi, e1, e2⟩ := y_key0 a k o hk ho
    obtain ⟨i', hi', e1', e2'⟩ := y_key0 a k' o' hk' ho'
    have : i = i' := by omega
    subst this
    have e3 : (k, o) = (k', o') := e2.symm.trans e2'
    exact ⟨congrArg Prod.fst e3, congrArg Prod.snd e3⟩
  · obtain ⟨i, hi, e1, e2⟩ := y_key0 a k o hk ho
    omega
/-- the contract of the two constructors that the law calls -/
def y_PT (G : Gx) (a ci : Nat) (fs : List Value) (U : State) : Prop := U.heap.size = a + 1 ∧ va_at G.1 z_cl (a, .inr (ci, fs)) U.heap ∧ y_K G U ∧ G.2.2.1.size ≤ a ∧ ∀ q, q < G.2.2.1.size → U.heap[q]? = G.2.2.1[q]?
def y_MT (l : Launch) (y : MethodName) (bytes : ByteArray) (maxL fr lo mc ms : Nat) (G : Gx) (a ci : Nat) (fs : List Value) (D : Heap → Prop) : Prop :=
  Met l y (z_ws y bytes maxL none) { frames := fr, cells := mc, slots := ms, locals := lo } (va_Pc [.ref a] (y_PT G a ci fs)) (va_Qv (S := Unit) (fun _ => True) (fun _ t => D t.heap) (fun q => a ≤ q)) mc ms (fun q => a ≤ q)
theorem y_beginT {l : Launch} {y : MethodName} {bytes : ByteArray} {maxL fr lo mc ms : Nat} {G : Gx} {a ci : Nat} {fs : List Value} {D : Heap → Prop} (hy : plainName y.cls = true) (hy1 : y.name = "<init>") (hl : 1 ≤ maxL)
    (body : ∀ (p : Program) (e : Env) (s : State) (m : MethodId) (args : Array Value) (below : List Frame) (meth : Method) (c : Code) (ls : Array Slot), y_C p s m args meth c y.cls bytes maxL G → s.heap.size = a + 1 → va_at G.1 z_cl (a, .inr (ci, fs)) s.heap → G.2.2.1.size ≤ a → (∀ q, q < G.2.2.1.size → s.heap[q]? = G.2.2.1[q]?) → y_S a s s.heap [] → lv_has ls maxL [(0, .ref a)] →
      W p l e { frames := fr, cells := mc, slots := ms, locals := lo } s m args below meth c s.heap [] 0 0 (MQ below (va_Qv (S := Unit) (fun _ => True) (fun _ t => D t.heap) (fun q => a ≤ q)) args s mc ms (fun q => a ≤ q)) (F0 m 0 ls [])) :
    y_MT l y bytes maxL fr lo mc ms G a ci fs D := by
  refine Met.ofW (cc := bytes) (maxL := maxL) (ret := none) hy rfl ?_
  intro p e s m args below meth c s₁ B hml hv
  obtain ⟨rfl, hsz, hat, hK, hb1, hb2⟩ := hv
  have hts := atoms_spec (ws := z_ws y bytes maxL none) B.pre
  have hl0 := lv_entry [Value.ref a] (show (lg_sl [Value.ref a]).length ≤ maxL from hl)
  rw [lg_entry_eq]
  exact body p e s m _ below meth c _ ⟨⟨B.exec, B.bytes, hml, findClass_of_methodNamed B.named, fun w hw => hts w (List.mem_cons_of_mem _ hw), hK.1, B.notSynchronized, B.returns⟩, hK, (name_of_methodNamed B.named B.method).1.trans hy1⟩ hsz hat hb1 hb2 va_S.rf hl0
theorem y_retT {p : Program} {l : Launch} {e : Env} {R : Room} {s : State} {m : MethodId} {args : Array Value} {below : List Frame} {meth : Method} {c : Code} {H : Heap} {locs : List Loc} {cells slots mc ms : Nat} {cc : ByteArray} {pc : Nat} {ls : Array Slot} {own : String} {nL : Nat} {G : Gx} {b0 : Nat} {D : Heap → Prop} (C : y_C p s m args meth c own cc nL G) (S : y_S b0 s H locs) (hD : D H) (hc : cells ≤ mc) (hs : slots ≤ ms) (hdg : decode cc pc = .ok (.return_, 1)) :
    W p l e R s m args below meth c H locs cells slots (MQ below (va_Qv (S := Unit) (fun _ => True) (fun _ t => D t.heap) (fun q => b0 ≤ q)) args s mc ms (fun q => b0 ≤ q)) (F0 m pc ls []) := by
  obtain ⟨⟨x1, x2, x3, x4, x5, x6, x7, x8⟩, -, -⟩ := C
  exact W.widen hc hs (W.vret x1 x2 x8 (fun t ht hW => ⟨⟨(), rfl, trivial, by show D t.heap; rw [ht]; exact hD⟩, S.F ht⟩) S.2.2 hdg x7)
theorem y_low {s : State} {H : Heap} {locs : List Loc} {a : Nat} {G : Gx} (S : y_S a s H locs) (hz : s.heap.size = a + 1) (h1 : G.2.2.1.size ≤ a) (h2 : ∀ q, q < G.2.2.1.size → s.heap[q]? = G.2.2.1[q]?) : ∀ q, q < G.2.2.1.size → H[q]? = G.2.2.1[q]? :=
  fun q hq => (S.2.1 q (by omega) (by omega)).trans (h2 q hq)
theorem y_lowA0 (a : Nat) : ∀ k o, z_side k = 0 → o < z_cnt k → a ≤ z_ad a 0 k o := fun k o hk ho => by
  obtain ⟨i, -, e1, -⟩ := y_key0 a k o hk ho
  rw [e1]; exact Nat.le_add_right _ _
theorem dX7_init_0 : decode cX7_init 0 = .ok (.aload_n 0, 1) := by decide +kernel
theorem dX7_init_1 : decode cX7_init 1 = .ok (.invokespecial 3, 3) := by decide +kernel
theorem dX7_init_4 : decode cX7_init 4 = .ok (.aload_n 0, 1) := by decide +kernel
theorem dX7_init_5 : decode cX7_init 5 = .ok (.sipush 700, 3) := by decide +kernel
theorem dX7_init_8 : decode cX7_init 8 = .ok (.newarray .int, 2) := by decide +kernel
theorem dX7_init_10 : decode cX7_init 10 = .ok (.putfield 9, 3) := by decide +kernel
theorem dX7_init_13 : decode cX7_init 13 = .ok (.aload_n 0, 1) := by decide +kernel
theorem dX7_init_14 : decode cX7_init 14 = .ok (.iconst 0, 1) := by decide +kernel
theorem dX7_init_15 : decode cX7_init 15 = .ok (.putfield 13, 3) := by decide +kernel
theorem dX7_init_18 : decode cX7_init 18 = .ok (.aload_n 0, 1) := by decide +kernel
theorem dX7_init_19 : decode cX7_init 19 = .ok (.iconst (-1), 1) := by decide +kernel
theorem dX7_init_20 : decode cX7_init 20 = .ok (.putfield 17, 3) := by decide +kernel
theorem dX7_init_23 : decode cX7_init 23 = .ok (.aload_n 0, 1) := by decide +kernel
theorem dX7_init_24 : decode cX7_init 24 = .ok (.bipush 30, 2) := by decide +kernel
theorem dX7_init_26 : decode cX7_init 26 = .ok (.newarray .int, 2) := by decide +kernel
theorem dX7_init_28 : decode cX7_init 28 = .ok (.putfield 20, 3) := by decide +kernel
theorem dX7_init_31 : decode cX7_init 31 = .ok (.aload_n 0, 1) := by decide +kernel
theorem dX7_init_32 : decode cX7_init 32 = .ok (.new 23, 3) := by decide +kernel
theorem dX7_init_35 : decode cX7_init 35 = .ok (.dup, 1) := by decide +kernel
theorem dX7_init_36 : decode cX7_init 36 = .ok (.invokespecial 25, 3) := by decide +kernel
theorem dX7_init_39 : decode cX7_init 39 = .ok (.putfield 26, 3) := by decide +kernel
theorem dX7_init_42 : decode cX7_init 42 = .ok (.aload_n 0, 1) := by decide +kernel
theorem dX7_init_43 : decode cX7_init 43 = .ok (.new 23, 3) := by decide +kernel
theorem dX7_init_46 : decode cX7_init 46 = .ok (.dup, 1) := by decide +kernel
theorem dX7_init_47 : decode cX7_init 47 = .ok (.invokespecial 25, 3) := by decide +kernel
theorem dX7_init_50 : decode cX7_init 50 = .ok (.putfield 30, 3) := by decide +kernel
theorem dX7_init_53 : decode cX7_init 53 = .ok (.aload_n 0, 1) := by decide +kernel
theorem dX7_init_54 : decode cX7_init 54 = .ok (.new 23, 3) := by decide +kernel
theorem dX7_init_57 : decode cX7_init 57 = .ok (.dup, 1) := by decide +kernel
theorem dX7_init_58 : decode cX7_init 58 = .ok (.invokespecial 25, 3) := by decide +kernel
theorem dX7_init_61 : decode cX7_init 61 = .ok (.putfield 33, 3) := by decide +kernel
theorem dX7_init_64 : decode cX7_init 64 = .ok (.aload_n 0, 1) := by decide +kernel
theorem dX7_init_65 : decode cX7_init 65 = .ok (.new 36, 3) := by decide +kernel
theorem dX7_init_68 : decode cX7_init 68 = .ok (.dup, 1) := by decide +kernel
theorem dX7_init_69 : decode cX7_init 69 = .ok (.invokespecial 38, 3) := by decide +kernel
theorem dX7_init_72 : decode cX7_init 72 = .ok (.putfield 39, 3) := by decide +kernel
theorem dX7_init_75 : decode cX7_init 75 = .ok (.aload_n 0, 1) := by decide +kernel
theorem dX7_init_76 : decode cX7_init 76 = .ok (.new 43, 3) := by decide +kernel
theorem dX7_init_79 : decode cX7_init 79 = .ok (.dup, 1) := by decide +kernel
theorem dX7_init_80 : decode cX7_init 80 = .ok (.invokespecial 45, 3) := by decide +kernel
theorem dX7_init_83 : decode cX7_init 83 = .ok (.putfield 46, 3) := by decide +kernel
theorem dX7_init_86 : decode cX7_init 86 = .ok (.aload_n 0, 1) := by decide +kernel
theorem dX7_init_87 : decode cX7_init 87 = .ok (.new 50, 3) := by decide +kernel
theorem dX7_init_90 : decode cX7_init 90 = .ok (.dup, 1) := by decide +kernel
theorem dX7_init_91 : decode cX7_init 91 = .ok (.invokespecial 52, 3) := by decide +kernel
theorem dX7_init_94 : decode cX7_init 94 = .ok (.putfield 53, 3) := by decide +kernel
theorem dX7_init_97 : decode cX7_init 97 = .ok (.aload_n 0, 1) := by decide +kernel
theorem dX7_init_98 : decode cX7_init 98 = .ok (.getfield 26, 3) := by decide +kernel
theorem dX7_init_101 : decode cX7_init 101 = .ok (.iconst 2, 1) := by decide +kernel
theorem dX7_init_102 : decode cX7_init 102 = .ok (.invokevirtual 57, 3) := by decide +kernel
theorem dX7_init_105 : decode cX7_init 105 = .ok (.aload_n 0, 1) := by decide +kernel
theorem dX7_init_106 : decode cX7_init 106 = .ok (.getfield 26, 3) := by decide +kernel
theorem dX7_init_109 : decode cX7_init 109 = .ok (.iconst 0, 1) := by decide +kernel
theorem dX7_init_110 : decode cX7_init 110 = .ok (.iconst 1, 1) := by decide +kernel
theorem dX7_init_111 : decode cX7_init 111 = .ok (.invokevirtual 61, 3) := by decide +kernel
theorem dX7_init_114 : decode cX7_init 114 = .ok (.return_, 1) := by decide +kernel
theorem kv_X7_init : y_KI yX7_init cX7_init 1 := ⟨tw_1_39, tw_1_38, tw_1_11, rfl, by decide, by decide, by decide +kernel⟩
set_option maxHeartbeats 4000000 in
set_option maxRecDepth 100000 in
theorem m_X7_init (l : Launch) (G : Gx) (a : Nat) (σa σb : Sg) (ha : f_X4_clear y_σ0 0 2 = some σa) (hb : f_X4_addCar σa 0 0 1 = some σb) : y_MT l yX7_init cX7_init 1 4 110 740 26873 G a 7 [.null, .int 0, .int 0, .int 0, .null, .int 0, .null, .null, .null, .int 0, .null, .null, .null] (fun H => z_W 0 G (z_ad a 0) σb H) := by
  refine y_beginT (by decide +kernel) rfl (Nat.le_of_ble_eq_true rfl) (fun p e s m args below meth c ls C hz h0 hb1 hb2 S hl => ?_)
  have hs0 := hz
  refine lv_aload_n C.1.1 C.1.2.1 dX7_init_0 rfl (lv_at hl 0 rfl) ?_
  refine y_obj C tw_1_40 hl.1 (Nat.le_of_ble_eq_true rfl) (Nat.le_of_ble_eq_true rfl) dX7_init_1 ?_
  refine lv_aload_n C.1.1 C.1.2.1 dX7_init_4 rfl (lv_at hl 0 rfl) ?_
  refine lv_sipush (v := 700) C.1.1 C.1.2.1 dX7_init_5 (by decide) ?_
  refine y_newI C S hz 700 (by decide) (by decide) (Nat.le_of_ble_eq_true rfl) (Nat.le_of_ble_eq_true rfl) (Nat.le_of_ble_eq_true rfl) dX7_init_8 (fun H z9 o9 h1 S => ?_)
  have h0 := va_at.kept h0 (o9 _ (show a < a + 1 by omega))
  have hz : H.size = a + 2 := z9
  clear o9 z9
  refine y_putF C S h0 (Nat.le_refl _) cf_7 0 (by decide) (Nat.le_of_ble_eq_true rfl) rfl rfl rfl rfl tw_2_136 dX7_init_10 (fun H locs z9 o9 h0 S => ?_)
  have h0 : va_at G.1 z_cl (a, .inr (7, [.ref (a + 1), .int 0, .int 0, .int 0, .null, .int 0, .null, .null, .null, .int 0, .null, .null, .null])) H := h0
  have h1 := va_at.kept h1 (o9 _ (show a + 1 ≠ a by omega))
  have hz : H.size = a + 2 := z9.trans hz
  clear o9 z9
  refine lv_aload_n C.1.1 C.1.2.1 dX7_init_13 rfl (lv_at hl 0 rfl) ?_
  refine lv_iconst (v := 0) C.1.1 C.1.2.1 dX7_init_14 (by decide) ?_
  refine y_putV C S h0 (Nat.le_refl _) cf_7 2 (by decide) (Nat.le_of_ble_eq_true rfl) rfl rfl rfl tw_2_138 dX7_init_15 (fun H locs z9 o9 h0 S => ?_)
  have h0 : va_at G.1 z_cl (a, .inr (7, [.ref (a + 1), .int 0, .int 0, .int 0, .null, .int 0, .null, .null, .null, .int 0, .null, .null, .null])) H := h0
  have h1 := va_at.kept h1 (o9 _ (show a + 1 ≠ a by omega))
  have hz : H.size = a + 2 := z9.trans hz
  clear o9 z9
  refine lv_aload_n C.1.1 C.1.2.1 dX7_init_18 rfl (lv_at hl 0 rfl) ?_
  refine lv_iconst (v := (-1)) C.1.1 C.1.2.1 dX7_init_19 (by decide) ?_
  refine y_putV C S h0 (Nat.le_refl _) cf_7 3 (by decide) (Nat.le_of_ble_eq_true rfl) rfl rfl rfl tw_2_139 dX7_init_20 (fun H locs z9 o9 h0 S => ?_)
  have h0 : va_at G.1 z_cl (a, .inr (7, [.ref (a + 1), .int 0, .int 0, .int (-1), .null, .int 0, .null, .null, .null, .int 0, .null, .null, .null])) H := h0
  have h1 := va_at.kept h1 (o9 _ (show a + 1 ≠ a by omega))
  have hz : H.size = a + 2 := z9.trans hz
  clear o9 z9
  refine lv_aload_n C.1.1 C.1.2.1 dX7_init_23 rfl (lv_at hl 0 rfl) ?_
  refine lv_bipush (v := 30) C.1.1 C.1.2.1 dX7_init_24 (by decide) ?_
  refine y_newI C S hz 30 (by decide) (by decide) (Nat.le_of_ble_eq_true rfl) (Nat.le_of_ble_eq_true rfl) (Nat.le_of_ble_eq_true rfl) dX7_init_26 (fun H z9 o9 h2 S => ?_)
  have h0 := va_at.kept h0 (o9 _ (show a < a + 2 by omega))
  have h1 := va_at.kept h1 (o9 _ (show a + 1 < a + 2 by omega))
  have hz : H.size = a + 3 := z9
  clear o9 z9
  refine y_putF C S h0 (Nat.le_refl _) cf_7 4 (by decide) (Nat.le_of_ble_eq_true rfl) rfl rfl rfl rfl tw_2_140 dX7_init_28 (fun H locs z9 o9 h0 S => ?_)
  have h0 : va_at G.1 z_cl (a, .inr (7, [.ref (a + 1), .int 0, .int 0, .int (-1), .ref (a + 2), .int 0, .null, .null, .null, .int 0, .null, .null, .null])) H := h0
  have h1 := va_at.kept h1 (o9 _ (show a + 1 ≠ a by omega))
  have h2 := va_at.kept h2 (o9 _ (show a + 2 ≠ a by omega))
  have hz : H.size = a + 3 := z9.trans hz
  clear o9 z9
  refine lv_aload_n C.1.1 C.1.2.1 dX7_init_31 rfl (lv_at hl 0 rfl) ?_
  refine y_newO (fs := [.int 0, .int 0, .int 0, .int 0, .int 0, .null, .null, .null, .null, .null, .null, .null]) C S hz cf_4 tw_1_43 tw_1_44 tw_1_12 (y_df4) (Nat.le_of_ble_eq_true rfl) (Nat.le_of_ble_eq_true rfl) dX7_init_32 (fun H z9 o9 h3 S => ?_)
  have h0 := va_at.kept h0 (o9 _ (show a < a + 3 by omega))
  have h1 := va_at.kept h1 (o9 _ (show a + 1 < a + 3 by omega))
  have h2 := va_at.kept h2 (o9 _ (show a + 2 < a + 3 by omega))
  have hz : H.size = a + 4 := z9
  clear o9 z9
  refine lv_dup C.1.1 C.1.2.1 dX7_init_35 rfl ?_
  refine y_call C S (show a ≤ a + 3 by omega) (m_X4_init l G a 0 0 (a + 3) (by decide) rfl) kv_X4_init tw_1_45 hz h3 ⟨(Nat.le_of_ble_eq_true rfl), (Nat.le_of_ble_eq_true rfl)⟩ (Nat.le_of_ble_eq_true rfl) hl.1 ⟨(Nat.le_of_ble_eq_true rfl), (Nat.le_of_ble_eq_true rfl)⟩ dX7_init_36 (fun H locs z9 d3 o9 S => ?_)
  have h0 := va_at.kept h0 (o9 _ (show a < a + 3 by omega))
  have h1 := va_at.kept h1 (o9 _ (show a + 1 < a + 3 by omega))
  have h2 := va_at.kept h2 (o9 _ (show a + 2 < a + 3 by omega))
  have hz : H.size = a + 59 := z9
  clear o9 z9 h3
  refine y_putF C S h0 (Nat.le_refl _) cf_7 6 (by decide) (Nat.le_of_ble_eq_true rfl) rfl rfl rfl rfl tw_2_141 dX7_init_39 (fun H locs z9 o9 h0 S => ?_)
  have h0 : va_at G.1 z_cl (a, .inr (7, [.ref (a + 1), .int 0, .int 0, .int (-1), .ref (a + 2), .int 0, .ref (a + 3), .null, .null, .int 0, .null, .null, .null])) H := h0
  have h1 := va_at.kept h1 (o9 _ (show a + 1 ≠ a by omega))
  have h2 := va_at.kept h2 (o9 _ (show a + 2 ≠ a by omega))
  have d3 : ∀ i, i < 56 → va_at G.1 z_cl (a + 3 + i, y_eL G (z_ad a 0) 0 i) _ := fun i hi => va_at.kept (d3 i hi) (o9 _ (show a + 3 + i ≠ a by omega))
  have hz : H.size = a + 59 := z9.trans hz
  clear o9 z9
  refine lv_aload_n C.1.1 C.1.2.1 dX7_init_42 rfl (lv_at hl 0 rfl) ?_
  refine y_newO (fs := [.int 0, .int 0, .int 0, .int 0, .int 0, .null, .null, .null, .null, .null, .null, .null]) C S hz cf_4 tw_1_43 tw_1_44 tw_1_12 (y_df4) (Nat.le_of_ble_eq_true rfl) (Nat.le_of_ble_eq_true rfl) dX7_init_43 (fun H z9 o9 h59 S => ?_)
  have h0 := va_at.kept h0 (o9 _ (show a < a + 59 by omega))
  have h1 := va_at.kept h1 (o9 _ (show a + 1 < a + 59 by omega))
  have h2 := va_at.kept h2 (o9 _ (show a + 2 < a + 59 by omega))
  have d3 : ∀ i, i < 56 → va_at G.1 z_cl (a + 3 + i, y_eL G (z_ad a 0) 0 i) _ := fun i hi => va_at.kept (d3 i hi) (o9 _ (show a + 3 + i < a + 59 by omega))
  have hz : H.size = a + 60 := z9
  clear o9 z9
  refine lv_dup C.1.1 C.1.2.1 dX7_init_46 rfl ?_
  refine y_call C S (show a ≤ a + 59 by omega) (m_X4_init l G a 0 1 (a + 59) (by decide) rfl) kv_X4_init tw_1_45 hz h59 ⟨(Nat.le_of_ble_eq_true rfl), (Nat.le_of_ble_eq_true rfl)⟩ (Nat.le_of_ble_eq_true rfl) hl.1 ⟨(Nat.le_of_ble_eq_true rfl), (Nat.le_of_ble_eq_true rfl)⟩ dX7_init_47 (fun H locs z9 d59 o9 S => ?_)
  have h0 := va_at.kept h0 (o9 _ (show a < a + 59 by omega))
  have h1 := va_at.kept h1 (o9 _ (show a + 1 < a + 59 by omega))
  have h2 := va_at.kept h2 (o9 _ (show a + 2 < a + 59 by omega))
  have d3 : ∀ i, i < 56 → va_at G.1 z_cl (a + 3 + i, y_eL G (z_ad a 0) 0 i) _ := fun i hi => va_at.kept (d3 i hi) (o9 _ (show a + 3 + i < a + 59 by omega))
  have hz : H.size = a + 115 := z9
  clear o9 z9 h59
  refine y_putF C S h0 (Nat.le_refl _) cf_7 7 (by decide) (Nat.le_of_ble_eq_true rfl) rfl rfl rfl rfl tw_2_142 dX7_init_50 (fun H locs z9 o9 h0 S => ?_)
  have h0 : va_at G.1 z_cl (a, .inr (7, [.ref (a + 1), .int 0, .int 0, .int (-1), .ref (a + 2), .int 0, .ref (a + 3), .ref (a + 59), .null, .int 0, .null, .null, .null])) H := h0
  have h1 := va_at.kept h1 (o9 _ (show a + 1 ≠ a by omega))
  have h2 := va_at.kept h2 (o9 _ (show a + 2 ≠ a by omega))
  have d3 : ∀ i, i < 56 → va_at G.1 z_cl (a + 3 + i, y_eL G (z_ad a 0) 0 i) _ := fun i hi => va_at.kept (d3 i hi) (o9 _ (show a + 3 + i ≠ a by omega))
  have d59 : ∀ i, i < 56 → va_at G.1 z_cl (a + 59 + i, y_eL G (z_ad a 0) 1 i) _ := fun i hi => va_at.kept (d59 i hi) (o9 _ (show a + 59 + i ≠ a by omega))
  have hz : H.size = a + 115 := z9.trans hz
  clear o9 z9
  refine lv_aload_n C.1.1 C.1.2.1 dX7_init_53 rfl (lv_at hl 0 rfl) ?_
  refine y_newO (fs := [.int 0, .int 0, .int 0, .int 0, .int 0, .null, .null, .null, .null, .null, .null, .null]) C S hz cf_4 tw_1_43 tw_1_44 tw_1_12 (y_df4) (Nat.le_of_ble_eq_true rfl) (Nat.le_of_ble_eq_true rfl) dX7_init_54 (fun H z9 o9 h115 S => ?_)
  have h0 := va_at.kept h0 (o9 _ (show a < a + 115 by omega))
  have h1 := va_at.kept h1 (o9 _ (show a + 1 < a + 115 by omega))
  have h2 := va_at.kept h2 (o9 _ (show a + 2 < a + 115 by omega))
  have d3 : ∀ i, i < 56 → va_at G.1 z_cl (a + 3 + i, y_eL G (z_ad a 0) 0 i) _ := fun i hi => va_at.kept (d3 i hi) (o9 _ (show a + 3 + i < a + 115 by omega))
  have d59 : ∀ i, i < 56 → va_at G.1 z_cl (a + 59 + i, y_eL G (z_ad a 0) 1 i) _ := fun i hi => va_at.kept (d59 i hi) (o9 _ (show a + 59 + i < a + 115 by omega))
  have hz : H.size = a + 116 := z9
  clear o9 z9
  refine lv_dup C.1.1 C.1.2.1 dX7_init_57 rfl ?_
  refine y_call C S (show a ≤ a + 115 by omega) (m_X4_init l G a 0 2 (a + 115) (by decide) rfl) kv_X4_init tw_1_45 hz h115 ⟨(Nat.le_of_ble_eq_true rfl), (Nat.le_of_ble_eq_true rfl)⟩ (Nat.le_of_ble_eq_true rfl) hl.1 ⟨(Nat.le_of_ble_eq_true rfl), (Nat.le_of_ble_eq_true rfl)⟩ dX7_init_58 (fun H locs z9 d115 o9 S => ?_)
  have h0 := va_at.kept h0 (o9 _ (show a < a + 115 by omega))
  have h1 := va_at.kept h1 (o9 _ (show a + 1 < a + 115 by omega))
  have h2 := va_at.kept h2 (o9 _ (show a + 2 < a + 115 by omega))
  have d3 : ∀ i, i < 56 → va_at G.1 z_cl (a + 3 + i, y_eL G (z_ad a 0) 0 i) _ := fun i hi => va_at.kept (d3 i hi) (o9 _ (show a + 3 + i < a + 115 by omega))
  have d59 : ∀ i, i < 56 → va_at G.1 z_cl (a + 59 + i, y_eL G (z_ad a 0) 1 i) _ := fun i hi => va_at.kept (d59 i hi) (o9 _ (show a + 59 + i < a + 115 by omega))
  have hz : H.size = a + 171 := z9
  clear o9 z9 h115
  refine y_putF C S h0 (Nat.le_refl _) cf_7 8 (by decide) (Nat.le_of_ble_eq_true rfl) rfl rfl rfl rfl tw_2_143 dX7_init_61 (fun H locs z9 o9 h0 S => ?_)
  have h0 : va_at G.1 z_cl (a, .inr (7, [.ref (a + 1), .int 0, .int 0, .int (-1), .ref (a + 2), .int 0, .ref (a + 3), .ref (a + 59), .ref (a + 115), .int 0, .null, .null, .null])) H := h0
  have h1 := va_at.kept h1 (o9 _ (show a + 1 ≠ a by omega))
  have h2 := va_at.kept h2 (o9 _ (show a + 2 ≠ a by omega))
  have d3 : ∀ i, i < 56 → va_at G.1 z_cl (a + 3 + i, y_eL G (z_ad a 0) 0 i) _ := fun i hi => va_at.kept (d3 i hi) (o9 _ (show a + 3 + i ≠ a by omega))
  have d59 : ∀ i, i < 56 → va_at G.1 z_cl (a + 59 + i, y_eL G (z_ad a 0) 1 i) _ := fun i hi => va_at.kept (d59 i hi) (o9 _ (show a + 59 + i ≠ a by omega))
  have d115 : ∀ i, i < 56 → va_at G.1 z_cl (a + 115 + i, y_eL G (z_ad a 0) 2 i) _ := fun i hi => va_at.kept (d115 i hi) (o9 _ (show a + 115 + i ≠ a by omega))
  have hz : H.size = a + 171 := z9.trans hz
  clear o9 z9
  refine lv_aload_n C.1.1 C.1.2.1 dX7_init_64 rfl (lv_at hl 0 rfl) ?_
  refine y_newO (fs := [.int 0, .int 0, .null]) C S hz cf_3 tw_2_43 tw_2_44 tw_1_16 (y_df3) (Nat.le_of_ble_eq_true rfl) (Nat.le_of_ble_eq_true rfl) dX7_init_65 (fun H z9 o9 h171 S => ?_)
  have h0 := va_at.kept h0 (o9 _ (show a < a + 171 by omega))
  have h1 := va_at.kept h1 (o9 _ (show a + 1 < a + 171 by omega))
  have h2 := va_at.kept h2 (o9 _ (show a + 2 < a + 171 by omega))
  have d3 : ∀ i, i < 56 → va_at G.1 z_cl (a + 3 + i, y_eL G (z_ad a 0) 0 i) _ := fun i hi => va_at.kept (d3 i hi) (o9 _ (show a + 3 + i < a + 171 by omega))
  have d59 : ∀ i, i < 56 → va_at G.1 z_cl (a + 59 + i, y_eL G (z_ad a 0) 1 i) _ := fun i hi => va_at.kept (d59 i hi) (o9 _ (show a + 59 + i < a + 171 by omega))
  have d115 : ∀ i, i < 56 → va_at G.1 z_cl (a + 115 + i, y_eL G (z_ad a 0) 2 i) _ := fun i hi => va_at.kept (d115 i hi) (o9 _ (show a + 115 + i < a + 171 by omega))
  have hz : H.size = a + 172 := z9
  clear o9 z9
  refine lv_dup C.1.1 C.1.2.1 dX7_init_68 rfl ?_
  refine y_call C S (show a ≤ a + 171 by omega) (m_X3_init l G a 0 (a + 171) rfl) kv_X3_init tw_2_45 hz h171 ⟨(Nat.le_of_ble_eq_true rfl), (Nat.le_of_ble_eq_true rfl)⟩ (Nat.le_of_ble_eq_true rfl) hl.1 ⟨(Nat.le_of_ble_eq_true rfl), (Nat.le_of_ble_eq_true rfl)⟩ dX7_init_69 (fun H locs z9 d171 o9 S => ?_)
  have h0 := va_at.kept h0 (o9 _ (show a < a + 171 by omega))
  have h1 := va_at.kept h1 (o9 _ (show a + 1 < a + 171 by omega))
  have h2 := va_at.kept h2 (o9 _ (show a + 2 < a + 171 by omega))
  have d3 : ∀ i, i < 56 → va_at G.1 z_cl (a + 3 + i, y_eL G (z_ad a 0) 0 i) _ := fun i hi => va_at.kept (d3 i hi) (o9 _ (show a + 3 + i < a + 171 by omega))
  have d59 : ∀ i, i < 56 → va_at G.1 z_cl (a + 59 + i, y_eL G (z_ad a 0) 1 i) _ := fun i hi => va_at.kept (d59 i hi) (o9 _ (show a + 59 + i < a + 171 by omega))
  have d115 : ∀ i, i < 56 → va_at G.1 z_cl (a + 115 + i, y_eL G (z_ad a 0) 2 i) _ := fun i hi => va_at.kept (d115 i hi) (o9 _ (show a + 115 + i < a + 171 by omega))
  have hz : H.size = a + 733 := z9
  clear o9 z9 h171
  refine y_putF C S h0 (Nat.le_refl _) cf_7 10 (by decide) (Nat.le_of_ble_eq_true rfl) rfl rfl rfl rfl tw_2_145 dX7_init_72 (fun H locs z9 o9 h0 S => ?_)
  have h0 : va_at G.1 z_cl (a, .inr (7, [.ref (a + 1), .int 0, .int 0, .int (-1), .ref (a + 2), .int 0, .ref (a + 3), .ref (a + 59), .ref (a + 115), .int 0, .ref (a + 171), .null, .null])) H := h0
  have h1 := va_at.kept h1 (o9 _ (show a + 1 ≠ a by omega))
  have h2 := va_at.kept h2 (o9 _ (show a + 2 ≠ a by omega))
  have d3 : ∀ i, i < 56 → va_at G.1 z_cl (a + 3 + i, y_eL G (z_ad a 0) 0 i) _ := fun i hi => va_at.kept (d3 i hi) (o9 _ (show a + 3 + i ≠ a by omega))
  have d59 : ∀ i, i < 56 → va_at G.1 z_cl (a + 59 + i, y_eL G (z_ad a 0) 1 i) _ := fun i hi => va_at.kept (d59 i hi) (o9 _ (show a + 59 + i ≠ a by omega))
  have d115 : ∀ i, i < 56 → va_at G.1 z_cl (a + 115 + i, y_eL G (z_ad a 0) 2 i) _ := fun i hi => va_at.kept (d115 i hi) (o9 _ (show a + 115 + i ≠ a by omega))
  have d171 : ∀ i, i < 562 → va_at G.1 z_cl (a + 171 + i, y_eH G (z_ad a 0) i) _ := fun i hi => va_at.kept (d171 i hi) (o9 _ (show a + 171 + i ≠ a by omega))
  have hz : H.size = a + 733 := z9.trans hz
  clear o9 z9
  refine lv_aload_n C.1.1 C.1.2.1 dX7_init_75 rfl (lv_at hl 0 rfl) ?_
  refine y_newO (fs := [.null]) C S hz cf_0 tw_2_63 tw_2_64 tw_1_17 (y_df0) (Nat.le_of_ble_eq_true rfl) (Nat.le_of_ble_eq_true rfl) dX7_init_76 (fun H z9 o9 h733 S => ?_)
  have h0 := va_at.kept h0 (o9 _ (show a < a + 733 by omega))
  have h1 := va_at.kept h1 (o9 _ (show a + 1 < a + 733 by omega))
  have h2 := va_at.kept h2 (o9 _ (show a + 2 < a + 733 by omega))
  have d3 : ∀ i, i < 56 → va_at G.1 z_cl (a + 3 + i, y_eL G (z_ad a 0) 0 i) _ := fun i hi => va_at.kept (d3 i hi) (o9 _ (show a + 3 + i < a + 733 by omega))
  have d59 : ∀ i, i < 56 → va_at G.1 z_cl (a + 59 + i, y_eL G (z_ad a 0) 1 i) _ := fun i hi => va_at.kept (d59 i hi) (o9 _ (show a + 59 + i < a + 733 by omega))
  have d115 : ∀ i, i < 56 → va_at G.1 z_cl (a + 115 + i, y_eL G (z_ad a 0) 2 i) _ := fun i hi => va_at.kept (d115 i hi) (o9 _ (show a + 115 + i < a + 733 by omega))
  have d171 : ∀ i, i < 562 → va_at G.1 z_cl (a + 171 + i, y_eH G (z_ad a 0) i) _ := fun i hi => va_at.kept (d171 i hi) (o9 _ (show a + 171 + i < a + 733 by omega))
  have hz : H.size = a + 734 := z9
  clear o9 z9
  refine lv_dup C.1.1 C.1.2.1 dX7_init_79 rfl ?_
  refine y_callN C S (show a ≤ a + 733 by omega) (m_X0_init l G (z_ad a 0) (a + 733) rfl rfl rfl rfl rfl) kv_X0_init (List.mem_of_getElem? (i := 3) rfl) hz h733 ⟨(Nat.le_of_ble_eq_true rfl), (Nat.le_of_ble_eq_true rfl)⟩ (Nat.le_of_ble_eq_true rfl) hl.1 ⟨(Nat.le_of_ble_eq_true rfl), (Nat.le_of_ble_eq_true rfl)⟩ dX7_init_80 (fun H locs z9 d733 o9 S => ?_)
  have h0 := va_at.kept h0 (o9 _ (show a < a + 733 by omega))
  have h1 := va_at.kept h1 (o9 _ (show a + 1 < a + 733 by omega))
  have h2 := va_at.kept h2 (o9 _ (show a + 2 < a + 733 by omega))
  have d3 : ∀ i, i < 56 → va_at G.1 z_cl (a + 3 + i, y_eL G (z_ad a 0) 0 i) _ := fun i hi => va_at.kept (d3 i hi) (o9 _ (show a + 3 + i < a + 733 by omega))
  have d59 : ∀ i, i < 56 → va_at G.1 z_cl (a + 59 + i, y_eL G (z_ad a 0) 1 i) _ := fun i hi => va_at.kept (d59 i hi) (o9 _ (show a + 59 + i < a + 733 by omega))
  have d115 : ∀ i, i < 56 → va_at G.1 z_cl (a + 115 + i, y_eL G (z_ad a 0) 2 i) _ := fun i hi => va_at.kept (d115 i hi) (o9 _ (show a + 115 + i < a + 733 by omega))
  have d171 : ∀ i, i < 562 → va_at G.1 z_cl (a + 171 + i, y_eH G (z_ad a 0) i) _ := fun i hi => va_at.kept (d171 i hi) (o9 _ (show a + 171 + i < a + 733 by omega))
  have hz : H.size = a + 739 := z9
  clear o9 z9 h733
  refine y_putF C S h0 (Nat.le_refl _) cf_7 11 (by decide) (Nat.le_of_ble_eq_true rfl) rfl rfl rfl rfl tw_2_146 dX7_init_83 (fun H locs z9 o9 h0 S => ?_)
  have h0 : va_at G.1 z_cl (a, .inr (7, [.ref (a + 1), .int 0, .int 0, .int (-1), .ref (a + 2), .int 0, .ref (a + 3), .ref (a + 59), .ref (a + 115), .int 0, .ref (a + 171), .ref (a + 733), .null])) H := h0
  have h1 := va_at.kept h1 (o9 _ (show a + 1 ≠ a by omega))
  have h2 := va_at.kept h2 (o9 _ (show a + 2 ≠ a by omega))
  have d3 : ∀ i, i < 56 → va_at G.1 z_cl (a + 3 + i, y_eL G (z_ad a 0) 0 i) _ := fun i hi => va_at.kept (d3 i hi) (o9 _ (show a + 3 + i ≠ a by omega))
  have d59 : ∀ i, i < 56 → va_at G.1 z_cl (a + 59 + i, y_eL G (z_ad a 0) 1 i) _ := fun i hi => va_at.kept (d59 i hi) (o9 _ (show a + 59 + i ≠ a by omega))
  have d115 : ∀ i, i < 56 → va_at G.1 z_cl (a + 115 + i, y_eL G (z_ad a 0) 2 i) _ := fun i hi => va_at.kept (d115 i hi) (o9 _ (show a + 115 + i ≠ a by omega))
  have d171 : ∀ i, i < 562 → va_at G.1 z_cl (a + 171 + i, y_eH G (z_ad a 0) i) _ := fun i hi => va_at.kept (d171 i hi) (o9 _ (show a + 171 + i ≠ a by omega))
  have d733 : ∀ i, i < 6 → va_at G.1 z_cl (a + 733 + i, y_eB G (z_ad a 0) i) _ := fun i hi => va_at.kept (d733 i hi) (o9 _ (show a + 733 + i ≠ a by omega))
  have hz : H.size = a + 739 := z9.trans hz
  clear o9 z9
  refine lv_aload_n C.1.1 C.1.2.1 dX7_init_86 rfl (lv_at hl 0 rfl) ?_
  refine y_newO (fs := [.int 0, .int 0, .null, .int 0, .int 0, .int 0, .int 0, .int 0, .int 0]) C S hz cf_6 tw_2_75 tw_2_76 tw_1_18 (y_df6) (Nat.le_of_ble_eq_true rfl) (Nat.le_of_ble_eq_true rfl) dX7_init_87 (fun H z9 o9 h739 S => ?_)
  have h0 := va_at.kept h0 (o9 _ (show a < a + 739 by omega))
  have h1 := va_at.kept h1 (o9 _ (show a + 1 < a + 739 by omega))
  have h2 := va_at.kept h2 (o9 _ (show a + 2 < a + 739 by omega))
  have d3 : ∀ i, i < 56 → va_at G.1 z_cl (a + 3 + i, y_eL G (z_ad a 0) 0 i) _ := fun i hi => va_at.kept (d3 i hi) (o9 _ (show a + 3 + i < a + 739 by omega))
  have d59 : ∀ i, i < 56 → va_at G.1 z_cl (a + 59 + i, y_eL G (z_ad a 0) 1 i) _ := fun i hi => va_at.kept (d59 i hi) (o9 _ (show a + 59 + i < a + 739 by omega))
  have d115 : ∀ i, i < 56 → va_at G.1 z_cl (a + 115 + i, y_eL G (z_ad a 0) 2 i) _ := fun i hi => va_at.kept (d115 i hi) (o9 _ (show a + 115 + i < a + 739 by omega))
  have d171 : ∀ i, i < 562 → va_at G.1 z_cl (a + 171 + i, y_eH G (z_ad a 0) i) _ := fun i hi => va_at.kept (d171 i hi) (o9 _ (show a + 171 + i < a + 739 by omega))
  have d733 : ∀ i, i < 6 → va_at G.1 z_cl (a + 733 + i, y_eB G (z_ad a 0) i) _ := fun i hi => va_at.kept (d733 i hi) (o9 _ (show a + 733 + i < a + 739 by omega))
  have hz : H.size = a + 740 := z9
  clear o9 z9
  refine lv_dup C.1.1 C.1.2.1 dX7_init_90 rfl ?_
  refine y_callN C S (show a ≤ a + 739 by omega) (m_X6_init l G (z_ad a 0) (a + 739) rfl) kv_X6_init (List.mem_of_getElem? (i := 5) rfl) hz h739 ⟨(Nat.le_of_ble_eq_true rfl), (Nat.le_of_ble_eq_true rfl)⟩ (Nat.le_of_ble_eq_true rfl) hl.1 ⟨(Nat.le_of_ble_eq_true rfl), (Nat.le_of_ble_eq_true rfl)⟩ dX7_init_91 (fun H locs z9 d739 o9 S => ?_)
  have h0 := va_at.kept h0 (o9 _ (show a < a + 739 by omega))
  have h1 := va_at.kept h1 (o9 _ (show a + 1 < a + 739 by omega))
  have h2 := va_at.kept h2 (o9 _ (show a + 2 < a + 739 by omega))
  have d3 : ∀ i, i < 56 → va_at G.1 z_cl (a + 3 + i, y_eL G (z_ad a 0) 0 i) _ := fun i hi => va_at.kept (d3 i hi) (o9 _ (show a + 3 + i < a + 739 by omega))
  have d59 : ∀ i, i < 56 → va_at G.1 z_cl (a + 59 + i, y_eL G (z_ad a 0) 1 i) _ := fun i hi => va_at.kept (d59 i hi) (o9 _ (show a + 59 + i < a + 739 by omega))
  have d115 : ∀ i, i < 56 → va_at G.1 z_cl (a + 115 + i, y_eL G (z_ad a 0) 2 i) _ := fun i hi => va_at.kept (d115 i hi) (o9 _ (show a + 115 + i < a + 739 by omega))
  have d171 : ∀ i, i < 562 → va_at G.1 z_cl (a + 171 + i, y_eH G (z_ad a 0) i) _ := fun i hi => va_at.kept (d171 i hi) (o9 _ (show a + 171 + i < a + 739 by omega))
  have d733 : ∀ i, i < 6 → va_at G.1 z_cl (a + 733 + i, y_eB G (z_ad a 0) i) _ := fun i hi => va_at.kept (d733 i hi) (o9 _ (show a + 733 + i < a + 739 by omega))
  have hz : H.size = a + 741 := z9
  clear o9 z9 h739
  refine y_putF C S h0 (Nat.le_refl _) cf_7 12 (by decide) (Nat.le_of_ble_eq_true rfl) rfl rfl rfl rfl tw_2_147 dX7_init_94 (fun H locs z9 o9 h0 S => ?_)
  have h0 : va_at G.1 z_cl (a, .inr (7, [.ref (a + 1), .int 0, .int 0, .int (-1), .ref (a + 2), .int 0, .ref (a + 3), .ref (a + 59), .ref (a + 115), .int 0, .ref (a + 171), .ref (a + 733), .ref (a + 739)])) H := h0
  have h1 := va_at.kept h1 (o9 _ (show a + 1 ≠ a by omega))
  have h2 := va_at.kept h2 (o9 _ (show a + 2 ≠ a by omega))
  have d3 : ∀ i, i < 56 → va_at G.1 z_cl (a + 3 + i, y_eL G (z_ad a 0) 0 i) _ := fun i hi => va_at.kept (d3 i hi) (o9 _ (show a + 3 + i ≠ a by omega))
  have d59 : ∀ i, i < 56 → va_at G.1 z_cl (a + 59 + i, y_eL G (z_ad a 0) 1 i) _ := fun i hi => va_at.kept (d59 i hi) (o9 _ (show a + 59 + i ≠ a by omega))
  have d115 : ∀ i, i < 56 → va_at G.1 z_cl (a + 115 + i, y_eL G (z_ad a 0) 2 i) _ := fun i hi => va_at.kept (d115 i hi) (o9 _ (show a + 115 + i ≠ a by omega))
  have d171 : ∀ i, i < 562 → va_at G.1 z_cl (a + 171 + i, y_eH G (z_ad a 0) i) _ := fun i hi => va_at.kept (d171 i hi) (o9 _ (show a + 171 + i ≠ a by omega))
  have d733 : ∀ i, i < 6 → va_at G.1 z_cl (a + 733 + i, y_eB G (z_ad a 0) i) _ := fun i hi => va_at.kept (d733 i hi) (o9 _ (show a + 733 + i ≠ a by omega))
  have d739 : ∀ i, i < 2 → va_at G.1 z_cl (a + 739 + i, y_eR G (z_ad a 0) i) _ := fun i hi => va_at.kept (d739 i hi) (o9 _ (show a + 739 + i ≠ a by omega))
  have hz : H.size = a + 741 := z9.trans hz
  clear o9 z9
  have hW : z_W 0 G (z_ad a 0) y_σ0 H := by
    refine y_asm0 (y_qeq (q := (0, .inr (0, []))) h0 rfl rfl) (fun i hi hi0 => ?_) hb1 (by rw [hz]; exact Nat.le_add_right _ _) (y_low S hs0 hb1 hb2)
    by_cases i1 : i = 1
    · subst i1; exact h1
    · by_cases i2 : i = 2
      · subst i2; exact h2
      · by_cases i3 : i < 171
        · have hj : (i - 3) / 56 = 0 ∨ (i - 3) / 56 = 1 ∨ (i - 3) / 56 = 2 := by omega
          have hiv : z_iv i = z_ivL ((i - 3) / 56) ((i - 3) % 56) := by unfold z_iv; rw [if_neg hi0, if_neg i1, if_neg i2, if_pos i3]
          rw [hiv]
          rcases hj with hj | hj | hj
          · rw [hj]; exact y_qeq (q := (0, .inr (0, []))) (d3 ((i - 3) % 56) (by omega)) (by omega) rfl
          · rw [hj]; exact y_qeq (q := (0, .inr (0, []))) (d59 ((i - 3) % 56) (by omega)) (by omega) rfl
          · rw [hj]; exact y_qeq (q := (0, .inr (0, []))) (d115 ((i - 3) % 56) (by omega)) (by omega) rfl
        · by_cases i4 : i < 733
          · have hiv : z_iv i = z_ivH (i - 171) := by unfold z_iv; rw [if_neg hi0, if_neg i1, if_neg i2, if_neg i3, if_pos i4]
            rw [hiv]; exact y_qeq (q := (0, .inr (0, []))) (d171 (i - 171) (by omega)) (by omega) rfl
          · by_cases i5 : i < 739
            · have hiv : z_iv i = z_ivB (i - 733) := by unfold z_iv; rw [if_neg hi0, if_neg i1, if_neg i2, if_neg i3, if_neg i4, if_pos i5]
              rw [hiv]; exact y_qeq (q := (0, .inr (0, []))) (d733 (i - 733) (by omega)) (by omega) rfl
            · have hiv : z_iv i = z_ivR (i - 739) := by unfold z_iv; rw [if_neg hi0, if_neg i1, if_neg i2, if_neg i3, if_neg i4, if_neg i5]
              rw [hiv]; exact y_qeq (q := (0, .inr (0, []))) (d739 (i - 739) (by omega)) (by omega) rfl
  have S : z_S 0 G (z_ad a 0) y_σ0 (fun q => a ≤ q) s.heap H locs := ⟨hW, S, (y_lowA0 a), fun q hq => Nat.le_trans (by rw [hs0]; exact Nat.le_succ a) hq⟩
  refine lv_aload_n C.1.1 C.1.2.1 dX7_init_97 rfl (lv_at hl 0 rfl) ?_
  refine z_getR (ad := z_ad a 0) C.1 S 7 0 rfl (by decide) cf_7 6 (by decide) _ (gr_7_6 G _ 0) tw_2_141 dX7_init_98 ?_
  refine lv_iconst (v := 2) C.1.1 C.1.2.1 dX7_init_101 (by decide) ?_
  refine z_callV (ad := z_ad a 0) C.1 S 4 0 rfl (by decide) cf_4 ⟨_, rfl⟩ [.int 2] (m_X4_clear l G _ y_σ0 0 2 σa (by decide) ha _) kv_X4_clear tw_2_111 ⟨(Nat.le_of_ble_eq_true rfl), (Nat.le_of_ble_eq_true rfl)⟩ rfl rfl (Nat.le_of_ble_eq_true rfl) hl.1 ⟨(Nat.le_of_ble_eq_true rfl), (Nat.le_of_ble_eq_true rfl)⟩ dX7_init_102 (fun H locs S => ?_)
  refine lv_aload_n C.1.1 C.1.2.1 dX7_init_105 rfl (lv_at hl 0 rfl) ?_
  refine z_getR (ad := z_ad a 0) C.1 S 7 0 rfl (by decide) cf_7 6 (by decide) _ (gr_7_6 G _ 0) tw_2_141 dX7_init_106 ?_
  refine lv_iconst (v := 0) C.1.1 C.1.2.1 dX7_init_109 (by decide) ?_
  refine lv_iconst (v := 1) C.1.1 C.1.2.1 dX7_init_110 (by decide) ?_
  refine z_callV (ad := z_ad a 0) C.1 S 4 0 rfl (by decide) cf_4 ⟨_, rfl⟩ [.int 0, .int 1] (m_X4_addCar l G _ σa 0 0 1 σb (by decide) hb _) kv_X4_addCar tw_2_120 ⟨(Nat.le_of_ble_eq_true rfl), (Nat.le_of_ble_eq_true rfl)⟩ rfl rfl (Nat.le_of_ble_eq_true rfl) hl.1 ⟨(Nat.le_of_ble_eq_true rfl), (Nat.le_of_ble_eq_true rfl)⟩ dX7_init_111 (fun H locs S => ?_)
  exact y_retT (D := fun H => z_W 0 G (z_ad a 0) σb H) C S.2.1 S.1 (Nat.le_of_ble_eq_true rfl) (Nat.le_of_ble_eq_true rfl) dX7_init_114
