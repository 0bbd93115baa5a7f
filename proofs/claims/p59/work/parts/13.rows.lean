/-! rows over single cells: what is known of one address, and the frame -/
abbrev u_S (A : Nat → Prop) (H0 H : Heap) (locs : List Loc) : Prop := va_S A H0 H locs
theorem u_grow {A : Nat → Prop} {H0 H H1 : Heap} {locs : List Loc} (h : va_S A H0 H locs) (z : H1.size = H.size + 1) (o : ∀ q : Nat, q < H.size → H1[q]? = H[q]?) : va_S A H0 H1 locs :=
  ⟨Nat.le_trans h.1 (by omega), fun q h1 h2 => (o q (Nat.lt_of_lt_of_le h1 h.1)).trans (h.2.1 q h1 h2), h.2.2⟩
/-- an object, or an array, of a class that is known by name -/
def u_cls (C : String) (a : Nat) (s : State) (H : Heap) : Prop := ∃ cell : Cell, H[a]? = some cell ∧ cell.vm.isStatics = false ∧ s.vm.findClass C = some cell.cls
theorem u_clsO {G : Gx} {s : State} {H : Heap} {a ci : Nat} {fs : List Value} (x6 : z_K G s) (hat : va_at G.1 z_cl (a, .inr (ci, fs)) H) {Cn : String} {T : u_T} {N : Nat} (hc : z_cl[ci]? = some (Cn, T, N)) : u_cls Cn a s H := va_recv (ws := [(a, .inr (ci, fs))]) (q0 := 0) x6.1 (va_P1 hat) hc rfl
theorem u_clsI {G : Gx} {s : State} {H : Heap} {a n : Nat} {f : Nat → Int32} (x6 : z_K G s) (hat : va_at G.1 z_cl (a, .inl (G.2.1 0, n, .inl f)) H) : u_cls "[I" a s H := ⟨_, hat, rfl, (x6.1.2 0 _ rfl).2⟩
theorem u_kept {C : String} {a : Nat} {s : State} {H H1 : Heap} (h : u_cls C a s H) (e : H1[a]? = H[a]?) : u_cls C a s H1 := by
  obtain ⟨cell, h1, h2⟩ := h
  exact ⟨cell, e.trans h1, h2⟩
theorem u_asg (vm : Vm) (c : ClassId) : vm.assignable c c = true := by
  unfold Vm.assignable
  rw [show (256 : Nat) = 255 + 1 from rfl, Vm.assignableAux]
  simp
section UR
variable {p : Program} {l : Launch} {e : Env} {R : Room} {s : State} {m : MethodId} {args : Array Value} {below : List Frame} {meth : Method} {c : Code} {H : Heap} {locs : List Loc} {cells slots : Nat} {Q : State → Prop}
variable {cc : ByteArray} {pc : Nat} {ls : Array Slot} {rest : List Value} {own : String} {nL : Nat} {ret : Option FieldType} {G : Gx} {A : Nat → Prop} {H0 : Heap}
theorem u_obj (C : Cx p s m args meth c own cc nL ret G) {idx a : Nat} (hl : Cond.methodLink own idx objectInit ∈ TT) (hls : ls.size = nL) (hRf : 1 ≤ R.frames) (hRl : (rest.map fun v => v.category).sum + 12 ≤ R.locals) (hdg : decode cc pc = .ok (.invokespecial idx, 3))
    (kk : W p l e R s m args below meth c H locs cells slots Q (F0 m (pc + 3) ls rest)) : W p l e R s m args below meth c H locs cells slots Q (F0 m pc ls (.ref a :: rest)) := by
  obtain ⟨x1, x2, x3, x4, x5, x6, x7, x8⟩ := C
  exact W.objInit x1 x2 x4 (x5 _ hl) (x5 _ tw_1_41) (x5 _ tw_1_42) rfl (hls.trans x3.symm) rfl hdg hRf (by show 2 * 0 + _ + 12 ≤ _; omega) kk
theorem u_newI (C : Cx p s m args meth c own cc nL ret G) (S : va_S A H0 H locs) {i : Int32} (n : Nat) (hn : ¬ i < 0) (hN : i.toNatClampNeg = n) (hb : n * 4 ≤ 536870912) (hc : cells + 1 ≤ R.cells) (hs : slots + n ≤ R.slots) (hdg : decode cc pc = .ok (.newarray .int, 2))
    (kk : ∀ H1 : Heap, H1.size = H.size + 1 → (∀ q : Nat, q < H.size → H1[q]? = H[q]?) → va_at G.1 z_cl (H.size, .inl (G.2.1 0, n, .inl (fun _ => 0))) H1 → va_S A H0 H1 locs → W p l e R s m args below meth c H1 locs (cells + 1) (slots + n) Q (F0 m (pc + 2) ls (.ref H.size :: rest))) :
    W p l e R s m args below meth c H locs cells slots Q (F0 m pc ls (.int i :: rest)) := by
  obtain ⟨x1, x2, x3, x4, x5, x6, x7, x8⟩ := C
  refine va_newaK (atype := .int) x1 x2 (x5 _ tw_1_82) rfl hdg rfl hn hN hb hc hs rfl fun H1 cA e1 z1 o1 hAr hNm => ?_
  have hid : cA = G.2.1 0 := Option.some.inj (hNm.symm.trans (x6.1.2 0 _ rfl).2)
  subst hid
  refine kk H1 z1 o1 ?_ (u_grow S z1 o1)
  show H1[H.size]? = some (vp_cell _ _)
  rw [vp_cell_i]
  exact e1
theorem u_newB (C : Cx p s m args meth c own cc nL ret G) (S : va_S A H0 H locs) {i : Int32} (n : Nat) (hn : ¬ i < 0) (hN : i.toNatClampNeg = n) (hb : n * 1 ≤ 536870912) (hc : cells + 1 ≤ R.cells) (hs : slots + n ≤ R.slots) (hdg : decode cc pc = .ok (.newarray .byte, 2))
    (kk : ∀ H1 : Heap, H1.size = H.size + 1 → (∀ q : Nat, q < H.size → H1[q]? = H[q]?) → va_at G.1 z_cl (H.size, .inl (G.2.1 6, n, .inl (fun _ => 0))) H1 → va_S A H0 H1 locs → W p l e R s m args below meth c H1 locs (cells + 1) (slots + n) Q (F0 m (pc + 2) ls (.ref H.size :: rest))) :
    W p l e R s m args below meth c H locs cells slots Q (F0 m pc ls (.int i :: rest)) := by
  obtain ⟨x1, x2, x3, x4, x5, x6, x7, x8⟩ := C
  refine va_newaK (atype := .byte) x1 x2 (x5 _ tw_3_103) rfl hdg rfl hn hN hb hc hs rfl fun H1 cA e1 z1 o1 hAr hNm => ?_
  have hid : cA = G.2.1 6 := Option.some.inj (hNm.symm.trans (x6.1.2 6 _ rfl).2)
  subst hid
  refine kk H1 z1 o1 ?_ (u_grow S z1 o1)
  show H1[H.size]? = some (vp_cell _ _)
  rw [vp_cell_i]
  exact e1
theorem u_newO (C : Cx p s m args meth c own cc nL ret G) (S : va_S A H0 H locs) {ci index : Nat} {Cn : String} {T : u_T} {N : Nat} {ty : Nat → FieldType} (F : CF ci Cn T N ty) (hcl : Cond.classLink own index Cn ∈ TT) (hinst : Cond.instantiable Cn N ∈ TT) (hini : Cond.initialized Cn ∈ TT)
    {fs : List Value} (hfs : ∀ j, j < N → defaultValue (ty j) = vp_V fs j) (hc : cells + 1 ≤ R.cells) (hs : slots + N ≤ R.slots) (hdg : decode cc pc = .ok (.new index, 3))
    (kk : ∀ H1 : Heap, H1.size = H.size + 1 → (∀ q : Nat, q < H.size → H1[q]? = H[q]?) → va_at G.1 z_cl (H.size, .inr (ci, fs)) H1 → va_S A H0 H1 locs → W p l e R s m args below meth c H1 locs (cells + 1) (slots + N) Q (F0 m (pc + 3) ls (.ref H.size :: rest))) :
    W p l e R s m args below meth c H locs cells slots Q (F0 m pc ls rest) := by
  obtain ⟨x1, x2, x3, x4, x5, x6, x7, x8⟩ := C
  obtain ⟨F1, F2, F3, F4⟩ := F
  have hKn := x6.1.1 ci _ F1
  refine W.newcK x1 x2 x4 (x5 _ hcl) (x5 _ hinst) (x5 _ hini) rfl hdg hc hs hKn.2.1 rfl fun H1 kC hkC e1 z1 o1 => ?_
  exact kk H1 z1 o1 ⟨_, F1, (u_born ty x5 F2 hKn hkC e1 F3).to hfs⟩ (u_grow S z1 o1)
theorem u_newQ (C : Cx p s m args meth c own cc nL ret G) (S : va_S A H0 H locs) {index t : Nat} {Cn : String} (ht : (z_tys G)[t]? = some (G.2.1 t, .object Cn)) (hover : va_AO Cn s) (hcl : Cond.classLink own index Cn ∈ TT) {i : Int32} (n : Nat) (hn : ¬ i < 0) (hN : i.toNatClampNeg = n) (hb : n * 4 ≤ 536870912) (hc : cells + 1 ≤ R.cells) (hs : slots + n ≤ R.slots) (hdg : decode cc pc = .ok (.anewarray index, 3))
    (kk : ∀ H1 : Heap, H1.size = H.size + 1 → (∀ q : Nat, q < H.size → H1[q]? = H[q]?) → va_at G.1 z_cl (H.size, .inl (G.2.1 t, n, .inr (.inr (.inr (.inr (fun _ => none)))))) H1 → va_S A H0 H1 locs → W p l e R s m args below meth c H1 locs (cells + 1) (slots + n) Q (F0 m (pc + 3) ls (.ref H.size :: rest))) :
    W p l e R s m args below meth c H locs cells slots Q (F0 m pc ls (.int i :: rest)) := by
  obtain ⟨x1, x2, x3, x4, x5, x6, x7, x8⟩ := C
  subst hN
  refine W.anew x1 x2 x4 (x5 _ hcl) (va_AO.use hover) rfl hdg rfl hn hb hc hs fun cA kA comp f1 f2 f3 f4 => ?_
  obtain ⟨kA', comp', -, -, -, g4⟩ := (x6.1.2 t _ ht).2
  have hid : cA = G.2.1 t := Option.some.inj (f1.symm.trans g4)
  subst hid
  generalize hH1 : H.push ({ cls := G.2.1 t, slots := Array.replicate i.toNatClampNeg .null, vm := .none } : Cell) = H1
  have z1 : H1.size = H.size + 1 := by rw [← hH1, Array.size_push]
  have e1 : H1[H.size]? = some (arrV (G.2.1 t) i.toNatClampNeg (fun _ => .null)) := by rw [← hH1, Array.getElem?_push_size, ← arrV_new]
  have o1 : ∀ q : Nat, q < H.size → H1[q]? = H[q]? := fun q hq => by rw [← hH1, Array.getElem?_push, if_neg (Nat.ne_of_lt hq)]
  refine kk H1 z1 o1 ?_ (u_grow S z1 o1)
  show H1[H.size]? = some (vp_cell _ _)
  rw [vp_cell_q]
  exact e1
theorem u_putF (C : Cx p s m args meth c own cc nL ret G) (hin2 : meth.name = "<init>") (S : va_S A H0 H locs) {a ci : Nat} {fs : List Value} (hat : va_at G.1 z_cl (a, .inr (ci, fs)) H) (ha : A a) {T : u_T} {N : Nat} {ty : Nat → FieldType} (F : CF ci own T N ty) (f : Nat) (hf : f < N) {v : Value} (hfl : f < fs.length)
    (hfin : (T f).2.2.2 = true) (hdecl : (T f).1 = own) (hn : narrow (ty f) v = v) (hfit : fits (ty f) v = true) {index : Nat} (hl : Cond.fieldLink own index (T f).1 (T f).2.1 (T f).2.2.1 ∈ TT) (hdg : decode cc pc = .ok (.putfield index, 3))
    (kk : ∀ (H1 : Heap) (locs1 : List Loc), H1.size = H.size → (∀ q : Nat, q ≠ a → H1[q]? = H[q]?) → va_at G.1 z_cl (a, .inr (ci, fs.set f v)) H1 → va_S A H0 H1 locs1 → W p l e R s m args below meth c H1 locs1 cells slots Q (F0 m (pc + 3) ls rest)) :
    W p l e R s m args below meth c H locs cells slots Q (F0 m pc ls (v :: .ref a :: rest)) := by
  obtain ⟨x1, x2, x3, x4, x5, x6, x7, x8⟩ := C
  obtain ⟨F1, F2, F3, F4⟩ := F
  have hK := x6.1
  have hap := va_apart (own := own) x5 F2 ty F3 F4 hK F1
  obtain ⟨r, h1, cell, q1, q2, q3, q4⟩ := hat
  have hr : r = (own, T, N) := Option.some.inj (h1.symm.trans F1)
  subst hr
  obtain ⟨hS, hfc, kC, hkC, hkind⟩ := hK.1 ci _ F1
  obtain ⟨cf, kf, fi, f9, hi, hsl⟩ := hS f hf
  have hlay := x5 _ (F2 _ (u_in_lay hf))
  unfold u_lay at hlay
  rw [if_pos hfin] at hlay
  have hst := (u_facts hfc hkC (u_lays x5 F2 hf) hi).1
  have hcf : m.cls = cf := by
    obtain ⟨_, _, c', _, _, _, -, -, hf', -, -, -, hown2, -⟩ := Cond.laysFinal_spec hlay
    have e1 : c' = cf := by have := hi.symm.trans hf'; simp at this; exact this.1.symm
    rw [hdecl] at hown2
    rw [← e1]; exact Option.some.inj (x4.symm.trans hown2)
  have h6 := u_fits hfc hkC hkind (Or.inr hlay) hi (F3 f hf) hn hfit
  refine W.putFinK x1 x2 x4 (x5 _ hl) hi hst hcf hin2 (by rw [q2]; exact h6) q1 q3 (by rw [hsl]; exact k2_hasslot (q4 f hf)) rfl rfl hdg fun H' e1 e2 e3 => ?_
  rw [hsl] at e1 ⊢
  exact kk H' _ e2 e3 ⟨_, F1, t_OB.to (V := updV (vp_V fs) f v) ⟨_, e1, q2, q3, t_set q4 hap hf v⟩ (fun j _ => vp_updV_set hfl v j)⟩ (S.put e2 e3 ha)
theorem u_put (C : Cx p s m args meth c own cc nL ret G) (S : va_S A H0 H locs) {a ci : Nat} {fs : List Value} (hat : va_at G.1 z_cl (a, .inr (ci, fs)) H) (ha : A a) {Cn : String} {T : u_T} {N : Nat} {ty : Nat → FieldType} (F : CF ci Cn T N ty) (f : Nat) (hf : f < N) {v : Value} (hfl : f < fs.length)
    (hfin : (T f).2.2.2 = false) (hn : narrow (ty f) v = v) (hfit : fits (ty f) v = true) {index : Nat} (hl : Cond.fieldLink own index (T f).1 (T f).2.1 (T f).2.2.1 ∈ TT) (hdg : decode cc pc = .ok (.putfield index, 3))
    (kk : ∀ (H1 : Heap) (locs1 : List Loc), H1.size = H.size → (∀ q : Nat, q ≠ a → H1[q]? = H[q]?) → va_at G.1 z_cl (a, .inr (ci, fs.set f v)) H1 → va_S A H0 H1 locs1 → W p l e R s m args below meth c H1 locs1 cells slots Q (F0 m (pc + 3) ls rest)) :
    W p l e R s m args below meth c H locs cells slots Q (F0 m pc ls (v :: .ref a :: rest)) := by
  obtain ⟨x1, x2, x3, x4, x5, x6, x7, x8⟩ := C
  obtain ⟨F1, F2, F3, F4⟩ := F
  have hK := x6.1
  have hap := va_apart (own := own) x5 F2 ty F3 F4 hK F1
  obtain ⟨r, h1, cell, q1, q2, q3, q4⟩ := hat
  have hr : r = (Cn, T, N) := Option.some.inj (h1.symm.trans F1)
  subst hr
  obtain ⟨hS, hfc, kC, hkC, hkind⟩ := hK.1 ci _ F1
  obtain ⟨cf, kf, fi, f9, hi, hsl⟩ := hS f hf
  have hlay := x5 _ (F2 _ (u_in_lay hf))
  unfold u_lay at hlay
  rw [if_neg (by rw [hfin]; decide)] at hlay
  have hst := (u_facts hfc hkC (u_lays x5 F2 hf) hi).1
  have h6 := u_store hfc hkC hkind hlay hi (F3 f hf) hn hfit
  refine W.putK x1 x2 (f := f9) ⟨x4, x5 _ hl, ⟨_, _, _, hi⟩, hst⟩ (by rw [q2]; exact h6) q1 q3 (by rw [hsl]; exact k2_hasslot (q4 f hf)) rfl rfl hdg fun H' e1 e2 e3 => ?_
  rw [hsl] at e1 ⊢
  exact kk H' _ e2 e3 ⟨_, F1, t_OB.to (V := updV (vp_V fs) f v) ⟨_, e1, q2, q3, t_set q4 hap hf v⟩ (fun j _ => vp_updV_set hfl v j)⟩ (S.put e2 e3 ha)
/-- a field that the reference names through a class that inherits it -/
theorem u_putS (C : Cx p s m args meth c own cc nL ret G) (S : va_S A H0 H locs) {a ci : Nat} {fs : List Value} (hat : va_at G.1 z_cl (a, .inr (ci, fs)) H) (ha : A a) {Cn : String} {T : u_T} {N : Nat} {ty : Nat → FieldType} (F : CF ci Cn T N ty) (f : Nat) (hf : f < N) {v : Value} (hfl : f < fs.length)
    (hfin : (T f).2.2.2 = false) (hn : narrow (ty f) v = v) (hfit : fits (ty f) v = true) {index : Nat} (rf : String) (hl : Cond.fieldLink own index rf (T f).2.1 (T f).2.2.1 ∈ TT) (hsf : Cond.sameField rf (T f).1 (T f).2.1 (T f).2.2.1 ∈ TT) (hdg : decode cc pc = .ok (.putfield index, 3))
    (kk : ∀ (H1 : Heap) (locs1 : List Loc), H1.size = H.size → (∀ q : Nat, q ≠ a → H1[q]? = H[q]?) → va_at G.1 z_cl (a, .inr (ci, fs.set f v)) H1 → va_S A H0 H1 locs1 → W p l e R s m args below meth c H1 locs1 cells slots Q (F0 m (pc + 3) ls rest)) :
    W p l e R s m args below meth c H locs cells slots Q (F0 m pc ls (v :: .ref a :: rest)) := by
  obtain ⟨x1, x2, x3, x4, x5, x6, x7, x8⟩ := C
  obtain ⟨F1, F2, F3, F4⟩ := F
  have hK := x6.1
  have hap := va_apart (own := own) x5 F2 ty F3 F4 hK F1
  obtain ⟨r, h1, cell, q1, q2, q3, q4⟩ := hat
  have hr : r = (Cn, T, N) := Option.some.inj (h1.symm.trans F1)
  subst hr
  obtain ⟨hS, hfc, kC, hkC, hkind⟩ := hK.1 ci _ F1
  obtain ⟨cf, kf, fi, f9, hi, hsl⟩ := hS f hf
  have hlay := x5 _ (F2 _ (u_in_lay hf))
  unfold u_lay at hlay
  rw [if_neg (by rw [hfin]; decide)] at hlay
  have hst := (u_facts hfc hkC (u_lays x5 F2 hf) hi).1
  have h6 := u_store hfc hkC hkind hlay hi (F3 f hf) hn hfit
  refine W.putK x1 x2 (f := f9) ⟨x4, x5 _ hl, ⟨_, _, _, u_same (x5 _ hsf) _ hi⟩, hst⟩ (by rw [q2]; exact h6) q1 q3 (by rw [hsl]; exact k2_hasslot (q4 f hf)) rfl rfl hdg fun H' e1 e2 e3 => ?_
  rw [hsl] at e1 ⊢
  exact kk H' _ e2 e3 ⟨_, F1, t_OB.to (V := updV (vp_V fs) f v) ⟨_, e1, q2, q3, t_set q4 hap hf v⟩ (fun j _ => vp_updV_set hfl v j)⟩ (S.put e2 e3 ha)
theorem u_putN (C : Cx p s m args meth c own cc nL ret G) (S : va_S A H0 H locs) {a ci : Nat} {fs : List Value} (hat : va_at G.1 z_cl (a, .inr (ci, fs)) H) (ha : A a) {Cn host : String} {T : u_T} {N : Nat} {ty : Nat → FieldType} (F : CF ci Cn T N ty) (f : Nat) (hf : f < N) {v : Value} (hfl : f < fs.length)
    (hfin : (T f).2.2.2 = false) (hn : narrow (ty f) v = v) (hfit : fits (ty f) v = true) {index : Nat} (hl : Cond.fieldLinkNest own index (T f).1 (T f).2.1 (T f).2.2.1 host ∈ z_nest) (hdg : decode cc pc = .ok (.putfield index, 3))
    (kk : ∀ (H1 : Heap) (locs1 : List Loc), H1.size = H.size → (∀ q : Nat, q ≠ a → H1[q]? = H[q]?) → va_at G.1 z_cl (a, .inr (ci, fs.set f v)) H1 → va_S A H0 H1 locs1 → W p l e R s m args below meth c H1 locs1 cells slots Q (F0 m (pc + 3) ls rest)) :
    W p l e R s m args below meth c H locs cells slots Q (F0 m pc ls (v :: .ref a :: rest)) := by
  obtain ⟨x1, x2, x3, x4, x5, x6, x7, x8⟩ := C
  obtain ⟨F1, F2, F3, F4⟩ := F
  have hK := x6.1
  have hap := va_apart (own := own) x5 F2 ty F3 F4 hK F1
  obtain ⟨r, h1, cell, q1, q2, q3, q4⟩ := hat
  have hr : r = (Cn, T, N) := Option.some.inj (h1.symm.trans F1)
  subst hr
  obtain ⟨hS, hfc, kC, hkC, hkind⟩ := hK.1 ci _ F1
  obtain ⟨cf, kf, fi, f9, hi, hsl⟩ := hS f hf
  have hlay := x5 _ (F2 _ (u_in_lay hf))
  unfold u_lay at hlay
  rw [if_neg (by rw [hfin]; decide)] at hlay
  have hst := (u_facts hfc hkC (u_lays x5 F2 hf) hi).1
  have h6 := u_store hfc hkC hkind hlay hi (F3 f hf) hn hfit
  refine va_WputK x1 x2 (f := f9) x4 (va_Nw.use (A := args) rfl (x6.2.2.2.2.1 _ hl)) hi hst (by rw [q2]; exact h6) q1 q3 (by rw [hsl]; exact k2_hasslot (q4 f hf)) rfl rfl hdg fun H' e1 e2 e3 => ?_
  rw [hsl] at e1 ⊢
  exact kk H' _ e2 e3 ⟨_, F1, t_OB.to (V := updV (vp_V fs) f v) ⟨_, e1, q2, q3, t_set q4 hap hf v⟩ (fun j _ => vp_updV_set hfl v j)⟩ (S.put e2 e3 ha)
theorem u_get (C : Cx p s m args meth c own cc nL ret G) {a ci : Nat} {fs : List Value} (hat : va_at G.1 z_cl (a, .inr (ci, fs)) H) {Cn : String} {T : u_T} {N : Nat} {ty : Nat → FieldType} (F : CF ci Cn T N ty) (f : Nat) (hf : f < N) {v : Value} (hv : fs[f]? = some v) {index : Nat} (hl : Cond.fieldLink own index (T f).1 (T f).2.1 (T f).2.2.1 ∈ TT) (hdg : decode cc pc = .ok (.getfield index, 3))
    (kk : W p l e R s m args below meth c H locs cells slots Q (F0 m (pc + 3) ls (v :: rest))) : W p l e R s m args below meth c H locs cells slots Q (F0 m pc ls (.ref a :: rest)) := by
  obtain ⟨x1, x2, x3, x4, x5, x6, x7, x8⟩ := C
  obtain ⟨F1, F2, F3, F4⟩ := F
  exact va_get (ws := [(a, .inr (ci, fs))]) (C := Cn) (T := T) (N := N) x1 x2 x5 F2 x4 x6.1 (va_P1 hat) 0 rfl F1 f hf (x5 _ hl) (fun _ h => h) hv hdg kk
theorem u_getS (C : Cx p s m args meth c own cc nL ret G) {a ci : Nat} {fs : List Value} (hat : va_at G.1 z_cl (a, .inr (ci, fs)) H) {Cn : String} {T : u_T} {N : Nat} {ty : Nat → FieldType} (F : CF ci Cn T N ty) (f : Nat) (hf : f < N) {v : Value} (hv : fs[f]? = some v) {index : Nat} (rf : String) (hl : Cond.fieldLink own index rf (T f).2.1 (T f).2.2.1 ∈ TT) (hsf : Cond.sameField rf (T f).1 (T f).2.1 (T f).2.2.1 ∈ TT) (hdg : decode cc pc = .ok (.getfield index, 3))
    (kk : W p l e R s m args below meth c H locs cells slots Q (F0 m (pc + 3) ls (v :: rest))) : W p l e R s m args below meth c H locs cells slots Q (F0 m pc ls (.ref a :: rest)) := by
  obtain ⟨x1, x2, x3, x4, x5, x6, x7, x8⟩ := C
  obtain ⟨F1, F2, F3, F4⟩ := F
  exact va_get (ws := [(a, .inr (ci, fs))]) (C := Cn) (T := T) (N := N) x1 x2 x5 F2 x4 x6.1 (va_P1 hat) 0 rfl F1 f hf (x5 _ hl) (fun _ h => u_same (x5 _ hsf) _ h) hv hdg kk
theorem u_getN (C : Cx p s m args meth c own cc nL ret G) {a ci : Nat} {fs : List Value} (hat : va_at G.1 z_cl (a, .inr (ci, fs)) H) {Cn host : String} {T : u_T} {N : Nat} {ty : Nat → FieldType} (F : CF ci Cn T N ty) (f : Nat) (hf : f < N) {v : Value} (hv : fs[f]? = some v) {index : Nat} (hl : Cond.fieldLinkNest own index (T f).1 (T f).2.1 (T f).2.2.1 host ∈ z_nest) (hdg : decode cc pc = .ok (.getfield index, 3))
    (kk : W p l e R s m args below meth c H locs cells slots Q (F0 m (pc + 3) ls (v :: rest))) : W p l e R s m args below meth c H locs cells slots Q (F0 m pc ls (.ref a :: rest)) := by
  obtain ⟨x1, x2, x3, x4, x5, x6, x7, x8⟩ := C
  obtain ⟨F1, F2, F3, F4⟩ := F
  exact va_getN (ws := [(a, .inr (ci, fs))]) (C := Cn) (T := T) (N := N) x1 x2 x5 F2 x4 x6.1 (va_P1 hat) 0 rfl F1 f hf (va_Nw.use (A := args) rfl (x6.2.2.2.2.1 _ hl)) (fun _ h => h) hv hdg kk
theorem u_iald (C : Cx p s m args meth c own cc nL ret G) {a n : Nat} {f : Nat → Int32} (hat : va_at G.1 z_cl (a, .inl (G.2.1 0, n, .inl f)) H) {i : Int32} (hin : ¬ (i < 0 ∨ n ≤ i.toNatClampNeg)) (hdg : decode cc pc = .ok (.iaload, 1))
    (kk : W p l e R s m args below meth c H locs cells slots Q (F0 m (pc + 1) ls (.int (f i.toNatClampNeg) :: rest))) : W p l e R s m args below meth c H locs cells slots Q (F0 m pc ls (.int i :: .ref a :: rest)) := by
  obtain ⟨x1, x2, x3, x4, x5, x6, x7, x8⟩ := C
  exact va_iald (ws := [(a, .inl (G.2.1 0, n, .inl f))]) x1 x2 x6.1 (va_P1 hat) 0 0 rfl rfl hin hdg kk
theorem u_bald (C : Cx p s m args meth c own cc nL ret G) {a n : Nat} {f : Nat → Int32} (hat : va_at G.1 z_cl (a, .inl (G.2.1 6, n, .inl f)) H) {i : Int32} (hin : ¬ (i < 0 ∨ n ≤ i.toNatClampNeg)) (hdg : decode cc pc = .ok (.baload, 1))
    (kk : W p l e R s m args below meth c H locs cells slots Q (F0 m (pc + 1) ls (.int (f i.toNatClampNeg) :: rest))) : W p l e R s m args below meth c H locs cells slots Q (F0 m pc ls (.int i :: .ref a :: rest)) := by
  obtain ⟨x1, x2, x3, x4, x5, x6, x7, x8⟩ := C
  exact va_bald (ws := [(a, .inl (G.2.1 6, n, .inl f))]) x1 x2 x6.1 (va_P1 hat) 0 6 rfl rfl hin hdg kk
theorem u_aald (C : Cx p s m args meth c own cc nL ret G) {a n : Nat} (t : Nat) {Cn : String} (ht : (z_tys G)[t]? = some (G.2.1 t, .object Cn)) {f : Nat → Option Nat} (hat : va_at G.1 z_cl (a, .inl (G.2.1 t, n, .inr (.inr (.inr (.inr f))))) H) {i : Int32} (hin : ¬ (i < 0 ∨ n ≤ i.toNatClampNeg)) {v : Value} (hv : va_rf (f i.toNatClampNeg) = v) (hdg : decode cc pc = .ok (.aaload, 1))
    (kk : W p l e R s m args below meth c H locs cells slots Q (F0 m (pc + 1) ls (v :: rest))) : W p l e R s m args below meth c H locs cells slots Q (F0 m pc ls (.int i :: .ref a :: rest)) := by
  subst hv
  obtain ⟨x1, x2, x3, x4, x5, x6, x7, x8⟩ := C
  exact va_aldq (ws := [(a, .inl (G.2.1 t, n, .inr (.inr (.inr (.inr f)))))]) x1 x2 x6.1 (va_P1 hat) 0 t rfl ht hin hdg kk
theorem u_alen (C : Cx p s m args meth c own cc nL ret G) {a : Nat} (t : Nat) {x : vp_A} {ty : FieldType} (ht : (z_tys G)[t]? = some (G.2.1 t, ty)) (hat : va_at G.1 z_cl (a, .inl (G.2.1 t, x)) H) {v : Int32} (hv : Int32.ofNat x.1 = v) (hdg : decode cc pc = .ok (.arraylength, 1))
    (kk : W p l e R s m args below meth c H locs cells slots Q (F0 m (pc + 1) ls (.int v :: rest))) : W p l e R s m args below meth c H locs cells slots Q (F0 m pc ls (.ref a :: rest)) := by
  obtain ⟨x1, x2, x3, x4, x5, x6, x7, x8⟩ := C
  exact va_alen (ws := [(a, .inl (G.2.1 t, x))]) x1 x2 x6.1 (va_P1 hat) 0 t rfl ht hv hdg kk
theorem u_iast (C : Cx p s m args meth c own cc nL ret G) (S : va_S A H0 H locs) {a n : Nat} {f : Nat → Int32} (hat : va_at G.1 z_cl (a, .inl (G.2.1 0, n, .inl f)) H) (ha : A a) {i x : Int32} (hin : ¬ (i < 0 ∨ n ≤ i.toNatClampNeg)) (hdg : decode cc pc = .ok (.iastore, 1))
    (kk : ∀ (H1 : Heap) (locs1 : List Loc), H1.size = H.size → (∀ q : Nat, q ≠ a → H1[q]? = H[q]?) → va_at G.1 z_cl (a, .inl (G.2.1 0, n, .inl (upd f i.toNatClampNeg x))) H1 → va_S A H0 H1 locs1 → W p l e R s m args below meth c H1 locs1 cells slots Q (F0 m (pc + 1) ls rest)) :
    W p l e R s m args below meth c H locs cells slots Q (F0 m pc ls (.int x :: .int i :: .ref a :: rest)) := by
  obtain ⟨x1, x2, x3, x4, x5, x6, x7, x8⟩ := C
  refine W.iast x1 x2 (cell := vp_cell (G.2.1 0) (n, .inl f)) hat ((x6.1.2 0 _ rfl).1 n (fun j => .int (f j))) (fun q => by cases q) (by show ¬ (i < 0 ∨ (arrV _ _ _).slots.size ≤ _); rw [arrV_size]; exact hin) rfl rfl hdg fun H1 e z oq => ?_
  refine kk H1 _ z oq ?_ (S.put z oq ha)
  show H1[a]? = some (vp_cell _ _)
  rw [e, vp_cell_i, vp_cell_i, arrV_store]
  congr 2
  funext q
  by_cases hq : q = i.toNatClampNeg
  · subst hq
    simp [updV, upd]
  · simp [updV, upd, hq]
theorem u_bast (C : Cx p s m args meth c own cc nL ret G) (S : va_S A H0 H locs) {a n : Nat} {f : Nat → Int32} (hat : va_at G.1 z_cl (a, .inl (G.2.1 6, n, .inl f)) H) (ha : A a) {i x : Int32} (hin : ¬ (i < 0 ∨ n ≤ i.toNatClampNeg)) (hdg : decode cc pc = .ok (.bastore, 1))
    (kk : ∀ (H1 : Heap) (locs1 : List Loc), H1.size = H.size → (∀ q : Nat, q ≠ a → H1[q]? = H[q]?) → va_at G.1 z_cl (a, .inl (G.2.1 6, n, .inl (upd f i.toNatClampNeg (vp_nar .byte x)))) H1 → va_S A H0 H1 locs1 → W p l e R s m args below meth c H1 locs1 cells slots Q (F0 m (pc + 1) ls rest)) :
    W p l e R s m args below meth c H locs cells slots Q (F0 m pc ls (.int x :: .int i :: .ref a :: rest)) := by
  obtain ⟨x1, x2, x3, x4, x5, x6, x7, x8⟩ := C
  refine W.bast x1 x2 (cell := vp_cell (G.2.1 6) (n, .inl f)) hat ((x6.1.2 6 _ rfl).1 n (fun j => .int (f j))) (fun q => by cases q) (by show ¬ (i < 0 ∨ (arrV _ _ _).slots.size ≤ _); rw [arrV_size]; exact hin) rfl rfl hdg fun H1 e z oq => ?_
  refine kk H1 _ z oq ?_ (S.put z oq ha)
  show H1[a]? = some (vp_cell _ _)
  rw [e]
  rw [vp_cell_i, vp_cell_i, arrV_store]
  congr 2
  funext q
  by_cases hq : q = i.toNatClampNeg
  · subst hq
    simp [updV, upd, vp_nar]
    try rfl
  · simp [updV, upd, hq]
/-- a store of something whose class may stand where Cn is asked -/
theorem u_aast (C : Cx p s m args meth c own cc nL ret G) (S : va_S A H0 H locs) {a n v : Nat} (t : Nat) {f : Nat → Option Nat} {Cn Cv : String} (hat : va_at G.1 z_cl (a, .inl (G.2.1 t, n, .inr (.inr (.inr (.inr f))))) H) (ha : A a) (ht : (z_tys G)[t]? = some (G.2.1 t, .object Cn)) (hv : u_cls Cv v s H) (hca : Cond.castable Cv Cn ∈ z_nest)
    {i : Int32} (hin : ¬ (i < 0 ∨ n ≤ i.toNatClampNeg)) (hdg : decode cc pc = .ok (.aastore, 1))
    (kk : ∀ (H1 : Heap) (locs1 : List Loc), H1.size = H.size → (∀ q : Nat, q ≠ a → H1[q]? = H[q]?) → va_at G.1 z_cl (a, .inl (G.2.1 t, n, .inr (.inr (.inr (.inr (va_up f i.toNatClampNeg (some v))))))) H1 → va_S A H0 H1 locs1 → W p l e R s m args below meth c H1 locs1 cells slots Q (F0 m (pc + 1) ls rest)) :
    W p l e R s m args below meth c H locs cells slots Q (F0 m pc ls (.ref v :: .int i :: .ref a :: rest)) := by
  obtain ⟨x1, x2, x3, x4, x5, x6, x7, x8⟩ := C
  have hlt : i.toNatClampNeg < n := Nat.not_le.mp fun q => hin (Or.inr q)
  have h0 : ¬ i < 0 := fun q => hin (Or.inl q)
  obtain ⟨cellV, g1, g2, g3⟩ := hv
  obtain ⟨kA, comp, k1, k2, k3, -⟩ := (x6.1.2 t _ ht).2
  obtain ⟨kE, hkE, -⟩ := Vm.findClass_spec k3
  obtain ⟨c0, t1, f1, f2, f3⟩ := Cond.castable_spec (va_Nw.use (A := args) rfl (x6.2.2.2.2.1 _ hca))
  cases g3.symm.trans f1
  cases k3.symm.trans f2
  obtain ⟨kC, hkC, -⟩ := Vm.findClass_spec g3
  refine W.aast x1 x2 hat (fun q h => by cases h) (fun h => by cases h) k1 k2 rfl hkE ⟨h0, by show _ < (arrV _ _ _).slots.size; rw [arrV_size]; exact hlt⟩ g1 (fun q h => by rw [h] at g2; cases g2) hkC f3 rfl rfl hdg fun H1 e z oq => ?_
  refine kk H1 _ z oq ?_ (S.put z oq ha)
  show H1[a]? = some (vp_cell _ _)
  rw [e]
  rw [vp_cell_q, vp_cell_q, arrV_store]
  congr 2
  funext q
  by_cases hq : q = i.toNatClampNeg
  · subst hq
    simp [updV, va_up, va_rf]
  · simp [updV, va_up, hq]
theorem u_cast (C : Cx p s m args meth c own cc nL ret G) {a index : Nat} {nm : String} (hlink : Cond.classLink own index nm ∈ TT) (hr : u_cls nm a s H) (hdg : decode cc pc = .ok (.checkcast index, 3))
    (k : W p l e R s m args below meth c H locs cells slots Q (F0 m (pc + 3) ls (.ref a :: rest))) : W p l e R s m args below meth c H locs cells slots Q (F0 m pc ls (.ref a :: rest)) := by
  obtain ⟨x1, x2, x3, x4, x5, x6, x7, x8⟩ := C
  obtain ⟨cell, g1, g2, g3⟩ := hr
  intro T hT X
  obtain ⟨vm', X', st⟩ := X.checkcastYes x1 x4 (x5 _ hlink) (by rw [hT]; exact g1) g2 g3 (u_asg _ _) (g := F0 m pc ls (.ref a :: rest)) rfl rfl (by rw [x2]; exact hdg)
  obtain ⟨t, a1, b1⟩ := k (T.setVm vm') hT X'
  exact ⟨t, st t a1, b1⟩
end UR
