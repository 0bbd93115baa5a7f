/-! rows of the law: lists and iterators of its world, calls of its own methods -/
section QL
variable {p : Program} {l : Launch} {e : Env} {R : Room} {s : State} {m : MethodId} {args : Array Value} {below : List Frame} {meth : Method} {c : Code} {H : Heap} {locs : List Loc} {cells slots : Nat} {Q : State → Prop}
variable {cc : ByteArray} {pc : Nat} {ls : Array Slot} {rest : List Value} {own : String} {nL : Nat} {ret : Option FieldType} {G : Gx} {ad : Ad} {N : Nn} {X : Ex} {τ : Sg} {its : List It} {A : Nat → Prop} {H0 : Heap}

theorem q_st50 {o : Nat} (h : o ≠ 2) : q_st 50 o = true := by
  show (o != 2) = true
  simp [h]
theorem q_stek {o : Nat} (h : o ≠ 2) (i : Nat) : q_st (q_ek o) i = true := by
  match o, h with
  | 0, _ => rfl
  | 1, _ => rfl
  | 2, h => exact absurd rfl h
  | (_ + 3), _ => rfl
/-- the iterator of a list -/
theorem q_iter (C : Cx p s m args meth c own cc nL ret G) (S : q_S G ad N X τ its A H0 H locs) (o : Nat) (ho : q_lst N o) (ho2 : o ≠ 2) {index count : Nat} (hl : Cond.methodLink own index ⟨"java/util/List", "iterator", "()Ljava/util/Iterator;"⟩ ∈ TT) (hR : 2 + 1 ≤ R.frames ∧ 8 + (1 + 11) + 33 ≤ R.locals) (hW8 : (rest.map fun v => v.category).sum ≤ 8) (hls : ls.size = nL) (hcs : cells + 1 ≤ R.cells ∧ slots + 4 ≤ R.slots) (hdg : decode cc pc = .ok (.invokeinterface index count, 5))
    (kk : ∀ (it : Nat) (H1 : Heap) (locs1 : List Loc), q_S G ad N X τ ((it, o, 0, τ 50 o 0) :: its) A H0 H1 locs1 → W p l e R s m args below meth c H1 locs1 (cells + 1) (slots + 4) Q (F0 m (pc + 5) ls (.ref it :: rest))) : W p l e R s m args below meth c H locs cells slots Q (F0 m pc ls (.ref (ad 50 o) :: rest)) := by
  have hO := S.O
  have hgr := S
  obtain ⟨⟨ad', e, W, a, I, E⟩, S1, hA⟩ := S
  have hat : va_at G.1 z_cl (ad' 50 o, e_al (τ 50 o 0) (q_ed G ad' τ o) (τ 50 o 2)) H := W.1 50 o ho
  rw [← e 50 o (q_st50 ho2)]
  refine k_callF C S1 hO (u_clsO C.2.2.2.2.2.1 hat cf_12.1) (ci := 12) rfl [] (k_iterator l G (ad' 50 o) (q_ed G ad' τ o) (τ 50 o 0) (τ 50 o 2) H.size) rfl hat kf_iterator hl hR rfl rfl hW8 hls hcs hdg (fun q h => hA q (Nat.le_trans S1.1 h)) (fun H1 locs1 hp hle ok S2 => ?_)
  obtain ⟨hz, hi⟩ := hp
  have ok2 : ∀ q : Nat, q < H.size → H1[q]? = H[q]? := fun q hq => ok q hq (by omega)
  have zz : H.size ≤ H1.size := hle
  refine kk H.size H1 locs1 ⟨⟨ad', e, ⟨fun k o' h => (W.1 k o' h).kept (ok2 _ (W.1 k o' h).lt), W.2.1, W.2.2.1, ⟨Nat.le_trans hO.1 hle, fun q hq => (ok2 q (Nat.lt_of_lt_of_le hq hO.1)).trans (hO.2 q hq)⟩, W.2.2.2.2⟩, a, fun x hx => ?_, E.step hle (fun q hq => ok2 q (E.2.1 q hq).1) (fun _ _ _ h => h)⟩, S2, hA⟩
  rcases List.mem_cons.mp hx with rfl | hx
  · refine ⟨⟨-1, ?_⟩, hA _ S1.1, ⟨hO.1, fun h => absurd (E.2.1 _ h).1 (Nat.lt_irrefl _)⟩, fun k o' h => Nat.ne_of_lt (W.1 k o' h).lt⟩
    show va_at G.1 z_cl (H.size, e_it 0 (-1) (τ 50 o 0) (ad 50 o)) H1
    rw [← e 50 o (q_st50 ho2)]
    exact hi
  · obtain ⟨⟨lr, i1⟩, i2⟩ := I x hx
    exact ⟨⟨lr, i1.kept (ok2 _ i1.lt)⟩, i2⟩
theorem q_hasN (C : Cx p s m args meth c own cc nL ret G) (S : q_S G ad N X τ its A H0 H locs) {it o k : Nat} {em : Int32} (hx : (it, o, k, em) ∈ its) (ho : q_lst N o) (ho2 : o ≠ 2) {index count : Nat} (hl : Cond.methodLink own index ⟨"java/util/Iterator", "hasNext", "()Z"⟩ ∈ TT) (hR : 0 + 1 ≤ R.frames ∧ 8 + (1 + 11) + 0 ≤ R.locals) (hW8 : (rest.map fun v => v.category).sum ≤ 8) (hls : ls.size = nL) (hcs : cells ≤ R.cells ∧ slots ≤ R.slots) (hdg : decode cc pc = .ok (.invokeinterface index count, 5))
    (kk : ∀ (H1 : Heap) (locs1 : List Loc), q_S G ad N X τ its A H0 H1 locs1 → W p l e R s m args below meth c H1 locs1 cells slots Q (F0 m (pc + 5) ls (.int (it_z (nI k) (τ 50 o 2)) :: rest))) : W p l e R s m args below meth c H locs cells slots Q (F0 m pc ls (.ref it :: rest)) := by
  have hO := S.O
  have hgr := S
  obtain ⟨⟨ad', e, W, a, I, E⟩, S1, hA⟩ := S
  have hat : va_at G.1 z_cl (ad' 50 o, e_al (τ 50 o 0) (q_ed G ad' τ o) (τ 50 o 2)) H := W.1 50 o ho
  rw [e 50 o (q_st50 ho2)] at hat
  obtain ⟨⟨lr, hi⟩, hi2⟩ := I _ hx
  refine k_callF C S1 hO (u_clsO C.2.2.2.2.2.1 hi cf_13.1) (ci := 13) rfl [] (k_hasNext l G it (ad 50 o) (q_ed G ad' τ o) (nI k) lr em (τ 50 o 0) (τ 50 o 2) H.size) rfl ⟨hi, hat⟩ kf_hasNext hl hR rfl rfl hW8 hls hcs hdg (fun _ h => h.elim) (fun H1 locs1 hp hle ok S2 => ?_)
  exact kk H1 locs1 (hgr.keep hle (fun q hq => ok q hq id) S2)
theorem q_next (C : Cx p s m args meth c own cc nL ret G) {it o k : Nat} {em : Int32} (S : q_S G ad N X τ [(it, o, k, em)] A H0 H locs) (ho : q_lst N o) (ho2 : o ≠ 2) (hkn : k < q_nn τ o) (hem : em = τ 50 o 0) {index count : Nat} (hl : Cond.methodLink own index ⟨"java/util/Iterator", "next", "()Ljava/lang/Object;"⟩ ∈ TT) (hR : 1 + 1 ≤ R.frames ∧ 8 + (3 + 11) + 20 ≤ R.locals) (hW8 : (rest.map fun v => v.category).sum ≤ 8) (hls : ls.size = nL) (hcs : cells ≤ R.cells ∧ slots ≤ R.slots) (hdg : decode cc pc = .ok (.invokeinterface index count, 5))
    (kk : ∀ (H1 : Heap) (locs1 : List Loc), q_S G ad N X τ [(it, o, k + 1, em)] A H0 H1 locs1 → W p l e R s m args below meth c H1 locs1 cells slots Q (F0 m (pc + 5) ls (.ref (ad (q_ek o) k) :: rest))) : W p l e R s m args below meth c H locs cells slots Q (F0 m pc ls (.ref it :: rest)) := by
  have hO := S.O
  obtain ⟨⟨ad', e, W, a, I, E⟩, S1, hA⟩ := S
  obtain ⟨ok1, ok2, ok3, ok4, ok5⟩ := W.2.2.2.2 o ho
  have hc0 : q_cc τ o ≠ 0 := by omega
  have hat : va_at G.1 z_cl (ad' 50 o, e_al (τ 50 o 0) (q_ed G ad' τ o) (τ 50 o 2)) H := W.1 50 o ho
  have hed : va_at G.1 z_cl (ad' 52 o, e_oa G (q_cc τ o) (q_el ad' τ o)) H := W.1 52 o ⟨ho, hc0⟩
  have eed : q_ed G ad' τ o = ad' 52 o := if_neg hc0
  obtain ⟨⟨lr, hi⟩, hi2, hi4, hi3⟩ := I _ (List.mem_cons_self)
  rw [eed, ok1] at hat
  rw [← e 50 o (q_st50 ho2)] at hi
  have hex : q_el ad' τ o k = some (ad (q_ek o) k) := by
    show (if k < q_nn τ o then some (ad' (q_ek o) k) else none) = _
    rw [if_pos hkn, e _ _ (q_stek ho2 k)]
  subst hem
  refine k_callF C S1 hO (u_clsO C.2.2.2.2.2.1 hi cf_13.1) (ci := 13) rfl [] (k_next l G it (ad' 50 o) (ad' 52 o) k (q_nn τ o) (q_cc τ o) (ad (q_ek o) k) lr (τ 50 o 0) (q_el ad' τ o) hkn ok2 (by omega) hex hi4.1 (hi3 50 o ho) (hi3 52 o ⟨ho, hc0⟩) H.size) rfl ⟨hi, hat, hed⟩ kf_next hl hR rfl rfl hW8 hls hcs hdg (fun q h => by rw [h]; exact hi2) (fun H1 locs1 hp hle ok S2 => ?_)
  obtain ⟨hz, hi5⟩ := hp
  refine kk H1 locs1 ⟨⟨ad', e, ⟨fun k' o' h => (W.1 k' o' h).kept (ok _ (W.1 k' o' h).lt (hi3 k' o' h)), W.2.1, W.2.2.1, hO.call hle ok (fun q hq h => by have := hi4.1; omega), W.2.2.2.2⟩, a, fun x hx => ?_, E.step hle (fun q hq => ok q (E.2.1 q hq).1 (fun h => hi4.2 (by rw [← h]; exact hq))) (fun _ _ _ h => h)⟩, S2, hA⟩
  rcases List.mem_singleton.mp hx with rfl
  refine ⟨⟨nI k, ?_⟩, hi2, hi4, hi3⟩
  show va_at G.1 z_cl (it, e_it (nI (k + 1)) (nI k) (τ 50 o 0) (ad 50 o)) H1
  rw [← e 50 o (q_st50 ho2)]
  exact hi5
theorem q_size (C : Cx p s m args meth c own cc nL ret G) (S : q_S G ad N X τ its A H0 H locs) (o : Nat) (ho : q_lst N o) (ho2 : o ≠ 2) {index count : Nat} (hl : Cond.methodLink own index ⟨"java/util/List", "size", "()I"⟩ ∈ TT) (hR : 0 + 1 ≤ R.frames ∧ 8 + (1 + 11) + 0 ≤ R.locals) (hW8 : (rest.map fun v => v.category).sum ≤ 8) (hls : ls.size = nL) (hcs : cells ≤ R.cells ∧ slots ≤ R.slots) (hdg : decode cc pc = .ok (.invokeinterface index count, 5))
    (kk : ∀ (H1 : Heap) (locs1 : List Loc), q_S G ad N X τ its A H0 H1 locs1 → W p l e R s m args below meth c H1 locs1 cells slots Q (F0 m (pc + 5) ls (.int (τ 50 o 2) :: rest))) : W p l e R s m args below meth c H locs cells slots Q (F0 m pc ls (.ref (ad 50 o) :: rest)) := by
  have hO := S.O
  have hgr := S
  obtain ⟨⟨ad', e, W, a, I, E⟩, S1, hA⟩ := S
  have hat : va_at G.1 z_cl (ad' 50 o, e_al (τ 50 o 0) (q_ed G ad' τ o) (τ 50 o 2)) H := W.1 50 o ho
  rw [← e 50 o (q_st50 ho2)]
  refine k_callF C S1 hO (u_clsO C.2.2.2.2.2.1 hat cf_12.1) (ci := 12) rfl [] (k_size l G (ad' 50 o) (q_ed G ad' τ o) (τ 50 o 0) (τ 50 o 2) H.size) rfl hat kf_size hl hR rfl rfl hW8 hls hcs hdg (fun _ h => h.elim) (fun H1 locs1 hp hle ok S2 => ?_)
  exact kk H1 locs1 (hgr.keep hle (fun q hq => ok q hq id) S2)
theorem q_get (C : Cx p s m args meth c own cc nL ret G) (S : q_S G ad N X τ its A H0 H locs) (o : Nat) (ho : q_lst N o) (ho2 : o ≠ 2) {i : Int32} (hi : ¬ (i < 0 ∨ q_nn τ o ≤ i.toNatClampNeg)) {index count : Nat} (hl : Cond.methodLink own index ⟨"java/util/List", "get", "(I)Ljava/lang/Object;"⟩ ∈ TT) (hR : 2 + 1 ≤ R.frames ∧ 8 + (2 + 11) + 43 ≤ R.locals) (hW8 : (rest.map fun v => v.category).sum ≤ 8) (hls : ls.size = nL) (hcs : cells ≤ R.cells ∧ slots ≤ R.slots) (hdg : decode cc pc = .ok (.invokeinterface index count, 5))
    (kk : ∀ (H1 : Heap) (locs1 : List Loc), q_S G ad N X τ its A H0 H1 locs1 → W p l e R s m args below meth c H1 locs1 cells slots Q (F0 m (pc + 5) ls (.ref (ad (q_ek o) i.toNatClampNeg) :: rest))) : W p l e R s m args below meth c H locs cells slots Q (F0 m pc ls (.int i :: .ref (ad 50 o) :: rest)) := by
  have hO := S.O
  have hgr := S
  obtain ⟨⟨ad', e, W, a, I, E⟩, S1, hA⟩ := S
  obtain ⟨ok1, ok2, ok3, ok4, ok5⟩ := W.2.2.2.2 o ho
  obtain ⟨k, hk, rfl⟩ := nI_of (fun q => hi (Or.inl q))
  rw [nI_clamp hk] at hi kk
  have hkn : k < q_nn τ o := Nat.not_le.mp fun q => hi (Or.inr q)
  have hc0 : q_cc τ o ≠ 0 := by omega
  have hat : va_at G.1 z_cl (ad' 50 o, e_al (τ 50 o 0) (q_ed G ad' τ o) (τ 50 o 2)) H := W.1 50 o ho
  have hed : va_at G.1 z_cl (ad' 52 o, e_oa G (q_cc τ o) (q_el ad' τ o)) H := W.1 52 o ⟨ho, hc0⟩
  have eed : q_ed G ad' τ o = ad' 52 o := if_neg hc0
  rw [eed, ok1] at hat
  have hex : q_el ad' τ o k = some (ad (q_ek o) k) := by
    show (if k < q_nn τ o then some (ad' (q_ek o) k) else none) = _
    rw [if_pos hkn, e _ _ (q_stek ho2 k)]
  rw [← e 50 o (q_st50 ho2)]
  refine k_callF C S1 hO (u_clsO C.2.2.2.2.2.1 hat cf_12.1) (ci := 12) rfl [.int (nI k)] (k_get l G (ad' 50 o) (ad' 52 o) k (q_nn τ o) (q_cc τ o) (ad (q_ek o) k) (τ 50 o 0) (q_el ad' τ o) hkn ok2 (by omega) hex H.size) rfl ⟨hat, hed⟩ kf_get hl hR rfl rfl hW8 hls hcs hdg (fun _ h => h.elim) (fun H1 locs1 hp hle ok S2 => ?_)
  exact kk H1 locs1 (hgr.keep hle (fun q hq => ok q hq id) S2)
/-- a cast of what a list gave -/
theorem q_cast (C : Cx p s m args meth c own cc nL ret G) (S : q_S G ad N X τ its A H0 H locs) (k o : Nat) (hst : q_st k o = true) (ho : lp N τ k o) {index : Nat} (nm : String) (hc : ∀ ad', (∃ ci fs T Nf, q_cel G ad' τ k o = .inr (ci, fs) ∧ z_cl[ci]? = some (nm, T, Nf)) ∨ (nm = "[I" ∧ ∃ n f, q_cel G ad' τ k o = .inl (G.2.1 0, n, .inl f))) (hlink : Cond.classLink own index nm ∈ TT) (hdg : decode cc pc = .ok (.checkcast index, 3))
    (kk : W p l e R s m args below meth c H locs cells slots Q (F0 m (pc + 3) ls (.ref (ad k o) :: rest))) : W p l e R s m args below meth c H locs cells slots Q (F0 m pc ls (.ref (ad k o) :: rest)) := by
  obtain ⟨⟨ad', e, W, a, I, E⟩, S1, hA⟩ := S
  have hat := W.1 k o ho
  rw [e k o hst] at hat
  refine u_cast C hlink ?_ hdg kk
  rcases hc ad' with ⟨ci, fs, T, Nf, e1, e2⟩ | ⟨rfl, n, f, e1⟩
  · rw [e1] at hat
    exact u_clsO C.2.2.2.2.2.1 hat e2
  · rw [e1] at hat
    exact u_clsI C.2.2.2.2.2.1 hat
end QL
/-! contracts of the law's own methods -/
def q_M (l : Launch) (y : MethodName) (bytes : ByteArray) (maxL : Nat) (ret : Option FieldType) (fr lo n : Nat) (G : Gx) (ad : Ad) (N : Nn) (τ : Sg) (sz : Nat) (av : List Value) (v : Option Value) (τ' : Sg) : Prop :=
  k_M l y bytes maxL ret fr lo n (6 * n) G (q_W G ad N τ) sz av v (q_V G ad N τ' (q_A ad N τ sz)) (q_A ad N τ sz)
theorem q_begin {l : Launch} {y : MethodName} {bytes : ByteArray} {maxL : Nat} {ret : Option FieldType} {fr lo n : Nat} {G : Gx} {ad : Ad} {N : Nn} {τ τ' : Sg} {sz : Nat} {av : List Value} {v : Option Value} (hy : plainName y.cls = true) (hl : (lg_sl av).length ≤ maxL) (lv : List (Nat × Value)) (hlv : lv_args 0 av = lv)
    (body : ∀ (p : Program) (e : Env) (s : State) (m : MethodId) (args : Array Value) (below : List Frame) (meth : Method) (c : Code) (ls : Array Slot), Cx p s m args meth c y.cls bytes maxL ret G → sz = s.heap.size → q_S G ad N x_0 τ [] (q_A ad N τ s.heap.size) s.heap s.heap [] → lv_has ls maxL lv →
      W p l e { frames := fr, cells := n, slots := 6 * n, locals := lo } s m args below meth c s.heap [] 0 (6 * 0) (MQ below (k_Q v (q_V G ad N τ' (q_A ad N τ s.heap.size)) (q_A ad N τ s.heap.size)) args s n (6 * n) (q_A ad N τ s.heap.size)) (F0 m 0 ls [])) :
    q_M l y bytes maxL ret fr lo n G ad N τ sz av v τ' := by
  refine k_begin hy hl lv hlv (fun p e s m args below meth c ls C hnm hsz hP hO hl => ?_)
  subst hsz
  exact body p e s m args below meth c ls C rfl ⟨⟨ad, fun _ _ _ => rfl, hP, fun k o h => Or.inl ⟨k, o, h, rfl⟩, fun x hx => absurd hx List.not_mem_nil, q_X0 ad N τ _⟩, va_S.rf, fun q h => Or.inr h⟩ hl
section QM
variable {p : Program} {l : Launch} {e : Env} {R : Room} {s : State} {m : MethodId} {args : Array Value} {below : List Frame} {meth : Method} {c : Code} {H : Heap} {locs : List Loc} {cells slots : Nat} {Q : State → Prop}
variable {cc : ByteArray} {pc : Nat} {ls : Array Slot} {rest : List Value} {own : String} {nL : Nat} {ret : Option FieldType} {G : Gx} {ad : Ad} {N : Nn} {X : Ex} {τ τ' : Sg} {its : List It} {A : Nat → Prop} {H0 : Heap}
theorem q_S.V (S : q_S G ad N X τ its A H0 H locs) : q_V G ad N τ A H := by
  obtain ⟨⟨ad', e, W, a, -⟩, -⟩ := S
  exact ⟨ad', e, W, a⟩
theorem q_iret {v : Int32} {n d : Nat} (C : Cx p s m args meth c own cc nL (some .int) G) (S : q_S G ad N X τ its A s.heap H locs) (hd : cells + d = n) (h0 : d = 0) (hdg : decode cc pc = .ok (.ireturn, 1)) :
    W p l e R s m args below meth c H locs cells (6 * cells) (MQ below (k_Q (some (.int v)) (q_V G ad N τ A) A) args s n (6 * n) A) (F0 m pc ls [.int v]) :=
  k_iret C S.2.1 S.V (by omega) (by omega) hdg
theorem q_zret {v : Int32} {n d : Nat} {ty : FieldType} (C : Cx p s m args meth c own cc nL (some ty) G) (S : q_S G ad N X τ its A s.heap H locs) (hn : narrow ty (.int v) = .int v) (hd : cells + d = n) (h0 : d = 0) (hdg : decode cc pc = .ok (.ireturn, 1)) :
    W p l e R s m args below meth c H locs cells (6 * cells) (MQ below (k_Q (some (.int v)) (q_V G ad N τ A) A) args s n (6 * n) A) (F0 m pc ls [.int v]) :=
  k_zret C S.2.1 hn S.V (by omega) (by omega) hdg
theorem q_vret {n d : Nat} (C : Cx p s m args meth c own cc nL none G) (S : q_S G ad N X τ its A s.heap H locs) (hd : cells + d = n) (h0 : d = 0) (hdg : decode cc pc = .ok (.return_, 1)) :
    W p l e R s m args below meth c H locs cells (6 * cells) (MQ below (k_Q none (q_V G ad N τ A) A) args s n (6 * n) A) (F0 m pc ls []) :=
  k_vret C S.2.1 S.V (by omega) (by omega) hdg
/-- the law's object is an object of its class -/
theorem q_this (C : Cx p s m args meth c own cc nL ret G) (S : q_S G ad N X τ its A H0 H locs) : u_cls RL (ad 40 0) s H := by
  obtain ⟨⟨ad', e, W, a, I, E⟩, S1, hA⟩ := S
  have hat := W.1 40 0 rfl
  rw [e 40 0 rfl] at hat
  exact u_clsO C.2.2.2.2.2.1 hat cf_11.1
/-- behind a call of one of the law's methods -/
theorem q_back {ad' : Ad} {H1 : Heap} {locs1 : List Loc} (e : ∀ k o, q_st k o = true → ad' k o = ad k o) (W : q_W G ad' N τ H) (a : ∀ k o, lp N τ k o → A (ad' k o)) (I : ∀ x ∈ its, q_I G ad ad' N X τ A H x) (E : q_X ad' N X τ H) (S1 : va_S A H0 H locs) (hA : ∀ q, H0.size ≤ q → A q) (hp : q_V G ad' N τ' (q_A ad' N τ H.size) H1) (hsz : H.size ≤ H1.size) (ok : ∀ q : Nat, q < H.size → ¬ q_A ad' N τ H.size q → H1[q]? = H[q]?) (S2 : va_S A H0 H1 locs1) : q_S G ad N X τ' its A H0 H1 locs1 := by
  obtain ⟨ad2, e2, W2, a2⟩ := hp
  have hAA : ∀ q, q_A ad' N τ H.size q → A q := by
    intro q hq
    rcases hq with ⟨k, o, h, rfl⟩ | hq
    · exact a k o h
    · exact hA q (Nat.le_trans S1.1 hq)
  have hEA : ∀ q, X.1 q → q < H.size → (∀ k o, lp N τ k o → ad' k o ≠ q) → ¬ q_A ad' N τ H.size q := by
    intro q _ h1 h2 h
    rcases h with ⟨k, o, h, h'⟩ | h
    · exact h2 k o h h'.symm
    · exact absurd h1 (Nat.not_lt.mpr h)
  refine ⟨⟨ad2, fun k o h => (e2 k o h).trans (e k o h), W2, fun k o h => hAA _ (a2 k o h), fun x hx => ?_, E.step hsz (fun q hq => ok q (E.2.1 q hq).1 (hEA q hq (E.2.1 q hq).1 (E.2.1 q hq).2)) (fun q hq h1 h2 k o h h' => hEA q hq h1 h2 (by rw [← h']; exact a2 k o h))⟩, S2, hA⟩
  obtain ⟨⟨lr, i1⟩, i2, i4, i3⟩ := I x hx
  have hlt := i1.lt
  have hnA : ¬ q_A ad' N τ H.size x.1 := by
    intro h
    rcases h with ⟨k, o, h, h'⟩ | h
    · exact i3 k o h h'.symm
    · exact absurd hlt (Nat.not_lt.mpr h)
  refine ⟨⟨lr, i1.kept (ok _ hlt hnA)⟩, i2, i4, fun k o h h' => hnA ?_⟩
  rw [← h']
  exact a2 k o h
theorem q_hA (a : ∀ k o, lp N τ k o → A (ad k o)) (S1 : va_S A H0 H locs) (hA : ∀ q, H0.size ≤ q → A q) : ∀ q, q_A ad N τ H.size q → A q := by
  intro q hq
  rcases hq with ⟨k, o, h, rfl⟩ | hq
  · exact a k o h
  · exact hA q (Nat.le_trans S1.1 hq)
theorem q_callV {y : MethodName} {bytes : ByteArray} {maxL n fr lo cn index : Nat} {ret2 : Option FieldType} {v : Option Value} {st : List Value} (C : Cx p s m args meth c own cc nL ret G) (S : q_S G ad N X τ its A H0 H locs) (As : List Value) (hy : y.cls = RL)
    (hM : ∀ ad' : Ad, (∀ k o, q_st k o = true → ad' k o = ad k o) → q_M l y bytes maxL ret2 fr lo cn G ad' N τ H.size (.ref (ad 40 0) :: As) v τ') (kv : KV y bytes maxL ret2 n) (hl : Cond.methodLink own index y ∈ TT) (hR : fr + 1 ≤ R.frames ∧ 8 + (maxL + 11) + lo ≤ R.locals) (hn : As.length = n) (hst : st = As.reverse ++ .ref (ad 40 0) :: rest) (hW8 : (rest.map fun v => v.category).sum ≤ 8) (hls : ls.size = nL) (hcs : cells + cn ≤ R.cells ∧ 6 * cells + 6 * cn ≤ R.slots)
    (hdg : decode cc pc = .ok (.invokevirtual index, 3))
    (kk : ∀ (H1 : Heap) (locs1 : List Loc), q_S G ad N X τ' its A H0 H1 locs1 → W p l e R s m args below meth c H1 locs1 (cells + cn) (6 * (cells + cn)) Q (F0 m (pc + 3) ls (v.toList ++ rest))) : W p l e R s m args below meth c H locs cells (6 * cells) Q (F0 m pc ls st) := by
  have hO := S.O
  have hth := q_this C S
  obtain ⟨⟨ad', e, W, a, I, E⟩, S1, hA⟩ := S
  refine k_callV C S1 hO (by rw [hy]; exact hth) As (hM ad' e) rfl W kv hl hR hn hst hW8 hls hcs hdg (q_hA a S1 hA) (fun H1 locs1 hp hle ok S2 => ?_)
  have e6 : 6 * cells + 6 * cn = 6 * (cells + cn) := by omega
  rw [e6]
  exact kk H1 locs1 (q_back e W a I E S1 hA hp hle ok S2)
theorem q_end {a a' : Int32} {b b' : Sg} {x x' : Nat} (h : (some (a, b, x) : Option (Int32 × Sg × Nat)) = some (a', b', x')) : a = a' ∧ b = b' ∧ x = x' := by
  cases h
  exact ⟨rfl, rfl, rfl⟩
theorem q_iretF {v : Int32} {res : Int32 × Sg} {n d : Nat} (C : Cx p s m args meth c own cc nL (some .int) G) (S : q_S G ad N X τ its A s.heap H locs) (hf : (some (v, τ, 0) : Option (Int32 × Sg × Nat)) = some (res.1, res.2, d)) (hd : cells + d = n) (hdg : decode cc pc = .ok (.ireturn, 1)) :
    W p l e R s m args below meth c H locs cells (6 * cells) (MQ below (k_Q (some (.int res.1)) (q_V G ad N res.2 A) A) args s n (6 * n) A) (F0 m pc ls [.int v]) := by
  obtain ⟨e1, e2, e3⟩ := q_end hf
  rw [← e1, ← e2]
  exact q_iret C S hd e3.symm hdg
theorem q_zretF {v : Int32} {res : Int32 × Sg} {n d : Nat} {ty : FieldType} (C : Cx p s m args meth c own cc nL (some ty) G) (S : q_S G ad N X τ its A s.heap H locs) (hn : narrow ty (.int v) = .int v) (hf : (some (v, τ, 0) : Option (Int32 × Sg × Nat)) = some (res.1, res.2, d)) (hd : cells + d = n) (hdg : decode cc pc = .ok (.ireturn, 1)) :
    W p l e R s m args below meth c H locs cells (6 * cells) (MQ below (k_Q (some (.int res.1)) (q_V G ad N res.2 A) A) args s n (6 * n) A) (F0 m pc ls [.int v]) := by
  obtain ⟨e1, e2, e3⟩ := q_end hf
  rw [← e1, ← e2]
  exact q_zret C S hn hd e3.symm hdg
theorem q_vretF {res : Int32 × Sg} {n d : Nat} (C : Cx p s m args meth c own cc nL none G) (S : q_S G ad N X τ its A s.heap H locs) (hf : (some (0, τ, 0) : Option (Int32 × Sg × Nat)) = some (res.1, res.2, d)) (hd : cells + d = n) (hdg : decode cc pc = .ok (.return_, 1)) :
    W p l e R s m args below meth c H locs cells (6 * cells) (MQ below (k_Q none (q_V G ad N res.2 A) A) args s n (6 * n) A) (F0 m pc ls []) := by
  obtain ⟨e1, e2, e3⟩ := q_end hf
  rw [← e2]
  exact q_vret C S hd e3.symm hdg
theorem q_wid (h : W p l e R s m args below meth c H locs (cells + 1) (6 * (cells + 1)) Q (F0 m pc ls rest)) : W p l e R s m args below meth c H locs (cells + 1) (6 * cells + 4) Q (F0 m pc ls rest) := W.widen (Nat.le_refl _) (by omega) h
theorem q_lt4 {o K : Nat} {i : Int32} (ho : o < K) (h : ¬ (i < 0 ∨ 4 ≤ i.toNatClampNeg)) : 4 * o + i.toNatClampNeg < 4 * K := by
  have h2 : ¬ 4 ≤ i.toNatClampNeg := fun q => h (Or.inr q)
  omega
theorem q_glt {i : Int32} {k : Nat} (h : ¬ (i < 0 ∨ k ≤ i.toNatClampNeg)) : i.toNatClampNeg < k := Nat.not_le.mp fun q => h (Or.inr q)
theorem q_ltN (S : q_S G ad N X τ its A H0 H locs) {o k : Nat} (ho : q_lst N o) (h : k < q_nn τ o) : k < q_mk N τ o := by
  obtain ⟨⟨ad', e, W, a, I, E⟩, S1, hA⟩ := S
  exact Nat.lt_of_lt_of_le h (W.2.2.2.2 o ho).2.2.2.2
/-- this.bus.size() -/
theorem q_busSize (C : Cx p s m args meth c own cc nL ret G) (S : q_S G ad N X τ its A H0 H locs) {i1 index count : Nat} (hl1 : Cond.fieldLink own i1 (TL 2).1 (TL 2).2.1 (TL 2).2.2.1 ∈ TT) (hl : Cond.methodLink own index ⟨"java/util/List", "size", "()I"⟩ ∈ TT) (hR : 0 + 1 ≤ R.frames ∧ 8 + (1 + 11) + 0 ≤ R.locals) (hW8 : (rest.map fun v => v.category).sum ≤ 8) (hls : ls.size = nL) (hcs : cells ≤ R.cells ∧ slots ≤ R.slots) (hdg1 : decode cc pc = .ok (.getfield i1, 3)) (hdg : decode cc (pc + 3) = .ok (.invokeinterface index count, 5))
    (kk : ∀ (H1 : Heap) (locs1 : List Loc), q_S G ad N X τ its A H0 H1 locs1 → W p l e R s m args below meth c H1 locs1 cells slots Q (F0 m (pc + 3 + 5) ls (.int (τ 50 2 2) :: rest))) : W p l e R s m args below meth c H locs cells slots Q (F0 m pc ls (.ref (ad 40 0) :: rest)) := by
  have hO := S.O
  have hgr := S
  obtain ⟨⟨ad', e, W, a, I, E⟩, S1, hA⟩ := S
  have h0 := W.1 40 0 rfl
  rw [← e 40 0 rfl]
  refine u_get C h0 cf_11 2 (by decide) rfl hl1 hdg1 ?_
  have hat : va_at G.1 z_cl (ad' 50 2, e_al (τ 50 2 0) (q_ed G ad' τ 2) (τ 50 2 2)) H := W.1 50 2 (Or.inl (by decide))
  refine k_callF C S1 hO (u_clsO C.2.2.2.2.2.1 hat cf_12.1) (ci := 12) rfl [] (k_size l G (ad' 50 2) (q_ed G ad' τ 2) (τ 50 2 0) (τ 50 2 2) H.size) rfl hat kf_size hl hR rfl rfl hW8 hls hcs hdg (fun _ h => h.elim) (fun H1 locs1 hp hle ok S2 => ?_)
  exact kk H1 locs1 (hgr.keep hle (fun q hq => ok q hq id) S2)
end QM
/-- the pure side: what is made is counted -/
def ac (n : Nat) (x : Option (Int32 × Sg × Nat)) : Option (Int32 × Sg × Nat) := x.bind fun q => some (q.1, q.2.1, n + q.2.2)
theorem acb {n d : Nat} {x : Option (Int32 × Sg × Nat)} {r : Int32} {τ : Sg} (h : ac n x = some (r, τ, d)) : ∃ d', x = some (r, τ, d') ∧ d = n + d' := by
  obtain ⟨⟨r1, τ1, d1⟩, h1, h2⟩ := bd h
  obtain ⟨e1, e2, e3⟩ := q_end h2
  subst e1 e2
  exact ⟨d1, h1, e3.symm⟩
def bq (x : Option (Int32 × Sg × Nat)) (f : Int32 → Sg → Option (Int32 × Sg × Nat)) : Option (Int32 × Sg × Nat) := x.bind fun q => ac q.2.2 (f q.1 q.2.1)
theorem bqb {d : Nat} {x : Option (Int32 × Sg × Nat)} {f : Int32 → Sg → Option (Int32 × Sg × Nat)} {r : Int32} {τ : Sg} (h : bq x f = some (r, τ, d)) : ∃ r1 τ1 c1 d1, x = some (r1, τ1, c1) ∧ f r1 τ1 = some (r, τ, d1) ∧ d = c1 + d1 := by
  obtain ⟨⟨r1, τ1, c1⟩, h1, h2⟩ := bd h
  obtain ⟨d1, h3, h4⟩ := acb h2
  exact ⟨r1, τ1, c1, d1, h1, h3, h4⟩
theorem q_hd1 {cells d d' n : Nat} (hd : cells + d = n) (e : d = 1 + d') : cells + 1 + d' = n := by omega
theorem q_hd2 {cells d c d' n : Nat} (hd : cells + d = n) (e : d = c + d') : cells + c + d' = n := by omega

