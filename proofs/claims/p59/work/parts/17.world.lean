/-! the law's own world: its objects by kinds, what they hold as a function of one state; hidden addresses of what moves -/
abbrev Nn : Type := Nat × Nat × Nat × Nat
def q_nn (τ : Sg) (o : Nat) : Nat := (τ 50 o 2).toNatClampNeg
def q_cc (τ : Sg) (o : Nat) : Nat := (τ 50 o 3).toNatClampNeg
def q_ek (o : Nat) : Nat := match o with | 0 => 41 | 1 => 42 | 2 => 49 | _ => 51
def q_lst (N : Nn) (o : Nat) : Prop := o < 3 ∨ (o = 3 ∧ N.2.2.2 = 1)
def lp (N : Nn) (τ : Sg) (k o : Nat) : Prop := match k with
  | 40 => o = 0
  | 41 => o < N.1
  | 42 => o < N.2.1
  | 43 => o < 4 * N.2.1
  | 44 => o < 4 * N.2.1
  | 45 => o < N.2.1
  | 46 => o = 0
  | 47 => o = 0
  | 48 => o = 0
  | 49 => o < q_nn τ 2
  | 50 => q_lst N o
  | 51 => o < N.2.2.1
  | 52 => q_lst N o ∧ q_cc τ o ≠ 0
  | _ => False
def q_ed (G : Gx) (ad : Ad) (τ : Sg) (o : Nat) : Nat := if q_cc τ o = 0 then G.2.2.2 3 else ad 52 o
def q_el (ad : Ad) (τ : Sg) (o : Nat) : Nat → Option Nat := fun i => if i < q_nn τ o then some (ad (q_ek o) i) else none
def q_cel (G : Gx) (ad : Ad) (τ : Sg) (k o : Nat) : va_E := match k with
  | 40 => .inr (11, [.ref (ad 50 0), .ref (ad 50 1), .ref (ad 50 2), .int (τ 40 o 3), .ref (ad 46 0), .ref (ad 47 0), .ref (ad 48 0), .int (τ 40 o 7), .int (τ 40 o 8), .int (τ 40 o 9), .int (τ 40 o 10), .int (τ 40 o 11), .int (τ 40 o 12), .int (τ 40 o 13)])
  | 41 => .inr (9, [.int (τ 41 o 0), .int (τ 41 o 1), .int (τ 41 o 2), .int (τ 41 o 5), .int (τ 41 o 6), .int (τ 41 o 7), .int (τ 41 o 3), .int (τ 41 o 4)])
  | 42 => .inr (8, [.int (τ 42 o 0), .int (τ 42 o 1), .int (τ 42 o 2), .int (τ 42 o 3), .int (τ 42 o 4), .int (τ 42 o 5), .int (τ 42 o 6), .int (τ 42 o 7), .int (τ 42 o 8), .int (τ 42 o 9), .int (τ 42 o 10), .ref (ad 45 o)])
  | 43 => .inr (10, [.int (τ 43 o 0), .int (τ 43 o 1), .int (τ 43 o 2), .int (τ 43 o 3), .ref (ad 44 o)])
  | 44 => .inl (G.2.1 0, 4, .inl (τ 44 o))
  | 45 => .inl (G.2.1 4, 4, .inr (.inr (.inr (.inr (fun i => if i < 4 then some (ad 43 (4 * o + i)) else none)))))
  | 46 => .inl (G.2.1 0, 4, .inl (τ 46 o))
  | 47 => .inl (G.2.1 0, 4, .inl (τ 47 o))
  | 48 => .inl (G.2.1 0, 5, .inl (τ 48 o))
  | 49 => .inl (G.2.1 0, 4, .inl (τ 49 o))
  | 50 => e_al (τ 50 o 0) (q_ed G ad τ o) (τ 50 o 2)
  | 51 => .inl (G.2.1 0, 4, .inl (τ 51 o))
  | 52 => e_oa G (q_cc τ o) (q_el ad τ o)
  | _ => .inr (0, [])
/-- sizes, places made, elements made -/
def q_mk (N : Nn) (τ : Sg) (o : Nat) : Nat := match o with | 0 => N.1 | 1 => N.2.1 | 2 => q_nn τ 2 | _ => N.2.2.1
def q_ok (N : Nn) (τ : Sg) : Prop := ∀ o, q_lst N o → τ 50 o 2 = nI (q_nn τ o) ∧ q_nn τ o ≤ q_cc τ o ∧ q_cc τ o ≤ 100000 ∧ (q_cc τ o = 0 ∨ 10 ≤ q_cc τ o) ∧ q_nn τ o ≤ q_mk N τ o
def q_W (G : Gx) (ad : Ad) (N : Nn) (τ : Sg) (H : Heap) : Prop :=
  (∀ k o, lp N τ k o → va_at G.1 z_cl (ad k o, q_cel G ad τ k o) H) ∧
  (∀ k o k' o', lp N τ k o → lp N τ k' o' → ad k o = ad k' o' → k = k' ∧ o = o') ∧
  (∀ k o, lp N τ k o → G.2.2.1.size ≤ ad k o) ∧ z_O G H ∧ q_ok N τ
def q_st (k o : Nat) : Bool := match k with
  | 49 => false
  | 50 => o != 2
  | 52 => o == 3
  | _ => true
def q_A (ad : Ad) (N : Nn) (τ : Sg) (sz : Nat) : Nat → Prop := fun q => (∃ k o, lp N τ k o ∧ q = ad k o) ∨ sz ≤ q
def q_V (G : Gx) (ad : Ad) (N : Nn) (τ : Sg) (A : Nat → Prop) (H : Heap) : Prop := ∃ ad' : Ad, (∀ k o, q_st k o = true → ad' k o = ad k o) ∧ q_W G ad' N τ H ∧ ∀ k o, lp N τ k o → A (ad' k o)
/-- an iterator that is under way: its address, its list, its place, the count of changes that it expects -/
abbrev It : Type := Nat × Nat × Nat × Int32
/-- what else stands in the heap, apart from the law's world: where, and what -/
abbrev Ex : Type := (Nat → Prop) × (Heap → Prop)
def x_0 : Ex := (fun _ => False, fun _ => True)
def q_X (ad' : Ad) (N : Nn) (X : Ex) (τ : Sg) (H : Heap) : Prop := X.2 H ∧ (∀ q, X.1 q → q < H.size ∧ ∀ k o, lp N τ k o → ad' k o ≠ q) ∧ ∀ H1 H2 : Heap, (∀ q, X.1 q → H2[q]? = H1[q]?) → X.2 H1 → X.2 H2
theorem q_X0 (ad' : Ad) (N : Nn) (τ : Sg) (H : Heap) : q_X ad' N x_0 τ H := ⟨trivial, fun _ h => h.elim, fun _ _ _ _ => trivial⟩
theorem q_X.step {ad' ad2 : Ad} {N N2 : Nn} {X : Ex} {τ τ2 : Sg} {H H1 : Heap} (h : q_X ad' N X τ H) (z : H.size ≤ H1.size) (o : ∀ q, X.1 q → H1[q]? = H[q]?) (hn : ∀ q, X.1 q → q < H.size → (∀ k o, lp N τ k o → ad' k o ≠ q) → ∀ k o, lp N2 τ2 k o → ad2 k o ≠ q) : q_X ad2 N2 X τ2 H1 :=
  ⟨h.2.2 H H1 o h.1, fun q hq => ⟨Nat.lt_of_lt_of_le (h.2.1 q hq).1 z, hn q hq (h.2.1 q hq).1 (h.2.1 q hq).2⟩, h.2.2⟩
def q_I (G : Gx) (ad ad' : Ad) (N : Nn) (X : Ex) (τ : Sg) (A : Nat → Prop) (H : Heap) (x : It) : Prop := (∃ lr, va_at G.1 z_cl (x.1, e_it (nI x.2.2.1) lr x.2.2.2 (ad 50 x.2.1)) H) ∧ A x.1 ∧ (G.2.2.1.size ≤ x.1 ∧ ¬ X.1 x.1) ∧ ∀ k o, lp N τ k o → ad' k o ≠ x.1
def q_S (G : Gx) (ad : Ad) (N : Nn) (X : Ex) (τ : Sg) (its : List It) (A : Nat → Prop) (H0 H : Heap) (locs : List Loc) : Prop :=
  (∃ ad' : Ad, (∀ k o, q_st k o = true → ad' k o = ad k o) ∧ q_W G ad' N τ H ∧ (∀ k o, lp N τ k o → A (ad' k o)) ∧ (∀ x ∈ its, q_I G ad ad' N X τ A H x) ∧ q_X ad' N X τ H) ∧ va_S A H0 H locs ∧ ∀ q, H0.size ≤ q → A q
theorem q_S.O {G : Gx} {ad : Ad} {N : Nn} {X : Ex} {τ : Sg} {its : List It} {A : Nat → Prop} {H0 H : Heap} {locs : List Loc} (S : q_S G ad N X τ its A H0 H locs) : z_O G H := by
  obtain ⟨⟨ad', e, W, -⟩, -⟩ := S
  exact W.2.2.2.1
theorem q_S.drop {G : Gx} {ad : Ad} {N : Nn} {X : Ex} {τ : Sg} {its its' : List It} {A : Nat → Prop} {H0 H : Heap} {locs : List Loc} (S : q_S G ad N X τ its A H0 H locs) (h : ∀ x ∈ its', x ∈ its) : q_S G ad N X τ its' A H0 H locs := by
  obtain ⟨⟨ad', e, W, a, I, E⟩, S2⟩ := S
  exact ⟨⟨ad', e, W, a, fun x hx => I x (h x hx), E⟩, S2⟩
/-- a heap in which the world's cells and the iterators are as before -/
theorem q_S.keep {G : Gx} {ad : Ad} {N : Nn} {X : Ex} {τ : Sg} {its : List It} {A : Nat → Prop} {H0 H H1 : Heap} {locs locs1 : List Loc} (S : q_S G ad N X τ its A H0 H locs) (z : H.size ≤ H1.size) (o : ∀ q : Nat, q < H.size → H1[q]? = H[q]?) (S1 : va_S A H0 H1 locs1) : q_S G ad N X τ its A H0 H1 locs1 := by
  obtain ⟨⟨ad', e, W, a, I, E⟩, -, hA⟩ := S
  refine ⟨⟨ad', e, ⟨fun k o' h => (W.1 k o' h).kept (o _ (W.1 k o' h).lt), W.2.1, W.2.2.1, ⟨Nat.le_trans W.2.2.2.1.1 z, fun q hq => (o q (Nat.lt_of_lt_of_le hq W.2.2.2.1.1)).trans (W.2.2.2.1.2 q hq)⟩, W.2.2.2.2⟩, a, fun x hx => ?_, E.step z (fun q hq => o q (E.2.1 q hq).1) (fun _ _ _ h => h)⟩, S1, hA⟩
  obtain ⟨⟨lr, i1⟩, i2⟩ := I x hx
  exact ⟨⟨lr, i1.kept (o _ i1.lt)⟩, i2⟩
/-- one cell of the world is written -/
theorem q_S.put {G : Gx} {ad ad' : Ad} {N : Nn} {X : Ex} {τ τ' : Sg} {its : List It} {A : Nat → Prop} {H0 H H1 : Heap} {locs1 : List Loc} {k o : Nat} (e : ∀ k o, q_st k o = true → ad' k o = ad k o) (W : q_W G ad' N τ H) (a : ∀ k o, lp N τ k o → A (ad' k o)) (I : ∀ x ∈ its, q_I G ad ad' N X τ A H x) (E : q_X ad' N X τ H) (hA : ∀ q, H0.size ≤ q → A q)
    (ho : lp N τ k o) (z : H1.size = H.size) (oq : ∀ q, q ≠ ad' k o → H1[q]? = H[q]?) (hat : va_at G.1 z_cl (ad' k o, q_cel G ad' τ' k o) H1) (hlp : ∀ k o, lp N τ' k o ↔ lp N τ k o) (hce : ∀ k' o', ¬ (k' = k ∧ o' = o) → q_cel G ad' τ' k' o' = q_cel G ad' τ k' o') (hok : q_ok N τ') (S1 : va_S A H0 H1 locs1) : q_S G ad N X τ' its A H0 H1 locs1 := by
  refine ⟨⟨ad', e, ⟨fun k' o' h => ?_, fun k1 o1 k2 o2 h1 h2 => W.2.1 k1 o1 k2 o2 ((hlp _ _).mp h1) ((hlp _ _).mp h2), fun k' o' h => W.2.2.1 k' o' ((hlp _ _).mp h), W.2.2.2.1.put z oq (W.2.2.1 k o ho), hok⟩, fun k' o' h => a k' o' ((hlp _ _).mp h), fun x hx => ?_, E.step (Nat.le_of_eq z.symm) (fun q hq => oq q (Ne.symm ((E.2.1 q hq).2 k o ho))) (fun q _ _ h k' o' h' => h k' o' ((hlp _ _).mp h'))⟩, S1, hA⟩
  · by_cases q : k' = k ∧ o' = o
    · obtain ⟨rfl, rfl⟩ := q
      exact hat
    · rw [hce k' o' q]
      have h' := (hlp _ _).mp h
      exact (W.1 k' o' h').kept (oq _ (fun z => q (W.2.1 _ _ _ _ h' ho z)))
  · obtain ⟨⟨lr, i1⟩, i2, i4, i3⟩ := I x hx
    exact ⟨⟨lr, i1.kept (oq _ (Ne.symm (i3 k o ho)))⟩, i2, i4, fun k' o' h => i3 k' o' ((hlp _ _).mp h)⟩
/-- a store into a kind that neither lists nor counts read -/
def q_pl (k : Nat) : Bool := match k with
  | 40 => true | 41 => true | 42 => true | 43 => true | 44 => true | 46 => true | 47 => true | 48 => true | _ => false
theorem q_sup50 {τ : Sg} {k o i : Nat} {x : Int32} (hk : q_pl k = true) (o' i' : Nat) : sup τ k o i x 50 o' i' = τ 50 o' i' := if_neg (fun q => by rw [← q.1] at hk; exact absurd hk (by decide))
theorem q_nn_sup {τ : Sg} {k o i : Nat} {x : Int32} (hk : q_pl k = true) (o' : Nat) : q_nn (sup τ k o i x) o' = q_nn τ o' := by unfold q_nn; rw [q_sup50 hk]
theorem q_cc_sup {τ : Sg} {k o i : Nat} {x : Int32} (hk : q_pl k = true) (o' : Nat) : q_cc (sup τ k o i x) o' = q_cc τ o' := by unfold q_cc; rw [q_sup50 hk]
theorem lp_sup {N : Nn} {τ : Sg} {k o i : Nat} {x : Int32} (hk : q_pl k = true) (k' o' : Nat) : lp N (sup τ k o i x) k' o' ↔ lp N τ k' o' := by
  unfold lp
  rw [q_nn_sup hk, q_cc_sup hk]
theorem q_ok_sup {N : Nn} {τ : Sg} {k o i : Nat} {x : Int32} (hk : q_pl k = true) (h : q_ok N τ) : q_ok N (sup τ k o i x) := by
  intro o' ho'
  have h1 := h o' ho'
  unfold q_mk at h1 ⊢
  rw [q_nn_sup hk, q_cc_sup hk, q_sup50 hk, q_nn_sup hk]
  exact h1
theorem q_cel_sup {G : Gx} {ad : Ad} {τ : Sg} {k o i : Nat} {x : Int32} (hk : q_pl k = true) (k' o' : Nat) (h : ¬ (k' = k ∧ o' = o)) : q_cel G ad (sup τ k o i x) k' o' = q_cel G ad τ k' o' := by
  have e : sup τ k o i x k' o' = τ k' o' := sup_ne k' o' h
  unfold q_cel
  unfold q_ed q_el
  rw [q_nn_sup hk, q_cc_sup hk]
  split <;> simp only [e]
section QR
variable {p : Program} {l : Launch} {e : Env} {R : Room} {s : State} {m : MethodId} {args : Array Value} {below : List Frame} {meth : Method} {c : Code} {H : Heap} {locs : List Loc} {cells slots : Nat} {Q : State → Prop}
variable {cc : ByteArray} {pc : Nat} {ls : Array Slot} {rest : List Value} {own : String} {nL : Nat} {ret : Option FieldType} {G : Gx} {ad : Ad} {N : Nn} {X : Ex} {τ : Sg} {its : List It} {A : Nat → Prop} {H0 : Heap}
theorem q_getI (C : Cx p s m args meth c own cc nL ret G) (S : q_S G ad N X τ its A H0 H locs) (k o : Nat) (hst : q_st k o = true) (ho : lp N τ k o) {ci : Nat} {Cn : String} {T : u_T} {Nf : Nat} {ty : Nat → FieldType} (F : CF ci Cn T Nf ty) (f : Nat) (hf : f < Nf) {x : Int32} (hc : ∀ ad', ∃ fs, q_cel G ad' τ k o = .inr (ci, fs) ∧ fs[f]? = some (.int x)) {index : Nat} (hl : Cond.fieldLink own index (T f).1 (T f).2.1 (T f).2.2.1 ∈ TT) (hdg : decode cc pc = .ok (.getfield index, 3))
    (kk : W p l e R s m args below meth c H locs cells slots Q (F0 m (pc + 3) ls (.int x :: rest))) : W p l e R s m args below meth c H locs cells slots Q (F0 m pc ls (.ref (ad k o) :: rest)) := by
  obtain ⟨⟨ad', e, W, -⟩, -⟩ := S
  obtain ⟨fs, e1, e2⟩ := hc ad'
  have hat := W.1 k o ho
  rw [e1] at hat
  rw [← e k o hst]
  exact u_get C hat F f hf e2 hl hdg kk
theorem q_getIN (C : Cx p s m args meth c own cc nL ret G) (S : q_S G ad N X τ its A H0 H locs) (k o : Nat) (hst : q_st k o = true) (ho : lp N τ k o) {ci : Nat} {Cn host : String} {T : u_T} {Nf : Nat} {ty : Nat → FieldType} (F : CF ci Cn T Nf ty) (f : Nat) (hf : f < Nf) {x : Int32} (hc : ∀ ad', ∃ fs, q_cel G ad' τ k o = .inr (ci, fs) ∧ fs[f]? = some (.int x)) {index : Nat} (hl : Cond.fieldLinkNest own index (T f).1 (T f).2.1 (T f).2.2.1 host ∈ z_nest) (hdg : decode cc pc = .ok (.getfield index, 3))
    (kk : W p l e R s m args below meth c H locs cells slots Q (F0 m (pc + 3) ls (.int x :: rest))) : W p l e R s m args below meth c H locs cells slots Q (F0 m pc ls (.ref (ad k o) :: rest)) := by
  obtain ⟨⟨ad', e, W, -⟩, -⟩ := S
  obtain ⟨fs, e1, e2⟩ := hc ad'
  have hat := W.1 k o ho
  rw [e1] at hat
  rw [← e k o hst]
  exact u_getN C hat F f hf e2 hl hdg kk
theorem q_getR (C : Cx p s m args meth c own cc nL ret G) (S : q_S G ad N X τ its A H0 H locs) (k o k2 o2 : Nat) (hst : q_st k o = true) (hst2 : q_st k2 o2 = true) (ho : lp N τ k o) {ci : Nat} {Cn : String} {T : u_T} {Nf : Nat} {ty : Nat → FieldType} (F : CF ci Cn T Nf ty) (f : Nat) (hf : f < Nf) (hc : ∀ ad', ∃ fs, q_cel G ad' τ k o = .inr (ci, fs) ∧ fs[f]? = some (.ref (ad' k2 o2))) {index : Nat} (hl : Cond.fieldLink own index (T f).1 (T f).2.1 (T f).2.2.1 ∈ TT) (hdg : decode cc pc = .ok (.getfield index, 3))
    (kk : W p l e R s m args below meth c H locs cells slots Q (F0 m (pc + 3) ls (.ref (ad k2 o2) :: rest))) : W p l e R s m args below meth c H locs cells slots Q (F0 m pc ls (.ref (ad k o) :: rest)) := by
  obtain ⟨⟨ad', e, W, -⟩, -⟩ := S
  obtain ⟨fs, e1, e2⟩ := hc ad'
  have hat := W.1 k o ho
  rw [e1] at hat
  rw [← e k o hst]
  rw [← e k2 o2 hst2] at kk
  exact u_get C hat F f hf e2 hl hdg kk
theorem q_getRN (C : Cx p s m args meth c own cc nL ret G) (S : q_S G ad N X τ its A H0 H locs) (k o k2 o2 : Nat) (hst : q_st k o = true) (hst2 : q_st k2 o2 = true) (ho : lp N τ k o) {ci : Nat} {Cn host : String} {T : u_T} {Nf : Nat} {ty : Nat → FieldType} (F : CF ci Cn T Nf ty) (f : Nat) (hf : f < Nf) (hc : ∀ ad', ∃ fs, q_cel G ad' τ k o = .inr (ci, fs) ∧ fs[f]? = some (.ref (ad' k2 o2))) {index : Nat} (hl : Cond.fieldLinkNest own index (T f).1 (T f).2.1 (T f).2.2.1 host ∈ z_nest) (hdg : decode cc pc = .ok (.getfield index, 3))
    (kk : W p l e R s m args below meth c H locs cells slots Q (F0 m (pc + 3) ls (.ref (ad k2 o2) :: rest))) : W p l e R s m args below meth c H locs cells slots Q (F0 m pc ls (.ref (ad k o) :: rest)) := by
  obtain ⟨⟨ad', e, W, -⟩, -⟩ := S
  obtain ⟨fs, e1, e2⟩ := hc ad'
  have hat := W.1 k o ho
  rw [e1] at hat
  rw [← e k o hst]
  rw [← e k2 o2 hst2] at kk
  exact u_getN C hat F f hf e2 hl hdg kk
theorem q_putI (C : Cx p s m args meth c own cc nL ret G) (S : q_S G ad N X τ its A H0 H locs) (k o i : Nat) (hk : q_pl k = true) (hst : q_st k o = true) (ho : lp N τ k o) {ci : Nat} {Cn : String} {T : u_T} {Nf : Nat} {ty : Nat → FieldType} (F : CF ci Cn T Nf ty) (f : Nat) (hf : f < Nf) {x : Int32} (hc : ∀ ad', ∃ fs, q_cel G ad' τ k o = .inr (ci, fs) ∧ f < fs.length ∧ q_cel G ad' (sup τ k o i x) k o = .inr (ci, fs.set f (.int x)))
    (hfin : (T f).2.2.2 = false) (hn : narrow (ty f) (.int x) = .int x) (hfit : fits (ty f) (.int x) = true) {index : Nat} (hl : Cond.fieldLink own index (T f).1 (T f).2.1 (T f).2.2.1 ∈ TT) (hdg : decode cc pc = .ok (.putfield index, 3))
    (kk : ∀ (H1 : Heap) (locs1 : List Loc), q_S G ad N X (sup τ k o i x) its A H0 H1 locs1 → W p l e R s m args below meth c H1 locs1 cells slots Q (F0 m (pc + 3) ls rest)) : W p l e R s m args below meth c H locs cells slots Q (F0 m pc ls (.int x :: .ref (ad k o) :: rest)) := by
  obtain ⟨⟨ad', e, W, a, I, E⟩, S1, hA⟩ := S
  obtain ⟨fs, e1, e2, e3⟩ := hc ad'
  have hat := W.1 k o ho
  rw [e1] at hat
  rw [← e k o hst]
  refine u_put C S1 hat (a k o ho) F f hf e2 hfin hn hfit hl hdg (fun H1 locs1 z oq g S2 => kk H1 locs1 (q_S.put e W a I E hA ho z oq ?_ (lp_sup hk) (q_cel_sup hk) (q_ok_sup hk W.2.2.2.2) S2))
  rw [e3]
  exact g
theorem q_putIN (C : Cx p s m args meth c own cc nL ret G) (S : q_S G ad N X τ its A H0 H locs) (k o i : Nat) (hk : q_pl k = true) (hst : q_st k o = true) (ho : lp N τ k o) {ci : Nat} {Cn host : String} {T : u_T} {Nf : Nat} {ty : Nat → FieldType} (F : CF ci Cn T Nf ty) (f : Nat) (hf : f < Nf) {x : Int32} (hc : ∀ ad', ∃ fs, q_cel G ad' τ k o = .inr (ci, fs) ∧ f < fs.length ∧ q_cel G ad' (sup τ k o i x) k o = .inr (ci, fs.set f (.int x)))
    (hfin : (T f).2.2.2 = false) (hn : narrow (ty f) (.int x) = .int x) (hfit : fits (ty f) (.int x) = true) {index : Nat} (hl : Cond.fieldLinkNest own index (T f).1 (T f).2.1 (T f).2.2.1 host ∈ z_nest) (hdg : decode cc pc = .ok (.putfield index, 3))
    (kk : ∀ (H1 : Heap) (locs1 : List Loc), q_S G ad N X (sup τ k o i x) its A H0 H1 locs1 → W p l e R s m args below meth c H1 locs1 cells slots Q (F0 m (pc + 3) ls rest)) : W p l e R s m args below meth c H locs cells slots Q (F0 m pc ls (.int x :: .ref (ad k o) :: rest)) := by
  obtain ⟨⟨ad', e, W, a, I, E⟩, S1, hA⟩ := S
  obtain ⟨fs, e1, e2, e3⟩ := hc ad'
  have hat := W.1 k o ho
  rw [e1] at hat
  rw [← e k o hst]
  refine u_putN C S1 hat (a k o ho) F f hf e2 hfin hn hfit hl hdg (fun H1 locs1 z oq g S2 => kk H1 locs1 (q_S.put e W a I E hA ho z oq ?_ (lp_sup hk) (q_cel_sup hk) (q_ok_sup hk W.2.2.2.2) S2))
  rw [e3]
  exact g
theorem q_iald (C : Cx p s m args meth c own cc nL ret G) (S : q_S G ad N X τ its A H0 H locs) (k o n : Nat) (hst : q_st k o = true) (ho : lp N τ k o) (hc : ∀ ad', q_cel G ad' τ k o = .inl (G.2.1 0, n, .inl (τ k o))) {i : Int32} (hin : ¬ (i < 0 ∨ n ≤ i.toNatClampNeg)) (hdg : decode cc pc = .ok (.iaload, 1))
    (kk : W p l e R s m args below meth c H locs cells slots Q (F0 m (pc + 1) ls (.int (τ k o i.toNatClampNeg) :: rest))) : W p l e R s m args below meth c H locs cells slots Q (F0 m pc ls (.int i :: .ref (ad k o) :: rest)) := by
  obtain ⟨⟨ad', e, W, -⟩, -⟩ := S
  have hat := W.1 k o ho
  rw [hc] at hat
  rw [← e k o hst]
  exact u_iald C hat hin hdg kk
theorem q_iast (C : Cx p s m args meth c own cc nL ret G) (S : q_S G ad N X τ its A H0 H locs) (k o n : Nat) (hk : q_pl k = true) (hst : q_st k o = true) (ho : lp N τ k o) (hc : ∀ ad' τ', q_cel G ad' τ' k o = .inl (G.2.1 0, n, .inl (τ' k o))) {i x : Int32} (hin : ¬ (i < 0 ∨ n ≤ i.toNatClampNeg)) (hdg : decode cc pc = .ok (.iastore, 1))
    (kk : ∀ (H1 : Heap) (locs1 : List Loc), q_S G ad N X (sup τ k o i.toNatClampNeg x) its A H0 H1 locs1 → W p l e R s m args below meth c H1 locs1 cells slots Q (F0 m (pc + 1) ls rest)) : W p l e R s m args below meth c H locs cells slots Q (F0 m pc ls (.int x :: .int i :: .ref (ad k o) :: rest)) := by
  obtain ⟨⟨ad', e, W, a, I, E⟩, S1, hA⟩ := S
  have hat := W.1 k o ho
  rw [hc] at hat
  rw [← e k o hst]
  refine u_iast C S1 hat (a k o ho) hin hdg (fun H1 locs1 z oq g S2 => kk H1 locs1 (q_S.put e W a I E hA ho z oq ?_ (lp_sup hk) (q_cel_sup hk) (q_ok_sup hk W.2.2.2.2) S2))
  rw [hc, sup_eq]
  exact g
/-- what a car knows: the array of a call -/
theorem q_by (C : Cx p s m args meth c own cc nL ret G) (S : q_S G ad N X τ its A H0 H locs) (o : Nat) (ho : o < N.2.1) {i : Int32} (hin : ¬ (i < 0 ∨ 4 ≤ i.toNatClampNeg)) (hdg : decode cc pc = .ok (.aaload, 1))
    (kk : W p l e R s m args below meth c H locs cells slots Q (F0 m (pc + 1) ls (.ref (ad 43 (4 * o + i.toNatClampNeg)) :: rest))) : W p l e R s m args below meth c H locs cells slots Q (F0 m pc ls (.int i :: .ref (ad 45 o) :: rest)) := by
  obtain ⟨⟨ad', e, W, -⟩, -⟩ := S
  have hat := W.1 45 o ho
  rw [← e 45 o rfl]
  have h4 : i.toNatClampNeg < 4 := Nat.not_le.mp fun q => hin (Or.inr q)
  exact u_aald C 4 rfl hat hin (by rw [if_pos h4, ← e 43 _ rfl]; rfl) hdg kk
end QR
theorem qr_40_0 (G : Gx) (τ : Sg) (o : Nat) : ∀ ad', ∃ fs, q_cel G ad' τ 40 o = .inr (11, fs) ∧ fs[0]? = some (.ref (ad' 50 0)) := fun _ => ⟨_, rfl, rfl⟩
theorem qr_40_1 (G : Gx) (τ : Sg) (o : Nat) : ∀ ad', ∃ fs, q_cel G ad' τ 40 o = .inr (11, fs) ∧ fs[1]? = some (.ref (ad' 50 1)) := fun _ => ⟨_, rfl, rfl⟩
theorem qi_40_3 (G : Gx) (τ : Sg) (o : Nat) : ∀ ad', ∃ fs, q_cel G ad' τ 40 o = .inr (11, fs) ∧ fs[3]? = some (.int (τ 40 o 3)) := fun _ => ⟨_, rfl, rfl⟩
theorem qp_40_3 (G : Gx) (τ : Sg) (o : Nat) (x : Int32) : ∀ ad', ∃ fs, q_cel G ad' τ 40 o = .inr (11, fs) ∧ 3 < fs.length ∧ q_cel G ad' (sup τ 40 o 3 x) 40 o = .inr (11, fs.set 3 (.int x)) := fun ad' => ⟨_, rfl, Nat.le_of_ble_eq_true rfl, by simp [q_cel, sup]⟩
theorem qr_40_4 (G : Gx) (τ : Sg) (o : Nat) : ∀ ad', ∃ fs, q_cel G ad' τ 40 o = .inr (11, fs) ∧ fs[4]? = some (.ref (ad' 46 0)) := fun _ => ⟨_, rfl, rfl⟩
theorem qr_40_5 (G : Gx) (τ : Sg) (o : Nat) : ∀ ad', ∃ fs, q_cel G ad' τ 40 o = .inr (11, fs) ∧ fs[5]? = some (.ref (ad' 47 0)) := fun _ => ⟨_, rfl, rfl⟩
theorem qr_40_6 (G : Gx) (τ : Sg) (o : Nat) : ∀ ad', ∃ fs, q_cel G ad' τ 40 o = .inr (11, fs) ∧ fs[6]? = some (.ref (ad' 48 0)) := fun _ => ⟨_, rfl, rfl⟩
theorem qi_40_7 (G : Gx) (τ : Sg) (o : Nat) : ∀ ad', ∃ fs, q_cel G ad' τ 40 o = .inr (11, fs) ∧ fs[7]? = some (.int (τ 40 o 7)) := fun _ => ⟨_, rfl, rfl⟩
theorem qp_40_7 (G : Gx) (τ : Sg) (o : Nat) (x : Int32) : ∀ ad', ∃ fs, q_cel G ad' τ 40 o = .inr (11, fs) ∧ 7 < fs.length ∧ q_cel G ad' (sup τ 40 o 7 x) 40 o = .inr (11, fs.set 7 (.int x)) := fun ad' => ⟨_, rfl, Nat.le_of_ble_eq_true rfl, by simp [q_cel, sup]⟩
theorem qi_40_8 (G : Gx) (τ : Sg) (o : Nat) : ∀ ad', ∃ fs, q_cel G ad' τ 40 o = .inr (11, fs) ∧ fs[8]? = some (.int (τ 40 o 8)) := fun _ => ⟨_, rfl, rfl⟩
theorem qp_40_8 (G : Gx) (τ : Sg) (o : Nat) (x : Int32) : ∀ ad', ∃ fs, q_cel G ad' τ 40 o = .inr (11, fs) ∧ 8 < fs.length ∧ q_cel G ad' (sup τ 40 o 8 x) 40 o = .inr (11, fs.set 8 (.int x)) := fun ad' => ⟨_, rfl, Nat.le_of_ble_eq_true rfl, by simp [q_cel, sup]⟩
theorem qi_40_9 (G : Gx) (τ : Sg) (o : Nat) : ∀ ad', ∃ fs, q_cel G ad' τ 40 o = .inr (11, fs) ∧ fs[9]? = some (.int (τ 40 o 9)) := fun _ => ⟨_, rfl, rfl⟩
theorem qp_40_9 (G : Gx) (τ : Sg) (o : Nat) (x : Int32) : ∀ ad', ∃ fs, q_cel G ad' τ 40 o = .inr (11, fs) ∧ 9 < fs.length ∧ q_cel G ad' (sup τ 40 o 9 x) 40 o = .inr (11, fs.set 9 (.int x)) := fun ad' => ⟨_, rfl, Nat.le_of_ble_eq_true rfl, by simp [q_cel, sup]⟩
theorem qi_40_10 (G : Gx) (τ : Sg) (o : Nat) : ∀ ad', ∃ fs, q_cel G ad' τ 40 o = .inr (11, fs) ∧ fs[10]? = some (.int (τ 40 o 10)) := fun _ => ⟨_, rfl, rfl⟩
theorem qp_40_10 (G : Gx) (τ : Sg) (o : Nat) (x : Int32) : ∀ ad', ∃ fs, q_cel G ad' τ 40 o = .inr (11, fs) ∧ 10 < fs.length ∧ q_cel G ad' (sup τ 40 o 10 x) 40 o = .inr (11, fs.set 10 (.int x)) := fun ad' => ⟨_, rfl, Nat.le_of_ble_eq_true rfl, by simp [q_cel, sup]⟩
theorem qi_40_11 (G : Gx) (τ : Sg) (o : Nat) : ∀ ad', ∃ fs, q_cel G ad' τ 40 o = .inr (11, fs) ∧ fs[11]? = some (.int (τ 40 o 11)) := fun _ => ⟨_, rfl, rfl⟩
theorem qp_40_11 (G : Gx) (τ : Sg) (o : Nat) (x : Int32) : ∀ ad', ∃ fs, q_cel G ad' τ 40 o = .inr (11, fs) ∧ 11 < fs.length ∧ q_cel G ad' (sup τ 40 o 11 x) 40 o = .inr (11, fs.set 11 (.int x)) := fun ad' => ⟨_, rfl, Nat.le_of_ble_eq_true rfl, by simp [q_cel, sup]⟩
theorem qi_40_12 (G : Gx) (τ : Sg) (o : Nat) : ∀ ad', ∃ fs, q_cel G ad' τ 40 o = .inr (11, fs) ∧ fs[12]? = some (.int (τ 40 o 12)) := fun _ => ⟨_, rfl, rfl⟩
theorem qp_40_12 (G : Gx) (τ : Sg) (o : Nat) (x : Int32) : ∀ ad', ∃ fs, q_cel G ad' τ 40 o = .inr (11, fs) ∧ 12 < fs.length ∧ q_cel G ad' (sup τ 40 o 12 x) 40 o = .inr (11, fs.set 12 (.int x)) := fun ad' => ⟨_, rfl, Nat.le_of_ble_eq_true rfl, by simp [q_cel, sup]⟩
theorem qi_40_13 (G : Gx) (τ : Sg) (o : Nat) : ∀ ad', ∃ fs, q_cel G ad' τ 40 o = .inr (11, fs) ∧ fs[13]? = some (.int (τ 40 o 13)) := fun _ => ⟨_, rfl, rfl⟩
theorem qp_40_13 (G : Gx) (τ : Sg) (o : Nat) (x : Int32) : ∀ ad', ∃ fs, q_cel G ad' τ 40 o = .inr (11, fs) ∧ 13 < fs.length ∧ q_cel G ad' (sup τ 40 o 13 x) 40 o = .inr (11, fs.set 13 (.int x)) := fun ad' => ⟨_, rfl, Nat.le_of_ble_eq_true rfl, by simp [q_cel, sup]⟩
theorem qi_41_0 (G : Gx) (τ : Sg) (o : Nat) : ∀ ad', ∃ fs, q_cel G ad' τ 41 o = .inr (9, fs) ∧ fs[0]? = some (.int (τ 41 o 0)) := fun _ => ⟨_, rfl, rfl⟩
theorem qp_41_0 (G : Gx) (τ : Sg) (o : Nat) (x : Int32) : ∀ ad', ∃ fs, q_cel G ad' τ 41 o = .inr (9, fs) ∧ 0 < fs.length ∧ q_cel G ad' (sup τ 41 o 0 x) 41 o = .inr (9, fs.set 0 (.int x)) := fun ad' => ⟨_, rfl, Nat.le_of_ble_eq_true rfl, by simp [q_cel, sup]⟩
theorem qi_41_1 (G : Gx) (τ : Sg) (o : Nat) : ∀ ad', ∃ fs, q_cel G ad' τ 41 o = .inr (9, fs) ∧ fs[1]? = some (.int (τ 41 o 1)) := fun _ => ⟨_, rfl, rfl⟩
theorem qp_41_1 (G : Gx) (τ : Sg) (o : Nat) (x : Int32) : ∀ ad', ∃ fs, q_cel G ad' τ 41 o = .inr (9, fs) ∧ 1 < fs.length ∧ q_cel G ad' (sup τ 41 o 1 x) 41 o = .inr (9, fs.set 1 (.int x)) := fun ad' => ⟨_, rfl, Nat.le_of_ble_eq_true rfl, by simp [q_cel, sup]⟩
theorem qi_41_2 (G : Gx) (τ : Sg) (o : Nat) : ∀ ad', ∃ fs, q_cel G ad' τ 41 o = .inr (9, fs) ∧ fs[2]? = some (.int (τ 41 o 2)) := fun _ => ⟨_, rfl, rfl⟩
theorem qp_41_2 (G : Gx) (τ : Sg) (o : Nat) (x : Int32) : ∀ ad', ∃ fs, q_cel G ad' τ 41 o = .inr (9, fs) ∧ 2 < fs.length ∧ q_cel G ad' (sup τ 41 o 2 x) 41 o = .inr (9, fs.set 2 (.int x)) := fun ad' => ⟨_, rfl, Nat.le_of_ble_eq_true rfl, by simp [q_cel, sup]⟩
theorem qi_41_3 (G : Gx) (τ : Sg) (o : Nat) : ∀ ad', ∃ fs, q_cel G ad' τ 41 o = .inr (9, fs) ∧ fs[3]? = some (.int (τ 41 o 5)) := fun _ => ⟨_, rfl, rfl⟩
theorem qp_41_3 (G : Gx) (τ : Sg) (o : Nat) (x : Int32) : ∀ ad', ∃ fs, q_cel G ad' τ 41 o = .inr (9, fs) ∧ 3 < fs.length ∧ q_cel G ad' (sup τ 41 o 5 x) 41 o = .inr (9, fs.set 3 (.int x)) := fun ad' => ⟨_, rfl, Nat.le_of_ble_eq_true rfl, by simp [q_cel, sup]⟩
theorem qi_41_4 (G : Gx) (τ : Sg) (o : Nat) : ∀ ad', ∃ fs, q_cel G ad' τ 41 o = .inr (9, fs) ∧ fs[4]? = some (.int (τ 41 o 6)) := fun _ => ⟨_, rfl, rfl⟩
theorem qp_41_4 (G : Gx) (τ : Sg) (o : Nat) (x : Int32) : ∀ ad', ∃ fs, q_cel G ad' τ 41 o = .inr (9, fs) ∧ 4 < fs.length ∧ q_cel G ad' (sup τ 41 o 6 x) 41 o = .inr (9, fs.set 4 (.int x)) := fun ad' => ⟨_, rfl, Nat.le_of_ble_eq_true rfl, by simp [q_cel, sup]⟩
theorem qi_41_5 (G : Gx) (τ : Sg) (o : Nat) : ∀ ad', ∃ fs, q_cel G ad' τ 41 o = .inr (9, fs) ∧ fs[5]? = some (.int (τ 41 o 7)) := fun _ => ⟨_, rfl, rfl⟩
theorem qp_41_5 (G : Gx) (τ : Sg) (o : Nat) (x : Int32) : ∀ ad', ∃ fs, q_cel G ad' τ 41 o = .inr (9, fs) ∧ 5 < fs.length ∧ q_cel G ad' (sup τ 41 o 7 x) 41 o = .inr (9, fs.set 5 (.int x)) := fun ad' => ⟨_, rfl, Nat.le_of_ble_eq_true rfl, by simp [q_cel, sup]⟩
theorem qi_41_6 (G : Gx) (τ : Sg) (o : Nat) : ∀ ad', ∃ fs, q_cel G ad' τ 41 o = .inr (9, fs) ∧ fs[6]? = some (.int (τ 41 o 3)) := fun _ => ⟨_, rfl, rfl⟩
theorem qp_41_6 (G : Gx) (τ : Sg) (o : Nat) (x : Int32) : ∀ ad', ∃ fs, q_cel G ad' τ 41 o = .inr (9, fs) ∧ 6 < fs.length ∧ q_cel G ad' (sup τ 41 o 3 x) 41 o = .inr (9, fs.set 6 (.int x)) := fun ad' => ⟨_, rfl, Nat.le_of_ble_eq_true rfl, by simp [q_cel, sup]⟩
theorem qi_41_7 (G : Gx) (τ : Sg) (o : Nat) : ∀ ad', ∃ fs, q_cel G ad' τ 41 o = .inr (9, fs) ∧ fs[7]? = some (.int (τ 41 o 4)) := fun _ => ⟨_, rfl, rfl⟩
theorem qp_41_7 (G : Gx) (τ : Sg) (o : Nat) (x : Int32) : ∀ ad', ∃ fs, q_cel G ad' τ 41 o = .inr (9, fs) ∧ 7 < fs.length ∧ q_cel G ad' (sup τ 41 o 4 x) 41 o = .inr (9, fs.set 7 (.int x)) := fun ad' => ⟨_, rfl, Nat.le_of_ble_eq_true rfl, by simp [q_cel, sup]⟩
theorem qi_42_0 (G : Gx) (τ : Sg) (o : Nat) : ∀ ad', ∃ fs, q_cel G ad' τ 42 o = .inr (8, fs) ∧ fs[0]? = some (.int (τ 42 o 0)) := fun _ => ⟨_, rfl, rfl⟩
theorem qp_42_0 (G : Gx) (τ : Sg) (o : Nat) (x : Int32) : ∀ ad', ∃ fs, q_cel G ad' τ 42 o = .inr (8, fs) ∧ 0 < fs.length ∧ q_cel G ad' (sup τ 42 o 0 x) 42 o = .inr (8, fs.set 0 (.int x)) := fun ad' => ⟨_, rfl, Nat.le_of_ble_eq_true rfl, by simp [q_cel, sup]⟩
theorem qi_42_1 (G : Gx) (τ : Sg) (o : Nat) : ∀ ad', ∃ fs, q_cel G ad' τ 42 o = .inr (8, fs) ∧ fs[1]? = some (.int (τ 42 o 1)) := fun _ => ⟨_, rfl, rfl⟩
theorem qp_42_1 (G : Gx) (τ : Sg) (o : Nat) (x : Int32) : ∀ ad', ∃ fs, q_cel G ad' τ 42 o = .inr (8, fs) ∧ 1 < fs.length ∧ q_cel G ad' (sup τ 42 o 1 x) 42 o = .inr (8, fs.set 1 (.int x)) := fun ad' => ⟨_, rfl, Nat.le_of_ble_eq_true rfl, by simp [q_cel, sup]⟩
theorem qi_42_2 (G : Gx) (τ : Sg) (o : Nat) : ∀ ad', ∃ fs, q_cel G ad' τ 42 o = .inr (8, fs) ∧ fs[2]? = some (.int (τ 42 o 2)) := fun _ => ⟨_, rfl, rfl⟩
theorem qp_42_2 (G : Gx) (τ : Sg) (o : Nat) (x : Int32) : ∀ ad', ∃ fs, q_cel G ad' τ 42 o = .inr (8, fs) ∧ 2 < fs.length ∧ q_cel G ad' (sup τ 42 o 2 x) 42 o = .inr (8, fs.set 2 (.int x)) := fun ad' => ⟨_, rfl, Nat.le_of_ble_eq_true rfl, by simp [q_cel, sup]⟩
theorem qi_42_3 (G : Gx) (τ : Sg) (o : Nat) : ∀ ad', ∃ fs, q_cel G ad' τ 42 o = .inr (8, fs) ∧ fs[3]? = some (.int (τ 42 o 3)) := fun _ => ⟨_, rfl, rfl⟩
theorem qp_42_3 (G : Gx) (τ : Sg) (o : Nat) (x : Int32) : ∀ ad', ∃ fs, q_cel G ad' τ 42 o = .inr (8, fs) ∧ 3 < fs.length ∧ q_cel G ad' (sup τ 42 o 3 x) 42 o = .inr (8, fs.set 3 (.int x)) := fun ad' => ⟨_, rfl, Nat.le_of_ble_eq_true rfl, by simp [q_cel, sup]⟩
theorem qi_42_4 (G : Gx) (τ : Sg) (o : Nat) : ∀ ad', ∃ fs, q_cel G ad' τ 42 o = .inr (8, fs) ∧ fs[4]? = some (.int (τ 42 o 4)) := fun _ => ⟨_, rfl, rfl⟩
theorem qp_42_4 (G : Gx) (τ : Sg) (o : Nat) (x : Int32) : ∀ ad', ∃ fs, q_cel G ad' τ 42 o = .inr (8, fs) ∧ 4 < fs.length ∧ q_cel G ad' (sup τ 42 o 4 x) 42 o = .inr (8, fs.set 4 (.int x)) := fun ad' => ⟨_, rfl, Nat.le_of_ble_eq_true rfl, by simp [q_cel, sup]⟩
theorem qi_42_5 (G : Gx) (τ : Sg) (o : Nat) : ∀ ad', ∃ fs, q_cel G ad' τ 42 o = .inr (8, fs) ∧ fs[5]? = some (.int (τ 42 o 5)) := fun _ => ⟨_, rfl, rfl⟩
theorem qp_42_5 (G : Gx) (τ : Sg) (o : Nat) (x : Int32) : ∀ ad', ∃ fs, q_cel G ad' τ 42 o = .inr (8, fs) ∧ 5 < fs.length ∧ q_cel G ad' (sup τ 42 o 5 x) 42 o = .inr (8, fs.set 5 (.int x)) := fun ad' => ⟨_, rfl, Nat.le_of_ble_eq_true rfl, by simp [q_cel, sup]⟩
theorem qi_42_6 (G : Gx) (τ : Sg) (o : Nat) : ∀ ad', ∃ fs, q_cel G ad' τ 42 o = .inr (8, fs) ∧ fs[6]? = some (.int (τ 42 o 6)) := fun _ => ⟨_, rfl, rfl⟩
theorem qp_42_6 (G : Gx) (τ : Sg) (o : Nat) (x : Int32) : ∀ ad', ∃ fs, q_cel G ad' τ 42 o = .inr (8, fs) ∧ 6 < fs.length ∧ q_cel G ad' (sup τ 42 o 6 x) 42 o = .inr (8, fs.set 6 (.int x)) := fun ad' => ⟨_, rfl, Nat.le_of_ble_eq_true rfl, by simp [q_cel, sup]⟩
theorem qi_42_7 (G : Gx) (τ : Sg) (o : Nat) : ∀ ad', ∃ fs, q_cel G ad' τ 42 o = .inr (8, fs) ∧ fs[7]? = some (.int (τ 42 o 7)) := fun _ => ⟨_, rfl, rfl⟩
theorem qp_42_7 (G : Gx) (τ : Sg) (o : Nat) (x : Int32) : ∀ ad', ∃ fs, q_cel G ad' τ 42 o = .inr (8, fs) ∧ 7 < fs.length ∧ q_cel G ad' (sup τ 42 o 7 x) 42 o = .inr (8, fs.set 7 (.int x)) := fun ad' => ⟨_, rfl, Nat.le_of_ble_eq_true rfl, by simp [q_cel, sup]⟩
theorem qi_42_8 (G : Gx) (τ : Sg) (o : Nat) : ∀ ad', ∃ fs, q_cel G ad' τ 42 o = .inr (8, fs) ∧ fs[8]? = some (.int (τ 42 o 8)) := fun _ => ⟨_, rfl, rfl⟩
theorem qp_42_8 (G : Gx) (τ : Sg) (o : Nat) (x : Int32) : ∀ ad', ∃ fs, q_cel G ad' τ 42 o = .inr (8, fs) ∧ 8 < fs.length ∧ q_cel G ad' (sup τ 42 o 8 x) 42 o = .inr (8, fs.set 8 (.int x)) := fun ad' => ⟨_, rfl, Nat.le_of_ble_eq_true rfl, by simp [q_cel, sup]⟩
theorem qi_42_9 (G : Gx) (τ : Sg) (o : Nat) : ∀ ad', ∃ fs, q_cel G ad' τ 42 o = .inr (8, fs) ∧ fs[9]? = some (.int (τ 42 o 9)) := fun _ => ⟨_, rfl, rfl⟩
theorem qp_42_9 (G : Gx) (τ : Sg) (o : Nat) (x : Int32) : ∀ ad', ∃ fs, q_cel G ad' τ 42 o = .inr (8, fs) ∧ 9 < fs.length ∧ q_cel G ad' (sup τ 42 o 9 x) 42 o = .inr (8, fs.set 9 (.int x)) := fun ad' => ⟨_, rfl, Nat.le_of_ble_eq_true rfl, by simp [q_cel, sup]⟩
theorem qi_42_10 (G : Gx) (τ : Sg) (o : Nat) : ∀ ad', ∃ fs, q_cel G ad' τ 42 o = .inr (8, fs) ∧ fs[10]? = some (.int (τ 42 o 10)) := fun _ => ⟨_, rfl, rfl⟩
theorem qp_42_10 (G : Gx) (τ : Sg) (o : Nat) (x : Int32) : ∀ ad', ∃ fs, q_cel G ad' τ 42 o = .inr (8, fs) ∧ 10 < fs.length ∧ q_cel G ad' (sup τ 42 o 10 x) 42 o = .inr (8, fs.set 10 (.int x)) := fun ad' => ⟨_, rfl, Nat.le_of_ble_eq_true rfl, by simp [q_cel, sup]⟩
theorem qr_42_11 (G : Gx) (τ : Sg) (o : Nat) : ∀ ad', ∃ fs, q_cel G ad' τ 42 o = .inr (8, fs) ∧ fs[11]? = some (.ref (ad' 45 o)) := fun _ => ⟨_, rfl, rfl⟩
theorem qi_43_0 (G : Gx) (τ : Sg) (o : Nat) : ∀ ad', ∃ fs, q_cel G ad' τ 43 o = .inr (10, fs) ∧ fs[0]? = some (.int (τ 43 o 0)) := fun _ => ⟨_, rfl, rfl⟩
theorem qp_43_0 (G : Gx) (τ : Sg) (o : Nat) (x : Int32) : ∀ ad', ∃ fs, q_cel G ad' τ 43 o = .inr (10, fs) ∧ 0 < fs.length ∧ q_cel G ad' (sup τ 43 o 0 x) 43 o = .inr (10, fs.set 0 (.int x)) := fun ad' => ⟨_, rfl, Nat.le_of_ble_eq_true rfl, by simp [q_cel, sup]⟩
theorem qi_43_1 (G : Gx) (τ : Sg) (o : Nat) : ∀ ad', ∃ fs, q_cel G ad' τ 43 o = .inr (10, fs) ∧ fs[1]? = some (.int (τ 43 o 1)) := fun _ => ⟨_, rfl, rfl⟩
theorem qp_43_1 (G : Gx) (τ : Sg) (o : Nat) (x : Int32) : ∀ ad', ∃ fs, q_cel G ad' τ 43 o = .inr (10, fs) ∧ 1 < fs.length ∧ q_cel G ad' (sup τ 43 o 1 x) 43 o = .inr (10, fs.set 1 (.int x)) := fun ad' => ⟨_, rfl, Nat.le_of_ble_eq_true rfl, by simp [q_cel, sup]⟩
theorem qi_43_2 (G : Gx) (τ : Sg) (o : Nat) : ∀ ad', ∃ fs, q_cel G ad' τ 43 o = .inr (10, fs) ∧ fs[2]? = some (.int (τ 43 o 2)) := fun _ => ⟨_, rfl, rfl⟩
theorem qp_43_2 (G : Gx) (τ : Sg) (o : Nat) (x : Int32) : ∀ ad', ∃ fs, q_cel G ad' τ 43 o = .inr (10, fs) ∧ 2 < fs.length ∧ q_cel G ad' (sup τ 43 o 2 x) 43 o = .inr (10, fs.set 2 (.int x)) := fun ad' => ⟨_, rfl, Nat.le_of_ble_eq_true rfl, by simp [q_cel, sup]⟩
theorem qi_43_3 (G : Gx) (τ : Sg) (o : Nat) : ∀ ad', ∃ fs, q_cel G ad' τ 43 o = .inr (10, fs) ∧ fs[3]? = some (.int (τ 43 o 3)) := fun _ => ⟨_, rfl, rfl⟩
theorem qp_43_3 (G : Gx) (τ : Sg) (o : Nat) (x : Int32) : ∀ ad', ∃ fs, q_cel G ad' τ 43 o = .inr (10, fs) ∧ 3 < fs.length ∧ q_cel G ad' (sup τ 43 o 3 x) 43 o = .inr (10, fs.set 3 (.int x)) := fun ad' => ⟨_, rfl, Nat.le_of_ble_eq_true rfl, by simp [q_cel, sup]⟩
theorem qr_43_4 (G : Gx) (τ : Sg) (o : Nat) : ∀ ad', ∃ fs, q_cel G ad' τ 43 o = .inr (10, fs) ∧ fs[4]? = some (.ref (ad' 44 o)) := fun _ => ⟨_, rfl, rfl⟩
