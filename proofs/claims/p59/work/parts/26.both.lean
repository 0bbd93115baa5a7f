/-! the class, called from the law: its world stands apart from the law's -/
def z_X (adX : Ad) : Nat → Prop := fun q => ∃ k o, o < z_cnt k ∧ q = adX k o
def x_c (G : Gx) (adX : Ad) (σ : Sg) : Ex := (z_X adX, fun H => ∀ k o, o < z_cnt k → va_at G.1 z_cl (adX k o, z_cel G adX k o (σ k o)) H)
def F_X (G : Gx) (adX : Ad) : Prop := (∀ k o k' o', o < z_cnt k → o' < z_cnt k' → adX k o = adX k' o' → k = k' ∧ o = o') ∧ ∀ k o, o < z_cnt k → G.2.2.1.size ≤ adX k o
theorem x_cl (G : Gx) (adX : Ad) (σ : Sg) : ∀ H1 H2 : Heap, (∀ q, (x_c G adX σ).1 q → H2[q]? = H1[q]?) → (x_c G adX σ).2 H1 → (x_c G adX σ).2 H2 := fun _ _ h1 h2 k o ho => (h2 k o ho).kept (h1 _ ⟨k, o, ho, rfl⟩)
/-- where a method with both worlds ends -/
def r_V (G : Gx) (a0 : Nat) (adX : Ad) (σ τ : Sg) (A : Nat → Prop) (H : Heap) : Prop := ∃ (N : Nn) (ad : Ad), N.2.2 = (0, 0) ∧ ad 40 0 = a0 ∧ q_W G ad N τ H ∧ (∀ k o, lp N τ k o → A (ad k o)) ∧ q_X ad N (x_c G adX σ) τ H
def b_A (ad : Ad) (N : Nn) (τ : Sg) (adX : Ad) (sz : Nat) : Nat → Prop := fun q => q_A ad N τ sz q ∨ z_X adX q
def b_P (G : Gx) (ad : Ad) (N : Nn) (adX : Ad) (σ τ : Sg) (H : Heap) : Prop := q_W G ad N τ H ∧ q_X ad N (x_c G adX σ) τ H
def b_M (l : Launch) (y : MethodName) (bytes : ByteArray) (maxL : Nat) (ret : Option FieldType) (fr lo n : Nat) (G : Gx) (ad : Ad) (N : Nn) (adX : Ad) (σ τ : Sg) (sz : Nat) (av : List Value) (v : Option Value) (σ' τ' : Sg) : Prop :=
  k_M l y bytes maxL ret fr lo n (6 * n) G (b_P G ad N adX σ τ) sz av v (r_V G (ad 40 0) adX σ' τ' (b_A ad N τ adX sz)) (b_A ad N τ adX sz)
theorem b_begin {l : Launch} {y : MethodName} {bytes : ByteArray} {maxL : Nat} {ret : Option FieldType} {fr lo n : Nat} {G : Gx} {ad : Ad} {N : Nn} {adX : Ad} {σ τ σ' τ' : Sg} {sz : Nat} {av : List Value} {v : Option Value} (hy : plainName y.cls = true) (hl : (lg_sl av).length ≤ maxL) (lv : List (Nat × Value)) (hlv : lv_args 0 av = lv)
    (body : ∀ (p : Program) (e : Env) (s : State) (m : MethodId) (args : Array Value) (below : List Frame) (meth : Method) (c : Code) (ls : Array Slot) (A : Nat → Prop), (∀ q, z_X adX q → A q) → Cx p s m args meth c y.cls bytes maxL ret G → sz = s.heap.size → q_S G ad N (x_c G adX σ) τ [] A s.heap s.heap [] → lv_has ls maxL lv →
      W p l e { frames := fr, cells := n, slots := 6 * n, locals := lo } s m args below meth c s.heap [] 0 (6 * 0) (MQ below (k_Q v (r_V G (ad 40 0) adX σ' τ' A) A) args s n (6 * n) A) (F0 m 0 ls [])) :
    b_M l y bytes maxL ret fr lo n G ad N adX σ τ sz av v σ' τ' := by
  refine k_begin hy hl lv hlv (fun p e s m args below meth c ls C hnm hsz hP hO hl => ?_)
  subst hsz
  exact body p e s m args below meth c ls _ (fun q h => Or.inr h) C rfl ⟨⟨ad, fun _ _ _ => rfl, hP.1, fun k o h => Or.inl (Or.inl ⟨k, o, h, rfl⟩), fun x hx => absurd hx List.not_mem_nil, hP.2⟩, va_S.rf, fun q h => Or.inl (Or.inr h)⟩ hl
def acx (n : Nat) (x : Option (Int32 × Sg × Sg × Nat)) : Option (Int32 × Sg × Sg × Nat) := x.bind fun q => some (q.1, q.2.1, q.2.2.1, n + q.2.2.2)
theorem bx_end {a a' : Int32} {b b' c c' : Sg} {x x' : Nat} (h : (some (a, b, c, x) : Option (Int32 × Sg × Sg × Nat)) = some (a', b', c', x')) : a = a' ∧ b = b' ∧ c = c' ∧ x = x' := by
  cases h
  exact ⟨rfl, rfl, rfl, rfl⟩
theorem acxb {n d : Nat} {x : Option (Int32 × Sg × Sg × Nat)} {r : Int32} {σ τ : Sg} (h : acx n x = some (r, σ, τ, d)) : ∃ d', x = some (r, σ, τ, d') ∧ d = n + d' := by
  obtain ⟨⟨r1, σ1, τ1, d1⟩, h1, h2⟩ := bd h
  obtain ⟨e1, e2, e3, e4⟩ := bx_end h2
  subst e1 e2 e3
  exact ⟨d1, h1, e4.symm⟩
def bqx (x : Option (Int32 × Sg × Nat)) (f : Int32 → Sg → Option (Int32 × Sg × Sg × Nat)) : Option (Int32 × Sg × Sg × Nat) := x.bind fun q => acx q.2.2 (f q.1 q.2.1)
theorem bqxb {d : Nat} {x : Option (Int32 × Sg × Nat)} {f : Int32 → Sg → Option (Int32 × Sg × Sg × Nat)} {r : Int32} {σ τ : Sg} (h : bqx x f = some (r, σ, τ, d)) : ∃ r1 τ1 c1 d1, x = some (r1, τ1, c1) ∧ f r1 τ1 = some (r, σ, τ, d1) ∧ d = c1 + d1 := by
  obtain ⟨⟨r1, τ1, c1⟩, h1, h2⟩ := bd h
  obtain ⟨d1, h3, h4⟩ := acxb h2
  exact ⟨r1, τ1, c1, d1, h1, h3, h4⟩
theorem tsw0_5 {x : Int32} (h0 : ¬ x = 0) (h1 : ¬ x = 1) (h2 : ¬ x = 2) (h3 : ¬ x = 3) (h4 : ¬ x = 4) (h5 : ¬ x = 5) : x.toInt < 0 ∨ 5 < x.toInt := by
  have a0 := ti_ne (n := 0) (k := 0) rfl h0
  have a1 := ti_ne (n := 1) (k := 1) rfl h1
  have a2 := ti_ne (n := 2) (k := 2) rfl h2
  have a3 := ti_ne (n := 3) (k := 3) rfl h3
  have a4 := ti_ne (n := 4) (k := 4) rfl h4
  have a5 := ti_ne (n := 5) (k := 5) rfl h5
  omega
section QX
variable {p : Program} {l : Launch} {e : Env} {R : Room} {s : State} {m : MethodId} {args : Array Value} {below : List Frame} {meth : Method} {c : Code} {H : Heap} {locs : List Loc} {cells slots : Nat} {Q : State → Prop}
variable {cc : ByteArray} {pc : Nat} {ls : Array Slot} {rest : List Value} {own : String} {nL : Nat} {ret : Option FieldType} {G : Gx} {ad : Ad} {N : Nn} {adX : Ad} {σ σ' τ : Sg} {its : List It} {A : Nat → Prop} {H0 : Heap}
theorem b_zW (F : F_X G adX) (S : q_S G ad N (x_c G adX σ) τ its A H0 H locs) : z_W 0 G adX σ H := by
  have hO := S.O
  obtain ⟨⟨ad', he, V, a, I, E⟩, S1, hA⟩ := S
  exact ⟨fun k o _ ho => E.1 k o ho, fun k o k' o' _ h1 _ h2 h3 => F.1 k o k' o' h1 h2 h3, fun k o _ ho => F.2 k o ho, hO.1, hO.2⟩
theorem b_ret {v : Option Value} {n d : Nat} {a0 : Nat} {Qr : State → Prop} (S : q_S G ad N (x_c G adX σ) τ its A s.heap H locs) (hN : N.2.2 = (0, 0)) (ha0 : ad 40 0 = a0) : r_V G a0 adX σ τ A H := by
  obtain ⟨⟨ad', he, V, a, I, E⟩, S1, hA⟩ := S
  exact ⟨N, ad', hN, (he 40 0 rfl).trans ha0, V, a, E⟩
theorem b_zret {v : Int32} {n d a0 : Nat} {res : Int32 × Sg × Sg} {ty : FieldType} (C : Cx p s m args meth c own cc nL (some ty) G) (S : q_S G ad N (x_c G adX σ) τ its A s.heap H locs) (hN : N.2.2 = (0, 0)) (ha0 : ad 40 0 = a0) (hn : narrow ty (.int v) = .int v) (hf : (some (v, σ, τ, 0) : Option (Int32 × Sg × Sg × Nat)) = some (res.1, res.2.1, res.2.2, d)) (hd : cells + d = n) (hdg : decode cc pc = .ok (.ireturn, 1)) :
    W p l e R s m args below meth c H locs cells (6 * cells) (MQ below (k_Q (some (.int res.1)) (r_V G a0 adX res.2.1 res.2.2 A) A) args s n (6 * n) A) (F0 m pc ls [.int v]) := by
  obtain ⟨e1, e2, e3, e4⟩ := bx_end hf
  rw [← e1, ← e2, ← e3]
  exact k_zret C S.2.1 hn (b_ret (v := none) (n := 0) (d := 0) (Qr := fun _ => True) S hN ha0) (by omega) (by omega) hdg
theorem b_after {H1 : Heap} {locs1 : List Loc} (F : F_X G adX) (hXA : ∀ q, z_X adX q → A q) (S : q_S G ad N (x_c G adX σ) τ its A H0 H locs) (hz : z_W 0 G adX σ' H1) (hle : H.size ≤ H1.size) (hk : ∀ q : Nat, q < H.size → ¬ z_A 0 adX H.size q → H1[q]? = H[q]?) (S2 : va_S A H0 H1 locs1) : q_S G ad N (x_c G adX σ') τ its A H0 H1 locs1 := by
  have hO := S.O
  obtain ⟨⟨ad', he, V, a, I, E⟩, S1, hA⟩ := S
  have hk2 : ∀ q, q < H.size → ¬ z_X adX q → H1[q]? = H[q]? := fun q h1 h2 => hk q h1 (by
    rintro (⟨k, o, -, ho, h⟩ | h)
    · exact h2 ⟨k, o, ho, h⟩
    · omega)
  have hw : ∀ k o, lp N τ k o → H1[ad' k o]? = H[ad' k o]? := fun k o h => hk2 _ (V.1 k o h).lt (fun hq => (E.2.1 _ hq).2 k o h rfl)
  refine ⟨⟨ad', he, ⟨fun k o h => (V.1 k o h).kept (hw k o h), V.2.1, V.2.2.1, ⟨hz.2.2.2.1, hz.2.2.2.2⟩, V.2.2.2.2⟩, a, fun x hx => ?_, ⟨fun k o ho => hz.1 k o rfl ho, fun q hq => ⟨Nat.lt_of_lt_of_le (E.2.1 q hq).1 hle, (E.2.1 q hq).2⟩, x_cl G adX σ'⟩⟩, S2, hA⟩
  obtain ⟨⟨lr, i1⟩, i2, i4, i3⟩ := I x hx
  exact ⟨⟨lr, i1.kept (hk2 _ i1.lt i4.2)⟩, i2, i4, i3⟩
theorem b_hA (hXA : ∀ q, z_X adX q → A q) (S1 : va_S A H0 H locs) (hA : ∀ q, H0.size ≤ q → A q) : ∀ q, z_A 0 adX H.size q → A q := by
  rintro q (⟨k, o, -, ho, rfl⟩ | h)
  · exact hXA _ ⟨k, o, ho, rfl⟩
  · exact hA q (Nat.le_trans S1.1 h)
theorem q_callXI {y : MethodName} {bytes : ByteArray} {maxL n fr lo index : Nat} {ret2 : Option FieldType} {r : Int32} {st : List Value} (C : Cx p s m args meth c own cc nL ret G) (F : F_X G adX) (hXA : ∀ q, z_X adX q → A q) (S : q_S G ad N (x_c G adX σ) τ its A H0 H locs) (hy : y.cls = RX7) (As : List Value)
    (hM : z_MI l y bytes maxL ret2 fr lo 0 G adX σ H.size (.ref (adX 7 0) :: As) r σ') (kv : KV y bytes maxL ret2 n) (hl : Cond.methodLink own index y ∈ TT) (hR : fr + 1 ≤ R.frames ∧ 8 + (maxL + 11) + lo ≤ R.locals) (hn : As.length = n) (hst : st = As.reverse ++ .ref (adX 7 0) :: rest) (hW8 : (rest.map fun v => v.category).sum ≤ 8) (hls : ls.size = nL) (hcs : cells ≤ R.cells ∧ slots ≤ R.slots)
    (hdg : decode cc pc = .ok (.invokevirtual index, 3))
    (kk : ∀ (H1 : Heap) (locs1 : List Loc), q_S G ad N (x_c G adX σ') τ its A H0 H1 locs1 → W p l e R s m args below meth c H1 locs1 cells slots Q (F0 m (pc + 3) ls (.int r :: rest))) : W p l e R s m args below meth c H locs cells slots Q (F0 m pc ls st) := by
  have C2 := C
  have hz := b_zW F S
  obtain ⟨x1, x2, x3, x4, x5, x6, x7, x8⟩ := C
  have hrec : u_cls y.cls (adX 7 0) s H := by
    rw [hy]
    exact u_clsO x6 (hz.1 7 0 rfl (by decide)) (ci := 7) rfl
  exact va_calli (va_runV (As := As) (rest := rest) ⟨x1, x2, x3, x4, x5⟩ hM (z_cwV C2 kv hl hR) ⟨z_blind _ 0 G adX σ H.size, hrec, fun U hU hW => ⟨rfl, by rw [hU], by rw [hU]; exact hz, x6.warm hW⟩⟩ rfl hn hls hst (lv_room hW8) hdg hcs) S.2.1 (fun q _ h => b_hA hXA S.2.1 S.2.2 q h) (b_hA hXA S.2.1 S.2.2)
    (fun r1 u t H1 locs1 ht hvm hr hB hz1 hk1 hS1 => by subst hr; exact kk H1 locs1 (b_after F hXA S (by rw [← ht]; exact hB) hz1 hk1 hS1))
/-- calls.add(new Call(from, to, time)) -/
theorem q_mkCall (C : Cx p s m args meth c own cc nL ret G) {X : Ex} (S : q_S G ad N X τ [] A H0 H locs) (hN : N.2.2 = (0, 0)) (h9 : q_cc τ 1 ≤ 60000) (hls : ls.size = nL) {lv : List (Nat × Value)} (hl : lv_has ls nL lv) {i1 i2 i3 i4 f0 f1 : Nat} {k4 k5 : Nat} {v4 v5 : Int32} (hR : 6 + 1 ≤ R.frames ∧ 8 + (4 + 11) + 50 ≤ R.locals ∧ 8 + (2 + 11) + 136 ≤ R.locals) (hcs : cells + (10 + t_cst τ 1) ≤ R.cells ∧ 6 * cells + 6 * (10 + t_cst τ 1) ≤ R.slots)
    (hl0 : ls[0]? = some (.val (.ref (ad 40 0)))) (hl4 : ls[k4]? = some (.val (.int v4))) (hl5 : ls[k5]? = some (.val (.int v5)))
    (d0 : decode cc pc = .ok (.aload_n 0, 1)) (d1 : decode cc (pc + 1) = .ok (.getfield f0, 3)) (d4 : decode cc (pc + 4) = .ok (.new i1, 3)) (d7 : decode cc (pc + 7) = .ok (.dup, 1)) (d8 : decode cc (pc + 8) = .ok (.iload k4, 2)) (d10 : decode cc (pc + 10) = .ok (.iload k5, 2)) (d12 : decode cc (pc + 12) = .ok (.aload_n 0, 1)) (d13 : decode cc (pc + 13) = .ok (.getfield f1, 3)) (d16 : decode cc (pc + 16) = .ok (.invokespecial i2, 3)) (d19 : decode cc (pc + 19) = .ok (.invokeinterface i3 i4, 5)) (d24 : decode cc (pc + 24) = .ok (.pop, 1))
    (w0 : Cond.fieldLink own f0 (TL 1).1 (TL 1).2.1 (TL 1).2.2.1 ∈ TT) (w1 : Cond.fieldLink own f1 (TL 7).1 (TL 7).2.1 (TL 7).2.2.1 ∈ TT) (w4 : Cond.classLink own i1 RX8 ∈ TT) (w16 : Cond.methodLinkNest own i2 yX8_init RL ∈ z_nest ∨ Cond.methodLink own i2 yX8_init ∈ TT) (w19 : Cond.methodLink own i3 ⟨"java/util/List", "add", "(Ljava/lang/Object;)Z"⟩ ∈ TT)
    (kk : ∀ (ad2 : Ad) (N2 : Nn) (H1 : Heap) (locs1 : List Loc), (∀ k o, k ≠ 42 → k ≠ 43 → k ≠ 44 → k ≠ 45 → ad2 k o = ad k o) → N2.2.2 = (0, 0) → q_S G ad2 N2 X (t_add (t_new τ v4 v5 (τ 40 0 7)) 1) [] A H0 H1 locs1 → W p l e R s m args below meth c H1 locs1 (cells + (10 + t_cst τ 1)) (6 * (cells + (10 + t_cst τ 1))) Q (F0 m (pc + 25) ls rest)) (hrest : rest = []) : W p l e R s m args below meth c H locs cells (6 * cells) Q (F0 m pc ls rest) := by
  subst hrest
  have hO := S.O
  have hO1 := hO.1
  have S0 := S
  refine lv_aload_n C.1 C.2.1 d0 rfl hl0 ?_
  refine q_getR C S 40 0 50 1 rfl rfl rfl cf_11 1 (by decide) (qr_40_1 G _ 0) w0 d1 ?_
  obtain ⟨⟨ad', he, V, a, I, E⟩, S1, hA⟩ := S
  obtain ⟨nc, nk, no, fo⟩ := N
  cases hN
  -- only what the lists hold
  have w5 := (V.2.2.2.2 1 (Or.inl (by decide))).2.2.2.2
  have V' : q_W G ad' (nc, q_nn τ 1, 0, 0) τ H := by
    have sub : ∀ k o, lp (nc, q_nn τ 1, 0, 0) τ k o → lp (nc, nk, 0, 0) τ k o := by
      intro k o h
      have h1 : q_nn τ 1 ≤ nk := w5
      unfold lp at h ⊢
      split at h <;> try exact h
      · exact Nat.lt_of_lt_of_le h h1
      · show o < 4 * nk; have : o < 4 * q_nn τ 1 := h; omega
      · show o < 4 * nk; have : o < 4 * q_nn τ 1 := h; omega
      · exact Nat.lt_of_lt_of_le h h1
    refine ⟨fun k o h => V.1 k o (sub k o h), fun k o k' o' h h' => V.2.1 k o k' o' (sub k o h) (sub k' o' h'), fun k o h => V.2.2.1 k o (sub k o h), V.2.2.2.1, fun o ho => ?_⟩
    have ho3 : o < 3 := by
      rcases ho with h | h
      · exact h
      · exact absurd (show (0 : Nat) = 1 from h.2) (by decide)
    have := V.2.2.2.2 o (Or.inl ho3)
    refine ⟨this.1, this.2.1, this.2.2.1, this.2.2.2.1, ?_⟩
    have h5 := this.2.2.2.2
    rcases (show o = 0 ∨ o = 1 ∨ o = 2 by omega) with rfl | rfl | rfl
    · rw [q_mk0] at h5 ⊢; exact h5
    · rw [q_mk1]; exact Nat.le_refl _
    · rw [q_mk2]; exact Nat.le_refl _
  have sub : ∀ k o, lp (nc, q_nn τ 1, 0, 0) τ k o → lp (nc, nk, 0, 0) τ k o := by
    intro k o h
    have h1 : q_nn τ 1 ≤ nk := w5
    unfold lp at h ⊢
    split at h <;> try exact h
    · exact Nat.lt_of_lt_of_le h h1
    · show o < 4 * nk; have : o < 4 * q_nn τ 1 := h; omega
    · show o < 4 * nk; have : o < 4 * q_nn τ 1 := h; omega
    · exact Nat.lt_of_lt_of_le h h1
  refine u_newO C S1 cf_8 w4 tw_4_20 tw_1_9 (fs := [.int 0, .int 0, .int 0, .int 0, .int 0, .int 0, .int 0, .int 0, .int 0, .int 0, .int 0, .null]) (fun j hj => by rcases (show j = 0 ∨ j = 1 ∨ j = 2 ∨ j = 3 ∨ j = 4 ∨ j = 5 ∨ j = 6 ∨ j = 7 ∨ j = 8 ∨ j = 9 ∨ j = 10 ∨ j = 11 by omega) with rfl | rfl | rfl | rfl | rfl | rfl | rfl | rfl | rfl | rfl | rfl | rfl <;> rfl) (by omega) (by omega) d4 (fun H1 z1 o1 x1 S1 => ?_)
  have hO1' := hO.grow z1 o1
  refine lv_dup C.1 C.2.1 d7 rfl ?_
  refine lv_iload C.1 C.2.1 d8 hl4 ?_
  refine lv_iload C.1 C.2.1 d10 hl5 ?_
  refine lv_aload_n C.1 C.2.1 d12 rfl hl0 ?_
  have h40 := (V.1 40 0 rfl).kept (o1 _ (V.1 40 0 rfl).lt)
  rw [he 40 0 rfl] at h40
  refine u_get C h40 cf_11 7 (by decide) (v := .int (τ 40 0 7)) rfl w1 d13 ?_
  have go : ∀ (H2 : Heap) (locs2 : List Loc), (H2.size = H.size + 1 + 9 ∧ va_at G.1 z_cl (H.size, e_c0 v4 v5 (τ 40 0 7) (H.size + 1)) H2 ∧ va_at G.1 z_cl (H.size + 1, .inl (G.2.1 4, 4, .inr (.inr (.inr (.inr (va_up (va_up (va_up (va_up (fun _ => none) 0 (some (H.size + 1 + 1))) 1 (some (H.size + 1 + 3))) 2 (some (H.size + 1 + 5))) 3 (some (H.size + 1 + 7)))))))) H2 ∧
      va_at G.1 z_cl (H.size + 1 + 1, e_kn (H.size + 1 + 2)) H2 ∧ va_at G.1 z_cl (H.size + 1 + 2, e_m4 G) H2 ∧ va_at G.1 z_cl (H.size + 1 + 3, e_kn (H.size + 1 + 4)) H2 ∧ va_at G.1 z_cl (H.size + 1 + 4, e_m4 G) H2 ∧ va_at G.1 z_cl (H.size + 1 + 5, e_kn (H.size + 1 + 6)) H2 ∧ va_at G.1 z_cl (H.size + 1 + 6, e_m4 G) H2 ∧ va_at G.1 z_cl (H.size + 1 + 7, e_kn (H.size + 1 + 8)) H2 ∧ va_at G.1 z_cl (H.size + 1 + 8, e_m4 G) H2) → H1.size ≤ H2.size → (∀ q : Nat, q < H1.size → ¬ (q = H.size ∨ H.size + 1 ≤ q) → H2[q]? = H1[q]?) → va_S A H0 H2 locs2 → W p l e R s m args below meth c H2 locs2 (cells + 1 + 9) (6 * cells + 12 + 40) Q (F0 m (pc + 16 + 3) ls (.ref H.size :: .ref (ad 50 1) :: [])) := by
    intro H2 locs2 hp hle ok S2
    obtain ⟨z2, c1, c2, k0, b0, k1, b1, k2, b2, k3, b3⟩ := hp
    have hk : ∀ q : Nat, q < H.size → H2[q]? = H[q]? := fun q hq => (ok q (by omega) (by omega)).trans (o1 q hq)
    have hO2 : z_O G H2 := ⟨by omega, fun q hq => (hk q (by omega)).trans (hO.2 q hq)⟩
    have V2 := q_newCall V' (Nat.le_refl H.size) (show c_cells G H.size v4 v5 (τ 40 0 7) H2 from ⟨c1, c2, fun j hj => by
      rcases (show j = 0 ∨ j = 1 ∨ j = 2 ∨ j = 3 by omega) with rfl | rfl | rfl | rfl
      · exact ⟨k0, b0⟩
      · exact ⟨k1, b1⟩
      · exact ⟨k2, b2⟩
      · exact ⟨k3, b3⟩⟩) hk hO2
    have hlpn : ∀ k o, lp (nc, q_nn τ 1 + 1, 0, 0) (t_new τ v4 v5 (τ 40 0 7)) k o → (lp (nc, nk, 0, 0) τ k o ∧ t_nad ad' (q_nn τ 1) H.size k o = ad' k o) ∨ H.size ≤ t_nad ad' (q_nn τ 1) H.size k o := by
      intro k o h
      by_cases c1 : k = 42 ∧ o = q_nn τ 1
      · exact Or.inr (by obtain ⟨rfl, rfl⟩ := c1; rw [show t_nad ad' (q_nn τ 1) H.size 42 (q_nn τ 1) = H.size from if_pos ⟨rfl, rfl⟩]; exact Nat.le_refl _)
      by_cases c2 : k = 45 ∧ o = q_nn τ 1
      · exact Or.inr (by unfold t_nad; rw [if_neg c1, if_pos c2]; omega)
      by_cases c3 : k = 43 ∧ 4 * q_nn τ 1 ≤ o
      · exact Or.inr (by unfold t_nad; rw [if_neg c1, if_neg c2, if_pos c3]; omega)
      by_cases c4 : k = 44 ∧ 4 * q_nn τ 1 ≤ o
      · exact Or.inr (by unfold t_nad; rw [if_neg c1, if_neg c2, if_neg c3, if_pos c4]; omega)
      refine Or.inl ⟨sub k o ?_, t_nad_o c1 c2 c3 c4⟩
      have hn : ∀ o, q_nn (t_new τ v4 v5 (τ 40 0 7)) o = q_nn τ o := fun o => by unfold q_nn; rw [t_new_o (by simp) (by simp) (by simp)]
      have hcc : ∀ o, q_cc (t_new τ v4 v5 (τ 40 0 7)) o = q_cc τ o := fun o => by unfold q_cc; rw [t_new_o (by simp) (by simp) (by simp)]
      unfold lp at h ⊢
      split at h <;> try exact h
      · show o < q_nn τ 1; have h' : o < q_nn τ 1 + 1 := h; have : ¬ o = q_nn τ 1 := fun q => c1 ⟨rfl, q⟩; omega
      · show o < 4 * q_nn τ 1; have : ¬ 4 * q_nn τ 1 ≤ o := fun q => c3 ⟨rfl, q⟩; omega
      · show o < 4 * q_nn τ 1; have : ¬ 4 * q_nn τ 1 ≤ o := fun q => c4 ⟨rfl, q⟩; omega
      · show o < q_nn τ 1; have h' : o < q_nn τ 1 + 1 := h; have : ¬ o = q_nn τ 1 := fun q => c2 ⟨rfl, q⟩; omega
    have kst : ∀ k o, k ≠ 42 → k ≠ 43 → k ≠ 44 → k ≠ 45 → t_nad ad' (q_nn τ 1) H.size k o = ad' k o := fun k o h1 h2 h3 h4 => t_nad_o (fun q => h1 q.1) (fun q => h4 q.1) (fun q => h2 q.1) (fun q => h3 q.1)
    have kst2 : ∀ k o, k ≠ 42 → k ≠ 43 → k ≠ 44 → k ≠ 45 → t_nad ad (q_nn τ 1) H.size k o = ad k o := fun k o h1 h2 h3 h4 => t_nad_o (fun q => h1 q.1) (fun q => h4 q.1) (fun q => h2 q.1) (fun q => h3 q.1)
    have S3 : q_S G (t_nad ad (q_nn τ 1) H.size) (nc, q_nn τ 1 + 1, 0, 0) X (t_new τ v4 v5 (τ 40 0 7)) [] A H0 H2 locs2 := by
      refine ⟨⟨_, fun k o h => ?_, V2, fun k o h => ?_, fun x hx => absurd hx List.not_mem_nil, E.step (by omega) (fun q hq => hk q (E.2.1 q hq).1) (fun q hq h1 h2 k o h => ?_)⟩, S2, hA⟩
      · unfold t_nad
        split
        · rfl
        split
        · rfl
        split
        · rfl
        split
        · rfl
        exact he k o h
      · rcases hlpn k o h with ⟨h1, h2⟩ | h1
        · rw [h2]; exact a k o h1
        · exact hA _ (Nat.le_trans S0.2.1.1 h1)
      · rcases hlpn k o h with ⟨h3, h4⟩ | h3
        · rw [h4]; exact h2 k o h3
        · omega
    have hn1 : q_nn (t_new τ v4 v5 (τ 40 0 7)) 1 = q_nn τ 1 := by unfold q_nn; rw [t_new_o (by simp) (by simp) (by simp)]
    have hc1 : q_cc (t_new τ v4 v5 (τ 40 0 7)) 1 = q_cc τ 1 := by unfold q_cc; rw [t_new_o (by simp) (by simp) (by simp)]
    have hcst : t_cst (t_new τ v4 v5 (τ 40 0 7)) 1 = t_cst τ 1 := by unfold t_cst t_cap; rw [hn1, hc1]
    have e1 : t_nad ad (q_nn τ 1) H.size (q_ek 1) (q_nn (t_new τ v4 v5 (τ 40 0 7)) 1) = H.size := by rw [hn1]; exact if_pos ⟨rfl, rfl⟩
    have e2 : t_nad ad (q_nn τ 1) H.size 50 1 = ad 50 1 := kst2 50 1 (by decide) (by decide) (by decide) (by decide)
    have row := q_lsAdd (l := l) (e := e) (below := below) (pc := pc + 16 + 3) (ls := ls) (rest := []) (cells := cells + 1 + 9) (slots := 6 * cells + 12 + 40) (Q := Q) (R := R) C S3 1 (Or.inr rfl) (by rw [q_mk1, hn1]; exact Nat.lt_succ_self _) (by rw [hc1]; exact h9) w19 ⟨by have := hR.1; omega, hR.2.2⟩ (by decide) hls (by rw [hcst]; omega) d19 (fun H4 locs4 S4 => by
      rw [hcst]
      refine lv_pop C.1 C.2.1 d24 rfl ?_
      refine W.widen (k := cells + (10 + t_cst τ 1)) (n := 6 * (cells + (10 + t_cst τ 1))) (by omega) (by omega) ?_
      exact kk _ _ H4 locs4 kst2 rfl S4)
    rw [e1, e2] at row
    exact row
  rcases w16 with w16 | w16
  · exact k_callIN C S1 hO1' [.int v4, .int v5, .int (τ 40 0 7)] (k_callinit l G H.size v4 v5 (τ 40 0 7) hO1 (H.size + 1)) z1 x1 kv_X8_init w16 ⟨by have := hR.1; omega, hR.2.1⟩ rfl rfl (Nat.le_of_ble_eq_true rfl) hls ⟨by omega, by omega⟩ d16 (fun q h => hA q (by have := S0.2.1.1; omega)) go
  · exact k_callI C S1 hO1' [.int v4, .int v5, .int (τ 40 0 7)] (k_callinit l G H.size v4 v5 (τ 40 0 7) hO1 (H.size + 1)) z1 x1 kv_X8_init w16 ⟨by have := hR.1; omega, hR.2.1⟩ rfl rfl (Nat.le_of_ble_eq_true rfl) hls ⟨by omega, by omega⟩ d16 (fun q h => hA q (by have := S0.2.1.1; omega)) go
end QX
