/-! contracts over single cells: the answer, what holds of the heap behind the call, which old cells may differ -/
def z_O (G : Gx) (H : Heap) : Prop := G.2.2.1.size ≤ H.size ∧ ∀ q : Nat, q < G.2.2.1.size → H[q]? = G.2.2.1[q]?
def k_Pre (G : Gx) (P : Heap → Prop) (sz : Nat) (U : State) : Prop := U.heap.size = sz ∧ P U.heap ∧ z_O G U.heap ∧ z_K G U
theorem k_blind (av : List Value) (G : Gx) (P : Heap → Prop) (sz : Nat) : FrameBlind (va_Pc av (k_Pre G P sz)) := fun a U g mk q => ⟨q.1, q.2.1, q.2.2.1, q.2.2.2.1, q.2.2.2.2.calling g mk a⟩
def k_Q (v : Option Value) (P : Heap → Prop) (F : Nat → Prop) : Array Value → State → Outcome → State → Prop := fun _ st o t => o = .returned v ∧ P t.heap ∧ st.heap.size ≤ t.heap.size ∧ ∀ q : Nat, q < st.heap.size → ¬ F q → t.heap[q]? = st.heap[q]?
def k_M (l : Launch) (y : MethodName) (bytes : ByteArray) (maxL : Nat) (ret : Option FieldType) (fr lo mc ms : Nat) (G : Gx) (P : Heap → Prop) (sz : Nat) (av : List Value) (v : Option Value) (P' : Heap → Prop) (F : Nat → Prop) : Prop :=
  Met l y (z_ws y bytes maxL ret) { frames := fr, cells := mc, slots := ms, locals := lo } (va_Pc av (k_Pre G P sz)) (k_Q v P' F) mc ms F
theorem k_begin {l : Launch} {y : MethodName} {bytes : ByteArray} {maxL : Nat} {ret : Option FieldType} {fr lo mc ms : Nat} {G : Gx} {P : Heap → Prop} {sz : Nat} {av : List Value} {v : Option Value} {P' : Heap → Prop} {F : Nat → Prop} (hy : plainName y.cls = true) (hl : (lg_sl av).length ≤ maxL) (lv : List (Nat × Value)) (hlv : lv_args 0 av = lv)
    (body : ∀ (p : Program) (e : Env) (s : State) (m : MethodId) (args : Array Value) (below : List Frame) (meth : Method) (c : Code) (ls : Array Slot), Cx p s m args meth c y.cls bytes maxL ret G → meth.name = y.name → s.heap.size = sz → P s.heap → z_O G s.heap → lv_has ls maxL lv →
      W p l e { frames := fr, cells := mc, slots := ms, locals := lo } s m args below meth c s.heap [] 0 0 (MQ below (k_Q v P' F) args s mc ms F) (F0 m 0 ls [])) :
    k_M l y bytes maxL ret fr lo mc ms G P sz av v P' F := by
  refine Met.ofW (cc := bytes) (maxL := maxL) (ret := ret) hy rfl ?_
  intro p e s m args below meth c s₁ B hml hv
  obtain ⟨rfl, hsz, hP, hO, hK⟩ := hv
  have hts := atoms_spec (ws := z_ws y bytes maxL ret) B.pre
  have hl0 := lv_entry av hl
  rw [lg_entry_eq]
  rw [hlv] at hl0
  have X0 : Stand p l e { frames := fr, cells := mc, slots := ms, locals := lo } s m av.toArray below meth c s₁ [] 0 0 := Stand.of_body B
  exact body p e s m _ below meth c _ ⟨B.exec, B.bytes, hml, findClass_of_methodNamed B.named, fun w hw => hts w (List.mem_cons_of_mem _ hw), hK, B.notSynchronized, B.returns⟩ (name_of_methodNamed B.named X0.method).1 hsz hP hO hl0
section KR
variable {p : Program} {l : Launch} {e : Env} {R : Room} {s : State} {m : MethodId} {args : Array Value} {below : List Frame} {meth : Method} {c : Code} {H : Heap} {locs : List Loc} {cells slots : Nat} {Q : State → Prop}
variable {cc : ByteArray} {pc : Nat} {ls : Array Slot} {rest : List Value} {own : String} {nL : Nat} {ret : Option FieldType} {G : Gx} {A : Nat → Prop} {H0 : Heap}
/-- the ends -/
theorem k_iret {v : Int32} {P' : Heap → Prop} {F : Nat → Prop} {mc ms : Nat} (C : Cx p s m args meth c own cc nL (some .int) G) (S : va_S F s.heap H locs) (hP : P' H) (hc : cells ≤ mc) (hs : slots ≤ ms) (hdg : decode cc pc = .ok (.ireturn, 1)) :
    W p l e R s m args below meth c H locs cells slots (MQ below (k_Q (some (.int v)) P' F) args s mc ms F) (F0 m pc ls [.int v]) := by
  obtain ⟨x1, x2, x3, x4, x5, x6, x7, x8⟩ := C
  exact W.widen hc hs (W.iret x1 x2 x8 (fun t ht hW => ⟨rfl, by rw [ht]; exact hP, by rw [ht]; exact S.1, fun q h1 h2 => by rw [ht]; exact S.2.1 q h1 h2⟩) S.2.2 hdg x7)
theorem k_zret {v : Int32} {ty : FieldType} {P' : Heap → Prop} {F : Nat → Prop} {mc ms : Nat} (C : Cx p s m args meth c own cc nL (some ty) G) (S : va_S F s.heap H locs) (hn : narrow ty (.int v) = .int v) (hP : P' H) (hc : cells ≤ mc) (hs : slots ≤ ms) (hdg : decode cc pc = .ok (.ireturn, 1)) :
    W p l e R s m args below meth c H locs cells slots (MQ below (k_Q (some (.int v)) P' F) args s mc ms F) (F0 m pc ls [.int v]) := by
  obtain ⟨x1, x2, x3, x4, x5, x6, x7, x8⟩ := C
  exact W.widen hc hs (W.zret x1 x2 x8 hn (fun t ht hW => ⟨rfl, by rw [ht]; exact hP, by rw [ht]; exact S.1, fun q h1 h2 => by rw [ht]; exact S.2.1 q h1 h2⟩) S.2.2 hdg x7)
theorem k_vret {P' : Heap → Prop} {F : Nat → Prop} {mc ms : Nat} (C : Cx p s m args meth c own cc nL none G) (S : va_S F s.heap H locs) (hP : P' H) (hc : cells ≤ mc) (hs : slots ≤ ms) (hdg : decode cc pc = .ok (.return_, 1)) :
    W p l e R s m args below meth c H locs cells slots (MQ below (k_Q none P' F) args s mc ms F) (F0 m pc ls []) := by
  obtain ⟨x1, x2, x3, x4, x5, x6, x7, x8⟩ := C
  exact W.widen hc hs (W.vret x1 x2 x8 (fun t ht hW => ⟨rfl, by rw [ht]; exact hP, by rw [ht]; exact S.1, fun q h1 h2 => by rw [ht]; exact S.2.1 q h1 h2⟩) S.2.2 hdg x7)
theorem k_aret {v : Value} {rt : FieldType} {P' : Heap → Prop} {F : Nat → Prop} {mc ms : Nat} (C : Cx p s m args meth c own cc nL (some rt) G) (S : va_S F s.heap H locs) (hrt : (∃ n, rt = .object n) ∨ ∃ t, rt = .array t) (hv : v = .null ∨ ∃ a, v = .ref a) (hP : P' H) (hc : cells ≤ mc) (hs : slots ≤ ms) (hdg : decode cc pc = .ok (.areturn, 1)) :
    W p l e R s m args below meth c H locs cells slots (MQ below (k_Q (some v) P' F) args s mc ms F) (F0 m pc ls [v]) := by
  obtain ⟨x1, x2, x3, x4, x5, x6, x7, x8⟩ := C
  exact W.widen hc hs (W.aret x1 x2 x8 hrt hv (fun t ht hW => ⟨rfl, by rw [ht]; exact hP, by rw [ht]; exact S.1, fun q h1 h2 => by rw [ht]; exact S.2.1 q h1 h2⟩) S.2.2 hdg x7)
/-- behind a call -/
theorem k_after {v : Option Value} {P' : Heap → Prop} {F : Nat → Prop} {st0 : List Value} {a : Array Value} {mc ms : Nat} (hr : va_Run p l e R s m args below meth c H locs cells slots mc ms (F0 m pc ls st0) rest (k_Q v P' F a) F) (S : va_S A H0 H locs) (hA : ∀ q, F q → A q)
    (kk : ∀ (H1 : Heap) (locs1 : List Loc), P' H1 → H.size ≤ H1.size → (∀ q : Nat, q < H.size → ¬ F q → H1[q]? = H[q]?) → va_S A H0 H1 locs1 → W p l e R s m args below meth c H1 locs1 (cells + mc) (slots + ms) Q (F0 m (pc + 3) ls (v.toList ++ rest))) : W p l e R s m args below meth c H locs cells slots Q (F0 m pc ls st0) := by
  intro T hT X
  obtain ⟨v1, st₀, t, T', L, h0, X', hL, e1, e2, ⟨hv, hp, hz, hk⟩, st⟩ := hr T hT X
  cases hv
  rw [h0] at hz hk
  obtain ⟨t2, a1, b1⟩ := kk T'.heap (locs ++ L) (by rw [e1]; exact hp) (by rw [e1]; exact hz) (fun q h1 h2 => by rw [e1]; exact hk q h1 h2)
    ⟨Nat.le_trans S.1 (by rw [e1]; exact hz), fun q h1 h2 => by rw [e1, hk q (Nat.lt_of_lt_of_le h1 S.1) (fun z => h2 (hA q z))]; exact S.2.1 q h1 h2, fun q hq => by
      rcases List.mem_append.mp hq with h | h
      · exact S.2.2 q h
      · exact hA _ (hL q h)⟩ T' rfl X'
  exact ⟨t2, st t2 a1, b1⟩
theorem k_after5 {v : Option Value} {P' : Heap → Prop} {F : Nat → Prop} {st0 : List Value} {a : Array Value} {mc ms : Nat} (hr : va_Run5 p l e R s m args below meth c H locs cells slots mc ms (F0 m pc ls st0) rest (k_Q v P' F a) F) (S : va_S A H0 H locs) (hA : ∀ q, F q → A q)
    (kk : ∀ (H1 : Heap) (locs1 : List Loc), P' H1 → H.size ≤ H1.size → (∀ q : Nat, q < H.size → ¬ F q → H1[q]? = H[q]?) → va_S A H0 H1 locs1 → W p l e R s m args below meth c H1 locs1 (cells + mc) (slots + ms) Q (F0 m (pc + 5) ls (v.toList ++ rest))) : W p l e R s m args below meth c H locs cells slots Q (F0 m pc ls st0) := by
  intro T hT X
  obtain ⟨v1, st₀, t, T', L, h0, X', hL, e1, e2, ⟨hv, hp, hz, hk⟩, st⟩ := hr T hT X
  cases hv
  rw [h0] at hz hk
  obtain ⟨t2, a1, b1⟩ := kk T'.heap (locs ++ L) (by rw [e1]; exact hp) (by rw [e1]; exact hz) (fun q h1 h2 => by rw [e1]; exact hk q h1 h2)
    ⟨Nat.le_trans S.1 (by rw [e1]; exact hz), fun q h1 h2 => by rw [e1, hk q (Nat.lt_of_lt_of_le h1 S.1) (fun z => h2 (hA q z))]; exact S.2.1 q h1 h2, fun q hq => by
      rcases List.mem_append.mp hq with h | h
      · exact S.2.2 q h
      · exact hA _ (hL q h)⟩ T' rfl X'
  exact ⟨t2, st t2 a1, b1⟩
theorem k_cwB {y : MethodName} {bytes : ByteArray} {maxL n fr lo mc ms index : Nat} {ret2 : Option FieldType} (C : Cx p s m args meth c own cc nL ret G) (hcode : Cond.code y bytes maxL ret2 ∈ TT) (hini : Cond.initialized y.cls ∈ TT) (h3 : y.cls ≠ "java/lang/invoke/MethodHandle" ∧ y.cls ≠ "java/lang/invoke/VarHandle" ∧ (parseMethodDescriptor y.desc).map (fun d => d.parameters.length) = some n) (hl : Cond.methodLink own index y ∈ TT) (hR : fr + 1 ≤ R.frames ∧ 8 + (maxL + 11) + lo ≤ R.locals) :
    CallB R s args own index y bytes maxL ret2 (z_ws y bytes maxL ret2) { frames := fr, cells := mc, slots := ms, locals := lo } mc ms n := by
  obtain ⟨x1, x2, x3, x4, x5, x6, x7, x8⟩ := C
  exact callB_of n x5 (tt_good hcode) rfl rfl rfl (x5 _ hini) (x5 _ hl) h3 hR
/-- the words of a method that is called: an instance method, a static one, a constructor -/
def KI (y : MethodName) (bytes : ByteArray) (maxL : Nat) (n : Nat) : Prop := Cond.code y bytes maxL none ∈ TT ∧ Cond.instanceMethod y ∈ TT ∧ Cond.initialized y.cls ∈ TT ∧ y.name = "<init>" ∧ y.cls ≠ "java/lang/invoke/MethodHandle" ∧ y.cls ≠ "java/lang/invoke/VarHandle" ∧ (parseMethodDescriptor y.desc).map (fun d => d.parameters.length) = some n
theorem k_callV {y : MethodName} {bytes : ByteArray} {maxL n fr lo mc ms index a sz : Nat} {ret2 : Option FieldType} {P P' : Heap → Prop} {F : Nat → Prop} {v : Option Value} {st : List Value} (C : Cx p s m args meth c own cc nL ret G) (S : va_S A H0 H locs) (hO : z_O G H) (hr : u_cls y.cls a s H) (As : List Value)
    (hM : k_M l y bytes maxL ret2 fr lo mc ms G P sz (.ref a :: As) v P' F) (hsz : H.size = sz) (hP : P H) (kv : KV y bytes maxL ret2 n) (hl : Cond.methodLink own index y ∈ TT) (hR : fr + 1 ≤ R.frames ∧ 8 + (maxL + 11) + lo ≤ R.locals) (hn : As.length = n) (hst : st = As.reverse ++ .ref a :: rest) (hW8 : (rest.map fun v => v.category).sum ≤ 8) (hls : ls.size = nL) (hcs : cells + mc ≤ R.cells ∧ slots + ms ≤ R.slots)
    (hdg : decode cc pc = .ok (.invokevirtual index, 3)) (hA : ∀ q, F q → A q)
    (kk : ∀ (H1 : Heap) (locs1 : List Loc), P' H1 → H.size ≤ H1.size → (∀ q : Nat, q < H.size → ¬ F q → H1[q]? = H[q]?) → va_S A H0 H1 locs1 → W p l e R s m args below meth c H1 locs1 (cells + mc) (slots + ms) Q (F0 m (pc + 3) ls (v.toList ++ rest))) : W p l e R s m args below meth c H locs cells slots Q (F0 m pc ls st) := by
  have C2 := C
  obtain ⟨x1, x2, x3, x4, x5, x6, x7, x8⟩ := C
  obtain ⟨k1, k2, k3, k4, k5, k6, k7⟩ := kv
  exact k_after (va_runV (As := As) (rest := rest) ⟨x1, x2, x3, x4, x5⟩ hM ⟨k_cwB C2 k1 k4 ⟨k5, k6, k7⟩ hl hR, x5 _ k2, x5 _ k3⟩ ⟨k_blind _ G P sz, hr, fun U hU hW => ⟨rfl, by rw [hU]; exact hsz, by rw [hU]; exact hP, by rw [hU]; exact hO, x6.warm hW⟩⟩ rfl hn hls hst (lv_room hW8) hdg hcs) S hA kk
theorem k_callS {y : MethodName} {bytes : ByteArray} {maxL n fr lo mc ms index sz : Nat} {ret2 : Option FieldType} {P P' : Heap → Prop} {F : Nat → Prop} {v : Option Value} {st : List Value} (C : Cx p s m args meth c own cc nL ret G) (S : va_S A H0 H locs) (hO : z_O G H) (As : List Value)
    (hM : k_M l y bytes maxL ret2 fr lo mc ms G P sz As v P' F) (hsz : H.size = sz) (hP : P H) (kv : KS y bytes maxL ret2 n) (hl : Cond.methodLink own index y ∈ TT) (hR : fr + 1 ≤ R.frames ∧ 8 + (maxL + 11) + lo ≤ R.locals) (hn : As.length = n) (hst : st = As.reverse ++ rest) (hW8 : (rest.map fun v => v.category).sum ≤ 8) (hls : ls.size = nL) (hcs : cells + mc ≤ R.cells ∧ slots + ms ≤ R.slots)
    (hdg : decode cc pc = .ok (.invokestatic index, 3)) (hA : ∀ q, F q → A q)
    (kk : ∀ (H1 : Heap) (locs1 : List Loc), P' H1 → H.size ≤ H1.size → (∀ q : Nat, q < H.size → ¬ F q → H1[q]? = H[q]?) → va_S A H0 H1 locs1 → W p l e R s m args below meth c H1 locs1 (cells + mc) (slots + ms) Q (F0 m (pc + 3) ls (v.toList ++ rest))) : W p l e R s m args below meth c H locs cells slots Q (F0 m pc ls st) := by
  have C2 := C
  obtain ⟨x1, x2, x3, x4, x5, x6, x7, x8⟩ := C
  obtain ⟨k1, k2, k3, k4, k5, k6⟩ := kv
  exact k_after (va_runS (As := As) (rest := rest) ⟨x1, x2, x3, x4, x5⟩ hM ⟨k_cwB C2 k1 k3 ⟨k4, k5, k6⟩ hl hR, x5 _ k2⟩ ⟨k_blind _ G P sz, fun U hU hW => ⟨rfl, by rw [hU]; exact hsz, by rw [hU]; exact hP, by rw [hU]; exact hO, x6.warm hW⟩⟩ rfl hn hls hst (lv_room hW8) hdg hcs) S hA kk
theorem k_callI {y : MethodName} {bytes : ByteArray} {maxL n fr lo mc ms index a sz : Nat} {P P' : Heap → Prop} {F : Nat → Prop} {v : Option Value} {st : List Value} (C : Cx p s m args meth c own cc nL ret G) (S : va_S A H0 H locs) (hO : z_O G H) (As : List Value)
    (hM : k_M l y bytes maxL none fr lo mc ms G P sz (.ref a :: As) v P' F) (hsz : H.size = sz) (hP : P H) (kv : KI y bytes maxL n) (hl : Cond.methodLink own index y ∈ TT) (hR : fr + 1 ≤ R.frames ∧ 8 + (maxL + 11) + lo ≤ R.locals) (hn : As.length = n) (hst : st = As.reverse ++ .ref a :: rest) (hW8 : (rest.map fun v => v.category).sum ≤ 8) (hls : ls.size = nL) (hcs : cells + mc ≤ R.cells ∧ slots + ms ≤ R.slots)
    (hdg : decode cc pc = .ok (.invokespecial index, 3)) (hA : ∀ q, F q → A q)
    (kk : ∀ (H1 : Heap) (locs1 : List Loc), P' H1 → H.size ≤ H1.size → (∀ q : Nat, q < H.size → ¬ F q → H1[q]? = H[q]?) → va_S A H0 H1 locs1 → W p l e R s m args below meth c H1 locs1 (cells + mc) (slots + ms) Q (F0 m (pc + 3) ls (v.toList ++ rest))) : W p l e R s m args below meth c H locs cells slots Q (F0 m pc ls st) := by
  have C2 := C
  obtain ⟨x1, x2, x3, x4, x5, x6, x7, x8⟩ := C
  obtain ⟨k1, k2, k3, k4, k5, k6, k7⟩ := kv
  exact k_after (va_runI (As := As) (rest := rest) ⟨x1, x2, x3, x4, x5⟩ hM ⟨k_cwB C2 k1 k3 ⟨k5, k6, k7⟩ hl hR, k4, x5 _ k2⟩ ⟨k_blind _ G P sz, fun U hU hW => ⟨rfl, by rw [hU]; exact hsz, by rw [hU]; exact hP, by rw [hU]; exact hO, x6.warm hW⟩⟩ rfl hn hls hst (lv_room hW8) hdg hcs) S hA kk
/-- through an interface -/
def KF (Cn : String) (x y : MethodName) (bytes : ByteArray) (maxL : Nat) (ret : Option FieldType) (n : Nat) : Prop :=
  Cond.code y bytes maxL ret ∈ TT ∧ Cond.instanceMethod y ∈ TT ∧ Cond.selects Cn x y ∈ TT ∧ Cond.initialized y.cls ∈ TT ∧ (Cn, x, y) ∈ z_faces ∧ (parseMethodDescriptor x.desc).map (fun d => d.parameters.length) = some n
theorem k_callF {Cn : String} {x y : MethodName} {bytes : ByteArray} {maxL n fr lo mc ms index count a sz ci : Nat} {T : u_T} {N : Nat} {ret2 : Option FieldType} {P P' : Heap → Prop} {F : Nat → Prop} {v : Option Value} {st : List Value} (C : Cx p s m args meth c own cc nL ret G) (S : va_S A H0 H locs) (hO : z_O G H) (hr : u_cls Cn a s H) (hci : z_cl[ci]? = some (Cn, T, N)) (As : List Value)
    (hM : k_M l y bytes maxL ret2 fr lo mc ms G P sz (.ref a :: As) v P' F) (hsz : H.size = sz) (hP : P H) (kv : KF Cn x y bytes maxL ret2 n) (hl : Cond.methodLink own index x ∈ TT) (hR : fr + 1 ≤ R.frames ∧ 8 + (maxL + 11) + lo ≤ R.locals) (hn : As.length = n) (hst : st = As.reverse ++ .ref a :: rest) (hW8 : (rest.map fun v => v.category).sum ≤ 8) (hls : ls.size = nL) (hcs : cells + mc ≤ R.cells ∧ slots + ms ≤ R.slots)
    (hdg : decode cc pc = .ok (.invokeinterface index count, 5)) (hA : ∀ q, F q → A q)
    (kk : ∀ (H1 : Heap) (locs1 : List Loc), P' H1 → H.size ≤ H1.size → (∀ q : Nat, q < H.size → ¬ F q → H1[q]? = H[q]?) → va_S A H0 H1 locs1 → W p l e R s m args below meth c H1 locs1 (cells + mc) (slots + ms) Q (F0 m (pc + 5) ls (v.toList ++ rest))) : W p l e R s m args below meth c H locs cells slots Q (F0 m pc ls st) := by
  obtain ⟨x1, x2, x3, x4, x5, x6, x7, x8⟩ := C
  obtain ⟨k1, k2, k3, k4, k5, k6⟩ := kv
  have hG : GoodIn TT (va_wsF own index Cn x y (z_ws y bytes maxL ret2)) := by
    intro w hw
    unfold va_wsF at hw
    rcases List.mem_append.mp hw with h | h
    · simp only [List.mem_cons, List.not_mem_nil, or_false] at h
      have hin : w ∈ TT := by
        rcases h with rfl | rfl | rfl | rfl
        · exact hl
        · exact k3
        · exact k2
        · exact k4
      exact ⟨hin, good_of_word (List.mem_filter.mp hin).2⟩
    · exact tt_good k1 w h
  have hFw := x6.2.2.2.2.2.2.2.2.2.1 _ k5
  have hmh := z_faces_mh _ k5
  exact k_after5 (va_runF (As := As) (rest := rest) (x6.1.1 ci _ hci).2 ⟨x1, x2, x3, x4, x5⟩ hM (va_cwF n x5 hG rfl rfl rfl hFw ⟨hmh.1, hmh.2, k6⟩ hR) ⟨k_blind _ G P sz, hr, fun U hU hW => ⟨rfl, by rw [hU]; exact hsz, by rw [hU]; exact hP, by rw [hU]; exact hO, x6.warm hW⟩⟩ rfl hn hls hst (lv_room hW8) hdg hcs) S hA kk
end KR
