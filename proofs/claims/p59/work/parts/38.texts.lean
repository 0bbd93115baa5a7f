/-! contracts whose answer is a new object; a builder beside the law's world -/
def k_QE (V : Nat → Heap → Prop) (F : Nat → Prop) : Array Value → State → Outcome → State → Prop := fun _ st o t => ∃ r : Nat, o = .returned (some (.ref r)) ∧ V r t.heap ∧ st.heap.size ≤ t.heap.size ∧ ∀ q : Nat, q < st.heap.size → ¬ F q → t.heap[q]? = st.heap[q]?
def k_ME (l : Launch) (y : MethodName) (bytes : ByteArray) (maxL : Nat) (ret : Option FieldType) (fr lo mc ms : Nat) (G : Gx) (P : Heap → Prop) (sz : Nat) (av : List Value) (V : Nat → Heap → Prop) (F : Nat → Prop) : Prop :=
  Met l y (z_ws y bytes maxL ret) { frames := fr, cells := mc, slots := ms, locals := lo } (va_Pc av (k_Pre G P sz)) (k_QE V F) mc ms F
theorem k_beginE {l : Launch} {y : MethodName} {bytes : ByteArray} {maxL : Nat} {ret : Option FieldType} {fr lo mc ms : Nat} {G : Gx} {P : Heap → Prop} {sz : Nat} {av : List Value} {V : Nat → Heap → Prop} {F : Nat → Prop} (hy : plainName y.cls = true) (hl : (lg_sl av).length ≤ maxL) (lv : List (Nat × Value)) (hlv : lv_args 0 av = lv)
    (body : ∀ (p : Program) (e : Env) (s : State) (m : MethodId) (args : Array Value) (below : List Frame) (meth : Method) (c : Code) (ls : Array Slot), Cx p s m args meth c y.cls bytes maxL ret G → meth.name = y.name → s.heap.size = sz → P s.heap → z_O G s.heap → lv_has ls maxL lv →
      W p l e { frames := fr, cells := mc, slots := ms, locals := lo } s m args below meth c s.heap [] 0 0 (MQ below (k_QE V F) args s mc ms F) (F0 m 0 ls [])) :
    k_ME l y bytes maxL ret fr lo mc ms G P sz av V F := by
  refine Met.ofW (cc := bytes) (maxL := maxL) (ret := ret) hy rfl ?_
  intro p e s m args below meth c s₁ B hml hv
  obtain ⟨rfl, hsz, hP, hO, hK⟩ := hv
  have hts := atoms_spec (ws := z_ws y bytes maxL ret) B.pre
  have hl0 := lv_entry av hl
  rw [lg_entry_eq]
  rw [hlv] at hl0
  have X0 : Stand p l e { frames := fr, cells := mc, slots := ms, locals := lo } s m av.toArray below meth c s₁ [] 0 0 := Stand.of_body B
  exact body p e s m _ below meth c _ ⟨B.exec, B.bytes, hml, findClass_of_methodNamed B.named, fun w hw => hts w (List.mem_cons_of_mem _ hw), hK, B.notSynchronized, B.returns⟩ (name_of_methodNamed B.named X0.method).1 hsz hP hO hl0
section KE
variable {p : Program} {l : Launch} {e : Env} {R : Room} {s : State} {m : MethodId} {args : Array Value} {below : List Frame} {meth : Method} {c : Code} {H : Heap} {locs : List Loc} {cells slots : Nat} {Q : State → Prop}
variable {cc : ByteArray} {pc : Nat} {ls : Array Slot} {rest : List Value} {own : String} {nL : Nat} {ret : Option FieldType} {G : Gx} {A : Nat → Prop} {H0 : Heap}
theorem k_aretE {r : Nat} {rt : FieldType} {V : Nat → Heap → Prop} {F : Nat → Prop} {mc ms : Nat} (C : Cx p s m args meth c own cc nL (some rt) G) (S : va_S F s.heap H locs) (hrt : (∃ n, rt = .object n) ∨ ∃ t, rt = .array t) (hP : V r H) (hc : cells ≤ mc) (hs : slots ≤ ms) (hdg : decode cc pc = .ok (.areturn, 1)) :
    W p l e R s m args below meth c H locs cells slots (MQ below (k_QE V F) args s mc ms F) (F0 m pc ls [.ref r]) := by
  obtain ⟨x1, x2, x3, x4, x5, x6, x7, x8⟩ := C
  exact W.widen hc hs (W.aret x1 x2 x8 hrt (Or.inr ⟨r, rfl⟩) (fun t ht hW => ⟨r, rfl, by rw [ht]; exact hP, by rw [ht]; exact S.1, fun q h1 h2 => by rw [ht]; exact S.2.1 q h1 h2⟩) S.2.2 hdg x7)
theorem k_afterE {V : Nat → Heap → Prop} {F : Nat → Prop} {st0 : List Value} {a : Array Value} {mc ms : Nat} (hr : va_Run p l e R s m args below meth c H locs cells slots mc ms (F0 m pc ls st0) rest (k_QE V F a) F) (S : va_S A H0 H locs) (hA : ∀ q, F q → A q)
    (kk : ∀ (r : Nat) (H1 : Heap) (locs1 : List Loc), V r H1 → H.size ≤ H1.size → (∀ q : Nat, q < H.size → ¬ F q → H1[q]? = H[q]?) → va_S A H0 H1 locs1 → W p l e R s m args below meth c H1 locs1 (cells + mc) (slots + ms) Q (F0 m (pc + 3) ls (.ref r :: rest))) : W p l e R s m args below meth c H locs cells slots Q (F0 m pc ls st0) := by
  intro T hT X
  obtain ⟨v1, st₀, t, T', L, h0, X', hL, e1, e2, ⟨r, hv, hp, hz, hk⟩, st⟩ := hr T hT X
  cases hv
  rw [h0] at hz hk
  obtain ⟨t2, a1, b1⟩ := kk r T'.heap (locs ++ L) (by rw [e1]; exact hp) (by rw [e1]; exact hz) (fun q h1 h2 => by rw [e1]; exact hk q h1 h2)
    ⟨Nat.le_trans S.1 (by rw [e1]; exact hz), fun q h1 h2 => by rw [e1, hk q (Nat.lt_of_lt_of_le h1 S.1) (fun z => h2 (hA q z))]; exact S.2.1 q h1 h2, fun q hq => by
      rcases List.mem_append.mp hq with h | h
      · exact S.2.2 q h
      · exact hA _ (hL q h)⟩ T' rfl X'
  exact ⟨t2, st t2 a1, b1⟩
theorem k_callVE {y : MethodName} {bytes : ByteArray} {maxL n fr lo mc ms index a sz : Nat} {ret2 : Option FieldType} {P : Heap → Prop} {V : Nat → Heap → Prop} {F : Nat → Prop} {st : List Value} (C : Cx p s m args meth c own cc nL ret G) (S : va_S A H0 H locs) (hO : z_O G H) (hr : u_cls y.cls a s H) (As : List Value)
    (hM : k_ME l y bytes maxL ret2 fr lo mc ms G P sz (.ref a :: As) V F) (hsz : H.size = sz) (hP : P H) (kv : KV y bytes maxL ret2 n) (hl : Cond.methodLink own index y ∈ TT) (hR : fr + 1 ≤ R.frames ∧ 8 + (maxL + 11) + lo ≤ R.locals) (hn : As.length = n) (hst : st = As.reverse ++ .ref a :: rest) (hW8 : (rest.map fun v => v.category).sum ≤ 8) (hls : ls.size = nL) (hcs : cells + mc ≤ R.cells ∧ slots + ms ≤ R.slots)
    (hdg : decode cc pc = .ok (.invokevirtual index, 3)) (hA : ∀ q, F q → A q)
    (kk : ∀ (r : Nat) (H1 : Heap) (locs1 : List Loc), V r H1 → H.size ≤ H1.size → (∀ q : Nat, q < H.size → ¬ F q → H1[q]? = H[q]?) → va_S A H0 H1 locs1 → W p l e R s m args below meth c H1 locs1 (cells + mc) (slots + ms) Q (F0 m (pc + 3) ls (.ref r :: rest))) : W p l e R s m args below meth c H locs cells slots Q (F0 m pc ls st) := by
  have C2 := C
  obtain ⟨x1, x2, x3, x4, x5, x6, x7, x8⟩ := C
  obtain ⟨k1, k2, k3, k4, k5, k6, k7⟩ := kv
  exact k_afterE (va_runV (As := As) (rest := rest) ⟨x1, x2, x3, x4, x5⟩ hM ⟨k_cwB C2 k1 k4 ⟨k5, k6, k7⟩ hl hR, x5 _ k2, x5 _ k3⟩ ⟨k_blind _ G P sz, hr, fun U hU hW => ⟨rfl, by rw [hU]; exact hsz, by rw [hU]; exact hP, by rw [hU]; exact hO, x6.warm hW⟩⟩ rfl hn hls hst (lv_room hW8) hdg hcs) S hA kk
end KE
/-- texts: how long, which letters -/
abbrev Tx : Type := Nat × (Nat → Int32)
def tx_ap (x y : Tx) : Tx := (x.1 + y.1, t_cat x.2 x.1 y.2)
def tx_S (w : Nat) : Tx := (z_lens.getD w 0, fun j => (z_byts.getD w []).getD j 0)
def tx_N (d : Nat) : Tx := (dgn d, dgc d)
def tx_C (ch : Int32) : Tx := (1, fun _ => ch)
theorem tx_Sfit : ∀ w, w < 18 → ∀ j, j < (tx_S w).1 → fits .byte (.int ((tx_S w).2 j)) = true := by decide +kernel
/-- a builder with its text, and what else stands apart -/
def x_sb (G : Gx) (Y : Ex) (a v : Nat) (x : Tx) : Ex := (fun q => q = a ∨ q = v ∨ Y.1 q, fun H => (k_sb G a v x.1 x.2 H ∧ G.2.2.1.size ≤ a ∧ G.2.2.1.size ≤ v ∧ a ≠ v ∧ ∀ q, Y.1 q → q ≠ a ∧ q ≠ v) ∧ Y.2 H)
def x_clo (Y : Ex) : Prop := ∀ H1 H2 : Heap, (∀ q, Y.1 q → H2[q]? = H1[q]?) → Y.2 H1 → Y.2 H2
theorem x_sb.clo {G : Gx} {Y : Ex} {a v : Nat} {x : Tx} (hY : x_clo Y) : x_clo (x_sb G Y a v x) := fun _ _ h1 h2 => ⟨⟨h2.1.1.kept (h1 a (Or.inl rfl)) (h1 v (Or.inr (Or.inl rfl))), h2.1.2⟩, hY _ _ (fun q hq => h1 q (Or.inr (Or.inr hq))) h2.2⟩
def q_B (G : Gx) (ad : Ad) (N : Nn) (Y : Ex) (τ : Sg) (its : List It) (A : Nat → Prop) (H0 H : Heap) (locs : List Loc) (a : Nat) (x : Tx) : Prop := ∃ v, q_S G ad N (x_sb G Y a v x) τ its A H0 H locs ∧ H0.size ≤ a ∧ H0.size ≤ v
theorem q_B.after {G : Gx} {ad : Ad} {N : Nn} {Y : Ex} {τ : Sg} {its : List It} {A : Nat → Prop} {H0 H H1 : Heap} {locs locs1 : List Loc} {a v v2 : Nat} {x x2 : Tx} (hY : x_clo Y) (S : q_S G ad N (x_sb G Y a v x) τ its A H0 H locs) (ha : H0.size ≤ a) (hv : H0.size ≤ v) (hle : H.size ≤ H1.size) (ok : ∀ q : Nat, q < H.size → ¬ (q = a ∨ q = v ∨ H.size ≤ q) → H1[q]? = H[q]?) (S2 : va_S A H0 H1 locs1) (hsb : k_sb G a v2 x2.1 x2.2 H1) (hv2 : v2 = v ∨ (H.size ≤ v2 ∧ v2 < H1.size)) : q_B G ad N Y τ its A H0 H1 locs1 a x2 := by
  obtain ⟨⟨ad', he, V, aa, I, E⟩, S1, hA⟩ := S
  obtain ⟨⟨⟨k1, hGa, hGv, hav, hYn⟩, hY2⟩, hX, -⟩ := E
  have hk : ∀ q : Nat, q < H.size → q ≠ a → q ≠ v → H1[q]? = H[q]? := fun q h1 h2 h3 => ok q h1 (by rintro (h | h | h); exact h2 h; exact h3 h; omega)
  have hw : ∀ k o, lp N τ k o → H1[ad' k o]? = H[ad' k o]? := fun k o h => hk _ (V.1 k o h).lt ((hX a (Or.inl rfl)).2 k o h) ((hX v (Or.inr (Or.inl rfl))).2 k o h)
  have haL := (hX a (Or.inl rfl)).1
  have hvL := (hX v (Or.inr (Or.inl rfl))).1
  have hO1 := V.2.2.2.1.1
  have hYk : ∀ q, Y.1 q → H1[q]? = H[q]? := fun q hq => hk q (hX q (Or.inr (Or.inr hq))).1 (hYn q hq).1 (hYn q hq).2
  refine ⟨v2, ⟨⟨ad', he, ⟨fun k o h => (V.1 k o h).kept (hw k o h), V.2.1, V.2.2.1, ⟨Nat.le_trans hO1 hle, fun q hq => (hk q (by omega) (by omega) (by omega)).trans (V.2.2.2.1.2 q hq)⟩, V.2.2.2.2⟩, aa, fun y hy => ?_, ⟨⟨hsb, hGa, by rcases hv2 with h | h <;> omega, by rcases hv2 with h | h <;> omega, fun q hq => ⟨(hYn q hq).1, ?_⟩⟩, hY _ _ hYk hY2⟩, fun q hq => ?_, x_sb.clo hY⟩, S2, hA⟩, ha, ?_⟩
  · obtain ⟨⟨lr, i1⟩, i2, ⟨i5, i4⟩, i3⟩ := I y hy
    have hy1 : y.1 ≠ a := fun q => i4 (Or.inl q)
    have hy2 : y.1 ≠ v := fun q => i4 (Or.inr (Or.inl q))
    have hlt := i1.lt
    refine ⟨⟨lr, i1.kept (hk _ hlt hy1 hy2)⟩, i2, ⟨i5, ?_⟩, i3⟩
    rintro (q | q | q)
    · exact hy1 q
    · rcases hv2 with h | h
      · exact hy2 (q.trans h)
      · omega
    · exact i4 (Or.inr (Or.inr q))
  · rcases hv2 with h | h
    · rw [h]; exact (hYn q hq).2
    · have := (hX q (Or.inr (Or.inr hq))).1
      omega
  · rcases hq with q1 | q1 | q1
    · rw [q1]; exact ⟨by omega, (hX a (Or.inl rfl)).2⟩
    · rcases hv2 with h | h
      · rw [q1, h]; exact ⟨by omega, (hX v (Or.inr (Or.inl rfl))).2⟩
      · refine ⟨by omega, fun k o h' h9 => ?_⟩
        have := (V.1 k o h').lt
        omega
    · exact ⟨Nat.lt_of_lt_of_le (hX q (Or.inr (Or.inr q1))).1 hle, (hX q (Or.inr (Or.inr q1))).2⟩
  · rcases hv2 with h | h
    · omega
    · have := S1.1
      omega
