/-! THE CLAIM OUT OF ONE WALK OF THE LAW'S BODY. Your part is whole_start (and what it stands on); all else here is the same for every law, but numbers. -/
def R_law : String := "BusLiftsLaw"
def lw_P (b : Addr) (xs : List Int32) (args : Array Value) (s : State) : Prop := args = #[.ref b] ∧ s.IntsAt b xs ∧ xs.length ≤ 3072 ∧ (Jvm.Cond.and given_1 narrow_1).before args s = true
/-- what a walk over the start with the record d0 says of its end, said of the start itself -/
theorem lw_closed {s t : State} {o : Outcome} {d0 : Drawn} {L : List Loc} {k n : Nat} (hd0 : s.drawn.sameBut d0 lw_cs) (hv : ∃ v, o = .returned v) (hW : (s.setDrawn d0).WarmedH t.vm) (hs : (s.setDrawn d0).sameButNew ({ t with vm := s.vm } : State) L k n) : State.butDraws s t lw_cs (fun t1 => Framed s o t1 L k n) := by
  have h2 : t.drawn = d0 := congrArg State.drawn hs.1
  refine ⟨⟨hv, hW, State.sameButNew.setDrawn hs s.drawn⟩, ?_, by decide⟩
  rw [h2]
  exact hd0
def lw_Q (_ : Array Value) (s : State) (o : Outcome) (t : State) : Prop := o = .returned (some (.int 1)) ∧ State.butDraws s t lw_cs (fun t1 => Framed s o t1 [] 601024 7293034)
def lw_Z (below : List Frame) (a : Array Value) (s : State) : State → Prop := fun t => ∃ o, t.status = .running ∧ Ended t below o ∧ lw_Q a s o t
/-- the law's own end, with 1 on the stack, nothing written that was there before, its room as the claim has it; d0: the record of draws at this point (at the entry s.drawn: begin with 'refine W.base ?_' and 'have hd0 := Drawn.sameBut.refl s.drawn lw_cs') -/
theorem lw_ret {p : Program} {l : Launch} {e : Env} {s : State} {m : MethodId} {below : List Frame} {meth : Method} {c : Code} {b : Nat} {d0 : Drawn} (hd0 : s.drawn.sameBut d0 lw_cs) (hx : p.tables.exec = Jvm.exec) (hb : c.code = code) (hr : meth.sig.returnType = ret) (hlocks : meth.locks = false) {pc : Nat} {H : Heap} {ls : Array Slot} (hdg : decode code pc = .ok (.ireturn, 1)) : W p l e room_1 (s.setDrawn d0) m #[Value.ref b] below meth c H [] 601024 7293034 (lw_Z below #[Value.ref b] s) (F0 m pc ls [.int 1]) := by
  intro T hT X
  obtain ⟨fs, hret, hrun, hended, hW, hframe⟩ := X.leave (v := some (.int 1)) (hlocks := hlocks) (fun h => by rw [hr] at h; cases h)
  have hmeth' : T.vm.method? m = some meth := X.method'
  refine ⟨T.setFrames fs, ?_, .returned (some (.int 1)), hrun, hended, rfl, lw_closed hd0 ⟨_, rfl⟩ hW hframe⟩
  jvm_step X.here [X.here.top, hx, hb, hdg, hmeth', hr, ret, narrow_b1]
  (try refine ⟨rfl, ?_⟩); (try refine ⟨rfl, ?_⟩)
  first | (intro acts; rw [hret _ acts rfl rfl rfl]) | rw [hret _ _ rfl rfl rfl]
  exact Steps.refl _
/-- what holds at the law's entry: the machine, the code, the tables' words (any of lw_tbl by 'hts w (by decide +kernel)'), the script of L ints xs at the cell b, what the Statement gives of the start (any of its parts by flat_of_before) -/
def lw_At (p : Program) (s : State) (m : MethodId) (meth : Method) (c : Code) (b L : Nat) (xs : Nat → Int32) : Prop :=
  p.tables.exec = Jvm.exec ∧ c.code = code ∧ meth.sig.returnType = ret ∧ c.maxLocals = 10 ∧ s.vm.findClass R_law = some m.cls ∧ (∀ w ∈ lw_tbl, w.before #[Value.ref b] s = true) ∧ va_X b L xs s s.heap ∧ b < s.heap.size ∧ meth.locks = false ∧ (Jvm.Cond.and given_1 narrow_1).before #[Value.ref b] s = true
/-! the law from its entry, out of E_all Rel and the two initial states -/
section YN
variable {p : Program} {l : Launch} {e : Env} {R : Room} {s : State} {m : MethodId} {args : Array Value} {below : List Frame} {meth : Method} {c : Code} {H : Heap} {locs : List Loc} {cells slots : Nat} {Q : State → Prop}
variable {cc : ByteArray} {pc : Nat} {ls : Array Slot} {rest : List Value} {nL : Nat} {ret2 : Option FieldType} {G : Gx}
theorem Y_newO (C : Cx p s m args meth c RL cc nL ret2 G) {q0 : Nat} (hq0 : H.size = q0) {ci index : Nat} {Cn : String} {T : u_T} {N : Nat} {ty : Nat → FieldType} (F : CF ci Cn T N ty) (hcl : Cond.classLink RL index Cn ∈ TT) (hinst : Cond.instantiable Cn N ∈ TT) (hini : Cond.initialized Cn ∈ TT)
    {fs : List Value} (hfs : ∀ j, j < N → defaultValue (ty j) = vp_V fs j) (hc : cells + 1 ≤ R.cells) (hs : slots + N ≤ R.slots) (hdg : decode cc pc = .ok (.new index, 3))
    (kk : ∀ H1 : Heap, H1.size = q0 + 1 → (∀ q : Nat, q < q0 → H1[q]? = H[q]?) → va_at G.1 z_cl (q0, .inr (ci, fs)) H1 → W p l e R s m args below meth c H1 locs (cells + 1) (slots + N) Q (F0 m (pc + 3) ls (.ref q0 :: rest))) :
    W p l e R s m args below meth c H locs cells slots Q (F0 m pc ls rest) := by
  subst hq0
  obtain ⟨x1, x2, x3, x4, x5, x6, x7, x8⟩ := C
  obtain ⟨F1, F2, F3, F4⟩ := F
  have hKn := x6.1.1 ci _ F1
  refine W.newcK x1 x2 x4 (x5 _ hcl) (x5 _ hinst) (x5 _ hini) rfl hdg hc hs hKn.2.1 rfl fun H1 kC hkC e1 z1 o1 => ?_
  exact kk H1 z1 o1 ⟨_, F1, (u_born ty x5 F2 hKn hkC e1 F3).to hfs⟩
theorem Y_ctor {y : MethodName} {bytes : ByteArray} {maxL fr lo mc2 ms2 index a ci : Nat} {fs : List Value} {D : Heap → Prop} (C : Cx p s m args meth c RL cc nL ret2 G) (K : y_K G s) (S : va_S (fun q => s.heap.size ≤ q) s.heap H locs) (hb : s.heap.size ≤ a) (hM : y_MT l y bytes maxL fr lo mc2 ms2 G a ci fs D) (kv : y_KI y bytes maxL) (hl : Cond.methodLink RL index y ∈ TT) (hz : H.size = a + 1) (hat : va_at G.1 z_cl (a, .inr (ci, fs)) H) (hG : G.2.2.1.size ≤ a) (hG2 : ∀ q, q < G.2.2.1.size → H[q]? = G.2.2.1[q]?)
    (hR : fr + 1 ≤ R.frames ∧ 8 + (maxL + 11) + lo ≤ R.locals) (hW8 : (rest.map fun v => v.category).sum ≤ 8) (hls : ls.size = nL) (hcs : cells + mc2 ≤ R.cells ∧ slots + ms2 ≤ R.slots) (hdg : decode cc pc = .ok (.invokespecial index, 3))
    (kk : ∀ (H1 : Heap) (locs1 : List Loc), D H1 → H.size ≤ H1.size → (∀ q : Nat, q < a → H1[q]? = H[q]?) → va_S (fun q => s.heap.size ≤ q) s.heap H1 locs1 → W p l e R s m args below meth c H1 locs1 (cells + mc2) (slots + ms2) Q (F0 m (pc + 3) ls rest)) :
    W p l e R s m args below meth c H locs cells slots Q (F0 m pc ls (.ref a :: rest)) := by
  obtain ⟨x1, x2, x3, x4, x5, x6, x7, x8⟩ := C
  obtain ⟨k1, k2, k3, k4, k5, k6, k7⟩ := kv
  have hbl : FrameBlind (va_Pc [.ref a] (y_PT G a ci fs)) := fun _ _ g mk q => ⟨q.1, q.2.1, q.2.2.1, q.2.2.2.1.calling g mk _, q.2.2.2.2⟩
  refine va_callv (va_runI (As := []) (rest := rest) ⟨x1, x2, x3, x4, x5⟩ hM (cwI 0 x5 (tt_good k1) rfl rfl rfl (x5 _ k3) (x5 _ hl) (x5 _ k2) k4 ⟨k5, k6, k7⟩ hR) ⟨hbl, fun U hU hW => ⟨rfl, by rw [hU]; exact hz, by rw [hU]; exact hat, K.warm hW, hG, by rw [hU]; exact hG2⟩⟩ rfl rfl hls rfl (lv_room hW8) hdg hcs) S (fun q _ h => Nat.le_trans hb h) (fun q h => Nat.le_trans hb h)
    (fun u t H1 locs1 ht hvm hr hB hz1 hk1 hS1 => kk H1 locs1 (by rw [← ht]; exact hB) hz1 (fun q hq => hk1 q (by rw [hz]; exact Nat.lt_succ_of_lt hq) (Nat.not_le.mpr hq)) hS1)
theorem Y_newL (C : Cx p s m args meth c RL cc nL ret2 G) {q0 : Nat} (hq0 : H.size = q0) (hc : cells + 1 ≤ R.cells) (hs : slots + 1 ≤ R.slots) (hdg : decode cc pc = .ok (.newarray .long, 2))
    (kk : ∀ (cA : ClassId) (H1 : Heap), H1.size = q0 + 1 → (∀ q : Nat, q < q0 → H1[q]? = H[q]?) → ArrOfT s cA .long → L_O cA q0 (.inl 0) H1 → W p l e R s m args below meth c H1 locs (cells + 1) (slots + 1) Q (F0 m (pc + 2) ls (.ref q0 :: rest))) :
    W p l e R s m args below meth c H locs cells slots Q (F0 m pc ls (.int 1 :: rest)) := by
  obtain ⟨x1, x2, x3, x4, x5, x6, x7, x8⟩ := C
  exact va_newaK (atype := .long) x1 x2 (x5 _ tw_8_209) rfl hdg rfl (by decide) (N := 1) (by decide) (by decide) hc hs hq0 fun H1 cA e1 z1 o1 hAr hNm => kk cA H1 z1 o1 hAr e1
theorem Y_newD (C : Cx p s m args meth c RL cc nL ret2 G) {q0 : Nat} (hq0 : H.size = q0) (hc : cells + 1 ≤ R.cells) (hs : slots + 1 ≤ R.slots) (hdg : decode cc pc = .ok (.newarray .double, 2))
    (kk : ∀ (cA : ClassId) (H1 : Heap), H1.size = q0 + 1 → (∀ q : Nat, q < q0 → H1[q]? = H[q]?) → ArrOfT s cA .double → L_O cA q0 (.inr 0) H1 → W p l e R s m args below meth c H1 locs (cells + 1) (slots + 1) Q (F0 m (pc + 2) ls (.ref q0 :: rest))) :
    W p l e R s m args below meth c H locs cells slots Q (F0 m pc ls (.int 1 :: rest)) := by
  obtain ⟨x1, x2, x3, x4, x5, x6, x7, x8⟩ := C
  exact va_newaK (atype := .double) x1 x2 (x5 _ tw_8_210) rfl hdg rfl (by decide) (N := 1) (by decide) (by decide) hc hs hq0 fun H1 cA e1 z1 o1 hAr hNm => kk cA H1 z1 o1 hAr e1
end YN
theorem dL_law_0 : decode cL_law 0 = .ok (.new 8, 3) := by decide +kernel
theorem dL_law_3 : decode cL_law 3 = .ok (.dup, 1) := by decide +kernel
theorem dL_law_4 : decode cL_law 4 = .ok (.invokespecial 137, 3) := by decide +kernel
theorem dL_law_7 : decode cL_law 7 = .ok (.astore_n 1, 1) := by decide +kernel
theorem dL_law_8 : decode cL_law 8 = .ok (.new 138, 3) := by decide +kernel
theorem dL_law_11 : decode cL_law 11 = .ok (.dup, 1) := by decide +kernel
theorem dL_law_12 : decode cL_law 12 = .ok (.invokespecial 140, 3) := by decide +kernel
theorem dL_law_15 : decode cL_law 15 = .ok (.astore_n 2, 1) := by decide +kernel
theorem dL_law_16 : decode cL_law 16 = .ok (.iconst 1, 1) := by decide +kernel
theorem dL_law_17 : decode cL_law 17 = .ok (.newarray .long, 2) := by decide +kernel
theorem dL_law_19 : decode cL_law 19 = .ok (.astore_n 3, 1) := by decide +kernel
theorem dL_law_20 : decode cL_law 20 = .ok (.iconst 1, 1) := by decide +kernel
theorem dL_law_21 : decode cL_law 21 = .ok (.newarray .double, 2) := by decide +kernel
theorem dL_law_23 : decode cL_law 23 = .ok (.astore 4, 2) := by decide +kernel
theorem dL_law_25 : decode cL_law 25 = .ok (.iconst 0, 1) := by decide +kernel
theorem dL_law_26 : decode cL_law 26 = .ok (.istore 5, 2) := by decide +kernel
set_option maxHeartbeats 4000000 in
set_option maxRecDepth 100000 in
theorem Y_start {Rel : Nat → Sg → Sg → Prop} (hE : E_all Rel) (hup : ∀ n σ ρ, Rel n σ ρ → Rel (n + 1) σ ρ) {σa σb ρa ρb : Sg} (ha : f_X4_clear y_σ0 0 2 = some σa) (hb : f_X4_addCar σa 0 0 1 = some σb) (hc : f_X8_clear y_σ0 = some ρa) (hd : f_X8_addCar (sup ρa 30 0 0 2) 0 1 = some ρb) (hR : Rel 0 σb ρb)
    {p : Program} {e : Env} {s : State} {m : MethodId} {below : List Frame} {meth : Method} {c : Code} (l : Launch) (hflags : l.flags = flags0) {b L : Nat} {xs : Nat → Int32} (hL : L ≤ 3072) (C0 : lw_At p s m meth c b L xs) : W p l e room_1 s m #[Value.ref b] below meth c s.heap [] 0 0 (lw_Z below #[Value.ref b] s) (entryFrame m ([Value.ref b] : List Value).toArray 10) := by
  obtain ⟨x1, x2, x3, x4, x5, x6, x7, x8, x9, x10⟩ := C0
  have hs : ∀ w ∈ Y_nar, w.before #[Value.ref b] s = true := flat_of_before _ x10
  obtain ⟨G, hG, hK⟩ := Y_K0 x6 hs
  have hst := Y_trace hflags
  have C : Cx p s m #[.ref b] meth c RL code 10 ret G := ⟨x1, x2, x4, x5, fun w hw => x6 w (List.mem_filter.mp hw).1, hK, x9, x3⟩
  have hao2 : va_AO RX2 s := va_AO.of (x6 (Cond.arrayOver (FieldType.object "BusLifts$Car")) (tb_1 (List.mem_of_getElem? (i := 39) (by decide +kernel))))
  have hao1 : va_AO RX1 s := va_AO.of (x6 (Cond.arrayOver (FieldType.object "BusLifts$Call")) (tb_1 (List.mem_of_getElem? (i := 41) (by decide +kernel))))
  have hao4 : va_AO RX4 s := va_AO.of (x6 (Cond.arrayOver (FieldType.object "BusLifts$Lifts")) (tb_2 (List.mem_of_getElem? (i := 42) (by decide +kernel))))
  have K : y_K G s := ⟨hK, hao2, hao1, hao4⟩
  have hl := lv_entry [Value.ref b] (show (lg_sl [Value.ref b]).length ≤ 10 from Nat.le_of_ble_eq_true rfl)
  have hl : lv_has _ 10 [(0, .ref b)] := hl
  rw [lg_entry_eq]
  obtain ⟨n0, hn0⟩ : ∃ n, n = s.heap.size := ⟨_, rfl⟩
  have S : va_S (fun q => s.heap.size ≤ q) s.heap s.heap [] := va_S.rf
  have hGs : G.2.2.1.size = n0 := by rw [hG, hn0]
  refine Y_newO (fs := [.null, .int 0, .int 0, .int 0, .null, .int 0, .null, .null, .null, .int 0, .null, .null, .null]) C hn0.symm cf_7 tw_1_24 tw_1_25 tw_1_1 y_df7 (Nat.le_of_ble_eq_true rfl) (Nat.le_of_ble_eq_true rfl) dL_law_0 (fun H z9 o9 h7 => ?_)
  have S : va_S (fun q => s.heap.size ≤ q) s.heap H [] := ⟨by rw [z9, hn0]; exact Nat.le_succ _, fun q h1 h2 => o9 q (by rw [hn0]; exact h1), fun _ h => nomatch h⟩
  refine lv_dup C.1 C.2.1 dL_law_3 rfl ?_
  refine Y_ctor C K S (by rw [hn0]; exact Nat.le_refl _) (m_X7_init l G n0 σa σb ha hb) kv_X7_init tw_1_26 z9 h7 (by rw [hGs]; exact Nat.le_refl _) (fun q hq => by rw [hGs] at hq; rw [o9 q hq, hG]) ⟨(Nat.le_of_ble_eq_true rfl), (Nat.le_of_ble_eq_true rfl)⟩ (Nat.le_of_ble_eq_true rfl) hl.1 ⟨(Nat.le_of_ble_eq_true rfl), (Nat.le_of_ble_eq_true rfl)⟩ dL_law_4 (fun H1 locs1 hD hz1 ok1 S1 => ?_)
  refine lv_astore_n (lv' := [(1, .ref n0), (0, .ref b)]) C.1 C.2.1 dL_law_7 rfl hl (by decide) rfl (fun ls hl => ?_)
  clear h7 o9
  obtain ⟨m0, hm0⟩ : ∃ n, n = H1.size := ⟨_, rfl⟩
  have hnm : n0 + 741 ≤ m0 := by
    have h1 := (hD.1 24 0 rfl (by decide)).lt
    have h2 : n0 + 740 < H1.size := h1
    rw [hm0]; exact h2
  refine Y_newO (fs := [.null, .null, .null, .null, .null, .null, .int 0, .int 0, .int 0, .null, .int 0, .int 0, .int 0, .int 0, .int 0, .int 0, .int 0, .int 0, .int 0, .int 0, .null, .null, .int 0]) C hm0.symm cf_8 tw_6_104 tw_6_105 tw_1_10 y_df8 (Nat.le_of_ble_eq_true rfl) (Nat.le_of_ble_eq_true rfl) dL_law_8 (fun H2 z2 o2 h8 => ?_)
  have hsm : s.heap.size ≤ m0 := by rw [hm0]; exact S1.1
  have S2 : va_S (fun q => s.heap.size ≤ q) s.heap H2 locs1 := ⟨by rw [z2]; exact Nat.le_succ_of_le hsm, fun q h1 h2 => (o2 q (Nat.lt_of_lt_of_le h1 hsm)).trans (S1.2.1 q h1 h2), S1.2.2⟩
  have hb2 : ∀ q, q < G.2.2.1.size → H2[q]? = G.2.2.1[q]? := fun q hq => (o2 q (Nat.lt_of_lt_of_le hq (by rw [hGs]; exact Nat.le_trans (Nat.le_add_right _ _) hnm))).trans (hD.2.2.2.2 q hq)
  refine lv_dup C.1 C.2.1 dL_law_11 rfl ?_
  refine Y_ctor C K S2 hsm (m_X8_init l G m0 ρa ρb hc hd) kv_X8_init tw_6_106 z2 h8 (by rw [hGs]; exact Nat.le_trans (Nat.le_add_right _ _) hnm) hb2 ⟨(Nat.le_of_ble_eq_true rfl), (Nat.le_of_ble_eq_true rfl)⟩ (Nat.le_of_ble_eq_true rfl) hl.1 ⟨(Nat.le_of_ble_eq_true rfl), (Nat.le_of_ble_eq_true rfl)⟩ dL_law_12 (fun H3 locs3 hD3 hz3 ok3 S3 => ?_)
  refine lv_astore_n (lv' := [(2, .ref m0), (1, .ref n0), (0, .ref b)]) C.1 C.2.1 dL_law_15 rfl hl (by decide) rfl (fun ls hl => ?_)
  obtain ⟨aL, haL⟩ : ∃ n, n = H3.size := ⟨_, rfl⟩
  have hma : m0 + 10 ≤ aL := by
    have h1 := (hD3.1 38 0 rfl (by decide)).lt
    have h2 : m0 + 9 < H3.size := h1
    rw [haL]; exact h2
  have hW3 : z_W 0 G (Y_X n0) σb H3 := Y_W_keep hD (by have h9 := hz3; rw [z2] at h9; rw [← hm0]; exact Nat.le_trans (Nat.le_succ _) h9) hD3.2.2.2.2 (fun k o h1 h2 => by
    have h5 := (hD.1 k o h1 h2).lt
    have h6 : Y_X n0 k o < m0 := by rw [hm0]; exact h5
    exact (ok3 _ h6).trans (o2 _ h6))
  refine lv_iconst (v := 1) C.1 C.2.1 dL_law_16 (by decide) ?_
  refine Y_newL C haL.symm (Nat.le_of_ble_eq_true rfl) (Nat.le_of_ble_eq_true rfl) dL_law_17 (fun cL H4 z4 o4 hAL hOL => ?_)
  refine lv_astore_n (lv' := [(3, .ref aL), (2, .ref m0), (1, .ref n0), (0, .ref b)]) C.1 C.2.1 dL_law_19 rfl hl (by decide) rfl (fun ls hl => ?_)
  refine lv_iconst (v := 1) C.1 C.2.1 dL_law_20 (by decide) ?_
  refine Y_newD C z4 (Nat.le_of_ble_eq_true rfl) (Nat.le_of_ble_eq_true rfl) dL_law_21 (fun cD H5 z5 o5 hAD hOD => ?_)
  refine lv_astore (lv' := [(4, .ref (aL + 1)), (3, .ref aL), (2, .ref m0), (1, .ref n0), (0, .ref b)]) C.1 C.2.1 dL_law_23 hl (by decide) rfl (fun ls hl => ?_)
  refine lv_iconst (v := 0) C.1 C.2.1 dL_law_25 (by decide) ?_
  refine lv_istore (lv' := [(5, .int 0), (4, .ref (aL + 1)), (3, .ref aL), (2, .ref m0), (1, .ref n0), (0, .ref b)]) C.1 C.2.1 dL_law_26 hl (by decide) rfl (fun ls hl => ?_)
  have hsa : s.heap.size ≤ aL := by rw [haL]; exact S3.1
  have F : Y_F G s n0 m0 aL (aL + 1) cL cD := ⟨by rw [hG]; exact Nat.le_refl _, by rw [hn0]; exact Nat.le_refl _, hnm, hma, Nat.lt_succ_self _, hAL, hAD⟩
  have h45 : ∀ q : Nat, q < aL → H5[q]? = H3[q]? := fun q hq => (o5 q (Nat.lt_succ_of_lt hq)).trans (o4 q hq)
  have hbig : ∀ q, q < G.2.2.1.size → H5[q]? = G.2.2.1[q]? := fun q hq => (h45 q (Nat.lt_of_lt_of_le hq (by rw [hG]; exact hsa))).trans (hD3.2.2.2.2 q hq)
  have hz35 : H3.size ≤ H5.size := by rw [z5, ← haL]; exact Nat.le_succ_of_le (Nat.le_succ _)
  have S5 : Y_S G s n0 m0 aL (aL + 1) cL cD σb ρb 0 0 H5 locs3 := ⟨Y_W_keep hW3 hz35 hbig (fun k o h1 h2 => h45 _ (by rw [haL]; exact (hW3.1 k o h1 h2).lt)), Y_W_keep hD3 hz35 hbig (fun k o h1 h2 => h45 _ (by rw [haL]; exact (hD3.1 k o h1 h2).lt)), hOL.kept (o5 aL (Nat.lt_succ_self _)), hOD, ⟨by rw [z5]; exact Nat.le_succ_of_le (Nat.le_succ_of_le hsa), fun q h1 h2 => (h45 q (Nat.lt_of_lt_of_le h1 hsa)).trans (S3.2.1 q h1 h2), S3.2.2⟩⟩
  refine w_law_loop (Rel := Rel) hst C F x7 x8 hL hE hup (fun σ ρ v w H locs ls cells slots iv hc9 hs9 S hl => ?_) 600 0 rfl 0 rfl (Nat.zero_le _) σb ρb 0 0 H5 locs3 ls hR S5 (lv_sub hl [5, 4, 3, 2, 1, 0] rfl)
  refine lv_iconst (v := 1) C.1 C.2.1 dL_law_3156 (by decide) ?_
  refine va_forget S.2.2.2.2.2.2 (W.widen hc9 hs9 ?_)
  exact lw_ret (Drawn.sameBut.refl s.drawn lw_cs) x1 x2 x3 x9 dL_law_3157
