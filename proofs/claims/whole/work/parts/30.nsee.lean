/-! NoSuchElementException, whose constructor links its superclass's at another constant: the throw, its words -/
abbrev z_n4 : String := "java/util/NoSuchElementException"
def z_n4chain : List Cond := Bundle.passSAtoms z_n4 "java/lang/RuntimeException" 13 prog_28_method_4_code ++ Bundle.chainSAtoms "java/lang/RuntimeException" ["java/lang/Exception"]
def z_n4tail (own : String) (ic : Nat) : List Cond := [.methodLink own ic (Bundle.initS z_n4), .castable z_n4 z_n4, .instantiable z_n4 6,
  .lays z_n4 Bundle.tN "cause" "Ljava/lang/Throwable;", .lays z_n4 Bundle.tN "stackTrace" Bundle.steD, .lays z_n4 Bundle.tN "suppressedExceptions" Bundle.listD, .lays z_n4 Bundle.tN "detailMessage" "Ljava/lang/String;", .lays z_n4 Bundle.tN "backtrace" "Ljava/lang/Object;",
  .selects z_n4 Bundle.tFill0 Bundle.tFill0, .selects z_n4 Bundle.tFill Bundle.tFill, .fieldLink Bundle.tN 198 Bundle.tN "backtrace" "Ljava/lang/Object;", .lays Bundle.tN Bundle.tN "backtrace" "Ljava/lang/Object;",
  .isRef (.static Bundle.tN "UNASSIGNED_STACK" Bundle.steD), .isRef (.static Bundle.tN "SUPPRESSED_SENTINEL" Bundle.listD)]
def z_n4all (own : String) (ic : Nat) : List Cond := Bundle.throwableAtoms ++ (Bundle.throwableSAtoms ++ (z_n4chain ++ z_n4tail own ic))
theorem z_n4chainS {args : Array Value} {s : State} {pl : Platform} (hpl : pl.magicAccessors = ({} : Platform).magicAccessors) {top : MethodId} (htop : s.methodNamed? (Bundle.initS Bundle.tN) = some top) (h : ∀ w ∈ z_n4chain, w.before args s = true) :
    ∃ (P1 : PassC) (Ps : List PassC), Ps.length = 2 ∧ P1.LinksS pl s ∧ (∀ P, P ∈ Ps → P.LinksS pl s) ∧ s.methodNamed? (Bundle.initS z_n4) = some P1.m ∧
        P1.sup = firstOf top (Ps.map (·.toPassT)) ∧ PassesOn top (Ps.map (·.toPassT)) := by
  obtain ⟨P, L, hm, hs⟩ := PassC.ofS_atoms (args := args) (s := s) hpl (X := z_n4) (Y := "java/lang/RuntimeException") (index := 13) (bytes := prog_28_method_4_code) (by decide +kernel) ⟨by decide +kernel, by decide +kernel⟩ (by decide +kernel) (by decide +kernel) (by decide +kernel) (by decide +kernel)
    (fun w hw => h w (by rw [z_n4chain]; exact List.mem_append_left _ hw))
  obtain ⟨P', Ps, hlen, L', hL, hm', hsup, hpass⟩ := Bundle.chainS (args := args) hpl htop ["java/lang/Exception"] "java/lang/RuntimeException" (by decide +kernel) (by decide +kernel) (fun w hw => h w (by rw [z_n4chain]; exact List.mem_append_right _ hw))
  refine ⟨P, P' :: Ps, congrArg (· + 1) hlen, L, fun Q hQ => ?_, hm, Option.some.inj (hs.symm.trans hm'), hsup, hpass⟩
  rcases List.mem_cons.mp hQ with rfl | hQ
  · exact L'
  · exact hL Q hQ
section ZN
variable {p : Program} {l : Launch} {e : Env} {R : Room} {s : State} {m : MethodId} {args : Array Value} {below : List Frame} {meth : Method} {c : Code} {H : Heap} {locs : List Loc} {cells slots : Nat} {free : Nat → Prop}
set_option maxHeartbeats 2000000 in
/-- the constructor's call and the throw behind it: what leaves is an object of the class -/
theorem z_n4ctor {W : State} (X : Stand p l e R s m args below meth c W locs cells slots) (hexec : p.tables.exec = Jvm.exec) (htr : e.platform.stackTraces = false) {own : String} {ic : Nat} (hown : s.vm.findClass own = some m.cls) (h : ∀ w ∈ z_n4all own ic, w.before args s = true)
    (hlocs : ∀ x ∈ locs, ∀ cell, s.heap[x.base]? = some cell → cell.vm.isStatics = false) {a : Addr} {cX : ClassId} {kX : Class} (hfoundX : s.vm.findClass z_n4 = some cX) (hkX : s.vm.classes[cX]? = some kX) (hcell : W.heap[a]? = some (freshCell cX kX)) (hnew : s.heap.size ≤ a)
    {msg : Value} (hmsg : msg.isRef = true) {g : JFrame} (hg : g.method = m) (hsize : g.locals.size = c.maxLocals) (hlocked : g.locked = none) (hentered : g.entered = []) {rest : List Value} (hstack : g.stack = msg :: .ref a :: .ref a :: rest)
    (hd6 : decode c.code g.pc = .ok (.invokespecial ic, 3)) (hd9 : decode c.code (g.pc + 3) = .ok (.athrow, 1)) (hout : ∀ x ∈ c.exceptionTable.toList, covers x (g.pc + 3) = false)
    (hRframes : 5 < R.frames) (hRlocals : 2 * g.monitorRoom + ((Value.ref a :: rest).map fun v => v.category).sum + 81 ≤ R.locals) (hlocks : meth.locks = false) :
    ∃ U : State, Steps p.tables e below (W.setTop g) U ∧ U.status = .running ∧ Ended U below (.threw a) ∧ s.WarmedH U.vm ∧ s.sameButNew ({ U with vm := s.vm } : State) locs cells slots ∧ ∃ ce, U.heap[a]? = some ce ∧ s.vm.findClass z_n4 = some ce.cls ∧ ce.vm = .none := by
  have howns : e.platform.frameOwnsMonitors = true := by rw [X.admits.platform]
  have hfin : e.platform.finalization = false := by rw [X.admits.platform]
  have hpl : e.platform.magicAccessors = ({} : Platform).magicAccessors := by rw [X.admits.platform]
  have w1 : ∀ x ∈ Bundle.throwableAtoms, x.before args s = true := fun x hx => h x (List.mem_append_left _ hx)
  have w2 : ∀ x ∈ Bundle.throwableSAtoms, x.before args s = true := fun x hx => h x (List.mem_append_right _ (List.mem_append_left _ hx))
  have w3 : ∀ x ∈ z_n4chain, x.before args s = true := fun x hx => h x (List.mem_append_right _ (List.mem_append_right _ (List.mem_append_left _ hx)))
  have w4 : ∀ x ∈ z_n4tail own ic, x.holds args s none s [] = true := fun x hx => h x (List.mem_append_right _ (List.mem_append_right _ (List.mem_append_right _ hx)))
  obtain ⟨T, Z0, L, -, Y⟩ := ThrowableC.of_atoms (args := args) howns hfin hpl w1
  obtain ⟨Z, M, LZ, LM, hnZ⟩ := Init0T.ofS_atoms (args := args) hpl L Y w2
  obtain ⟨P1, Ps, hlen, L1, hL, hP1m, hlink1, hlink⟩ := z_n4chainS (args := args) hpl hnZ w3
  have hfound : s.vm.findClass z_n4 = some P1.m.cls := findClass_of_methodNamed hP1m
  cases Option.some.inj (hfoundX.symm.trans hfound)
  obtain ⟨c1, kX', hc1, hk, hord, -, -, -⟩ := Cond.instantiable_spec (w4 (.instantiable z_n4 6) (by simp [z_n4tail]))
  cases Option.some.inj (hc1.symm.trans hfound)
  cases Option.some.inj (hkX.symm.trans hk)
  have hsel0 : selectMethod e.platform s.vm P1.m.cls T.fill0 = .method T.fill0 := by
    obtain ⟨c2, r2, m2, q1, q2, q3, q4, -⟩ := Cond.selects_spec (w4 (.selects z_n4 Bundle.tFill0 Bundle.tFill0) (by simp [z_n4tail]))
    cases Option.some.inj (q1.symm.trans hfound)
    cases Option.some.inj (q2.symm.trans (State.methodFound?_of_named Y.fill0 (by decide)))
    cases Option.some.inj (q3.symm.trans Y.fill0)
    rw [Launch.admits_selectMethod X.admits]; exact q4
  have hselF : selectMethod e.platform s.vm P1.m.cls T.fill = .method T.fill := by
    obtain ⟨c2, r2, m2, q1, q2, q3, q4, -⟩ := Cond.selects_spec (w4 (.selects z_n4 Bundle.tFill Bundle.tFill) (by simp [z_n4tail]))
    cases Option.some.inj (q1.symm.trans hfound)
    cases Option.some.inj (q2.symm.trans (State.methodFound?_of_named Y.fill (by decide)))
    cases Option.some.inj (q3.symm.trans Y.fill)
    rw [Launch.admits_selectMethod X.admits]; exact q4
  obtain ⟨cellS0, hcS0, hiss⟩ := Y.statics
  obtain ⟨u0, hu0⟩ := Cond.staticRefV Y.unassigned L.unassignedStatic L.statics hcS0 hiss (w4 (.isRef (.static Bundle.tN "UNASSIGNED_STACK" Bundle.steD)) (by simp [z_n4tail]))
  obtain ⟨sen, hsen⟩ := Cond.staticRefV Y.sentinel L.sentinelStatic L.statics hcS0 hiss (w4 (.isRef (.static Bundle.tN "SUPPRESSED_SENTINEL" Bundle.listD)) (by simp [z_n4tail]))
  obtain ⟨ci198, i198, fB, hk198, hg198, ha198, hsB, -, hnB, htB, hffB⟩ := Cond.ownField (t := .object "java/lang/Object") Y.found L.cls (by decide +kernel) (w4 (.fieldLink Bundle.tN 198 Bundle.tN "backtrace" "Ljava/lang/Object;") (by simp [z_n4tail])) (w4 (.lays Bundle.tN Bundle.tN "backtrace" "Ljava/lang/Object;") (by simp [z_n4tail])) e.platform hpl
  obtain ⟨cellS, hcS', heS, -, hkeep⟩ := X.same.2.2.2.2.2 T.aS cellS0 hcS0
  have hcellS : W.heap[T.aS]? = some cellS := hcS'
  have hout' : ∀ i, (⟨T.aS, i⟩ : Loc) ∉ locs := fun i hmem => by
    have := hlocs _ hmem cellS0 hcS0
    rw [hiss] at this; cases this
  have hknownS : cellS.vm ≠ .unknown := by
    rw [heS]; intro hu
    rw [show cellS0.vm = .unknown from hu] at hiss
    cases hiss
  have hneS : T.aS ≠ a := Nat.ne_of_lt (Nat.lt_of_lt_of_le (Array.getElem?_eq_some_iff.mp hcS0).1 hnew)
  obtain ⟨iM, hffM⟩ := Y.msg
  obtain ⟨tyC, dC, hdC, hdnC⟩ := Cond.laysAt hfound hk Y.cause (w4 (.lays z_n4 Bundle.tN "cause" "Ljava/lang/Throwable;") (by simp [z_n4tail]))
  obtain ⟨tyS, dS, hdS, hdnS⟩ := Cond.laysAt hfound hk Y.stack (w4 (.lays z_n4 Bundle.tN "stackTrace" Bundle.steD) (by simp [z_n4tail]))
  obtain ⟨tyP, dP, hdP, hdnP⟩ := Cond.laysAt hfound hk Y.supp (w4 (.lays z_n4 Bundle.tN "suppressedExceptions" Bundle.listD) (by simp [z_n4tail]))
  obtain ⟨tyM, dM, hdM, hdnM⟩ := Cond.laysAt hfound hk hffM (w4 (.lays z_n4 Bundle.tN "detailMessage" "Ljava/lang/String;") (by simp [z_n4tail]))
  obtain ⟨tyB, dB, hdB, hdnB⟩ := Cond.laysAt hfound hk hffB (w4 (.lays z_n4 Bundle.tN "backtrace" "Ljava/lang/Object;") (by simp [z_n4tail]))
  have bC := Cond.laysApart hdB hdC hdnB hdnC (by rw [hnB, Y.causeName]; decide)
  have bS := Cond.laysApart hdB hdS hdnB hdnS (by rw [hnB, Y.stackName]; decide)
  have bP := Cond.laysApart hdB hdP hdnB hdnP (by rw [hnB, Y.suppName]; decide)
  have hskip : SkipFacts T e.platform s (fun u => u) u0 ((preparedCellV T.toThrowableT (freshCell P1.m.cls kX) a u0 sen).withEntry W.cur) :=
    ⟨{ ci198 := ci198, i198 := i198, fBack := fB }, ⟨hk198, hg198, ha198, hsB⟩, by
      have := fresh_default (c := P1.m.cls) tyB
      rw [htB] at this
      simpa [preparedCellV, Cell.setSlot, Cell.withEntry, Array.getElem?_setIfInBounds, bC, bS, bP, bC.symm, bS.symm, bP.symm, defaultValue] using this, fun _ _ => rfl⟩
  obtain ⟨tm, methC, cdC, kC, vm₁, hnC, -, -, -, -, -, -, -, hW₁, st1⟩ := Steps.initColdS (tb := p.tables) (e := e) (below := below) (s := s) (U := W) X.here hexec X.warmed hpl hown (t := Bundle.initS z_n4) rfl rfl ⟨by decide +kernel, by decide +kernel⟩
    (w4 (.methodLink own ic (Bundle.initS z_n4)) (by simp [z_n4tail])) (w3 (.instanceMethod (Bundle.initS z_n4)) (by simp [z_n4chain, Bundle.passSAtoms])) (bytes := prog_28_method_4_code) (maxL := 2) (w3 (.code (Bundle.initS z_n4) prog_28_method_4_code 2 none) (by simp [z_n4chain, Bundle.passSAtoms]))
    (f := g) hg (a := a) (msg := msg) (rest := .ref a :: rest) hstack hd6
  cases Option.some.inj (hnC.symm.trans hP1m)
  have X₁ := X.noted hW₁
  obtain ⟨vm₂, X₂, st2⟩ := X₁.ctorMessageOffV hexec (g := { g with stack := .ref a :: rest }) hg hsize T L Z LZ M LM (P1 :: Ps)
    (fun P hP => by rcases List.mem_cons.mp hP with rfl | hP; exact L1; exact hL P hP) ⟨hlink1, hlink⟩ (u0 := u0) (sen := sen) (self := a) hmsg (cell := freshCell P1.m.cls kX) (cellS := cellS)
    hcell (fun _ => by simp) (by simp) rfl rfl hsel0 hselF hcellS hneS hknownS (by rw [hkeep _ (hout' _)]; exact hu0) (by rw [hkeep _ (hout' _)]; exact hsen)
    (Takes.of_laid hk hord tyC (by rw [Y.causeType]; rfl)) (Takes.of_laid hk hord tyS (by rw [Y.stackType]; exact fits_refV_array _ u0)) (Takes.of_laid hk hord tyP (by rw [Y.suppType]; exact fits_refV_object _ sen))
    (Takes.of_laid hk hord tyM (by rw [Y.msgType]; exact fits_refV_object _ ⟨msg, hmsg⟩)) Y.objLocals hskip htr [] hd6
    (by simp only [List.length_cons, hlen]; omega) (by simp only [List.length_cons, hlen]; exact hRlocals)
  obtain ⟨hwalk, hrun, hended, hWU, hsame⟩ := X₂.athrowLeaves hexec (g := { g with stack := .ref a :: rest, pc := g.pc + 3 }) hg hlocked hentered hout (a := a) (rest := rest) rfl hd9
  have hlt : a < ((W.setVm vm₁).setVm vm₂).heap.size := (Array.getElem?_eq_some_iff.mp hcell).1
  have hU := heapAt_setCell_self (s := (W.setVm vm₁).setVm vm₂) (plainBareV T.toThrowableT (freshCell P1.m.cls kX) a u0 sen msg) hlt
  refine ⟨_, st1 _ (fun acts => ?_), hrun, hended, hWU, hsame.weaken (fun y hy hlt' => ?_) (Nat.le_refl _) (Nat.le_refl _), _, hU, hfound, rfl⟩
  · rw [doInvoke_state]
    exact st2 _ hwalk
  · rcases List.mem_append.mp hy with h1 | h1
    · exact h1
    · exfalso
      have hb : y.base = a := by
        simp only [List.mem_cons, List.not_mem_nil, or_false] at h1
        rcases h1 with rfl | rfl | rfl | rfl | rfl <;> rfl
      rw [hb] at hlt'
      exact Nat.not_lt.mpr hnew hlt'
end ZN
theorem z_n4g : ∀ w ∈ (((z_n4all "BusLifts" 254).filter vx_no).filter goodWord), w ∈ TT := by
  have h : ∀ w ∈ (((z_n4all "BusLifts" 254).filter vx_no).filter goodWord), w ∈ lw_tbl := by decide +kernel
  exact fun w hw => tt_in (h w hw) (List.mem_filter.mp hw).2
theorem z_n4n : ∀ w ∈ ((z_n4all "BusLifts" 254).filter vx_no).filter (fun w => !goodWord w), w ∈ z_nest := by decide +kernel
theorem z_n4o : ∀ w ∈ Cond.classLink "BusLifts" 250 z_n4 :: Cond.initialized z_n4 :: (z_n4all "BusLifts" 254).filter vx_no, vx_ot w = true := by decide +kernel
section ZN2
variable {p : Program} {l : Launch} {e : Env} {R : Room} {s : State} {m : MethodId} {args : Array Value} {below : List Frame} {meth : Method} {c : Code} {H : Heap} {locs : List Loc} {cells slots mc ms : Nat}
variable {cc : ByteArray} {pc : Nat} {ls : Array Slot} {rest : List Value} {nL : Nat} {ret : Option FieldType} {G : Gx} {b : Nat} {ad : Ad} {σ : Sg} {res : Xr}
set_option maxHeartbeats 2000000 in
theorem z_n4throw {Qc : Array Value → State → Outcome → State → Prop} (C : Cx p s m args meth c RX7 cc nL ret G) (Z : Cz l s c G) (S : z_S b G ad σ (z_A b ad s.heap.size) s.heap H locs) (hls : ls.size = nL)
    (d0 : decode cc pc = .ok (.new 250, 3)) (d3 : decode cc (pc + 3) = .ok (.dup, 1)) (d4 : decode cc (pc + 4) = .ok (.ldc 252, 2)) (d6 : decode cc (pc + 6) = .ok (.invokespecial 254, 3)) (d9 : decode cc (pc + 9) = .ok (.athrow, 1))
    (hRf : 5 < R.frames) (hRl : (rest.map fun v => v.category).sum + 82 ≤ R.locals) (hRc : cells + 1 ≤ R.cells) (hRs : slots + 6 ≤ R.slots) (hc : cells + 1 ≤ mc) (hs : slots + 6 ≤ ms) (hf : (some (4, 0, σ) : Option Xr) = some res) :
    W p l e R s m args below meth c H locs cells slots (vx_MQ below Qc (z_XC b G ad s.heap.size res) args s mc ms (z_A b ad s.heap.size)) (F0 m pc ls rest) := by
  cases hf
  obtain ⟨hexec, hb, x3, hown, x5, x6, hlocks, x8⟩ := C
  have hnest : ∀ w ∈ z_nest, w.before args s = true := fun w hw => by
    have h9 := x6.2.2.2.2.1 w hw
    have ho : w.onTables = true := by
      simp only [z_nest, List.mem_cons, List.not_mem_nil, or_false] at hw
      rcases hw with rfl | rfl | rfl | rfl | rfl | rfl | rfl | rfl | rfl | rfl | rfl | rfl | rfl | rfl | rfl | rfl | rfl | rfl | rfl <;> rfl
    exact va_Nw.use ho h9
  have hat : ∀ w ∈ (z_n4all RX7 254).filter vx_no, w.before args s = true := vx_hat (fun w hw => x5 w (z_n4g w hw)) z_n4n hnest
  have hk : (Cond.classLink RX7 250 z_n4).before args s = true := x5 _ tw_4_161
  have hini : (Cond.initialized z_n4).before args s = true := x5 _ tw_1_22
  have hstr : vk_R RX7 252 "no such index" (G.2.2.2 33) s := x6.2.2.2.1 (RX7, 252, "no such index", 33) (by decide +kernel)
  have hU := z_xZq x6.2.2.2.2.2.1 S Z
  have hN := z_xZq x6.2.2.2.2.2.2.1 S Z
  have hS := S.2.1
  have hsize : ls.size = c.maxLocals := hls.trans x3.symm
  intro T hT X
  have htr : e.platform.stackTraces = false := (show e.platform.stackTraces = l.stackTraces by rw [X.admits.platform]).trans Z.1
  have Y := vx_rebase X (R' := { frames := R.frames, locals := R.locals, cells := 1, slots := 6 }) (Nat.le_refl _) (Nat.le_refl _) hRc hRs
  obtain ⟨s', hA⟩ : ∃ z, z = (T.setVm s.vm).setFrames (.invoking m args :: below) := ⟨_, rfl⟩
  rw [← hA] at Y
  have hvm : s'.vm = s.vm := by rw [hA]; rfl
  have hhp : s'.heap = H := by rw [hA]; exact hT
  have hW0 : s.WarmedH s'.vm := by rw [hvm]; exact State.WarmedH.refl s
  have hat' : ∀ w ∈ (z_n4all RX7 254).filter vx_no, w.before args s' = true := fun w hw => vx_ot_at hW0 hvm.symm (z_n4o w (List.mem_cons_of_mem _ (List.mem_cons_of_mem _ hw))) (hat w hw)
  have hk' : (Cond.classLink RX7 250 z_n4).before args s' = true := vx_ot_at hW0 hvm.symm (z_n4o _ List.mem_cons_self) hk
  have hini' : (Cond.initialized z_n4).before args s' = true := vx_ot_at hW0 hvm.symm (z_n4o _ (List.mem_cons_of_mem _ List.mem_cons_self)) hini
  have hU' : vx_Zq Bundle.tN "UNASSIGNED_STACK" Bundle.steD (z_A b ad s.heap.size) s' s'.heap := by rw [hhp]; exact vx_Zq.moved hW0.alike (hU.kept hS.2.1)
  have hN' : vx_Zq Bundle.tN "SUPPRESSED_SENTINEL" Bundle.listD (z_A b ad s.heap.size) s' s'.heap := by rw [hhp]; exact vx_Zq.moved hW0.alike (hN.kept hS.2.1)
  have h : ∀ w ∈ z_n4all RX7 254, w.before args s' = true := vx_own hat' (vx_isRefq hU'.1) (vx_isRefq hN'.1) hU'.2.word hN'.2.word
  have hown' : s'.vm.findClass RX7 = some m.cls := by rw [hvm]; exact hown
  have hins : (Cond.instantiable z_n4 6).before args s' = true := h _ (List.mem_append_right _ (List.mem_append_right _ (List.mem_append_right _ (by simp [z_n4tail]))))
  obtain ⟨vm₁, cX, kX, hfX, hkX, -, -, X₁, st1⟩ := Y.newCold hexec (own := RX7) (C := z_n4) (index := 250) (n := 6) hown' hk' hins hini' (g := F0 m pc ls rest) rfl (by rw [hb]; exact d0) (Nat.le_refl _) (Nat.le_refl _)
  generalize hT1 : (T.setVm vm₁).pushCell { cls := cX, slots := kX.instanceTypes.map defaultValue, vm := .none } = T1 at X₁ st1
  have hcat : (Value.ref T.heap.size).category = 1 := rfl
  have hcellA : T1.heap[T.heap.size]? = some (freshCell cX kX) := by rw [← hT1]; exact State.heap_pushCell_size _ _
  have d3' : decode c.code (pc + 3) = .ok (.dup, 1) := by rw [hb]; exact d3
  have d4' : decode c.code (pc + 4) = .ok (.ldc 252, 2) := by rw [hb]; exact d4
  have hstr' : vk_R RX7 252 "no such index" (G.2.2.2 33) s' := vk_R.warm hW0 hstr
  obtain ⟨U, hsteps, hrun, hend, hW, hsame, ce, hce, hcls9, hvm9⟩ := z_n4ctor X₁ hexec htr (own := RX7) (ic := 254) hown' h (fun x hx => nomatch hx) hfX hkX hcellA (by rw [hhp, hT]; exact Nat.le_refl _) (msg := .ref (G.2.2.2 33)) rfl
    (g := { method := m, pc := pc + 6, locals := ls, stack := .ref (G.2.2.2 33) :: .ref T.heap.size :: .ref T.heap.size :: rest, locked := none }) rfl hsize rfl rfl (rest := rest) rfl
    (by rw [hb]; exact d6) (by rw [hb]; exact d9) (fun x hx => (Z.2.1 x hx).elim) hRf (by simp only [List.map_cons, List.sum_cons, hcat]; show 2 * 0 + _ + 81 ≤ _; omega) hlocks
  obtain ⟨f1, f2⟩ := vx_frame hsame
  rw [hhp] at f1 f2
  have hWs : s.WarmedH U.vm := State.WarmedH.trans hW0 hW
  have hcl : s.vm.findClass z_n4 = some ce.cls := by rw [← hvm]; exact hcls9
  have hall : s.sameButNew ({ U with vm := s.vm } : State) locs mc ms := by
    subst hA
    obtain ⟨e1, e2⟩ := hsame
    rw [State.setFrames_setFrames] at e1
    have h2 : (T.setVm s.vm).sameButNew ({ U with vm := s.vm } : State) [] (0 + 1) (0 + 6) := ⟨e1, e2⟩
    have h3 := X.same.trans h2
    rw [List.append_nil] at h3
    exact h3.mono hc hs
  have hq : ∀ q : Nat, q < H.size → U.heap[q]? = H[q]? := fun q hq => f2 q hq (fun z hz => nomatch hz)
  have hXC : z_XC b G ad s.heap.size (4, 0, σ) z_n4 s U := ⟨(), (show (4:Nat) ≠ 0 by decide), ⟨rfl, S.1.grow f1 hq⟩, Nat.le_trans S.2.1.1 f1, fun q h1 h2 => by rw [hq q (Nat.lt_of_lt_of_le h1 S.2.1.1)]; exact S.2.1.2.1 q h1 h2⟩
  refine ⟨U, ?_, .threw T.heap.size, hrun, hend, Or.inr ⟨T.heap.size, rfl, z_n4, ce, locs, hXC, hce, hvm9, hcl, hWs, hall, S.2.1.2.2⟩⟩
  refine st1 _ ?_
  show Steps p.tables e below (T1.setTop { method := m, pc := pc + 3, locals := ls, stack := .ref T.heap.size :: rest, locked := none }) _
  jvm_step X₁.here [X₁.here.top, hexec, d3', Value.category]
  exact X₁.ldcString hexec (own := RX7) (text := "no such index") (index := 252) (a := G.2.2.2 33) hown' hstr'.1 hstr'.2
    (g := { method := m, pc := pc + 4, locals := ls, stack := .ref T.heap.size :: .ref T.heap.size :: rest, locked := none }) rfl d4' _ hsteps
end ZN2
theorem dX7_held_0 : decode cX7_held 0 = .ok (.aload_n 0, 1) := by decide +kernel
theorem dX7_held_1 : decode cX7_held 1 = .ok (.iload_n 1, 1) := by decide +kernel
theorem dX7_held_2 : decode cX7_held 2 = .ok (.invokevirtual 144, 3) := by decide +kernel
theorem dX7_held_5 : decode cX7_held 5 = .ok (.iload_n 2, 1) := by decide +kernel
theorem dX7_held_6 : decode cX7_held 6 = .ok (.istore_n 3, 1) := by decide +kernel
theorem dX7_held_7 : decode cX7_held 7 = .ok (.iconst 0, 1) := by decide +kernel
theorem dX7_held_8 : decode cX7_held 8 = .ok (.istore 4, 2) := by decide +kernel
theorem dX7_held_10 : decode cX7_held 10 = .ok (.iload 4, 2) := by decide +kernel
theorem dX7_held_12 : decode cX7_held 12 = .ok (.aload_n 0, 1) := by decide +kernel
theorem dX7_held_13 : decode cX7_held 13 = .ok (.getfield 26, 3) := by decide +kernel
theorem dX7_held_16 : decode cX7_held 16 = .ok (.getfield 97, 3) := by decide +kernel
theorem dX7_held_19 : decode cX7_held 19 = .ok (.if_icmp .ge 36, 3) := by decide +kernel
theorem dX7_held_22 : decode cX7_held 22 = .ok (.aload_n 0, 1) := by decide +kernel
theorem dX7_held_23 : decode cX7_held 23 = .ok (.getfield 26, 3) := by decide +kernel
theorem dX7_held_26 : decode cX7_held 26 = .ok (.getfield 147, 3) := by decide +kernel
theorem dX7_held_29 : decode cX7_held 29 = .ok (.iload_n 1, 1) := by decide +kernel
theorem dX7_held_30 : decode cX7_held 30 = .ok (.aaload, 1) := by decide +kernel
theorem dX7_held_31 : decode cX7_held 31 = .ok (.iload 4, 2) := by decide +kernel
theorem dX7_held_33 : decode cX7_held 33 = .ok (.invokevirtual 233, 3) := by decide +kernel
theorem dX7_held_36 : decode cX7_held 36 = .ok (.ifCond .eq 13, 3) := by decide +kernel
theorem dX7_held_39 : decode cX7_held 39 = .ok (.iload_n 3, 1) := by decide +kernel
theorem dX7_held_40 : decode cX7_held 40 = .ok (.ifCond .ne 6, 3) := by decide +kernel
theorem dX7_held_43 : decode cX7_held 43 = .ok (.iload 4, 2) := by decide +kernel
theorem dX7_held_45 : decode cX7_held 45 = .ok (.ireturn, 1) := by decide +kernel
theorem dX7_held_46 : decode cX7_held 46 = .ok (.iinc 3 (-1), 3) := by decide +kernel
theorem dX7_held_49 : decode cX7_held 49 = .ok (.iinc 4 1, 3) := by decide +kernel
theorem dX7_held_52 : decode cX7_held 52 = .ok (.goto (-42), 3) := by decide +kernel
theorem dX7_held_55 : decode cX7_held 55 = .ok (.new 250, 3) := by decide +kernel
theorem dX7_held_58 : decode cX7_held 58 = .ok (.dup, 1) := by decide +kernel
theorem dX7_held_59 : decode cX7_held 59 = .ok (.ldc 252, 2) := by decide +kernel
theorem dX7_held_61 : decode cX7_held 61 = .ok (.invokespecial 254, 3) := by decide +kernel
theorem dX7_held_64 : decode cX7_held 64 = .ok (.athrow, 1) := by decide +kernel
/-! BusLifts.held(II)I -/
noncomputable def f_X7_held_55  (σ : Sg)  : Option Xr := some (4, 0, σ)
noncomputable def f_X7_held_49 (k10 : Sg → Int32 → Int32 → Int32 → Option Xr) (σ : Sg) (v1 : Int32) (v3 : Int32) (v4 : Int32) : Option Xr := k10 σ v1 v3 (v4 + 1)
noncomputable def f_X7_held_43  (σ : Sg) (v4 : Int32) : Option Xr := some (0, v4, σ)
noncomputable def f_X7_held_10  : Nat → Sg → Int32 → Int32 → Int32 → Option Xr
  | 0, _, _, _, _ => none
  | n + 1, σ, v1, v3, v4 => if (σ 4 0 2) ≤ v4 then (f_X7_held_55 σ) else (if v1 < 0 ∨ 4 ≤ (v1).toNatClampNeg then none else (bi (f_X2_isHolding σ (4 * 0 + (v1).toNatClampNeg) v4) fun r2 σ1 => (if r2 = 0 then (f_X7_held_49 (f_X7_held_10 n) σ1 v1 v3 v4) else (if v3 = 0 then (f_X7_held_43 σ1 v4) else (f_X7_held_49 (f_X7_held_10 n) σ1 v1 (v3 + (-1)) v4)))))
theorem f_X7_held_10_s  (n : Nat) (σ : Sg) (v1 : Int32) (v3 : Int32) (v4 : Int32) : f_X7_held_10  (n + 1) σ v1 v3 v4 = (if (σ 4 0 2) ≤ v4 then (f_X7_held_55 σ) else (if v1 < 0 ∨ 4 ≤ (v1).toNatClampNeg then none else (bi (f_X2_isHolding σ (4 * 0 + (v1).toNatClampNeg) v4) fun r2 σ1 => (if r2 = 0 then (f_X7_held_49 (f_X7_held_10 n) σ1 v1 v3 v4) else (if v3 = 0 then (f_X7_held_43 σ1 v4) else (f_X7_held_49 (f_X7_held_10 n) σ1 v1 (v3 + (-1)) v4)))))) := rfl
noncomputable def f_X7_held  (σ : Sg) (v1 : Int32) (v2 : Int32) : Option Xr := bx (f_X7_checkCar σ v1) fun r2 σ1 => (f_X7_held_10 FU σ1 v1 v2 0)
set_option maxHeartbeats 4000000 in
set_option maxRecDepth 100000 in
theorem w_X7_held_55 {p : Program} {l : Launch} {e : Env} {s : State} {m : MethodId} {args : Array Value} {below : List Frame} {meth : Method} {c : Code} {G : Gx} {ad : Ad} {res : Xr} (C : Cx p s m args meth c yX7_held.cls cX7_held 5 (Option.some FieldType.int) G) (Z : Cz l s c G)  : ∀ (σ : Sg)  (H : Heap) (locs : List Loc) (ls : Array Slot), z_S 0 G ad σ (z_A 0 ad s.heap.size) s.heap H locs → lv_has ls 5 [] → f_X7_held_55  σ  = some res → W p l e { frames := 7, cells := 2, slots := 12, locals := 111 } s m args below meth c H locs 1 6 (vx_MQ below (z_QXI 0 G ad s.heap.size res) (z_XC 0 G ad s.heap.size res) args s 2 12 (z_A 0 ad s.heap.size)) (F0 m 55 ls []) := by
  intro σ  H locs ls S hl  hf
  unfold f_X7_held_55 at hf
  exact z_n4throw C Z S hl.1 dX7_held_55 dX7_held_58 dX7_held_59 dX7_held_61 dX7_held_64 (Nat.le_of_ble_eq_true rfl) (Nat.le_of_ble_eq_true rfl) (Nat.le_of_ble_eq_true rfl) (Nat.le_of_ble_eq_true rfl) (Nat.le_of_ble_eq_true rfl) (Nat.le_of_ble_eq_true rfl) hf
set_option maxHeartbeats 4000000 in
set_option maxRecDepth 100000 in
theorem w_X7_held_49 {p : Program} {l : Launch} {e : Env} {s : State} {m : MethodId} {args : Array Value} {below : List Frame} {meth : Method} {c : Code} {G : Gx} {ad : Ad} {res : Xr} (C : Cx p s m args meth c yX7_held.cls cX7_held 5 (Option.some FieldType.int) G) (Z : Cz l s c G) (k10 : Sg → Int32 → Int32 → Int32 → Option Xr) (hk10 : ∀ (σ : Sg) (v1 : Int32) (v3 : Int32) (v4 : Int32) (H : Heap) (locs : List Loc) (ls : Array Slot), z_S 0 G ad σ (z_A 0 ad s.heap.size) s.heap H locs → lv_has ls 5 [(0, .ref (ad 7 0)), (1, .int v1), (3, .int v3), (4, .int v4)] → k10 σ v1 v3 v4 = some res → W p l e { frames := 7, cells := 2, slots := 12, locals := 111 } s m args below meth c H locs 1 6 (vx_MQ below (z_QXI 0 G ad s.heap.size res) (z_XC 0 G ad s.heap.size res) args s 2 12 (z_A 0 ad s.heap.size)) (F0 m 10 ls [])) : ∀ (σ : Sg) (v1 : Int32) (v3 : Int32) (v4 : Int32) (H : Heap) (locs : List Loc) (ls : Array Slot), z_S 0 G ad σ (z_A 0 ad s.heap.size) s.heap H locs → lv_has ls 5 [(0, .ref (ad 7 0)), (1, .int v1), (3, .int v3), (4, .int v4)] → f_X7_held_49 k10 σ v1 v3 v4 = some res → W p l e { frames := 7, cells := 2, slots := 12, locals := 111 } s m args below meth c H locs 1 6 (vx_MQ below (z_QXI 0 G ad s.heap.size res) (z_XC 0 G ad s.heap.size res) args s 2 12 (z_A 0 ad s.heap.size)) (F0 m 49 ls []) := by
  intro σ v1 v3 v4 H locs ls S hl  hf
  unfold f_X7_held_49 at hf
  refine lv_iinc (v := (v4 + 1)) (lv' := [(4, .int (v4 + 1)), (0, .ref (ad 7 0)), (1, .int v1), (3, .int v3)]) C.1 C.2.1 dX7_held_49 hl (k := 3) rfl rfl (by decide) rfl (fun ls hl => ?_)
  refine lv_goto (tgt := 10) C.1 C.2.1 dX7_held_52 (by decide) ?_
  refine W.widen (k := 1) (n := 6) (Nat.le_of_ble_eq_true rfl) (Nat.le_of_ble_eq_true rfl) ?_
  exact hk10 _ v1 v3 (v4 + 1) _ _ _ S (lv_sub hl [1, 2, 3, 0] rfl)  hf
set_option maxHeartbeats 4000000 in
set_option maxRecDepth 100000 in
theorem w_X7_held_43 {p : Program} {l : Launch} {e : Env} {s : State} {m : MethodId} {args : Array Value} {below : List Frame} {meth : Method} {c : Code} {G : Gx} {ad : Ad} {res : Xr} (C : Cx p s m args meth c yX7_held.cls cX7_held 5 (Option.some FieldType.int) G) (Z : Cz l s c G)  : ∀ (σ : Sg) (v4 : Int32) (H : Heap) (locs : List Loc) (ls : Array Slot), z_S 0 G ad σ (z_A 0 ad s.heap.size) s.heap H locs → lv_has ls 5 [(4, .int v4)] → f_X7_held_43  σ v4 = some res → W p l e { frames := 7, cells := 2, slots := 12, locals := 111 } s m args below meth c H locs 1 6 (vx_MQ below (z_QXI 0 G ad s.heap.size res) (z_XC 0 G ad s.heap.size res) args s 2 12 (z_A 0 ad s.heap.size)) (F0 m 43 ls []) := by
  intro σ v4 H locs ls S hl  hf
  unfold f_X7_held_43 at hf
  refine lv_iload C.1 C.2.1 dX7_held_43 (lv_at hl 0 rfl) ?_
  exact z_xiret C S hf (Nat.le_of_ble_eq_true rfl) (Nat.le_of_ble_eq_true rfl) dX7_held_45
set_option maxHeartbeats 4000000 in
set_option maxRecDepth 100000 in
theorem w_X7_held_10 {p : Program} {l : Launch} {e : Env} {s : State} {m : MethodId} {args : Array Value} {below : List Frame} {meth : Method} {c : Code} {G : Gx} {ad : Ad} {res : Xr} (C : Cx p s m args meth c yX7_held.cls cX7_held 5 (Option.some FieldType.int) G) (Z : Cz l s c G)  : ∀ n : Nat, ∀ (σ : Sg) (v1 : Int32) (v3 : Int32) (v4 : Int32) (H : Heap) (locs : List Loc) (ls : Array Slot), z_S 0 G ad σ (z_A 0 ad s.heap.size) s.heap H locs → lv_has ls 5 [(0, .ref (ad 7 0)), (1, .int v1), (3, .int v3), (4, .int v4)] → f_X7_held_10  n σ v1 v3 v4 = some res → W p l e { frames := 7, cells := 2, slots := 12, locals := 111 } s m args below meth c H locs 1 6 (vx_MQ below (z_QXI 0 G ad s.heap.size res) (z_XC 0 G ad s.heap.size res) args s 2 12 (z_A 0 ad s.heap.size)) (F0 m 10 ls []) := by
  intro n
  induction n with
  | zero => intro σ v1 v3 v4 H locs ls S hl  hf; cases hf
  | succ n ih =>
    intro σ v1 v3 v4 H locs ls S hl  hf
    rw [f_X7_held_10_s] at hf
    refine lv_iload C.1 C.2.1 dX7_held_10 (lv_at hl 3 rfl) ?_
    refine lv_aload_n C.1 C.2.1 dX7_held_12 rfl (lv_at hl 0 rfl) ?_
    refine z_getR C S 7 0 rfl (by decide) cf_7 6 (by decide) _ (gr_7_6 G ad 0) tw_2_134 dX7_held_13 ?_
    refine z_getI C S 4 0 rfl (by decide) cf_4 2 (by decide) (gi_4_2 G ad 0) tw_1_222 dX7_held_16 ?_
    refine lv_icmp_ge (tgt := 55) C.1 C.2.1 dX7_held_19 (by decide) (fun c_19 => ?_) (fun c_19 => ?_)
    · rw [if_pos c_19] at hf
      refine W.widen (k := 1) (n := 6) (Nat.le_of_ble_eq_true rfl) (Nat.le_of_ble_eq_true rfl) ?_
      exact w_X7_held_55 C Z _ _ _ _ S (lv_sub hl [] rfl) hf
    · rw [if_neg c_19] at hf
      refine lv_aload_n C.1 C.2.1 dX7_held_22 rfl (lv_at hl 0 rfl) ?_
      refine z_getR C S 7 0 rfl (by decide) cf_7 6 (by decide) _ (gr_7_6 G ad 0) tw_2_134 dX7_held_23 ?_
      refine z_getR C S 4 0 rfl (by decide) cf_4 6 (by decide) _ (gr_4_6 G ad 0) tw_1_235 dX7_held_26 ?_
      refine lv_iload_n C.1 C.2.1 dX7_held_29 rfl (lv_at hl 1 rfl) ?_
      obtain ⟨g_30, hf⟩ := gd hf
      refine z_aald C S 25 0 rfl (by decide) 4 1 2 (4 * 0) rfl (fun _ => rfl) g_30 dX7_held_30 ?_
      refine lv_iload C.1 C.2.1 dX7_held_31 (lv_at hl 3 rfl) ?_
      obtain ⟨r2, σ1, q_33, hf⟩ := bib hf
      refine z_callI C S 2 (4 * 0 + (v1).toNatClampNeg) rfl (oc2 (by decide) g_30) cf_2 ⟨_, rfl⟩ [.int v4] (m_X2_isHolding l G ad σ (4 * 0 + (v1).toNatClampNeg) v4 r2 σ1 (oc2 (by decide) g_30) q_33 _) kv_X2_isHolding tw_4_107 ⟨Nat.le_of_ble_eq_true rfl, Nat.le_of_ble_eq_true rfl⟩ rfl rfl (Nat.le_of_ble_eq_true rfl) hl.1 ⟨Nat.le_of_ble_eq_true rfl, Nat.le_of_ble_eq_true rfl⟩ dX7_held_33 (fun H locs S => ?_)
      refine lv_if_eq (tgt := 49) C.1 C.2.1 dX7_held_36 (by decide) (fun c_36 => ?_) (fun c_36 => ?_)
      · rw [if_pos c_36] at hf
        refine W.widen (k := 1) (n := 6) (Nat.le_of_ble_eq_true rfl) (Nat.le_of_ble_eq_true rfl) ?_
        exact w_X7_held_49 C Z (f_X7_held_10 n) ih _ v1 v3 v4 _ _ _ S (lv_sub hl [0, 1, 2, 3] rfl) hf
      · rw [if_neg c_36] at hf
        refine lv_iload_n C.1 C.2.1 dX7_held_39 rfl (lv_at hl 2 rfl) ?_
        refine lv_if_ne (tgt := 46) C.1 C.2.1 dX7_held_40 (by decide) (fun c_40 => ?_) (fun c_40 => ?_)
        · rw [if_neg c_40] at hf
          refine lv_iinc (v := (v3 + (-1))) (lv' := [(3, .int (v3 + (-1))), (0, .ref (ad 7 0)), (1, .int v1), (4, .int v4)]) C.1 C.2.1 dX7_held_46 hl (k := 2) rfl rfl (by decide) rfl (fun ls hl => ?_)
          refine W.widen (k := 1) (n := 6) (Nat.le_of_ble_eq_true rfl) (Nat.le_of_ble_eq_true rfl) ?_
          exact w_X7_held_49 C Z (f_X7_held_10 n) ih _ v1 (v3 + (-1)) v4 _ _ _ S (lv_sub hl [1, 2, 0, 3] rfl) hf
        · rw [if_pos c_40] at hf
          refine W.widen (k := 1) (n := 6) (Nat.le_of_ble_eq_true rfl) (Nat.le_of_ble_eq_true rfl) ?_
          exact w_X7_held_43 C Z _ v4 _ _ _ S (lv_sub hl [3] rfl) hf
set_option maxHeartbeats 4000000 in
set_option maxRecDepth 100000 in
theorem w_X7_held_0 {p : Program} {l : Launch} {e : Env} {s : State} {m : MethodId} {args : Array Value} {below : List Frame} {meth : Method} {c : Code} {G : Gx} {ad : Ad} {res : Xr} (C : Cx p s m args meth c yX7_held.cls cX7_held 5 (Option.some FieldType.int) G) (Z : Cz l s c G)  : ∀ (σ : Sg) (v1 : Int32) (v2 : Int32) (H : Heap) (locs : List Loc) (ls : Array Slot), z_S 0 G ad σ (z_A 0 ad s.heap.size) s.heap H locs → lv_has ls 5 [(0, .ref (ad 7 0)), (1, .int v1), (2, .int v2)] → f_X7_held  σ v1 v2 = some res → W p l e { frames := 7, cells := 2, slots := 12, locals := 111 } s m args below meth c H locs 0 0 (vx_MQ below (z_QXI 0 G ad s.heap.size res) (z_XC 0 G ad s.heap.size res) args s 2 12 (z_A 0 ad s.heap.size)) (F0 m 0 ls []) := by
  intro σ v1 v2 H locs ls S hl  hf
  unfold f_X7_held at hf
  refine lv_aload_n C.1 C.2.1 dX7_held_0 rfl (lv_at hl 0 rfl) ?_
  refine lv_iload_n C.1 C.2.1 dX7_held_1 rfl (lv_at hl 1 rfl) ?_
  obtain ⟨c_q2, r2, σ1, q_2, x_2, hf⟩ := bxb hf
  refine z_xcallV C Z S 7 0 rfl (by decide) cf_7 ⟨_, rfl⟩ [.int v1] (m_X7_checkCar l Z.1 G ad σ v1 (c_q2, r2, σ1) q_2 _) kv_X7_checkCar tw_4_55 ⟨(Nat.le_of_ble_eq_true rfl), (Nat.le_of_ble_eq_true rfl)⟩ rfl rfl (Nat.le_of_ble_eq_true rfl) hl.1 ⟨(Nat.le_of_ble_eq_true rfl), (Nat.le_of_ble_eq_true rfl)⟩ (Nat.le_of_ble_eq_true rfl) (Nat.le_of_ble_eq_true rfl) dX7_held_2 x_2 (fun h_2 H locs S => ?_)
  have hf := hf h_2
  refine lv_iload_n C.1 C.2.1 dX7_held_5 rfl (lv_at hl 2 rfl) ?_
  refine lv_istore_n (lv' := [(3, .int v2), (0, .ref (ad 7 0)), (1, .int v1), (2, .int v2)]) C.1 C.2.1 dX7_held_6 rfl hl (by decide) rfl (fun ls hl => ?_)
  refine lv_iconst (v := 0) C.1 C.2.1 dX7_held_7 (by decide) ?_
  refine lv_istore (lv' := [(4, .int 0), (3, .int v2), (0, .ref (ad 7 0)), (1, .int v1), (2, .int v2)]) C.1 C.2.1 dX7_held_8 hl (by decide) rfl (fun ls hl => ?_)
  refine W.widen (k := 1) (n := 6) (Nat.le_of_ble_eq_true rfl) (Nat.le_of_ble_eq_true rfl) ?_
  exact w_X7_held_10 C Z FU _ v1 v2 0 _ _ _ S (lv_sub hl [2, 3, 1, 0] rfl) hf
theorem kv_X7_held : KV yX7_held cX7_held 5 (Option.some FieldType.int) 2 := ⟨tw_4_160, tw_4_158, tw_4_159, tw_1_1, by decide, by decide, by decide +kernel⟩
theorem m_X7_held (l : Launch) (hst : l.stackTraces = false) (G : Gx) (ad : Ad) (σ : Sg) (v1 : Int32) (v2 : Int32) (q : Xr)  (hf : f_X7_held σ v1 v2 = some q) (sz : Nat) : z_XI l yX7_held cX7_held 5 (Option.some FieldType.int) 7 111 2 12 0 G ad σ sz [.ref (ad 7 0), .int v1, .int v2] q := by
  refine z_xbegin hst (by decide +kernel) (Nat.le_of_ble_eq_true rfl) [(0, .ref (ad 7 0)), (1, .int v1), (2, .int v2)] rfl (fun p e s m args below meth c ls C Z hz S hl => ?_)
  subst hz
  exact w_X7_held_0 (res := q) C Z σ v1 v2 _ _ _ S hl  hf
