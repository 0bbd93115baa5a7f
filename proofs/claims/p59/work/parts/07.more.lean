def jush (x y : Int32) : Int32 := (x.toUInt32 >>> (y.toUInt32 &&& Int32.toUInt32 31)).toInt32
def jrem (x y : Int32) : Int32 := x - x / y * y
theorem zcp {n : Int32} {N : Nat} (h : ¬ (n < 0 ∨ N < n.toNatClampNeg)) : (0 : Int32).toNatClampNeg + n.toNatClampNeg ≤ N := by
  have h2 : ¬ N < n.toNatClampNeg := fun q => h (Or.inr q)
  have h0 : (0 : Int32).toNatClampNeg = 0 := by decide
  omega
theorem z_cp0 {σ1 σ : Sg} {k1 o1 k2 o2 n : Nat} {b : Nat} {G : Gx} {ad : Ad} {A : Nat → Prop} {H0 H : Heap} {locs : List Loc} (e : σ1 = scp σ k1 o1 0 k2 o2 0 n) (S : z_S b G ad (scp σ k1 o1 (0 : Int32).toNatClampNeg k2 o2 (0 : Int32).toNatClampNeg n) A H0 H locs) : z_S b G ad σ1 A H0 H locs := by
  have h0 : (0 : Int32).toNatClampNeg = 0 := by decide
  rw [h0] at S
  rw [e]
  exact S
theorem z_putT {p : Program} {l : Launch} {e : Env} {R : Room} {s : State} {m : MethodId} {args : Array Value} {below : List Frame} {meth : Method} {c : Code} {H : Heap} {locs : List Loc} {cells slots : Nat} {Q : State → Prop} {cc : ByteArray} {pc : Nat} {ls : Array Slot} {rest : List Value} {own : String} {nL : Nat} {ret : Option FieldType} {G : Gx} {b : Nat} {ad : Ad} {σ : Sg} {A : Nat → Prop} {H0 : Heap}
    (C : Cx p s m args meth c own cc nL ret G) (S : z_S b G ad σ A H0 H locs) (hk : z_side 6 = b) {index : Nat} (hl : Cond.fieldLink own index (TX6 2).1 (TX6 2).2.1 (TX6 2).2.2.1 ∈ TT) (hdg : decode cc pc = .ok (.putfield index, 3))
    (kk : ∀ (H1 : Heap) (locs1 : List Loc), z_S b G ad (sup σ 6 0 2 1) A H0 H1 locs1 → W p l e R s m args below meth c H1 locs1 cells slots Q (F0 m (pc + 3) ls rest)) : W p l e R s m args below meth c H locs cells slots Q (F0 m pc ls (.ref (ad 10 0) :: .ref (ad 6 0) :: rest)) := by
  refine z_put (σ' := sup σ 6 0 2 1) C S 6 0 hk (by decide) cf_6 2 (by decide) (fun a => ⟨_, rfl, Nat.le_of_ble_eq_true rfl, fun a' h1 h2 => ?_⟩) (fun k' o' => sup_ne k' o') rfl rfl rfl hl hdg kk
  rw [h1, sup_eq, ← h2]
  have e1 : (upd a 2 1) 2 = 1 := if_pos rfl
  have e2 : ¬ (upd a 2 1) 2 = 0 := by rw [e1]; decide
  simp [z_cel, e2, upd]
theorem ti_ne {x : Int32} {n : Int} {k : Int32} (hk : k.toInt = n) (h : ¬ x = k) : x.toInt ≠ n := fun e => h (Int32.toInt_inj.mp (e.trans hk.symm))
theorem tsw0_2 {x : Int32} (h0 : ¬ x = 0) (h1 : ¬ x = 1) (h2 : ¬ x = 2) : x.toInt < 0 ∨ 2 < x.toInt := by
  have e0 := ti_ne (n := 0) (k := 0) (by decide) h0
  have e1 := ti_ne (n := 1) (k := 1) (by decide) h1
  have e2 := ti_ne (n := 2) (k := 2) (by decide) h2
  omega
theorem tsw0_13 {x : Int32} (h0 : ¬ x = 0) (h1 : ¬ x = 1) (h2 : ¬ x = 2) (h3 : ¬ x = 3) (h4 : ¬ x = 4) (h5 : ¬ x = 5) (h6 : ¬ x = 6) (h7 : ¬ x = 7) (h8 : ¬ x = 8) (h9 : ¬ x = 9) (h10 : ¬ x = 10) (h11 : ¬ x = 11) (h12 : ¬ x = 12) (h13 : ¬ x = 13) : x.toInt < 0 ∨ 13 < x.toInt := by
  have e0 := ti_ne (n := 0) (k := 0) (by decide) h0
  have e1 := ti_ne (n := 1) (k := 1) (by decide) h1
  have e2 := ti_ne (n := 2) (k := 2) (by decide) h2
  have e3 := ti_ne (n := 3) (k := 3) (by decide) h3
  have e4 := ti_ne (n := 4) (k := 4) (by decide) h4
  have e5 := ti_ne (n := 5) (k := 5) (by decide) h5
  have e6 := ti_ne (n := 6) (k := 6) (by decide) h6
  have e7 := ti_ne (n := 7) (k := 7) (by decide) h7
  have e8 := ti_ne (n := 8) (k := 8) (by decide) h8
  have e9 := ti_ne (n := 9) (k := 9) (by decide) h9
  have e10 := ti_ne (n := 10) (k := 10) (by decide) h10
  have e11 := ti_ne (n := 11) (k := 11) (by decide) h11
  have e12 := ti_ne (n := 12) (k := 12) (by decide) h12
  have e13 := ti_ne (n := 13) (k := 13) (by decide) h13
  omega
theorem tsw0_8 {x : Int32} (h0 : ¬ x = 0) (h1 : ¬ x = 1) (h2 : ¬ x = 2) (h3 : ¬ x = 3) (h4 : ¬ x = 4) (h5 : ¬ x = 5) (h6 : ¬ x = 6) (h7 : ¬ x = 7) (h8 : ¬ x = 8) : x.toInt < 0 ∨ 8 < x.toInt := by
  have e0 := ti_ne (n := 0) (k := 0) (by decide) h0
  have e1 := ti_ne (n := 1) (k := 1) (by decide) h1
  have e2 := ti_ne (n := 2) (k := 2) (by decide) h2
  have e3 := ti_ne (n := 3) (k := 3) (by decide) h3
  have e4 := ti_ne (n := 4) (k := 4) (by decide) h4
  have e5 := ti_ne (n := 5) (k := 5) (by decide) h5
  have e6 := ti_ne (n := 6) (k := 6) (by decide) h6
  have e7 := ti_ne (n := 7) (k := 7) (by decide) h7
  have e8 := ti_ne (n := 8) (k := 8) (by decide) h8
  omega
theorem tsw0_9 {x : Int32} (h0 : ¬ x = 0) (h1 : ¬ x = 1) (h2 : ¬ x = 2) (h3 : ¬ x = 3) (h4 : ¬ x = 4) (h5 : ¬ x = 5) (h6 : ¬ x = 6) (h7 : ¬ x = 7) (h8 : ¬ x = 8) (h9 : ¬ x = 9) : x.toInt < 0 ∨ 9 < x.toInt := by
  have e0 := ti_ne (n := 0) (k := 0) (by decide) h0
  have e1 := ti_ne (n := 1) (k := 1) (by decide) h1
  have e2 := ti_ne (n := 2) (k := 2) (by decide) h2
  have e3 := ti_ne (n := 3) (k := 3) (by decide) h3
  have e4 := ti_ne (n := 4) (k := 4) (by decide) h4
  have e5 := ti_ne (n := 5) (k := 5) (by decide) h5
  have e6 := ti_ne (n := 6) (k := 6) (by decide) h6
  have e7 := ti_ne (n := 7) (k := 7) (by decide) h7
  have e8 := ti_ne (n := 8) (k := 8) (by decide) h8
  have e9 := ti_ne (n := 9) (k := 9) (by decide) h9
  omega
theorem tsw10_13 {x : Int32} (h10 : ¬ x = 10) (h11 : ¬ x = 11) (h12 : ¬ x = 12) (h13 : ¬ x = 13) : x.toInt < 10 ∨ 13 < x.toInt := by
  have e10 := ti_ne (n := 10) (k := 10) (by decide) h10
  have e11 := ti_ne (n := 11) (k := 11) (by decide) h11
  have e12 := ti_ne (n := 12) (k := 12) (by decide) h12
  have e13 := ti_ne (n := 13) (k := 13) (by decide) h13
  omega
theorem tsw0_4 {x : Int32} (h0 : ¬ x = 0) (h1 : ¬ x = 1) (h2 : ¬ x = 2) (h3 : ¬ x = 3) (h4 : ¬ x = 4) : x.toInt < 0 ∨ 4 < x.toInt := by
  have e0 := ti_ne (n := 0) (k := 0) (by decide) h0
  have e1 := ti_ne (n := 1) (k := 1) (by decide) h1
  have e2 := ti_ne (n := 2) (k := 2) (by decide) h2
  have e3 := ti_ne (n := 3) (k := 3) (by decide) h3
  have e4 := ti_ne (n := 4) (k := 4) (by decide) h4
  omega
def stab (n : Nat) (i : Nat) : Int32 := match n with
  | 0 => [0, 3, 0, 0, 1].getD i 0
  | 1 => [90, 50, 20, 5, 999].getD i 0
  | _ => [0, 6, 2, 1, 30].getD i 0
def sft (σ : Sg) (n k o len : Nat) : Sg := fun k' o' i' => if k' = k ∧ o' = o ∧ i' < len then stab n i' else σ k' o' i'
section ZT
variable {p : Program} {l : Launch} {e : Env} {R : Room} {s : State} {m : MethodId} {args : Array Value} {below : List Frame} {meth : Method} {c : Code} {H : Heap} {locs : List Loc} {cells slots : Nat} {Q : State → Prop}
variable {cc : ByteArray} {pc : Nat} {ls : Array Slot} {rest : List Value} {own : String} {nL : Nat} {ret : Option FieldType} {G : Gx} {b : Nat} {ad : Ad} {σ : Sg} {A : Nat → Prop} {H0 : Heap}
theorem z_tq (n : Nat) (h : n < 3) : ∃ nm, (nm, n, (match n with | 0 => [0, 3, 0, 0, 1] | 1 => [90, 50, 20, 5, 999] | _ => [0, 6, 2, 1, 30] : List Int32)) ∈ z_tabs ∧ ∀ i, (match n with | 0 => [0, 3, 0, 0, 1] | 1 => [90, 50, 20, 5, 999] | _ => [0, 6, 2, 1, 30] : List Int32).getD i 0 = stab n i := by
  rcases (show n = 0 ∨ n = 1 ∨ n = 2 by omega) with rfl | rfl | rfl
  · exact ⟨"LEAST_SETTING", List.mem_of_getElem? (i := 0) rfl, fun _ => rfl⟩
  · exact ⟨"MOST_SETTING", List.mem_of_getElem? (i := 1) rfl, fun _ => rfl⟩
  · exact ⟨"FIRST_SETTING", List.mem_of_getElem? (i := 2) rfl, fun _ => rfl⟩
theorem z_tabT {U : State} (h : z_F G U) (n : Nat) (hn : n < 3) : va_T .int (G.2.2.2 n) 5 (fun j => .int (stab n j)) (z_B G) U G.2.2.1 := by
  obtain ⟨nm, h1, h2⟩ := z_tq n hn
  have h3 := (h.1 _ h1).2
  obtain ⟨cell, a1, a2, a3, a4, a5, a6, a7⟩ := h3
  exact ⟨cell, a1, a2, a3, a4, a5, fun j hj => (a6 j hj).trans (congrArg (fun z => some (Value.int z)) (h2 j)), a7⟩
theorem z_gets (C : Cx p s m args meth c own cc nL ret G) (S : z_S b G ad σ A H0 H locs) (nm : String) (n : Nat) (t : List Int32) (hq : (nm, n, t) ∈ z_tabs) {index : Nat} (hl : Cond.fieldLink own index RX7 nm "[I" ∈ TT) (hdg : decode cc pc = .ok (.getstatic index, 3))
    (kk : W p l e R s m args below meth c H locs cells slots Q (F0 m (pc + 3) ls (.ref (G.2.2.2 n) :: rest))) : W p l e R s m args below meth c H locs cells slots Q (F0 m pc ls rest) := by
  obtain ⟨x1, x2, x3, x4, x5, x6, x7, x8⟩ := C
  obtain ⟨cf, kf, fi, f, a, cell, h1, h2, h3, h4, h5, h6, h7, h8⟩ := (x6.2.1 _ hq).1
  exact W.gets x1 x2 x4 (x5 _ hl) h1 h2 h3 h4 (by rw [S.1.2.2.2.2 a (Array.getElem?_eq_some_iff.mp h5).1]; exact h5) (fun e => by rw [e] at h6; cases h6) h7 rfl hdg kk
theorem z_getsN (C : Cx p s m args meth c own cc nL ret G) (S : z_S b G ad σ A H0 H locs) (nm : String) (n : Nat) (t : List Int32) (hq : (nm, n, t) ∈ z_tabs) {index : Nat} {host : String} (hl : Cond.fieldLinkNest own index RX7 nm "[I" host ∈ z_nest) (hdg : decode cc pc = .ok (.getstatic index, 3))
    (kk : W p l e R s m args below meth c H locs cells slots Q (F0 m (pc + 3) ls (.ref (G.2.2.2 n) :: rest))) : W p l e R s m args below meth c H locs cells slots Q (F0 m pc ls rest) := by
  obtain ⟨x1, x2, x3, x4, x5, x6, x7, x8⟩ := C
  obtain ⟨cf, kf, fi, f, a, cell, h1, h2, h3, h4, h5, h6, h7, h8⟩ := (x6.2.1 _ hq).1
  exact va_WgetsN x1 x2 x4 (va_Nw.use rfl (x6.2.2.2.2.1 _ hl)) h1 h2 h3 h4 (by rw [S.1.2.2.2.2 a (Array.getElem?_eq_some_iff.mp h5).1]; exact h5) (fun e => by rw [e] at h6; cases h6) h7 rfl hdg kk
theorem z_tld (C : Cx p s m args meth c own cc nL ret G) (S : z_S b G ad σ A H0 H locs) (n : Nat) (hn : n < 3) {i : Int32} (hin : ¬ (i < 0 ∨ 5 ≤ i.toNatClampNeg)) (hdg : decode cc pc = .ok (.iaload, 1))
    (kk : W p l e R s m args below meth c H locs cells slots Q (F0 m (pc + 1) ls (.int (stab n i.toNatClampNeg) :: rest))) : W p l e R s m args below meth c H locs cells slots Q (F0 m pc ls (.int i :: .ref (G.2.2.2 n) :: rest)) := by
  obtain ⟨x1, x2, x3, x4, x5, x6, x7, x8⟩ := C
  obtain ⟨cell, a1, a2, a3, a4, a5, a6, a7⟩ := z_tabT x6.2 n hn
  have hlt : i.toNatClampNeg < 5 := Nat.not_le.mp fun q => hin (Or.inr q)
  have h0 : ¬ i < 0 := fun q => hin (Or.inl q)
  exact W.iald (v := .int (stab n i.toNatClampNeg)) x1 x2 (by rw [S.1.2.2.2.2 _ (Array.getElem?_eq_some_iff.mp a1).1]; exact a1) a2 a3 (fun q => q.elim h0 (fun q => by omega)) (a6 _ hlt) rfl rfl hdg kk
theorem z_ldcw (C : Cx p s m args meth c own cc nL ret G) {index : Nat} {v : Int32} (hl : Cond.constant own index v ∈ TT) (hdg : decode cc pc = .ok (.ldc_w index, 3))
    (kk : W p l e R s m args below meth c H locs cells slots Q (F0 m (pc + 3) ls (.int v :: rest))) : W p l e R s m args below meth c H locs cells slots Q (F0 m pc ls rest) := by
  obtain ⟨x1, x2, x3, x4, x5, x6, x7, x8⟩ := C
  exact lv_ldcw x1 x2 x4 (x5 _ hl) hdg kk
theorem z_copyT (C : Cx p s m args meth c own cc nL ret G) (S : z_S b G ad σ A H0 H locs) (hls : ls.size = nL) (t : Nat) (ht : t < 3) (k2 o2 : Nat) (hk2 : z_side k2 = b) (ho2 : o2 < z_cnt k2) (hc2 : ∀ a, z_cel G ad k2 o2 a = .inl (G.2.1 0, 5, .inl a))
    {index : Nat} (hl : Cond.methodLink own index arraycopyName ∈ TT) (hframes : 1 ≤ R.frames) (hlocals : (rest.map fun v => v.category).sum + 18 ≤ R.locals) (hdg : decode cc pc = .ok (.invokestatic index, 3))
    (kk : ∀ (H1 : Heap) (locs1 : List Loc), z_S b G ad (sft σ t k2 o2 5) A H0 H1 locs1 → W p l e R s m args below meth c H1 locs1 cells slots Q (F0 m (pc + 3) ls rest)) : W p l e R s m args below meth c H locs cells slots Q (F0 m pc ls (.int 5 :: .int 0 :: .ref (ad k2 o2) :: .int 0 :: .ref (G.2.2.2 t) :: rest)) := by
  obtain ⟨x1, x2, x3, x4, x5, x6, x7, x8⟩ := C
  intro T hT X
  obtain ⟨scr, hs1, hs2, hs3, hs4, -, hs5, hs7⟩ := z_tabT x6.2 t ht
  have hc0 : H[G.2.2.2 t]? = some scr := by rw [S.1.2.2.2.2 _ (Array.getElem?_eq_some_iff.mp hs1).1]; exact hs1
  have hc1' : H[ad k2 o2]? = some (vp_cell (G.2.1 0) (5, .inl (σ k2 o2))) := by have h := S.1.1 k2 o2 hk2 ho2; rw [hc2] at h; exact h
  obtain ⟨hs6, k0, hk0, cm0, hkk0⟩ := hs2
  obtain ⟨-, k9, hk9, cm9, hkk9⟩ := (x6.1.2 0 _ rfl).1 5 (fun j => .int (σ k2 o2 j))
  have z0 : (0 : Int32).toNatClampNeg = 0 := by decide
  have z5 : (5 : Int32).toNatClampNeg = 5 := by decide
  obtain ⟨vm', X', step⟩ := X.arraycopy x1 x4 (x5 _ hl) (x5 _ tw_2_119) (x5 _ tw_2_118) (x5 _ tw_1_8) (src := G.2.2.2 t) (dst := ad k2 o2) (cs := scr) (cd := vp_cell (G.2.1 0) (5, .inl (σ k2 o2))) (srcPos := 0) (destPos := 0) (n := 5) (by rw [hT]; exact hc0) (by rw [hT]; exact hc1')
    hs6 (fun _ h => by cases h) hs3 (fun h => by cases h) hk0 hk9 hkk0 hkk9 (by simp [refKind]) (by decide) (by decide) (by decide)
    (by rw [z_nn 0 (by decide), z_nn 5 (by decide), z0, z5]; omega)
    (by rw [z_nn 0 (by decide), z_nn 5 (by decide), z0, z5]; show ¬ _ > ((arrV (G.2.1 0) 5 (fun j => .int (σ k2 o2 j))).slots.size : Int); rw [arrV_size]; omega)
    (fun vm₁ _ i hi => by
      rw [z5] at hi
      have e : scr.slots.getD ((0 : Int32).toNatClampNeg + i) .null = .int (stab t ((0 : Int32).toNatClampNeg + i)) := by
        rw [Array.getD_eq_getD_getElem?, hs5 _ (by rw [z0]; omega)]
        rfl
      refine ⟨?_, ?_⟩
      · rw [e]
        rfl
      · rw [e]
        exact trivial)
    (g := F0 m pc ls (.int 5 :: .int 0 :: .ref (ad k2 o2) :: .int 0 :: .ref (G.2.2.2 t) :: rest)) rfl (by rw [x3]; exact hls) (rest := rest) rfl (by rw [x2]; exact hdg) hframes (by show 2 * 0 + _ + (7 + 11) ≤ _; omega)
  have e1 : copied scr (vp_cell (G.2.1 0) (5, .inl (σ k2 o2))) 0 0 5 = vp_cell (G.2.1 0) (5, .inl (va_cpy (stab t) (σ k2 o2) (0 : Int32).toNatClampNeg (0 : Int32).toNatClampNeg (5 : Int32).toNatClampNeg)) := va_copiedX (fun z => .int z) scr (G.2.1 0) (stab t) (σ k2 o2) hs5 (by rw [z0, z5]; omega)
  rw [e1] at X' step
  have hlt : ad k2 o2 < H.size := (Array.getElem?_eq_some_iff.mp hc1').1
  have e2 : va_cpy (stab t) (σ k2 o2) (0 : Int32).toNatClampNeg (0 : Int32).toNatClampNeg (5 : Int32).toNatClampNeg = sft σ t k2 o2 5 k2 o2 := by
    funext j
    rw [z0, z5]
    by_cases h : j < 5
    · simp [va_cpy, sft, h]
    · simp [va_cpy, sft, h]
  rw [e2] at X' step
  have hheap : ((T.setVm vm').setCell (ad k2 o2) (vp_cell (G.2.1 0) (5, .inl (sft σ t k2 o2 5 k2 o2)))).heap = H.setIfInBounds (ad k2 o2) (vp_cell (G.2.1 0) (5, .inl (sft σ t k2 o2 5 k2 o2))) := by rw [← hT]; rfl
  have oq : ∀ q : Nat, q ≠ ad k2 o2 → (H.setIfInBounds (ad k2 o2) (vp_cell (G.2.1 0) (5, .inl (sft σ t k2 o2 5 k2 o2))))[q]? = H[q]? := fun q hq => by simp [Array.getElem?_setIfInBounds, Ne.symm hq]
  obtain ⟨t9, a1, b1⟩ := kk _ _ (S.step hk2 ho2 (by simp) oq (by rw [hc2]; show (H.setIfInBounds (ad k2 o2) _)[ad k2 o2]? = some _; simp [Array.getElem?_setIfInBounds, hlt]) (fun k' o' h => by funext j; exact if_neg (fun q => h ⟨q.1, q.2.1⟩)) ⟨by simp; exact S.2.1.1, fun q g1 g2 => by
      rw [oq q (fun e => g2 (by rw [e]; exact S.2.2.1 k2 o2 hk2 ho2))]
      exact S.2.1.2.1 q g1 g2, fun q hq => by
      rcases List.mem_append.mp hq with h | h
      · exact S.2.1.2.2 q h
      · obtain ⟨z, -, hz⟩ := List.mem_map.mp h
        rw [← hz]
        exact S.2.2.1 k2 o2 hk2 ho2⟩) _ hheap X'
  exact ⟨t9, step t9 a1, b1⟩
end ZT
section ZL
variable {p : Program} {l : Launch} {e : Env} {R : Room} {s : State} {m : MethodId} {args : Array Value} {below : List Frame} {meth : Method} {c : Code} {H : Heap} {locs : List Loc} {cells slots : Nat} {Q : State → Prop}
variable {cc : ByteArray} {pc : Nat} {ls : Array Slot} {rest : List Value} {own : String} {nL : Nat} {ret : Option FieldType} {G : Gx} {b : Nat} {ad : Ad} {σ : Sg} {A : Nat → Prop} {H0 : Heap}
theorem z_inL {i : Int32} {j n : Nat} (hj : i.toNatClampNeg = j) (h0 : ¬ i < 0) (hn : j < n) : ¬ (i < 0 ∨ n ≤ i.toNatClampNeg) := fun q => q.elim h0 (fun q => by omega)
theorem z_ialdL (C : Cx p s m args meth c own cc nL ret G) (S : z_S b G ad σ A H0 H locs) (k o : Nat) (hk : z_side k = b) (ho : o < z_cnt k) (n : Nat) (hc : ∀ a, z_cel G ad k o a = .inl (G.2.1 0, n, .inl a)) {i : Int32} (j : Nat) (hj : i.toNatClampNeg = j) (h0 : ¬ i < 0) (hn : j < n) (hdg : decode cc pc = .ok (.iaload, 1))
    (kk : W p l e R s m args below meth c H locs cells slots Q (F0 m (pc + 1) ls (.int (σ k o j) :: rest))) : W p l e R s m args below meth c H locs cells slots Q (F0 m pc ls (.int i :: .ref (ad k o) :: rest)) :=
  z_iald C S k o hk ho n hc (z_inL hj h0 hn) hdg (by rw [hj]; exact kk)
theorem z_iastL (C : Cx p s m args meth c own cc nL ret G) (S : z_S b G ad σ A H0 H locs) (k o : Nat) (hk : z_side k = b) (ho : o < z_cnt k) (n : Nat) (hc : ∀ a, z_cel G ad k o a = .inl (G.2.1 0, n, .inl a)) {i x : Int32} (j : Nat) (hj : i.toNatClampNeg = j) (h0 : ¬ i < 0) (hn : j < n) (hdg : decode cc pc = .ok (.iastore, 1))
    (kk : ∀ (H1 : Heap) (locs1 : List Loc), z_S b G ad (sup σ k o j x) A H0 H1 locs1 → W p l e R s m args below meth c H1 locs1 cells slots Q (F0 m (pc + 1) ls rest)) : W p l e R s m args below meth c H locs cells slots Q (F0 m pc ls (.int x :: .int i :: .ref (ad k o) :: rest)) :=
  z_iast C S k o hk ho n hc (z_inL hj h0 hn) hdg (by rw [hj]; exact kk)
end ZL
