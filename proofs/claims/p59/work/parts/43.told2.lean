/-! the law tells the class its text, whole -/
section WCX
variable {p : Program} {l : Launch} {e : Env} {R : Room} {s : State} {m : MethodId} {args : Array Value} {below : List Frame} {meth : Method} {c : Code} {H : Heap} {locs : List Loc} {cells slots : Nat} {Q : State → Prop}
variable {cc : ByteArray} {pc : Nat} {ls : Array Slot} {rest : List Value} {own : String} {nL : Nat} {ret : Option FieldType} {G : Gx} {adX : Ad} {σ σ' : Sg} {q w n : Nat} {t : Nat → Int32}
theorem w_callX {y : MethodName} {bytes : ByteArray} {maxL n9 fr lo index : Nat} {ret2 : Option FieldType} {r : Int32} {st : List Value} (C : Cx p s m args meth c own cc nL ret G) (I : w_I G adX σ q w n t s H locs) (hap : ∀ k o, o < z_cnt k → adX k o ≠ q ∧ adX k o ≠ w) (hy : y.cls = RX7) (As : List Value)
    (hM : z_MI l y bytes maxL ret2 fr lo 0 G adX σ H.size (.ref (adX 7 0) :: As) r σ') (kv : KV y bytes maxL ret2 n9) (hl : Cond.methodLink own index y ∈ TT) (hR : fr + 1 ≤ R.frames ∧ 8 + (maxL + 11) + lo ≤ R.locals) (hn : As.length = n9) (hst : st = As.reverse ++ .ref (adX 7 0) :: rest) (hW8 : (rest.map fun v => v.category).sum ≤ 8) (hls : ls.size = nL) (hcs : cells ≤ R.cells ∧ slots ≤ R.slots)
    (hdg : decode cc pc = .ok (.invokevirtual index, 3))
    (kk : ∀ (H1 : Heap) (locs1 : List Loc), w_I G adX σ' q w n t s H1 locs1 → W p l e R s m args below meth c H1 locs1 cells slots Q (F0 m (pc + 3) ls (.int r :: rest))) : W p l e R s m args below meth c H locs cells slots Q (F0 m pc ls st) := by
  have C2 := C
  have hz := I.1.1
  have hlt := I.1.2.lt I.O C
  have hS1 := I.2.1
  have hsub : ∀ x, z_A 0 adX H.size x → z_A 0 adX s.heap.size x := fun x h => h.imp id (fun h => Nat.le_trans hS1 h)
  obtain ⟨x1, x2, x3, x4, x5, x6, x7, x8⟩ := C
  have hrec : u_cls y.cls (adX 7 0) s H := by
    rw [hy]
    exact u_clsO x6 (hz.1 7 0 rfl (by decide)) (ci := 7) rfl
  exact va_calli (va_runV (As := As) (rest := rest) ⟨x1, x2, x3, x4, x5⟩ hM (z_cwV C2 kv hl hR) ⟨z_blind _ 0 G adX σ H.size, hrec, fun U hU hW => ⟨rfl, by rw [hU], by rw [hU]; exact hz, x6.warm hW⟩⟩ rfl hn hls hst (lv_room hW8) hdg hcs) I.2 (fun x _ h => hsub x h) hsub
    (fun r1 u t1 H1 locs1 ht hvm hr hB hz1 hk1 hS1 => by
      subst hr
      refine kk H1 locs1 ⟨⟨by rw [← ht]; exact hB, I.1.2.kept' (hk1 _ hlt.1 ?_) (hk1 _ hlt.2 ?_)⟩, hS1⟩
      · rintro (⟨k, o, -, ho, h⟩ | h)
        · exact (hap k o ho).1 h.symm
        · have := hlt.1
          omega
      · rintro (⟨k, o, -, ho, h⟩ | h)
        · exact (hap k o ho).2 h.symm
        · have := hlt.2
          omega)
end WCX
noncomputable def g_out (n : Nat) (t : Nat → Int32) : Nat → Nat → Sg → Option Sg
  | 0, k, σ => if k < n then none else some σ
  | j + 1, k, σ => if k < n then bi (f_X7_appendInput σ (g_in n t k 20 0) (g_in n t k 20 1) (g_in n t k 20 2) (g_in n t k 20 3) (g_in n t k 20 4)) fun _ σ1 => g_out n t j (k + 20) σ1 else some σ
noncomputable def g_told (n : Nat) (t : Nat → Int32) (σ : Sg) : Option Sg := (g_out n t 12 0 σ).bind fun σ1 => bi (f_X7_truncateInput σ1 (nI n)) fun _ σ2 => some σ2
set_option maxHeartbeats 4000000 in
set_option maxRecDepth 100000 in
theorem w_told_2 {p : Program} {l : Launch} {e : Env} {s : State} {m : MethodId} {args : Array Value} {below : List Frame} {meth : Method} {c : Code} {G : Gx} {adX : Ad} {R : Room} {Q : State → Prop} {q w n : Nat} {t : Nat → Int32} (C : Cx p s m args meth c yL_told.cls cL_told 5 none G) (hn : n ≤ 240) (hR : 4 ≤ R.frames ∧ 85 ≤ R.locals) (hG0 : G.2.2.1.size ≤ s.heap.size) (hap : ∀ k o, o < z_cnt k → adX k o ≠ q ∧ adX k o ≠ w) {σ' : Sg} : ∀ j k, k + 20 * j ≤ 240 → ∀ (σ : Sg) (H : Heap) (locs : List Loc) (ls : Array Slot) (cells slots : Nat), g_out n t j k σ = some σ' → w_I G adX σ q w n t s H locs → lv_has ls 5 [(0, .ref (adX 7 0)), (1, .ref q), (2, .int (nI k))] → cells + j ≤ R.cells → slots + 5 * j ≤ R.slots →
    (∀ (H : Heap) (locs : List Loc) (ls : Array Slot), w_I G adX σ' q w n t s H locs → lv_has ls 5 [(0, .ref (adX 7 0)), (1, .ref q)] → W p l e R s m args below meth c H locs (cells + j) (slots + 5 * j) Q (F0 m 96 ls [])) → W p l e R s m args below meth c H locs cells slots Q (F0 m 2 ls []) := by
  intro j
  induction j with
  | zero =>
    intro k hk σ H locs ls cells slots hf I hl hc hs hq
    have hf2 : (if k < n then none else some σ) = some σ' := hf
    refine lv_iload_n C.1 C.2.1 dL_told_2 rfl (lv_at hl 2 rfl) ?_
    refine lv_aload_n C.1 C.2.1 dL_told_3 rfl (lv_at hl 1 rfl) ?_
    refine k_callV C I.2 I.O (u_strC C I.O I.1.2) [] (k_lenS l G q w n t H.size) rfl I.1.2 kv_J0_length_8abf5 tw_3_110 ⟨by have := hR.1; omega, by have := hR.2; omega⟩ rfl rfl (Nat.le_of_ble_eq_true rfl) hl.1 ⟨by omega, by omega⟩ dL_told_4 (fun _ h => h.elim) (fun H1 locs1 hz1 hle1 o1 S1 => ?_)
    by_cases hkn : k < n
    · rw [if_pos hkn] at hf2
      cases hf2
    · rw [if_neg hkn] at hf2
      cases hf2
      refine lv_icmp_ge (tgt := 96) C.1 C.2.1 dL_told_7 (by decide) (fun c_ => ?_) (fun c_ => absurd (nI_le (by omega) (by omega)) c_)
      exact hq H1 locs1 ls (I.keep hle1 (fun x hx => o1 x hx id) S1) (lv_sub hl [0, 1] rfl)
  | succ j ih =>
    intro k hk σ H locs ls cells slots hf I hl hc hs hq
    have hf2 : (if k < n then bi (f_X7_appendInput σ (g_in n t k 20 0) (g_in n t k 20 1) (g_in n t k 20 2) (g_in n t k 20 3) (g_in n t k 20 4)) (fun _ σ1 => g_out n t j (k + 20) σ1) else some σ) = some σ' := hf
    refine lv_iload_n C.1 C.2.1 dL_told_2 rfl (lv_at hl 2 rfl) ?_
    refine lv_aload_n C.1 C.2.1 dL_told_3 rfl (lv_at hl 1 rfl) ?_
    refine k_callV C I.2 I.O (u_strC C I.O I.1.2) [] (k_lenS l G q w n t H.size) rfl I.1.2 kv_J0_length_8abf5 tw_3_110 ⟨by have := hR.1; omega, by have := hR.2; omega⟩ rfl rfl (Nat.le_of_ble_eq_true rfl) hl.1 ⟨by omega, by omega⟩ dL_told_4 (fun _ h => h.elim) (fun H1 locs1 hz1 hle1 o1 S1 => ?_)
    replace I := I.keep hle1 (fun x hx => o1 x hx id) S1
    by_cases hkn : k < n
    · rw [if_pos hkn] at hf2
      obtain ⟨r1, σ1, hf3, hf4⟩ := bib hf2
      refine lv_icmp_ge (tgt := 96) C.1 C.2.1 dL_told_7 (by decide) (fun c_ => absurd c_ (nI_ge hkn (by omega))) (fun c_ => ?_)
      refine lv_iconst (v := 5) C.1 C.2.1 dL_told_10 (by decide) ?_
      have hlt := I.1.2.lt I.O C
      have hxl : ∀ k o, o < z_cnt k → adX k o < H1.size := fun k o ho => (I.1.1.1 k o rfl ho).lt
      have hS1 := I.2.1
      refine u_newI C I.2 5 (by decide) (by decide) (Nat.le_of_ble_eq_true rfl) (by omega) (by omega) dL_told_11 (fun H2 z2 o2 ha S2 => ?_)
      have I2 : w_I G adX σ q w n t s H2 locs1 := I.keep (by omega) o2 S2
      refine lv_astore_n (lv' := [(3, .ref H1.size), (0, .ref (adX 7 0)), (1, .ref q), (2, .int (nI k))]) C.1 C.2.1 dL_told_13 rfl hl (by decide) rfl (fun ls hl => ?_)
      refine lv_iconst (v := 0) C.1 C.2.1 dL_told_14 (by decide) ?_
      refine lv_istore (lv' := [(4, .int 0), (3, .ref H1.size), (0, .ref (adX 7 0)), (1, .ref q), (2, .int (nI k))]) C.1 C.2.1 dL_told_15 hl (by decide) rfl (fun ls hl => ?_)
      refine w_told_17 C hn hR (wa := H1.size) (k := k) (by omega) hS1 ⟨by omega, by omega⟩ (fun k o ho => Nat.ne_of_lt (hxl k o ho)) hG0 ⟨by omega, by omega⟩ 20 0 rfl H2 locs1 ls I2 ha (lv_sub hl [2, 3, 4, 1, 0] rfl) (fun H3 locs3 ls I3 ha hl => ?_)
      refine lv_aload_n C.1 C.2.1 dL_told_70 rfl (lv_at hl 0 rfl) ?_
      refine lv_aload_n C.1 C.2.1 dL_told_71 rfl (lv_at hl 3 rfl) ?_
      refine lv_iconst (v := 0) C.1 C.2.1 dL_told_72 (by decide) ?_
      refine u_iald C ha (i := 0) (by decide) dL_told_73 ?_
      refine lv_aload_n C.1 C.2.1 dL_told_74 rfl (lv_at hl 3 rfl) ?_
      refine lv_iconst (v := 1) C.1 C.2.1 dL_told_75 (by decide) ?_
      refine u_iald C ha (i := 1) (by decide) dL_told_76 ?_
      refine lv_aload_n C.1 C.2.1 dL_told_77 rfl (lv_at hl 3 rfl) ?_
      refine lv_iconst (v := 2) C.1 C.2.1 dL_told_78 (by decide) ?_
      refine u_iald C ha (i := 2) (by decide) dL_told_79 ?_
      refine lv_aload_n C.1 C.2.1 dL_told_80 rfl (lv_at hl 3 rfl) ?_
      refine lv_iconst (v := 3) C.1 C.2.1 dL_told_81 (by decide) ?_
      refine u_iald C ha (i := 3) (by decide) dL_told_82 ?_
      refine lv_aload_n C.1 C.2.1 dL_told_83 rfl (lv_at hl 3 rfl) ?_
      refine lv_iconst (v := 4) C.1 C.2.1 dL_told_84 (by decide) ?_
      refine u_iald C ha (i := 4) (by decide) dL_told_85 ?_
      refine w_callX C I3 hap rfl [.int _, .int _, .int _, .int _, .int _] (m_X7_appendInput l G adX σ _ _ _ _ _ r1 σ1 hf3 _) kv_X7_appendInput tw_3_112 ⟨by have := hR.1; omega, by have := hR.2; omega⟩ rfl rfl (Nat.le_of_ble_eq_true rfl) hl.1 ⟨by omega, by omega⟩ dL_told_86 (fun H4 locs4 I4 => ?_)
      refine lv_pop C.1 C.2.1 dL_told_89 rfl ?_
      refine lv_iinc (v := nI k + 20) (lv' := [(2, .int (nI k + 20)), (0, .ref (adX 7 0)), (1, .ref q), (3, .ref H1.size)]) C.1 C.2.1 dL_told_90 hl (k := 2) rfl rfl (by decide) rfl (fun ls hl => ?_)
      refine lv_goto (tgt := 2) C.1 C.2.1 dL_told_93 (by decide) ?_
      rw [show nI k + 20 = nI (k + 20) from (Int32.ofNat_add k 20).symm] at hl
      refine ih (k + 20) (by omega) σ1 H4 locs4 ls (cells + 1) (slots + 5) hf4 I4 (lv_sub hl [1, 2, 0] rfl) (by omega) (by omega) (fun H locs ls I hl => ?_)
      have h9 := hq H locs ls I hl
      rw [show cells + (j + 1) = cells + 1 + j by omega, show slots + 5 * (j + 1) = slots + 5 + 5 * j by omega] at h9
      exact h9
    · rw [if_neg hkn] at hf2
      cases hf2
      refine lv_icmp_ge (tgt := 96) C.1 C.2.1 dL_told_7 (by decide) (fun c_ => ?_) (fun c_ => absurd (nI_le (by omega) (by omega)) c_)
      exact W.widen (by omega) (by omega) (hq H1 locs1 ls I (lv_sub hl [0, 1] rfl))
set_option maxHeartbeats 4000000 in
set_option maxRecDepth 100000 in
theorem m_L_told (l : Launch) (G : Gx) (adX : Ad) (σ σ' : Sg) (q w n : Nat) (t : Nat → Int32) (hn : n ≤ 240) (hap : ∀ k o, o < z_cnt k → adX k o ≠ q ∧ adX k o ≠ w) (hf : g_told n t σ = some σ') (sz : Nat) : k_M l yL_told cL_told 5 none 4 85 12 60 G (fun H => z_W 0 G adX σ H ∧ k_str G q w n t H) sz [.ref (adX 7 0), .ref q] none (fun H => z_W 0 G adX σ' H) (z_A 0 adX sz) := by
  refine k_begin (by decide +kernel) (Nat.le_of_ble_eq_true rfl) [(0, .ref (adX 7 0)), (1, .ref q)] rfl (fun p e s m args below meth c ls C hnm hsz hP hO hl => ?_)
  subst hsz
  unfold g_told at hf
  obtain ⟨σ1, hf1, hf2⟩ : ∃ σ1, g_out n t 12 0 σ = some σ1 ∧ bi (f_X7_truncateInput σ1 (nI n)) (fun _ σ2 => some σ2) = some σ' := by
    cases h : g_out n t 12 0 σ with
    | none => rw [h] at hf; cases hf
    | some σ1 => rw [h] at hf; exact ⟨σ1, rfl, hf⟩
  obtain ⟨r2, σ2, hf3, hf4⟩ := bib hf2
  cases hf4
  have I : w_I G adX σ q w n t s s.heap [] := ⟨hP, va_S.rf⟩
  have hR : 4 ≤ ({ frames := 4, cells := 12, slots := 60, locals := 85 } : Room).frames ∧ 85 ≤ ({ frames := 4, cells := 12, slots := 60, locals := 85 } : Room).locals := ⟨Nat.le_refl _, Nat.le_refl _⟩
  refine lv_iconst (v := 0) C.1 C.2.1 dL_told_0 (by decide) ?_
  refine lv_istore_n (lv' := [(2, .int 0), (0, .ref (adX 7 0)), (1, .ref q)]) C.1 C.2.1 dL_told_1 rfl hl (by decide) rfl (fun ls hl => ?_)
  refine w_told_2 C hn hR hO.1 hap 12 0 (by decide) σ s.heap [] ls 0 0 hf1 I (lv_sub hl [1, 2, 0] rfl) (Nat.le_of_ble_eq_true rfl) (Nat.le_of_ble_eq_true rfl) (fun H locs ls I hl => ?_)
  refine lv_aload_n C.1 C.2.1 dL_told_96 rfl (lv_at hl 0 rfl) ?_
  refine lv_aload_n C.1 C.2.1 dL_told_97 rfl (lv_at hl 1 rfl) ?_
  refine k_callV C I.2 I.O (u_strC C I.O I.1.2) [] (k_lenS l G q w n t H.size) rfl I.1.2 kv_J0_length_8abf5 tw_3_110 ⟨(Nat.le_of_ble_eq_true rfl), (Nat.le_of_ble_eq_true rfl)⟩ rfl rfl (Nat.le_of_ble_eq_true rfl) hl.1 ⟨(Nat.le_of_ble_eq_true rfl), (Nat.le_of_ble_eq_true rfl)⟩ dL_told_98 (fun _ h => h.elim) (fun H1 locs1 hz1 hle1 o1 S1 => ?_)
  replace I := I.keep hle1 (fun x hx => o1 x hx id) S1
  refine w_callX C I hap rfl [.int (nI n)] (m_X7_truncateInput l G adX σ1 (nI n) r2 σ' hf3 _) kv_X7_truncateInput tw_3_120 ⟨(Nat.le_of_ble_eq_true rfl), (Nat.le_of_ble_eq_true rfl)⟩ rfl rfl (Nat.le_of_ble_eq_true rfl) hl.1 ⟨(Nat.le_of_ble_eq_true rfl), (Nat.le_of_ble_eq_true rfl)⟩ dL_told_101 (fun H4 locs4 I4 => ?_)
  refine lv_pop C.1 C.2.1 dL_told_104 rfl ?_
  exact k_vret C I4.2 I4.1.1 (Nat.le_of_ble_eq_true rfl) (Nat.le_of_ble_eq_true rfl) dL_told_105

