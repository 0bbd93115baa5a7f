/-! the law's body: its loop, its acts, its end; then its beginning -/
theorem dL_law_0 : decode cL_law 0 = .ok (.new 31, 3) := by decide +kernel
theorem dL_law_3 : decode cL_law 3 = .ok (.dup, 1) := by decide +kernel
theorem dL_law_4 : decode cL_law 4 = .ok (.aload_n 0, 1) := by decide +kernel
theorem dL_law_5 : decode cL_law 5 = .ok (.invokespecial 341, 3) := by decide +kernel
theorem dL_law_8 : decode cL_law 8 = .ok (.astore_n 1, 1) := by decide +kernel
theorem dL_law_9 : decode cL_law 9 = .ok (.new 12, 3) := by decide +kernel
theorem dL_law_12 : decode cL_law 12 = .ok (.dup, 1) := by decide +kernel
theorem dL_law_13 : decode cL_law 13 = .ok (.invokespecial 344, 3) := by decide +kernel
theorem dL_law_16 : decode cL_law 16 = .ok (.astore_n 2, 1) := by decide +kernel
theorem dL_law_17 : decode cL_law 17 = .ok (.aload_n 2, 1) := by decide +kernel
theorem dL_law_18 : decode cL_law 18 = .ok (.aload_n 1, 1) := by decide +kernel
theorem dL_law_19 : decode cL_law 19 = .ok (.invokevirtual 345, 3) := by decide +kernel
theorem dL_law_22 : decode cL_law 22 = .ok (.invokestatic 348, 3) := by decide +kernel
theorem dL_law_25 : decode cL_law 25 = .ok (.aload_n 2, 1) := by decide +kernel
theorem dL_law_26 : decode cL_law 26 = .ok (.invokevirtual 352, 3) := by decide +kernel
theorem dL_law_29 : decode cL_law 29 = .ok (.aload_n 1, 1) := by decide +kernel
theorem dL_law_30 : decode cL_law 30 = .ok (.getfield 30, 3) := by decide +kernel
theorem dL_law_33 : decode cL_law 33 = .ok (.invokeinterface 227 1, 5) := by decide +kernel
theorem dL_law_38 : decode cL_law 38 = .ok (.if_icmp .ne 11, 3) := by decide +kernel
theorem dL_law_41 : decode cL_law 41 = .ok (.aload_n 1, 1) := by decide +kernel
theorem dL_law_42 : decode cL_law 42 = .ok (.aload_n 2, 1) := by decide +kernel
theorem dL_law_43 : decode cL_law 43 = .ok (.invokevirtual 355, 3) := by decide +kernel
theorem dL_law_46 : decode cL_law 46 = .ok (.ifCond .ne 5, 3) := by decide +kernel
theorem dL_law_49 : decode cL_law 49 = .ok (.iconst 0, 1) := by decide +kernel
theorem dL_law_50 : decode cL_law 50 = .ok (.ireturn, 1) := by decide +kernel
theorem dL_law_51 : decode cL_law 51 = .ok (.iconst 0, 1) := by decide +kernel
theorem dL_law_52 : decode cL_law 52 = .ok (.istore_n 3, 1) := by decide +kernel
theorem dL_law_53 : decode cL_law 53 = .ok (.iload_n 3, 1) := by decide +kernel
theorem dL_law_54 : decode cL_law 54 = .ok (.bipush 36, 2) := by decide +kernel
theorem dL_law_56 : decode cL_law 56 = .ok (.if_icmp .ge 45, 3) := by decide +kernel
theorem dL_law_59 : decode cL_law 59 = .ok (.aload_n 1, 1) := by decide +kernel
theorem dL_law_60 : decode cL_law 60 = .ok (.aload_n 2, 1) := by decide +kernel
theorem dL_law_61 : decode cL_law 61 = .ok (.aload_n 0, 1) := by decide +kernel
theorem dL_law_62 : decode cL_law 62 = .ok (.bipush 8, 2) := by decide +kernel
theorem dL_law_64 : decode cL_law 64 = .ok (.iload_n 3, 1) := by decide +kernel
theorem dL_law_65 : decode cL_law 65 = .ok (.bipush 12, 2) := by decide +kernel
theorem dL_law_67 : decode cL_law 67 = .ok (.irem, 1) := by decide +kernel
theorem dL_law_68 : decode cL_law 68 = .ok (.iadd, 1) := by decide +kernel
theorem dL_law_69 : decode cL_law 69 = .ok (.invokestatic 56, 3) := by decide +kernel
theorem dL_law_72 : decode cL_law 72 = .ok (.iload_n 3, 1) := by decide +kernel
theorem dL_law_73 : decode cL_law 73 = .ok (.bipush 12, 2) := by decide +kernel
theorem dL_law_75 : decode cL_law 75 = .ok (.idiv, 1) := by decide +kernel
theorem dL_law_76 : decode cL_law 76 = .ok (.iconst 5, 1) := by decide +kernel
theorem dL_law_77 : decode cL_law 77 = .ok (.imul, 1) := by decide +kernel
theorem dL_law_78 : decode cL_law 78 = .ok (.iushr, 1) := by decide +kernel
theorem dL_law_79 : decode cL_law 79 = .ok (.invokevirtual 359, 3) := by decide +kernel
theorem dL_law_82 : decode cL_law 82 = .ok (.ifCond .eq 11, 3) := by decide +kernel
theorem dL_law_85 : decode cL_law 85 = .ok (.aload_n 1, 1) := by decide +kernel
theorem dL_law_86 : decode cL_law 86 = .ok (.aload_n 2, 1) := by decide +kernel
theorem dL_law_87 : decode cL_law 87 = .ok (.invokevirtual 355, 3) := by decide +kernel
theorem dL_law_90 : decode cL_law 90 = .ok (.ifCond .ne 5, 3) := by decide +kernel
theorem dL_law_93 : decode cL_law 93 = .ok (.iconst 0, 1) := by decide +kernel
theorem dL_law_94 : decode cL_law 94 = .ok (.ireturn, 1) := by decide +kernel
theorem dL_law_95 : decode cL_law 95 = .ok (.iinc 3 1, 3) := by decide +kernel
theorem dL_law_98 : decode cL_law 98 = .ok (.goto (-45), 3) := by decide +kernel
theorem dL_law_101 : decode cL_law 101 = .ok (.aload_n 1, 1) := by decide +kernel
theorem dL_law_102 : decode cL_law 102 = .ok (.getfield 52, 3) := by decide +kernel
theorem dL_law_105 : decode cL_law 105 = .ok (.bipush 30, 2) := by decide +kernel
theorem dL_law_107 : decode cL_law 107 = .ok (.if_icmp .ne 7, 3) := by decide +kernel
theorem dL_law_110 : decode cL_law 110 = .ok (.iconst 1, 1) := by decide +kernel
theorem dL_law_111 : decode cL_law 111 = .ok (.goto 4, 3) := by decide +kernel
theorem dL_law_114 : decode cL_law 114 = .ok (.iconst 0, 1) := by decide +kernel
theorem dL_law_115 : decode cL_law 115 = .ok (.ireturn, 1) := by decide +kernel
section LB
variable {p : Program} {l : Launch} {e : Env} {R : Room} {s : State} {m : MethodId} {args : Array Value} {below : List Frame} {meth : Method} {c : Code} {H : Heap} {locs : List Loc} {cells slots : Nat} {Q : State → Prop}
variable {cc : ByteArray} {pc : Nat} {ls : Array Slot} {rest : List Value} {nL : Nat} {ret2 : Option FieldType} {G : Gx} {adX : Ad} {σ τ σ' τ' : Sg} {n0 : Nat}
/-- both worlds, behind the first calls -/
def l_I (G : Gx) (n0 : Nat) (adX : Ad) (σ τ : Sg) (s : State) (H : Heap) (locs : List Loc) : Prop := ∃ (N : Nn) (ad : Ad), N.2.2 = (0, 0) ∧ ad 40 0 = n0 ∧ q_S G ad N (x_c G adX σ) τ [] (fun q => s.heap.size ≤ q) s.heap H locs
def g_arg (ns : Nat) (w : Nat → Int32) (k : Nat) : Int32 := jush (t_cell ns w (8 + k % 12)) (nI (k / 12) * 5)
/-- the acts of the law, each true, each followed by a comparison that is true: what they make, where they end -/
def g_acts (ns : Nat) (w : Nat → Int32) : Nat → Nat → Sg → Sg → Nat → Sg → Sg → Prop
  | 0, _, σ, τ, d, σ', τ' => d = 0 ∧ σ' = σ ∧ τ' = τ
  | j + 1, k, σ, τ, d, σ', τ' => ∃ σ1 τ1 d1 σ2 τ2 d2 d3, f_L_act_ σ τ (g_arg ns w k) = some (1, σ1, τ1, d1) ∧ f_L_isSame σ1 τ1 = some (1, σ2, τ2, d2) ∧ g_acts ns w j (k + 1) σ2 τ2 d3 σ' τ' ∧ d = d1 + d2 + d3
theorem q_callB {y : MethodName} {bytes : ByteArray} {maxL n fr lo cn index : Nat} {ret3 : Option FieldType} {v : Option Value} {st : List Value} (C : Cx p s m args meth c RL cc nL ret2 G) (hXA : ∀ q, z_X adX q → s.heap.size ≤ q) (I : l_I G n0 adX σ τ s H locs) (As : List Value) (hy : y.cls = RL)
    (hM : ∀ (N : Nn) (ad : Ad), N.2.2 = (0, 0) → b_M l y bytes maxL ret3 fr lo cn G ad N adX σ τ H.size (.ref (ad 40 0) :: As) v σ' τ') (kv : KV y bytes maxL ret3 n) (hl : Cond.methodLink RL index y ∈ TT) (hR : fr + 1 ≤ R.frames ∧ 8 + (maxL + 11) + lo ≤ R.locals) (hn : As.length = n) (hst : st = As.reverse ++ .ref n0 :: rest) (hW8 : (rest.map fun v => v.category).sum ≤ 8) (hls : ls.size = nL) (hcs : cells + cn ≤ R.cells ∧ 6 * cells + 6 * cn ≤ R.slots)
    (hdg : decode cc pc = .ok (.invokevirtual index, 3))
    (kk : ∀ (H1 : Heap) (locs1 : List Loc), l_I G n0 adX σ' τ' s H1 locs1 → W p l e R s m args below meth c H1 locs1 (cells + cn) (6 * (cells + cn)) Q (F0 m (pc + 3) ls (v.toList ++ rest))) : W p l e R s m args below meth c H locs cells (6 * cells) Q (F0 m pc ls st) := by
  obtain ⟨N, ad, hN, rfl, S⟩ := I
  have hO := S.O
  have hth := q_this C S
  obtain ⟨⟨ad', he, V, aa, -, E⟩, S1, hA⟩ := S
  have h40 : ad' 40 0 = ad 40 0 := he 40 0 rfl
  rw [← h40] at hth hst
  have hbA : ∀ q, b_A ad' N τ adX H.size q → s.heap.size ≤ q := by
    rintro q ((⟨k, o, h, rfl⟩ | h) | h)
    · exact aa k o h
    · exact Nat.le_trans S1.1 h
    · exact hXA q h
  refine k_callV C S1 hO (by rw [hy]; exact hth) As (hM N ad' hN) rfl ⟨V, E⟩ kv hl hR hn hst hW8 hls hcs hdg hbA (fun H1 locs1 hp hle ok S2 => ?_)
  have e6 : 6 * cells + 6 * cn = 6 * (cells + cn) := by omega
  rw [e6]
  refine kk H1 locs1 ?_
  obtain ⟨N2, ad2, hN2, ha2, V2, aa2, E2⟩ := hp
  exact ⟨N2, ad2, hN2, ha2.trans h40, ⟨ad2, fun _ _ _ => rfl, V2, fun k o h => hbA _ (aa2 k o h), fun x hx => absurd hx List.not_mem_nil, E2⟩, S2, hA⟩
theorem l_rem : ∀ k, k < 36 → nI k - nI k / 12 * 12 = nI (k % 12) := by decide +kernel
theorem l_div : ∀ k, k < 36 → nI k / 12 = nI (k / 12) := by decide +kernel
theorem l_8 : ∀ k, k < 36 → (8 : Int32) + nI (k % 12) = nI (8 + k % 12) := by decide +kernel
set_option maxHeartbeats 4000000 in
set_option maxRecDepth 100000 in
theorem w_law_53 {b ns : Nat} {w : Nat → Int32} (C : Cx p s m args meth c RL cL_law 4 ret2 G) (FX : F_X G adX) (hXA : ∀ q, z_X adX q → s.heap.size ≤ q) (hns : ns < 2147483648) (hS : x_S G b ns w) (hR : 11 ≤ R.frames ∧ 300 ≤ R.locals) : ∀ j k, j + k = 36 → ∀ (σ τ : Sg) (d : Nat) (H : Heap) (locs : List Loc) (ls : Array Slot) (cells : Nat), g_acts ns w j k σ τ d σ' τ' → l_I G n0 adX σ τ s H locs → lv_has ls 4 [(3, .int (nI k)), (2, .ref (adX 7 0)), (1, .ref n0), (0, .ref b)] → cells + d ≤ R.cells → 6 * (cells + d) ≤ R.slots →
    (∀ (H : Heap) (locs : List Loc) (ls : Array Slot), l_I G n0 adX σ' τ' s H locs → lv_has ls 4 [(1, .ref n0)] → W p l e R s m args below meth c H locs (cells + d) (6 * (cells + d)) Q (F0 m 101 ls [])) → W p l e R s m args below meth c H locs cells (6 * cells) Q (F0 m 53 ls []) := by
  intro j
  induction j with
  | zero =>
    intro k hk σ τ d H locs ls cells hg I hl hc hs hq
    obtain ⟨rfl, rfl, rfl⟩ := hg
    have hk2 : k = 36 := by omega
    subst hk2
    refine lv_iload_n C.1 C.2.1 dL_law_53 rfl (lv_at hl 0 rfl) ?_
    refine lv_bipush (v := 36) C.1 C.2.1 dL_law_54 (by decide) ?_
    refine lv_icmp_ge (tgt := 101) C.1 C.2.1 dL_law_56 (by decide) (fun c_ => ?_) (fun c_ => absurd (show (36 : Int32) ≤ nI 36 by decide) c_)
    exact hq H locs ls I (lv_sub hl [2] rfl)
  | succ j ih =>
    intro k hk σ τ d H locs ls cells hg I hl hc hs hq
    obtain ⟨σ1, τ1, d1, σ2, τ2, d2, d3, f1, f2, f3, rfl⟩ := hg
    have hk36 : k < 36 := by omega
    refine lv_iload_n C.1 C.2.1 dL_law_53 rfl (lv_at hl 0 rfl) ?_
    refine lv_bipush (v := 36) C.1 C.2.1 dL_law_54 (by decide) ?_
    refine lv_icmp_ge (tgt := 101) C.1 C.2.1 dL_law_56 (by decide) (fun c_ => absurd (show nI 36 ≤ nI k from c_) (nI_ge hk36 (by decide))) (fun c_ => ?_)
    refine lv_aload_n C.1 C.2.1 dL_law_59 rfl (lv_at hl 2 rfl) ?_
    refine lv_aload_n C.1 C.2.1 dL_law_60 rfl (lv_at hl 1 rfl) ?_
    refine lv_aload_n C.1 C.2.1 dL_law_61 rfl (lv_at hl 3 rfl) ?_
    refine lv_bipush (v := 8) C.1 C.2.1 dL_law_62 (by decide) ?_
    refine lv_iload_n C.1 C.2.1 dL_law_64 rfl (lv_at hl 0 rfl) ?_
    refine lv_bipush (v := 12) C.1 C.2.1 dL_law_65 (by decide) ?_
    refine lv_irem C.1 C.2.1 dL_law_67 (by decide) ?_
    rw [l_rem k hk36]
    refine lv_iadd C.1 C.2.1 dL_law_68 ?_
    rw [l_8 k hk36]
    obtain ⟨N, ad, hN, ha, S⟩ := I
    refine k_callS C S.2.1 S.O [.ref b, .int (nI (8 + k % 12))] (k_cell l G b ns (8 + k % 12) w hns (by omega) H.size) rfl hS kv_L_cell tw_3_104 ⟨by have := hR.1; omega, by have := hR.2; omega⟩ rfl rfl (Nat.le_of_ble_eq_true rfl) hl.1 ⟨by omega, by omega⟩ dL_law_69 (fun _ h => h.elim) (fun H1 locs1 hz1 hle1 o1 S1 => ?_)
    have I1 : l_I G n0 adX σ τ s H1 locs1 := ⟨N, ad, hN, ha, S.keep hle1 (fun x hx => o1 x hx id) S1⟩
    clear S hN ha
    refine lv_iload_n C.1 C.2.1 dL_law_72 rfl (lv_at hl 0 rfl) ?_
    refine lv_bipush (v := 12) C.1 C.2.1 dL_law_73 (by decide) ?_
    refine lv_idiv C.1 C.2.1 dL_law_75 (by decide) ?_
    rw [l_div k hk36]
    refine lv_iconst (v := 5) C.1 C.2.1 dL_law_76 (by decide) ?_
    refine lv_imul C.1 C.2.1 dL_law_77 ?_
    refine lv_iushr (v := g_arg ns w k) C.1 C.2.1 dL_law_78 rfl ?_
    refine q_callB C hXA I1 [.ref (adX 7 0), .int (g_arg ns w k)] rfl (fun N ad hN => m_L_act_ l G ad N adX FX hN σ τ (g_arg ns w k) (1, σ1, τ1) d1 f1 H1.size) kv_L_act_ tw_6_198 ⟨by have := hR.1; omega, by have := hR.2; omega⟩ rfl rfl (Nat.le_of_ble_eq_true rfl) hl.1 ⟨by omega, by omega⟩ dL_law_79 (fun H2 locs2 I2 => ?_)
    refine lv_if_eq (tgt := 93) C.1 C.2.1 dL_law_82 (by decide) (fun c_ => absurd (show (1 : Int32) = 0 from c_) (by decide)) (fun c_ => ?_)
    refine lv_aload_n C.1 C.2.1 dL_law_85 rfl (lv_at hl 2 rfl) ?_
    refine lv_aload_n C.1 C.2.1 dL_law_86 rfl (lv_at hl 1 rfl) ?_
    refine q_callB C hXA I2 [.ref (adX 7 0)] rfl (fun N ad hN => m_L_isSame l G ad N adX FX hN σ1 τ1 (1, σ2, τ2) d2 f2 H2.size) kv_L_isSame tw_5_185 ⟨by have := hR.1; omega, by have := hR.2; omega⟩ rfl rfl (Nat.le_of_ble_eq_true rfl) hl.1 ⟨by omega, by omega⟩ dL_law_87 (fun H3 locs3 I3 => ?_)
    refine lv_if_ne (tgt := 95) C.1 C.2.1 dL_law_90 (by decide) (fun c_ => ?_) (fun c_ => absurd (show (1 : Int32) = 0 from c_) (by decide))
    refine lv_iinc (v := nI k + 1) (lv' := [(3, .int (nI k + 1)), (2, .ref (adX 7 0)), (1, .ref n0), (0, .ref b)]) C.1 C.2.1 dL_law_95 hl (k := 0) rfl rfl (by decide) rfl (fun ls hl => ?_)
    refine lv_goto (tgt := 53) C.1 C.2.1 dL_law_98 (by decide) ?_
    rw [show nI k + 1 = nI (k + 1) from (Int32.ofNat_add k 1).symm] at hl
    refine ih (k + 1) (by omega) σ2 τ2 d3 H3 locs3 ls (cells + d1 + d2) f3 I3 hl (by omega) (by omega) (fun H locs ls I hl => ?_)
    have h9 := hq H locs ls I hl
    rw [show cells + (d1 + d2 + d3) = cells + d1 + d2 + d3 by omega] at h9
    exact h9
end LB

