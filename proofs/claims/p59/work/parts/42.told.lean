/-! the law tells the class its text -/
theorem dL_told_0 : decode cL_told 0 = .ok (.iconst 0, 1) := by decide +kernel
theorem dL_told_1 : decode cL_told 1 = .ok (.istore_n 2, 1) := by decide +kernel
theorem dL_told_2 : decode cL_told 2 = .ok (.iload_n 2, 1) := by decide +kernel
theorem dL_told_3 : decode cL_told 3 = .ok (.aload_n 1, 1) := by decide +kernel
theorem dL_told_4 : decode cL_told 4 = .ok (.invokevirtual 1, 3) := by decide +kernel
theorem dL_told_7 : decode cL_told 7 = .ok (.if_icmp .ge 89, 3) := by decide +kernel
theorem dL_told_10 : decode cL_told 10 = .ok (.iconst 5, 1) := by decide +kernel
theorem dL_told_11 : decode cL_told 11 = .ok (.newarray .int, 2) := by decide +kernel
theorem dL_told_13 : decode cL_told 13 = .ok (.astore_n 3, 1) := by decide +kernel
theorem dL_told_14 : decode cL_told 14 = .ok (.iconst 0, 1) := by decide +kernel
theorem dL_told_15 : decode cL_told 15 = .ok (.istore 4, 2) := by decide +kernel
theorem dL_told_17 : decode cL_told 17 = .ok (.iload 4, 2) := by decide +kernel
theorem dL_told_19 : decode cL_told 19 = .ok (.bipush 20, 2) := by decide +kernel
theorem dL_told_21 : decode cL_told 21 = .ok (.if_icmp .ge 49, 3) := by decide +kernel
theorem dL_told_24 : decode cL_told 24 = .ok (.aload_n 3, 1) := by decide +kernel
theorem dL_told_25 : decode cL_told 25 = .ok (.iload 4, 2) := by decide +kernel
theorem dL_told_27 : decode cL_told 27 = .ok (.iconst 4, 1) := by decide +kernel
theorem dL_told_28 : decode cL_told 28 = .ok (.idiv, 1) := by decide +kernel
theorem dL_told_29 : decode cL_told 29 = .ok (.aload_n 3, 1) := by decide +kernel
theorem dL_told_30 : decode cL_told 30 = .ok (.iload 4, 2) := by decide +kernel
theorem dL_told_32 : decode cL_told 32 = .ok (.iconst 4, 1) := by decide +kernel
theorem dL_told_33 : decode cL_told 33 = .ok (.idiv, 1) := by decide +kernel
theorem dL_told_34 : decode cL_told 34 = .ok (.iaload, 1) := by decide +kernel
theorem dL_told_35 : decode cL_told 35 = .ok (.bipush 8, 2) := by decide +kernel
theorem dL_told_37 : decode cL_told 37 = .ok (.ishl, 1) := by decide +kernel
theorem dL_told_38 : decode cL_told 38 = .ok (.iload_n 2, 1) := by decide +kernel
theorem dL_told_39 : decode cL_told 39 = .ok (.iload 4, 2) := by decide +kernel
theorem dL_told_41 : decode cL_told 41 = .ok (.iadd, 1) := by decide +kernel
theorem dL_told_42 : decode cL_told 42 = .ok (.aload_n 1, 1) := by decide +kernel
theorem dL_told_43 : decode cL_told 43 = .ok (.invokevirtual 1, 3) := by decide +kernel
theorem dL_told_46 : decode cL_told 46 = .ok (.if_icmp .ge 14, 3) := by decide +kernel
theorem dL_told_49 : decode cL_told 49 = .ok (.aload_n 1, 1) := by decide +kernel
theorem dL_told_50 : decode cL_told 50 = .ok (.iload_n 2, 1) := by decide +kernel
theorem dL_told_51 : decode cL_told 51 = .ok (.iload 4, 2) := by decide +kernel
theorem dL_told_53 : decode cL_told 53 = .ok (.iadd, 1) := by decide +kernel
theorem dL_told_54 : decode cL_told 54 = .ok (.invokevirtual 7, 3) := by decide +kernel
theorem dL_told_57 : decode cL_told 57 = .ok (.goto 5, 3) := by decide +kernel
theorem dL_told_60 : decode cL_told 60 = .ok (.bipush 32, 2) := by decide +kernel
theorem dL_told_62 : decode cL_told 62 = .ok (.ior, 1) := by decide +kernel
theorem dL_told_63 : decode cL_told 63 = .ok (.iastore, 1) := by decide +kernel
theorem dL_told_64 : decode cL_told 64 = .ok (.iinc 4 1, 3) := by decide +kernel
theorem dL_told_67 : decode cL_told 67 = .ok (.goto (-50), 3) := by decide +kernel
theorem dL_told_70 : decode cL_told 70 = .ok (.aload_n 0, 1) := by decide +kernel
theorem dL_told_71 : decode cL_told 71 = .ok (.aload_n 3, 1) := by decide +kernel
theorem dL_told_72 : decode cL_told 72 = .ok (.iconst 0, 1) := by decide +kernel
theorem dL_told_73 : decode cL_told 73 = .ok (.iaload, 1) := by decide +kernel
theorem dL_told_74 : decode cL_told 74 = .ok (.aload_n 3, 1) := by decide +kernel
theorem dL_told_75 : decode cL_told 75 = .ok (.iconst 1, 1) := by decide +kernel
theorem dL_told_76 : decode cL_told 76 = .ok (.iaload, 1) := by decide +kernel
theorem dL_told_77 : decode cL_told 77 = .ok (.aload_n 3, 1) := by decide +kernel
theorem dL_told_78 : decode cL_told 78 = .ok (.iconst 2, 1) := by decide +kernel
theorem dL_told_79 : decode cL_told 79 = .ok (.iaload, 1) := by decide +kernel
theorem dL_told_80 : decode cL_told 80 = .ok (.aload_n 3, 1) := by decide +kernel
theorem dL_told_81 : decode cL_told 81 = .ok (.iconst 3, 1) := by decide +kernel
theorem dL_told_82 : decode cL_told 82 = .ok (.iaload, 1) := by decide +kernel
theorem dL_told_83 : decode cL_told 83 = .ok (.aload_n 3, 1) := by decide +kernel
theorem dL_told_84 : decode cL_told 84 = .ok (.iconst 4, 1) := by decide +kernel
theorem dL_told_85 : decode cL_told 85 = .ok (.iaload, 1) := by decide +kernel
theorem dL_told_86 : decode cL_told 86 = .ok (.invokevirtual 11, 3) := by decide +kernel
theorem dL_told_89 : decode cL_told 89 = .ok (.pop, 1) := by decide +kernel
theorem dL_told_90 : decode cL_told 90 = .ok (.iinc 2 20, 3) := by decide +kernel
theorem dL_told_93 : decode cL_told 93 = .ok (.goto (-91), 3) := by decide +kernel
theorem dL_told_96 : decode cL_told 96 = .ok (.aload_n 0, 1) := by decide +kernel
theorem dL_told_97 : decode cL_told 97 = .ok (.aload_n 1, 1) := by decide +kernel
theorem dL_told_98 : decode cL_told 98 = .ok (.invokevirtual 1, 3) := by decide +kernel
theorem dL_told_101 : decode cL_told 101 = .ok (.invokevirtual 17, 3) := by decide +kernel
theorem dL_told_104 : decode cL_told 104 = .ok (.pop, 1) := by decide +kernel
theorem dL_told_105 : decode cL_told 105 = .ok (.return_, 1) := by decide +kernel
theorem kv_L_told : KS yL_told cL_told 5 none 2 := ⟨tw_3_109, tw_3_108, tw_1_0, by decide, by decide, by decide +kernel⟩
def g_let (n : Nat) (t : Nat → Int32) (j : Nat) : Int32 := if j < n then t_chr (t j) else 32
def g_in (n : Nat) (t : Nat → Int32) (k : Nat) : Nat → Nat → Int32
  | 0 => fun _ => 0
  | i + 1 => upd (g_in n t k i) (i / 4) ((g_in n t k i (i / 4)) <<< ((8 : Int32) &&& 31) ||| g_let n t (k + i))
theorem div4 : ∀ i, i < 20 → nI i / 4 = nI (i / 4) := by decide +kernel
theorem z_W.keep {G : Gx} {adX : Ad} {σ : Sg} {H H1 : Heap} (h : z_W 0 G adX σ H) (hle : H.size ≤ H1.size) (ok : ∀ x : Nat, x < H.size → (∀ k o, o < z_cnt k → adX k o = x → H1[x]? = H[x]?)) (hO : z_O G H1) : z_W 0 G adX σ H1 :=
  ⟨fun k o hk ho => (h.1 k o hk ho).kept (ok _ (h.1 k o hk ho).lt k o ho rfl), h.2.1, h.2.2.1, hO.1, hO.2⟩
/-- class world, string, the words that are filled -/
def w_I (G : Gx) (adX : Ad) (σ : Sg) (q w n : Nat) (t : Nat → Int32) (s : State) (H : Heap) (locs : List Loc) : Prop := (z_W 0 G adX σ H ∧ k_str G q w n t H) ∧ va_S (z_A 0 adX s.heap.size) s.heap H locs
theorem w_I.O {G : Gx} {adX : Ad} {σ : Sg} {q w n : Nat} {t : Nat → Int32} {s : State} {H : Heap} {locs : List Loc} (h : w_I G adX σ q w n t s H locs) : z_O G H := ⟨h.1.1.2.2.2.1, h.1.1.2.2.2.2⟩
theorem w_I.keep {G : Gx} {adX : Ad} {σ : Sg} {q w n : Nat} {t : Nat → Int32} {s : State} {H H1 : Heap} {locs locs1 : List Loc} (h : w_I G adX σ q w n t s H locs) (hle : H.size ≤ H1.size) (ok : ∀ x : Nat, x < H.size → H1[x]? = H[x]?) (S : va_S (z_A 0 adX s.heap.size) s.heap H1 locs1) : w_I G adX σ q w n t s H1 locs1 :=
  ⟨⟨h.1.1.keep hle (fun x hx _ _ _ _ => ok x hx) ⟨Nat.le_trans h.O.1 hle, fun x hx => (ok x (Nat.lt_of_lt_of_le hx h.O.1)).trans (h.O.2 x hx)⟩, h.1.2.kept ok⟩, S⟩
theorem w_I.put {G : Gx} {adX : Ad} {σ : Sg} {q w n wa : Nat} {t : Nat → Int32} {s : State} {H H1 : Heap} {locs locs1 : List Loc} (h : w_I G adX σ q w n t s H locs) (hz : H1.size = H.size) (oq : ∀ x : Nat, x ≠ wa → H1[x]? = H[x]?) (h1 : q ≠ wa ∧ w ≠ wa) (h2 : ∀ k o, o < z_cnt k → adX k o ≠ wa) (h3 : G.2.2.1.size ≤ wa) (S : va_S (z_A 0 adX s.heap.size) s.heap H1 locs1) : w_I G adX σ q w n t s H1 locs1 :=
  ⟨⟨h.1.1.keep (Nat.le_of_eq hz.symm) (fun x hx k o ho e => oq x (fun z => h2 k o ho (e.trans z))) (h.O.put hz oq h3), h.1.2.kept' (oq _ h1.1) (oq _ h1.2)⟩, S⟩
set_option maxHeartbeats 4000000 in
set_option maxRecDepth 100000 in
theorem w_told_17 {p : Program} {l : Launch} {e : Env} {s : State} {m : MethodId} {args : Array Value} {below : List Frame} {meth : Method} {c : Code} {G : Gx} {adX : Ad} {R : Room} {Q : State → Prop} {q w n : Nat} {t : Nat → Int32} (C : Cx p s m args meth c yL_told.cls cL_told 5 none G) (hn : n ≤ 240) (hR : 4 ≤ R.frames ∧ 85 ≤ R.locals) {σ : Sg} {wa k cells slots : Nat} (hk : k ≤ 260) (hwa : s.heap.size ≤ wa) (hwq : q ≠ wa ∧ w ≠ wa) (hwx : ∀ k o, o < z_cnt k → adX k o ≠ wa) (hG0 : G.2.2.1.size ≤ s.heap.size) (hcs : cells ≤ R.cells ∧ slots ≤ R.slots) : ∀ j i, i + j = 20 → ∀ (H : Heap) (locs : List Loc) (ls : Array Slot), w_I G adX σ q w n t s H locs → va_at G.1 z_cl (wa, .inl (G.2.1 0, 5, .inl (g_in n t k i))) H → lv_has ls 5 [(0, .ref (adX 7 0)), (1, .ref q), (2, .int (nI k)), (3, .ref wa), (4, .int (nI i))] →
    (∀ (H : Heap) (locs : List Loc) (ls : Array Slot), w_I G adX σ q w n t s H locs → va_at G.1 z_cl (wa, .inl (G.2.1 0, 5, .inl (g_in n t k 20))) H → lv_has ls 5 [(0, .ref (adX 7 0)), (1, .ref q), (2, .int (nI k)), (3, .ref wa)] → W p l e R s m args below meth c H locs cells slots Q (F0 m 70 ls [])) → W p l e R s m args below meth c H locs cells slots Q (F0 m 17 ls []) := by
  intro j
  induction j with
  | zero =>
    intro i hi H locs ls I ha hl hq
    have hi2 : i = 20 := by omega
    subst hi2
    refine lv_iload C.1 C.2.1 dL_told_17 (lv_at hl 4 rfl) ?_
    refine lv_bipush (v := 20) C.1 C.2.1 dL_told_19 (by decide) ?_
    refine lv_icmp_ge (tgt := 70) C.1 C.2.1 dL_told_21 (by decide) (fun c_ => ?_) (fun c_ => absurd (show (20 : Int32) ≤ nI 20 by decide) c_)
    exact hq H locs ls I ha (lv_sub hl [0, 1, 2, 3] rfl)
  | succ j ih =>
    intro i hi H locs ls I ha hl hq
    have hi20 : i < 20 := by omega
    have hd := div4 i hi20
    have hb : ¬ (nI (i / 4) < 0 ∨ 5 ≤ (nI (i / 4)).toNatClampNeg) := by
      rw [nI_clamp (by omega)]
      exact fun z => z.elim (fun z => nI_pos (by omega) z) (fun z => by omega)
    refine lv_iload C.1 C.2.1 dL_told_17 (lv_at hl 4 rfl) ?_
    refine lv_bipush (v := 20) C.1 C.2.1 dL_told_19 (by decide) ?_
    refine lv_icmp_ge (tgt := 70) C.1 C.2.1 dL_told_21 (by decide) (fun c_ => absurd (show nI 20 ≤ nI i from c_) (nI_ge hi20 (by decide))) (fun c_ => ?_)
    refine lv_aload_n C.1 C.2.1 dL_told_24 rfl (lv_at hl 3 rfl) ?_
    refine lv_iload C.1 C.2.1 dL_told_25 (lv_at hl 4 rfl) ?_
    refine lv_iconst (v := 4) C.1 C.2.1 dL_told_27 (by decide) ?_
    refine lv_idiv C.1 C.2.1 dL_told_28 (by decide) ?_
    rw [hd]
    refine lv_aload_n C.1 C.2.1 dL_told_29 rfl (lv_at hl 3 rfl) ?_
    refine lv_iload C.1 C.2.1 dL_told_30 (lv_at hl 4 rfl) ?_
    refine lv_iconst (v := 4) C.1 C.2.1 dL_told_32 (by decide) ?_
    refine lv_idiv C.1 C.2.1 dL_told_33 (by decide) ?_
    rw [hd]
    refine u_iald C ha hb dL_told_34 ?_
    rw [nI_clamp (show i / 4 < 2 ^ 31 by omega)]
    refine lv_bipush (v := 8) C.1 C.2.1 dL_told_35 (by decide) ?_
    refine lv_ishl C.1 C.2.1 dL_told_37 ?_
    refine lv_iload_n C.1 C.2.1 dL_told_38 rfl (lv_at hl 2 rfl) ?_
    refine lv_iload C.1 C.2.1 dL_told_39 (lv_at hl 4 rfl) ?_
    refine lv_iadd C.1 C.2.1 dL_told_41 ?_
    have eki : nI k + nI i = nI (k + i) := (Int32.ofNat_add k i).symm
    rw [eki]
    refine lv_aload_n C.1 C.2.1 dL_told_42 rfl (lv_at hl 1 rfl) ?_
    refine k_callV C I.2 I.O (u_strC C I.O I.1.2) [] (k_lenS l G q w n t H.size) rfl I.1.2 kv_J0_length_8abf5 tw_3_110 ⟨by have := hR.1; omega, by have := hR.2; omega⟩ rfl rfl (Nat.le_of_ble_eq_true rfl) hl.1 ⟨by omega, by omega⟩ dL_told_43 (fun _ h => h.elim) (fun H1 locs1 hz1 hle1 o1 S1 => ?_)
    replace I := I.keep hle1 (fun x hx => o1 x hx id) S1
    replace ha := va_at.kept ha (o1 _ ha.lt id)
    have k62 : ∀ (H : Heap) (locs : List Loc), w_I G adX σ q w n t s H locs → va_at G.1 z_cl (wa, .inl (G.2.1 0, 5, .inl (g_in n t k i))) H → W p l e R s m args below meth c H locs cells slots Q (F0 m 62 ls [.int (g_let n t (k + i)), .int ((g_in n t k i (i / 4)) <<< ((8 : Int32) &&& 31)), .int (nI (i / 4)), .ref wa]) := by
      intro H locs I ha
      refine lv_ior C.1 C.2.1 dL_told_62 ?_
      refine u_iast C I.2 ha (Or.inr hwa) hb dL_told_63 (fun H2 locs2 z2 o2 ha S2 => ?_)
      rw [nI_clamp (show i / 4 < 2 ^ 31 by omega)] at ha
      refine lv_iinc (v := nI i + 1) (lv' := [(4, .int (nI i + 1)), (0, .ref (adX 7 0)), (1, .ref q), (2, .int (nI k)), (3, .ref wa)]) C.1 C.2.1 dL_told_64 hl (k := 4) rfl rfl (by decide) rfl (fun ls hl => ?_)
      refine lv_goto (tgt := 17) C.1 C.2.1 dL_told_67 (by decide) ?_
      rw [← nI_succ] at hl
      exact ih (i + 1) (by omega) H2 locs2 ls (I.put z2 o2 hwq hwx (Nat.le_trans hG0 hwa) S2) ha (lv_sub hl [1, 2, 3, 4, 0] rfl) hq
    refine lv_icmp_ge (tgt := 60) C.1 C.2.1 dL_told_46 (by decide) (fun c_ => ?_) (fun c_ => ?_)
    · have hge : ¬ k + i < n := fun z => nI_ge z (by omega) c_
      refine lv_bipush (v := 32) C.1 C.2.1 dL_told_60 (by decide) ?_
      have h9 := k62 _ locs1 I ha
      rw [show g_let n t (k + i) = 32 from if_neg hge] at h9
      exact h9
    · have hlt : k + i < n := Nat.not_le.mp fun z => c_ (nI_le z (by omega))
      refine lv_aload_n C.1 C.2.1 dL_told_49 rfl (lv_at hl 1 rfl) ?_
      refine lv_iload_n C.1 C.2.1 dL_told_50 rfl (lv_at hl 2 rfl) ?_
      refine lv_iload C.1 C.2.1 dL_told_51 (lv_at hl 4 rfl) ?_
      refine lv_iadd C.1 C.2.1 dL_told_53 ?_
      rw [eki]
      refine k_callV C I.2 I.O (u_strC C I.O I.1.2) [.int (nI (k + i))] (k_chS l G q w n (k + i) t hlt (by omega) H1.size) rfl I.1.2 kv_J0_charAt_5068e tw_3_111 ⟨by have := hR.1; omega, by have := hR.2; omega⟩ rfl rfl (Nat.le_of_ble_eq_true rfl) hl.1 ⟨by omega, by omega⟩ dL_told_54 (fun _ h => h.elim) (fun H2 locs2 hz2 hle2 o2 S2 => ?_)
      refine lv_goto (tgt := 62) C.1 C.2.1 dL_told_57 (by decide) ?_
      have h9 := k62 H2 locs2 (I.keep hle2 (fun x hx => o2 x hx id) S2) (va_at.kept ha (o2 _ ha.lt id))
      rw [show g_let n t (k + i) = t_chr (t (k + i)) from if_pos hlt] at h9
      exact h9

