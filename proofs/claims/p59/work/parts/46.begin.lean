/-! the law's body: its beginning -/
theorem z_ad_ge (n0 : Nat) : ∀ k o, o < z_cnt k → n0 ≤ z_ad n0 0 k o := by
  intro k o h
  unfold z_ad
  split <;> first | exact Nat.le_refl _ | (show n0 ≤ _; unfold z_ca; omega) | (show n0 ≤ _; unfold z_mo; split <;> omega) | omega | skip
  exact absurd h (by unfold z_cnt; split <;> first | (exfalso; simp_all; done) | exact Nat.not_lt_zero o)
/-- what the law's text asks of the law's own numbers -/
def g_tok (τ : Sg) (nc : Nat) : Prop := (g_txt τ).1 ≤ 240 ∧ (q_num τ 40 0 3 ∧ q_num τ 40 0 8 ∧ q_num τ 40 0 9 ∧ q_num τ 40 0 10 ∧ q_num τ 40 0 11 ∧ q_num τ 40 0 13) ∧ (∀ i, i < q_nn τ 0 → q_num τ 41 i 0 ∧ q_num τ 41 i 1) ∧ (∀ i, i < q_nn τ 1 → q_num τ 42 i 2 ∧ q_num τ 42 i 0 ∧ q_num τ 42 i 1) ∧ q_nn τ 0 ≤ nc ∧ q_nn τ 1 ≤ 4
/-- what the pure side owes: the law's own start, its text told and loaded, the first comparison, the acts -/
def P_law (ns : Nat) (w : Nat → Int32) : Prop := ∃ (nc : Nat) (σa σb σ1 σ2 σ3 τ3 σ' τ' : Sg) (d0 d : Nat), (¬ 4 + jbits (t_cell ns w 0) 0 3 = 0 ∧ ¬ 4 + jbits (t_cell ns w 0) 0 3 - 1 = 0 ∧ nc ≤ 3 ∧ 2 + jbits (t_cell ns w 0) 27 1 = nI nc) ∧ (f_X4_clear y_σ0 0 2 = some σa ∧ f_X4_addCar σa 0 0 1 = some σb) ∧ g_tok (g_init ns w nc) nc ∧ g_told (g_txt (g_init ns w nc)).1 (g_txt (g_init ns w nc)).2 σb = some σ1 ∧ f_X7_loadLifts σ1 = some (g_init ns w nc 50 0 2, σ2) ∧ f_L_isSame σ2 (g_init ns w nc) = some (1, σ3, τ3, d0) ∧ g_acts ns w 36 0 σ3 τ3 d σ' τ' ∧ τ' 40 0 12 = 30 ∧ d0 + d ≤ 690000
section LC
variable {p : Program} {l : Launch} {e : Env} {R : Room} {s : State} {m : MethodId} {args : Array Value} {below : List Frame} {meth : Method} {c : Code} {H : Heap} {locs : List Loc} {cells slots : Nat} {Q : State → Prop}
variable {cc : ByteArray} {pc : Nat} {ls : Array Slot} {rest : List Value} {nL : Nat} {ret2 : Option FieldType} {G : Gx}
theorem Y_ctor {y : MethodName} {bytes : ByteArray} {maxL fr lo mc2 ms2 index a ci : Nat} {fs : List Value} {D : Heap → Prop} (C : Cx p s m args meth c RL cc nL ret2 G) (K : y_K G s) (S : va_S (fun q => s.heap.size ≤ q) s.heap H locs) (hb : s.heap.size ≤ a) (hM : y_MT l y bytes maxL fr lo mc2 ms2 G a ci fs D) (kv : y_KI y bytes maxL) (hl : Cond.methodLink RL index y ∈ TT) (hz : H.size = a + 1) (hat : va_at G.1 z_cl (a, .inr (ci, fs)) H) (hG : G.2.2.1.size ≤ a) (hG2 : ∀ q, q < G.2.2.1.size → H[q]? = G.2.2.1[q]?)
    (hR : fr + 1 ≤ R.frames ∧ 8 + (maxL + 11) + lo ≤ R.locals) (hW8 : (rest.map fun v => v.category).sum ≤ 8) (hls : ls.size = nL) (hcs : cells + mc2 ≤ R.cells ∧ slots + ms2 ≤ R.slots) (hdg : decode cc pc = .ok (.invokespecial index, 3))
    (kk : ∀ (H1 : Heap) (locs1 : List Loc), D H1 → H.size ≤ H1.size → (∀ q : Nat, q < a → H1[q]? = H[q]?) → va_S (fun q => s.heap.size ≤ q) s.heap H1 locs1 → W p l e R s m args below meth c H1 locs1 (cells + mc2) (slots + ms2) Q (F0 m (pc + 3) ls rest)) :
    W p l e R s m args below meth c H locs cells slots Q (F0 m pc ls (.ref a :: rest)) := by
  obtain ⟨x1, x2, x3, x4, x5, x6, x7, x8⟩ := C
  obtain ⟨k1, k2, k3, k4, k5, k6, k7⟩ := kv
  have hbl : FrameBlind (va_Pc [.ref a] (y_PT G a ci fs)) := fun _ _ g mk q => ⟨q.1, q.2.1, q.2.2.1, q.2.2.2.1.calling g mk _, q.2.2.2.2⟩
  refine va_callv (va_runI (As := []) (rest := rest) ⟨x1, x2, x3, x4, x5⟩ hM (cwI 0 x5 (tt_good k1) rfl rfl rfl (x5 _ k3) (x5 _ hl) (x5 _ k2) k4 ⟨k5, k6, k7⟩ hR) ⟨hbl, fun U hU hW => ⟨rfl, by rw [hU]; exact hz, by rw [hU]; exact hat, K.warm hW, hG, by rw [hU]; exact hG2⟩⟩ rfl rfl hls rfl (lv_room hW8) hdg hcs) S (fun q _ h => Nat.le_trans hb h) (fun q h => Nat.le_trans hb h)
    (fun u t H1 locs1 ht hvm hr hB hz1 hk1 hS1 => kk H1 locs1 (by rw [← ht]; exact hB) hz1 (fun q hq => hk1 q (by rw [hz]; exact Nat.lt_succ_of_lt hq) (Nat.not_le.mpr hq)) hS1)
set_option maxHeartbeats 4000000 in
set_option maxRecDepth 100000 in
theorem w_law_0 {b ns : Nat} {w : Nat → Int32} (C : Cx p s m args meth c RL cL_law 4 ret2 G) (K : y_K G s) (hG : G.2.2.1 = s.heap) (hns : ns ≤ 260) (hS : x_S G b ns w) (P : P_law ns w) (hRf : 16 ≤ R.frames) (hRl : 400 ≤ R.locals) (hRc : 706000 ≤ R.cells) (hRs : 4236000 ≤ R.slots) (hl : lv_has ls 4 [(0, .ref b)])
    (hq : ∀ (H : Heap) (locs : List Loc) (ls : Array Slot), va_S (fun q => s.heap.size ≤ q) s.heap H locs → W p l e R s m args below meth c H locs 706000 4236000 Q (F0 m 115 ls [.int 1])) : W p l e R s m args below meth c s.heap [] 0 0 Q (F0 m 0 ls []) := by
  obtain ⟨nc, σa, σb, σ1, σ2, σ3, τ3, σ', τ', d0, d, ⟨hF0, hF1, hnc, hx⟩, ⟨ha, hb⟩, htok, htold, hload, hsame, hacts, hbound, hcost⟩ := P
  generalize hτ0 : g_init ns w nc = τ0 at htok htold hload hsame
  have hO0 : z_O G s.heap := ⟨by rw [hG]; exact Nat.le_refl _, fun q _ => by rw [hG]⟩
  have S : va_S (fun q => s.heap.size ≤ q) s.heap s.heap [] := va_S.rf
  refine u_newO C S cf_11 tw_3_124 tw_3_125 tw_1_0 (fs := [.null, .null, .null, .int 0, .null, .null, .null, .int 0, .int 0, .int 0, .int 0, .int 0, .int 0, .int 0]) (fun j hj => by rcases (show j = 0 ∨ j = 1 ∨ j = 2 ∨ j = 3 ∨ j = 4 ∨ j = 5 ∨ j = 6 ∨ j = 7 ∨ j = 8 ∨ j = 9 ∨ j = 10 ∨ j = 11 ∨ j = 12 ∨ j = 13 by omega) with rfl | rfl | rfl | rfl | rfl | rfl | rfl | rfl | rfl | rfl | rfl | rfl | rfl | rfl <;> rfl) (by omega) (by omega) dL_law_0 (fun H z1 o1 g1 S => ?_)
  have hO := hO0.grow z1 o1
  refine lv_dup C.1 C.2.1 dL_law_3 rfl ?_
  refine lv_aload_n C.1 C.2.1 dL_law_4 rfl (lv_at hl 0 rfl) ?_
  refine k_callI C S hO [.ref b] (m_L_init l G s.heap.size b ns nc w (by omega) hS hO0.1 hF0 hF1 (by omega) hnc hx) z1 g1 kv_L_init tw_3_126 ⟨by omega, by omega⟩ rfl rfl (Nat.le_of_ble_eq_true rfl) hl.1 ⟨by omega, by omega⟩ dL_law_5 (fun q h => h) (fun H1 locs1 hp hle ok S => ?_)
  rw [hτ0] at hp
  obtain ⟨ad, had, V, hge⟩ := hp
  rw [← had]
  refine lv_astore_n (lv' := [(1, .ref (ad 40 0)), (0, .ref b)]) C.1 C.2.1 dL_law_8 rfl hl (by decide) rfl (fun ls hl => ?_)
  clear g1 o1 hO ok hle
  have hO1 := V.2.2.2.1
  refine u_newO C S cf_7 tw_1_35 tw_1_36 tw_1_11 (fs := [.null, .int 0, .int 0, .int 0, .null, .int 0, .null, .null, .null, .int 0, .null, .null, .null]) (fun j hj => by rcases (show j = 0 ∨ j = 1 ∨ j = 2 ∨ j = 3 ∨ j = 4 ∨ j = 5 ∨ j = 6 ∨ j = 7 ∨ j = 8 ∨ j = 9 ∨ j = 10 ∨ j = 11 ∨ j = 12 by omega) with rfl | rfl | rfl | rfl | rfl | rfl | rfl | rfl | rfl | rfl | rfl | rfl | rfl <;> rfl) (by omega) (by omega) dL_law_9 (fun H2 z2 o2 g2 S2 => ?_)
  have hO2 := hO1.grow z2 o2
  refine lv_dup C.1 C.2.1 dL_law_12 rfl ?_
  refine Y_ctor C K S2 S.1 (m_X7_init l G H1.size σa σb ha hb) kv_X7_init tw_1_37 z2 g2 hO1.1 hO2.2 ⟨by omega, by omega⟩ (Nat.le_of_ble_eq_true rfl) hl.1 ⟨by omega, by omega⟩ dL_law_13 (fun H3 locs3 hD hz3 ok3 S3 => ?_)
  refine lv_astore_n (lv' := [(2, .ref H1.size), (1, .ref (ad 40 0)), (0, .ref b)]) C.1 C.2.1 dL_law_16 rfl hl (by decide) rfl (fun ls hl => ?_)
  generalize hadX : z_ad H1.size 0 = adX at hD
  have hX7 : H1.size = adX 7 0 := by rw [← hadX]; rfl
  have hXge : ∀ k o, o < z_cnt k → H1.size ≤ adX k o := by rw [← hadX]; exact z_ad_ge H1.size
  rw [hX7] at hl
  have FX : F_X G adX := ⟨fun k o k' o' h1 h2 h3 => hD.2.1 k o k' o' rfl h1 rfl h2 h3, fun k o ho => hD.2.2.1 k o rfl ho⟩
  have hXA : ∀ q, z_X adX q → s.heap.size ≤ q := by
    rintro q ⟨k, o, ho, rfl⟩
    exact Nat.le_trans S.1 (hXge k o ho)
  have hk13 : ∀ q : Nat, q < H1.size → H3[q]? = H1[q]? := fun q h => (ok3 q h).trans (o2 q h)
  have SS : q_S G ad (nc, 4, 0, 0) (x_c G adX σb) τ0 [] (fun q => s.heap.size ≤ q) s.heap H3 locs3 := by
    refine ⟨⟨ad, fun _ _ _ => rfl, ⟨fun k o h => (V.1 k o h).kept (hk13 _ (V.1 k o h).lt), V.2.1, V.2.2.1, ⟨hD.2.2.2.1, hD.2.2.2.2⟩, V.2.2.2.2⟩, hge, fun x hx => absurd hx List.not_mem_nil, ⟨fun k o ho => hD.1 k o rfl ho, fun q hq => ?_, x_cl G adX σb⟩⟩, S3, fun q h => h⟩
    obtain ⟨k, o, ho, rfl⟩ := hq
    refine ⟨(hD.1 k o rfl ho).lt, fun k' o' h h2 => ?_⟩
    have h3 := (V.1 k' o' h).lt
    have h4 := hXge k o ho
    have h3 : ad k' o' < H1.size := h3
    omega
  clear V hge hD hk13 ok3 hz3 g2 o2 z2 S2 hO2 hO1 S
  refine W.widen (k := 1000) (n := 30000) (Nat.le_of_ble_eq_true rfl) (Nat.le_of_ble_eq_true rfl) ?_
  refine lv_aload_n C.1 C.2.1 dL_law_17 rfl (lv_at hl 0 rfl) ?_
  refine lv_aload_n C.1 C.2.1 dL_law_18 rfl (lv_at hl 1 rfl) ?_
  have hO := SS.O
  have hth := q_this C SS
  obtain ⟨⟨ad', he, V, aa, I, E⟩, S1, hA⟩ := SS
  have h40 : ad' 40 0 = ad 40 0 := he 40 0 rfl
  rw [← h40] at hth
  obtain ⟨t1, ⟨t2, t3, t4, t5, t6, t7⟩, t8, t9, t10, t11⟩ := htok
  have hclt : ∀ k o, o < z_cnt k → adX k o < H3.size := fun k o ho => (E.2.1 _ ⟨k, o, ho, rfl⟩).1
  refine k_callVE C S1 hO hth [] (m_L_text l G ad' (nc, 4, 0, 0) τ0 t1 t2 t3 t4 t5 t6 t7 (fun i hi => Nat.lt_of_lt_of_le hi t10) t8 (fun i hi => Nat.lt_of_lt_of_le hi t11) t9 (Nat.le_trans t10 hnc) t11 H3.size) rfl V kv_L_text tw_4_139 (rest := [.ref (adX 7 0)]) ⟨by omega, by omega⟩ rfl (by rw [h40]; rfl) (Nat.le_of_ble_eq_true rfl) hl.1 ⟨by omega, by omega⟩ dL_law_19 (q_hA aa S1 hA) (fun r H4 locs4 hV hle4 ok4 S4 => ?_)
  obtain ⟨hV, wt, t20, hstr, ht2, hrge, hwge⟩ := hV
  have S5 := q_back he V aa I E S1 hA hV hle4 ok4 S4
  rw [← g_told_congr ht2] at htold
  refine k_callS C S5.2.1 S5.O [.ref (adX 7 0), .ref r] (m_L_told l G adX σb σ1 r wt (g_txt τ0).1 t20 t1 (fun k o ho => by have := hclt k o ho; omega) htold H4.size) rfl ⟨b_zW FX S5, hstr⟩ kv_L_told tw_3_107 ⟨by omega, by omega⟩ rfl rfl (Nat.le_of_ble_eq_true rfl) hl.1 ⟨by omega, by omega⟩ dL_law_22 (b_hA hXA S5.2.1 S5.2.2) (fun H5 locs5 hz5 hle5 ok5 S5' => ?_)
  have S6 := b_after FX hXA S5 hz5 hle5 ok5 S5'
  clear S5 S4 S1 hV ok4 ok5 hz5 E V aa I he hth h40 hO hclt
  refine lv_aload_n C.1 C.2.1 dL_law_25 rfl (lv_at hl 0 rfl) ?_
  refine q_callXI C FX hXA S6 rfl [] (m_X7_loadLifts l G adX σ1 _ σ2 hload _) kv_X7_loadLifts tw_2_175 ⟨by omega, by omega⟩ rfl rfl (Nat.le_of_ble_eq_true rfl) hl.1 ⟨by omega, by omega⟩ dL_law_26 (fun H6 locs6 S6 => ?_)
  refine lv_aload_n C.1 C.2.1 dL_law_29 rfl (lv_at hl 1 rfl) ?_
  refine q_getR C S6 40 0 50 0 rfl rfl rfl cf_11 0 (by decide) (qr_40_0 G _ 0) tw_4_96 dL_law_30 ?_
  refine q_size C S6 0 (Or.inl (by decide)) (by decide) tw_5_190 ⟨by omega, by omega⟩ (Nat.le_of_ble_eq_true rfl) hl.1 ⟨by omega, by omega⟩ dL_law_33 (fun H7 locs7 S7 => ?_)
  refine lv_icmp_ne (tgt := 49) C.1 C.2.1 dL_law_38 (by decide) (fun c_ => absurd rfl c_) (fun c_ => ?_)
  have I7 : l_I G (ad 40 0) adX σ2 τ0 s H7 locs7 := ⟨_, ad, rfl, rfl, S7⟩
  clear S6 S7
  refine lv_aload_n C.1 C.2.1 dL_law_41 rfl (lv_at hl 1 rfl) ?_
  refine lv_aload_n C.1 C.2.1 dL_law_42 rfl (lv_at hl 0 rfl) ?_
  refine W.widen (k := 16000) (n := 6 * 16000) (Nat.le_of_ble_eq_true rfl) (Nat.le_of_ble_eq_true rfl) ?_
  refine q_callB C hXA I7 [.ref (adX 7 0)] rfl (fun N ad hN => m_L_isSame l G ad N adX FX hN σ2 τ0 (1, σ3, τ3) d0 hsame H7.size) kv_L_isSame tw_5_185 ⟨by omega, by omega⟩ rfl rfl (Nat.le_of_ble_eq_true rfl) hl.1 ⟨by omega, by omega⟩ dL_law_43 (fun H8 locs8 I8 => ?_)
  refine lv_if_ne (tgt := 51) C.1 C.2.1 dL_law_46 (by decide) (fun c_ => ?_) (fun c_ => absurd (show (1 : Int32) = 0 from c_) (by decide))
  refine lv_iconst (v := 0) C.1 C.2.1 dL_law_51 (by decide) ?_
  refine lv_istore_n (lv' := [(3, .int 0), (2, .ref (adX 7 0)), (1, .ref (ad 40 0)), (0, .ref b)]) C.1 C.2.1 dL_law_52 rfl hl (by decide) rfl (fun ls hl => ?_)
  refine w_law_53 C FX hXA (by omega) hS ⟨by omega, by omega⟩ 36 0 rfl σ3 τ3 d H8 locs8 ls (16000 + d0) hacts I8 hl (by omega) (by omega) (fun H9 locs9 ls I9 hl => ?_)
  obtain ⟨N9, ad9, -, e9, S9⟩ := I9
  rw [← e9] at hl
  refine lv_aload_n C.1 C.2.1 dL_law_101 rfl (lv_at hl 0 rfl) ?_
  refine q_getI C S9 40 0 rfl rfl cf_11 12 (by decide) (qi_40_12 G _ 0) tw_4_108 dL_law_102 ?_
  rw [hbound]
  refine lv_bipush (v := 30) C.1 C.2.1 dL_law_105 (by decide) ?_
  refine lv_icmp_ne (tgt := 114) C.1 C.2.1 dL_law_107 (by decide) (fun c_ => absurd rfl c_) (fun c_ => ?_)
  refine lv_iconst (v := 1) C.1 C.2.1 dL_law_110 (by decide) ?_
  refine lv_goto (tgt := 115) C.1 C.2.1 dL_law_111 (by decide) ?_
  exact W.widen (by omega) (by omega) (hq H9 locs9 ls S9.2.1)
end LC
