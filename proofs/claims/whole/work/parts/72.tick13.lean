/-! a tick: phase 5, all of it -/
theorem ni_p1 {a : Nat} (h : 1 ≤ a) : nI a + -1 = nI (a - 1) := (Int32.sub_eq_add_neg (nI a) 1).symm.trans (ni_sub (b := 1) h)
section TK
variable {F C K M T U j c B A0 : Nat} {σ ρ a b : Sg} {r : Nat → Int32} {x y : Int32}
theorem W_cs_lt (v : Sg) (c k : Nat) : W_cs v c k < 4 := by
  unfold W_cs
  split
  · decide
  · split
    · decide
    · split <;> decide
theorem t_nob (hI : SI F C K T U j c B A0 x y σ ρ a b) (hc : c < C) {k : Nat} (hk : k < K) (kk : Sg → Option Sg) :
    ∃ a' b', SI F C K T U j c B A0 x y σ ρ a' b' ∧ f_X0_stopForNobody a j (4 * j + c) (nI k) = some a' ∧ (bi (f_X8_of b 319 (nI c) (nI k)) fun r13 σ12 => (if r13 < 0 ∨ 2111 ≤ (r13).toNatClampNeg then none else (st (sup σ12 30 0 (r13).toNatClampNeg 0) fun σ14 => (if (51 + nI c) < 0 ∨ 2111 ≤ ((51 + nI c)).toNatClampNeg then none else (if (51 + nI c) < 0 ∨ 2111 ≤ ((51 + nI c)).toNatClampNeg then none else (st (sup σ14 30 0 ((51 + nI c)).toNatClampNeg ((σ14 30 0 ((51 + nI c)).toNatClampNeg) + 1)) fun σ15 => (bi (f_X8_causeOf σ15 (nI c) (nI k)) fun r17 σ16 => (if ((19 + r17) - 1) < 0 ∨ 2111 ≤ (((19 + r17) - 1)).toNatClampNeg then none else (if ((19 + r17) - 1) < 0 ∨ 2111 ≤ (((19 + r17) - 1)).toNatClampNeg then none else (st (sup σ16 30 0 (((19 + r17) - 1)).toNatClampNeg ((σ16 30 0 (((19 + r17) - 1)).toNatClampNeg) + 1)) fun σ18 => kk σ18)))))))))) = kk b' := by
  obtain ⟨M', h, hS, h6, h12, hA, hM, hG⟩ := id hI
  have hC := D_C h
  have hK := D_K h
  have e51 : b 30 0 (51 + c) = a 2 (4 * j + c) 7 := by
    obtain ⟨-, -, -, -, -, -, -, e⟩ := B_car h hc
    rw [zr_2 (by decide) (by decide)] at e
    exact e
  have hw := W_cs_lt (vw j a) c k
  have e19 : b 30 0 (19 + W_cs (vw j a) c k) = a 15 j (W_cs (vw j a) c k + 1) := by
    have e := (h.2.2.1 _ hw).2.2.1
    rw [zr_k (by decide)] at e
    exact e
  have g2 := S_nobc (S_hclr h hc hk) hc (a 2 (4 * j + c) 7 + 1)
  have g3 := S_nob g2 hw (a 15 j (W_cs (vw j a) c k + 1) + 1)
  rw [← s_ru, ← s_ru] at g2
  have ec := b_cause g2 hc hk
  rw [show W_cs (sup (sup (zz c x y (vw j a)) 2 c 8 (zz c x y (vw j a) 2 c 8 &&& ((1 <<< (nI k &&& 31)) ^^^ (-1)))) 2 c 7 (a 2 (4 * j + c) 7 + 1)) c k = W_cs (vw j a) c k by unfold W_cs; rw [s_ne (by decide), s_ne (by decide), zr_k (by decide)]] at ec
  have e0 : f_X0_stopForNobody a j (4 * j + c) (nI k) = some (sup (sup (sup a 2 (4 * j + c) 8 (a 2 (4 * j + c) 8 &&& ((1 <<< (nI k &&& 31)) ^^^ (-1)))) 2 (4 * j + c) 7 (a 2 (4 * j + c) 7 + 1)) 15 j (W_cs (vw j a) c k + 1) (a 15 j (W_cs (vw j a) c k + 1) + 1)) := by
    unfold f_X0_stopForNobody f_X2_dropCall
    simp (disch := omega) only [p_st, p_bv, s_nf, a_cause, s_ne, p_bi]
    rw [show (if bt (a 19 (4 * j + c) 3) k = true then 0 else if bt (a 19 (4 * j + c) 2) k = true then 1 else if bt (a 19 (4 * j + c) 1) k = true then 2 else 3) = W_cs (vw j a) c k from rfl]
    simp (disch := omega) only [ni_nn, ni_cl, p_nle, false_or, if_false]
  refine ⟨_, (sup (sup (sup b 30 0 (319 + 24 * c + k) 0) 30 0 (51 + c) (a 2 (4 * j + c) 7 + 1)) 30 0 (19 + W_cs (vw j a) c k) (a 15 j (W_cs (vw j a) c k + 1) + 1)), ⟨M', ?_, ?_, ?_, ?_, ?_, ?_, hG.trans ?_⟩, e0, ?_⟩
  · simp only [vs_2, vs_15, s_ru]
    simp (disch := omega) only [zz_k, zz_2]
    rw [zr_2 (by decide) (by decide)] at g3
    exact g3
  · refine hS.trans ?_
    refine SP.r (SP.r (SP.r (SP.c (SP.c (SP.c (SP.rf j a b) (O_2 (by omega)) _ _) (O_2 (by omega)) _ _) ?_ _ _) _ _) _ _) _ _
    exact (rfl : j = j)
  · simp (disch := omega) only [s_ne, s_nf]
    exact h6
  · simp (disch := omega) only [s_ne]
    exact h12
  · simp only [vs_2, vs_15]
    rw [← hA]
    unfold V_ann
    simp (disch := omega) only [s_ne]
  · rw [show NW (vw j _) K = NW (vw j a) K from ct_congr (fun i _ => by
      simp only [vs_2, vs_15]
      simp (disch := omega) only [s_ne])]
    exact hM
  · refine PG.of (fun k' _ f hf => ?_)
    simp only [vs_2, vs_15]
    simp (disch := omega) only [s_ne]
  · simp (disch := omega) only [b_of319, p_bi, ni_nn, ni_cl, p_nle, false_or, if_false, p_st, l_51, s_nf, e51, ec, l_19]
    rw [show nI (19 + (W_cs (vw j a) c k + 1)) - 1 = nI (19 + W_cs (vw j a) c k) from ni_sub (b := 1) (by omega)]
    simp (disch := omega) only [ni_nn, ni_cl, p_nle, false_or, if_false, s_nf, e19]
theorem t_stopStep (hI : SI F C K T U j c B A0 x y σ ρ a b) (hT : T < 400000) (hB : B ≤ 240) (hc : c < C) {k : Nat} (hk : k < K) (n m : Nat) :
    ∃ a' b', SI F C K T U j c B A0 x y σ ρ a' b' ∧ f_X0_makeStop_16 (n + 1) a j (nI c) (4 * j + c) (nI k) = f_X0_makeStop_16 n a' j (nI c) (4 * j + c) (nI (k + 1)) ∧ f_X8_stopsAt_87 (m + 1) b (nI c) (nI k) = f_X8_stopsAt_87 m b' (nI c) (nI (k + 1)) := by
  obtain ⟨M', h, hS, h6, h12, hA, hM, hG⟩ := id hI
  have hC := D_C h
  have hK := D_K h
  have e3 : b 30 0 (127 + k) = a 1 (24 * j + k) 3 := by
    have e := (B_call h hk).2.2.2.1
    rw [zr_k (by decide)] at e
    exact e
  have e1 : b 30 0 (27 + c) = a 2 (4 * j + c) 1 := by
    have e := (B_car h hc).2.1
    rw [zr_2 (by decide) (by decide)] at e
    exact e
  have hm : f_X8_aboardMany b (nI c) = some (nI (ct (bt (a 2 (4 * j + c) 9)) 32), b) := by
    have e := b_abdM h hc
    rw [zr_2 (by decide) (by decide)] at e
    exact e
  rw [f_X0_makeStop_16_s, f_X8_stopsAt_87_s, zA_K h, B_K h]
  rw [if_neg (show ¬ nI K ≤ nI k by rw [ni_le (by omega) (by omega)]; omega), if_neg (show ¬ nI K ≤ nI k by rw [ni_le (by omega) (by omega)]; omega), a_isH a _ (show k < 32 by omega), p_bi, b_hh h hc hk, p_bi, zW_hh]
  simp only [W_b0]
  cases h8 : bt (a 2 (4 * j + c) 8) k
  · rw [if_pos rfl, Bool.false_and, if_pos rfl]
    simp only [f_X0_makeStop_91, f_X8_stopsAt_248, ni_1]
    exact ⟨a, b, hI, rfl, rfl⟩
  · rw [if_neg (show ¬ (true = false) by decide), Bool.true_and]
    rw [if_neg (show ¬ (nI k < 0 ∨ 24 ≤ (nI k).toNatClampNeg) by rw [gN (by omega) (by decide)]; exact id)]
    by_cases w : a 1 (24 * j + k) 0 = a 2 (4 * j + c) 0
    · rw [decide_eq_true w, if_neg (show ¬ (true = false) by decide), ni_cl (show k < 2147483648 by omega), if_pos w, l_127, if_neg (show ¬ (nI (127 + k) < 0 ∨ 2111 ≤ (nI (127 + k)).toNatClampNeg) by rw [gN (by omega) (by decide)]; exact id), ni_cl (show 127 + k < 2147483648 by omega), e3]
      rw [if_neg (show ¬ (nI k < 0 ∨ 24 ≤ k) by rw [ni_nn (by omega)]; exact fun q => q.elim id (fun q => by omega))]
      by_cases w3 : a 1 (24 * j + k) 3 = 1
      · rw [if_pos w3, if_pos w3, a_room, p_bi, hm, p_bi]
        rw [l_27, if_neg (show ¬ (nI (27 + c) < 0 ∨ 2111 ≤ (nI (27 + c)).toNatClampNeg) by rw [gN (by omega) (by decide)]; exact id), ni_cl (show 27 + c < 2147483648 by omega), e1]
        by_cases w4 : a 2 (4 * j + c) 1 ≤ nI (ct (bt (a 2 (4 * j + c) 9)) 32)
        · rw [if_pos w4, decide_eq_false (fun q => q w4), if_pos (show W_b false = 0 from rfl)]
          simp only [f_X0_makeStop_91, f_X8_stopsAt_248, ni_1]
          exact ⟨a, b, hI, rfl, rfl⟩
        · rw [if_neg w4, decide_eq_true w4, if_neg (show ¬ (W_b true = 0) by decide)]
          obtain ⟨a', b', i1, i2, i3⟩ := t_board hI hT hB hc hk w3
          refine ⟨a', b', i1, ?_, ?_⟩
          · rw [i2, p_bv]
            simp only [f_X0_makeStop_91, ni_1]
          · simp (disch := omega) only [b_of319, p_bi, ni_nn, ni_cl, p_nle, false_or, if_false, p_st, l_151, l_175, s_nf, B_T h, i3, p_bv, f_X8_stopsAt_248, ni_1]
      · rw [if_neg w3, if_neg w3]
        obtain ⟨a', b', i1, i2, i3⟩ := t_nob hI hc hk (fun σ18 => f_X8_stopsAt_248 (f_X8_stopsAt_87 m) σ18 (nI c) (nI k))
        refine ⟨a', b', i1, ?_, i3.trans ?_⟩
        · rw [i2, p_bv]
          simp only [f_X0_makeStop_91, ni_1]
        · simp only [f_X8_stopsAt_248, ni_1]
    · rw [decide_eq_false w, if_pos (show false = false from rfl), ni_cl (show k < 2147483648 by omega), if_neg w]
      simp only [f_X0_makeStop_91, f_X8_stopsAt_248, ni_1]
      exact ⟨a, b, hI, rfl, rfl⟩
theorem t_stop (h : LU F C K M T U (vw j σ) (ρ 30 0)) (hT : T < 400000) (hB : B ≤ 240) (hc : c < C) (hM : M + NW (vw j σ) K ≤ B) :
    ∃ σ' ρ', f_X0_makeStop σ j (nI c) = some σ' ∧ f_X8_stopsAt ρ (nI c) = some ρ' ∧ ∃ M', LU F C K M' T U (vw j σ') (ρ' 30 0) ∧ SP j σ ρ σ' ρ' ∧ V_ann (vw j σ') M' = V_ann (vw j σ) M ∧ M' + NW (vw j σ') K ≤ B ∧ PG T K (vw j σ) (vw j σ') := by
  have hC := D_C h
  have hK := D_K h
  obtain ⟨-, -, -, -, -, -, e6, -⟩ := B_car h hc
  have e6' : ρ 30 0 (47 + c) = σ 2 (4 * j + c) 6 := e6
  obtain ⟨-, P, W, D, -, -, -, -, -, d1, d2⟩ := h.2.1
  have d1' : σ 12 j 3 = nI D := d1
  have e7 : ρ 30 0 7 = nI D := (B_set h).2.2.2.1.trans d1
  have g := S_door (S_stops h hc (σ 2 (4 * j + c) 6 + 1)) hc d2
  rw [← s_ru, ← s_ru] at g
  have s0 : SP j σ ρ σ (sup (sup ρ 30 0 (47 + c) (σ 2 (4 * j + c) 6 + 1)) 30 0 (31 + c) (nI D)) := SP.r (SP.r (SP.rf j σ ρ) _ _) _ _
  have I0 : SI F C K T U j c B (V_ann (vw j σ) M) (σ 2 (4 * j + c) 6 + 1) (nI D) σ ρ σ (sup (sup ρ 30 0 (47 + c) (σ 2 (4 * j + c) 6 + 1)) 30 0 (31 + c) (nI D)) := ⟨M, g, s0, rfl, rfl, rfl, hM, PG.rf T K _⟩
  obtain ⟨n1, m1, a1, b1, I1, p1, p2⟩ := lpE (fun n (a : Sg) i => f_X0_letOff_2 n a j (4 * j + c) i) (fun n (b : Sg) i => f_X8_stopsAt_31 n b (nI c) i) K (by omega) (fun _ a b => SI F C K T U j c B (V_ann (vw j σ) M) (σ 2 (4 * j + c) 6 + 1) (nI D) σ ρ a b) (fun n m k a b hk hI => t_offStep hI hT hc hk n m) I0
  obtain ⟨n2, m2, a2, b2, I2, p3, p4⟩ := lpE (fun n (a : Sg) i => f_X0_makeStop_16 n a j (nI c) (4 * j + c) i) (fun n (b : Sg) i => f_X8_stopsAt_87 n b (nI c) i) K (by omega) (fun _ a b => SI F C K T U j c B (V_ann (vw j σ) M) (σ 2 (4 * j + c) 6 + 1) (nI D) σ ρ a b) (fun n m k a b hk hI => t_stopStep hI hT hB hc hk n m) I1
  obtain ⟨M2, h2, hS2, h26, h212, hA2, hM2, hG2⟩ := I2
  obtain ⟨M1, h1, -⟩ := I1
  refine ⟨sup (sup a2 2 (4 * j + c) 6 (σ 2 (4 * j + c) 6 + 1)) 2 (4 * j + c) 2 (nI D), b2, ?_, ?_, M2, ?_, ?_, ?_, ?_, hG2.trans (PG.of (fun k' _ f hf => by rw [vs_2, vs_2, s_ne (by decide), s_ne (by decide)]))⟩
  · unfold f_X0_makeStop f_X0_letOff
    rw [if_neg (by rw [gN (by omega) (by decide)]; exact id), ni_cl (by omega)]
    have p1' : f_X0_letOff_2 FU σ j (4 * j + c) 0 = f_X0_letOff_2 (n1 + 1) a1 j (4 * j + c) (nI K) := p1
    have p3' : f_X0_makeStop_16 FU a1 j (nI c) (4 * j + c) 0 = f_X0_makeStop_16 (n2 + 1) a2 j (nI c) (4 * j + c) (nI K) := p3
    rw [p1', f_X0_letOff_2_s, zA_K h1, if_pos (by rw [ni_le (by omega) (by omega)]; exact Nat.le_refl K)]
    unfold f_X0_letOff_77
    rw [p_bv, p3', f_X0_makeStop_16_s, zA_K h2, if_pos (by rw [ni_le (by omega) (by omega)]; exact Nat.le_refl K)]
    unfold f_X0_makeStop_97
    rw [p_st, p_st, s_ne (by decide), h26, h212, d1']
  · unfold f_X8_stopsAt
    simp (disch := omega) only [l_47, l_31, ni_nn, ni_cl, p_nle, false_or, if_false, p_st, s_nf, e6', e7]
    refine Eq.trans p2 ?_
    simp (disch := omega) only [f_X8_stopsAt_31_s, B_K h1, ni_le, Nat.le_refl, if_true, f_X8_stopsAt_85]
    refine Eq.trans p4 ?_
    simp (disch := omega) only [f_X8_stopsAt_87_s, B_K h2, ni_le, Nat.le_refl, if_true, f_X8_stopsAt_254]
  · rw [vs_2, vs_2]
    exact h2
  · exact SP.c (SP.c hS2 (O_2 (by omega)) _ _) (O_2 (by omega)) _ _
  · rw [vs_2, vs_2, ← hA2]
    unfold V_ann
    rw [s_ne (by decide), s_ne (by decide)]
  · rw [vs_2, vs_2, show NW (sup (sup (vw j a2) 2 c 6 (σ 2 (4 * j + c) 6 + 1)) 2 c 2 (nI D)) K = NW (vw j a2) K from ct_congr (fun i _ => by rw [s_ne (by decide), s_ne (by decide)])]
    exact hM2
theorem t_act (h : LU F C K M T U (vw j σ) (ρ 30 0)) (hT : T < 400000) (hB : B ≤ 240) (hc : c < C) (hM : M + NW (vw j σ) K ≤ B) :
    ∃ σ' ρ', f_X0_act σ j (nI c) = some σ' ∧ f_X8_acts ρ (nI c) = some ρ' ∧ ∃ M', LU F C K M' T U (vw j σ') (ρ' 30 0) ∧ SP j σ ρ σ' ρ' ∧ V_ann (vw j σ') M' = V_ann (vw j σ) M ∧ M' + NW (vw j σ') K ≤ B ∧ PG T K (vw j σ) (vw j σ') := by
  have hC := D_C h
  have hK := D_K h
  have hF := D_F h
  obtain ⟨c0, -, c2, c3, -, c5, -, -⟩ := B_car h hc
  have c0' : ρ 30 0 (23 + c) = σ 2 (4 * j + c) 0 := c0
  have c2' : ρ 30 0 (31 + c) = σ 2 (4 * j + c) 2 := c2
  have c3' : ρ 30 0 (35 + c) = σ 2 (4 * j + c) 3 := c3
  have c5' : ρ 30 0 (43 + c) = σ 2 (4 * j + c) 5 := c5
  obtain ⟨a, ha, f0⟩ := (h.2.2.2.1 c hc).2.1
  obtain ⟨d, hd, f2⟩ := (h.2.2.2.1 c hc).2.2.2.1
  have f3 : σ 2 (4 * j + c) 3 = 0 ∨ σ 2 (4 * j + c) 3 = 1 := (h.2.2.2.1 c hc).2.2.2.2.1
  have f0' : σ 2 (4 * j + c) 0 = nI a := f0
  have f2' : σ 2 (4 * j + c) 2 = nI d := f2
  have same : ∃ M', LU F C K M' T U (vw j σ) (ρ 30 0) ∧ SP j σ ρ σ ρ ∧ V_ann (vw j σ) M' = V_ann (vw j σ) M ∧ M' + NW (vw j σ) K ≤ B ∧ PG T K (vw j σ) (vw j σ) := ⟨M, h, SP.rf j σ ρ, rfl, hM, PG.rf T K _⟩
  unfold f_X0_act f_X8_acts
  rw [if_neg (show ¬ (nI c < 0 ∨ 4 ≤ (nI c).toNatClampNeg) by rw [gN (by omega) (by decide)]; exact id), ni_cl (show c < 2147483648 by omega), l_35, if_neg (show ¬ (nI (35 + c) < 0 ∨ 2111 ≤ (nI (35 + c)).toNatClampNeg) by rw [gN (by omega) (by decide)]; exact id), ni_cl (show 35 + c < 2147483648 by omega), c3']
  rcases f3 with f3 | f3
  · rw [f3, if_pos (show (0 : Int32) = 0 from rfl), if_neg (show ¬ ((0 : Int32) = 1) by decide)]
    simp (disch := omega) only [l_31, ni_nn, ni_cl, p_nle, false_or, if_false, c2', f2']
    by_cases w : nI d ≤ 0
    · rw [if_pos w, if_pos w, a_wants h hc, p_bi, b_isStop h hc, p_bi]
      cases hs : an (W_st (vw j σ) c) K
      · rw [if_pos (show W_b false = 0 from rfl), if_pos (show W_b false = 0 from rfl)]
        obtain ⟨g1, i1, i2⟩ := a_goal h hc ha f0
        obtain ⟨g2, i3, i4⟩ := b_goal h hc ha f0
        have e := i2.uniq i4
        subst e
        unfold f_X0_move f_X0_move_36 f_X0_move_50 f_X0_act_59 f_X8_acts_94
        rw [i1, p_bi, i3, p_bi]
        rcases i2 with ⟨rfl, -⟩ | ⟨g, hg, rfl, hgS, -⟩
        · rw [if_pos (show (-1 : Int32) < 0 by decide), if_pos (show (-1 : Int32) = -1 from rfl)]
          exact ⟨σ, ρ, rfl, rfl, same⟩
        · have hne : g ≠ a := fun q => W_noGoal f0 hs (by rw [q] at hgS; exact hgS)
          simp (disch := omega) only [ni_nn, ni_cl, p_nle, false_or, if_false, nm_1, l_23, l_43, c0', f0', ni_eq, hne, ni_le, p_st, s_nf, c5']
          have fin : ∀ a', a' < F → ∃ M', LU F C K M' T U (vw j (sup (sup σ 2 (4 * j + c) 0 (nI a')) 2 (4 * j + c) 5 (σ 2 (4 * j + c) 5 + 1))) ((sup (sup ρ 30 0 (23 + c) (nI a')) 30 0 (43 + c) (σ 2 (4 * j + c) 5 + 1)) 30 0) ∧ SP j σ ρ (sup (sup σ 2 (4 * j + c) 0 (nI a')) 2 (4 * j + c) 5 (σ 2 (4 * j + c) 5 + 1)) (sup (sup ρ 30 0 (23 + c) (nI a')) 30 0 (43 + c) (σ 2 (4 * j + c) 5 + 1)) ∧ V_ann (vw j (sup (sup σ 2 (4 * j + c) 0 (nI a')) 2 (4 * j + c) 5 (σ 2 (4 * j + c) 5 + 1))) M' = V_ann (vw j σ) M ∧ M' + NW (vw j (sup (sup σ 2 (4 * j + c) 0 (nI a')) 2 (4 * j + c) 5 (σ 2 (4 * j + c) 5 + 1))) K ≤ B ∧ PG T K (vw j σ) (vw j (sup (sup σ 2 (4 * j + c) 0 (nI a')) 2 (4 * j + c) 5 (σ 2 (4 * j + c) 5 + 1))) := by
            intro a' ha'
            refine ⟨M, ?_, SP.r (SP.r (SP.c (SP.c (SP.rf j σ ρ) (O_2 (by omega)) _ _) (O_2 (by omega)) _ _) _ _) _ _, ?_, ?_, PG.of (fun k' _ f hf => by rw [vs_2, vs_2, s_ne (by decide), s_ne (by decide)])⟩
            · rw [vs_2, vs_2, s_ru, s_ru]
              exact S_gone (S_floor h hc ha') hc _
            · rw [vs_2, vs_2]
              unfold V_ann
              rw [s_ne (by decide), s_ne (by decide)]
            · rw [vs_2, vs_2, show NW (sup (sup (vw j σ) 2 c 0 (nI a')) 2 c 5 (σ 2 (4 * j + c) 5 + 1)) K = NW (vw j σ) K from ct_congr (fun i _ => by rw [s_ne (by decide), s_ne (by decide)])]
              exact hM
          by_cases w2 : g ≤ a
          · rw [if_pos w2, if_pos w2, show nI a + -1 = nI (a - 1) from ni_p1 (by omega)]
            exact ⟨_, _, rfl, rfl, fin (a - 1) (by omega)⟩
          · rw [if_neg w2, if_neg w2, ni_1]
            exact ⟨_, _, rfl, rfl, fin (a + 1) (by omega)⟩
      · rw [if_neg (show ¬ (W_b true = 0) by decide), if_neg (show ¬ (W_b true = 0) by decide)]
        obtain ⟨σ', ρ', i1, i2, i3⟩ := t_stop h hT hB hc hM
        refine ⟨σ', ρ', ?_, ?_, i3⟩
        · rw [i1]; rfl
        · rw [i2]; rfl
    · rw [if_neg w, if_neg w]
      have hd0 : 1 ≤ d := by
        rcases Nat.eq_zero_or_pos d with q | q
        · subst q; exact absurd (show nI 0 ≤ 0 by decide) w
        · exact q
      rw [show nI d - 1 = nI (d - 1) from ni_sub (b := 1) hd0, p_st, p_st]
      refine ⟨_, _, rfl, rfl, M, ?_, SP.r (SP.c (SP.rf j σ ρ) (O_2 (by omega)) _ _) _ _, ?_, ?_, PG.of (fun k' _ f hf => by rw [vs_2, s_ne (by decide)])⟩
      · rw [vs_2, s_ru]
        exact S_door h hc (by omega)
      · rw [vs_2]
        unfold V_ann
        rw [s_ne (by decide)]
      · rw [vs_2, show NW (sup (vw j σ) 2 c 2 (nI (d - 1))) K = NW (vw j σ) K from ct_congr (fun i _ => by rw [s_ne (by decide)])]
        exact hM
  · rw [f3, if_neg (show ¬ ((1 : Int32) = 0) by decide), if_pos (show (1 : Int32) = 1 from rfl)]
    exact ⟨σ, ρ, rfl, rfl, same⟩
end TK
