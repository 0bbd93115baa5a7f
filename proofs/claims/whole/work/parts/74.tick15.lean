/-! a tick, whole; many ticks -/
section TK
variable {F C K M T U j : Nat} {σ ρ : Sg}
theorem t_tick (h : LV F C K M T (vw j σ) (ρ 30 0)) (hj : j < 13) (hT : T < 399999) :
    ∃ σ' ρ', f_X0_tick σ j = some σ' ∧ f_X8_ticks ρ = some ρ' ∧ ∃ M', LV F C K M' (T + 1) (vw j σ') (ρ' 30 0) ∧ ST j σ ρ σ' ρ' ∧ PG T K (vw j σ) (vw j σ') := by
  obtain ⟨hL, hAn⟩ := h
  have hC := D_C hL
  have hK := D_K hL
  have hM := D_M hL
  obtain ⟨σ1, ρ1, p1, p2, p3, p4, p5, p6, p7⟩ := t_aside hL hj
  have h1 : LU F C K M T T (vw j σ1) (ρ1 30 0) := hL.both p3 (fun q _ => by rw [p4])
  have g := S_zero h1.up
  rw [← vs_5, ← s_ru] at g
  have sA : SP j σ1 ρ1 (sup σ1 5 j 0 0) (sup ρ1 30 0 10 0) := SP.r (SP.c (SP.rf j σ1 ρ1) (show Own j 5 j from (rfl : j = j)) _ _) _ _
  obtain ⟨σ3, ρ3, q1, q2, M1, q3, q4, ⟨q5, q6⟩, q7, q8⟩ := t_comes g (by omega)
  have A3 : Ar C K M σ3 ρ3 := (p6.sp sA hj).sp q4 hj
  have cM : ct (fun i => decide (σ3 21 13 i = 0)) M ≤ K := by
    rw [ct_congr (Q := fun i => decide (vw j σ 21 0 i = 0)) (fun i hi => by
      rw [((sA.trans q4).arr hj i).2.2.1, p7 i hi]
      rfl)]
    exact hAn
  obtain ⟨m, σ4, ρ4, r1, r2, M2, r3, r4, r5⟩ := t_deliver q3 hj (by omega) A3 (by omega)
  have nq4 : NQ (vw j σ4) K T = NQ (vw j σ3) K T := ct_congr (fun k _ => by rw [r5.2.2.2 k])
  obtain ⟨σ5, ρ5, u1, u2, M3, u3, u4, u5, u6, u7⟩ := t_minds r3 (by omega) (B := 4 * K) (by omega) (by have := r5.1; have := r5.2.1; omega) (by have := r5.2.1; omega)
  have nq5 := NQ_le (vw j σ5) K T
  obtain ⟨n6, m6, σ6, ρ6, ⟨M4, v1, v2, v3⟩, v4, v5⟩ := lpE (fun n (a : Sg) i => f_X0_tick_36 n a j i) (fun n (b : Sg) i => f_X8_ticks_62 n b i) C (by omega) (fun c a b => ∃ M', LU F C K M' T (T + 1) (vw j a) (b 30 0) ∧ SP j σ5 ρ5 a b ∧ NX (c * K) M3 (vw j σ5) M' (vw j a)) (a := σ5) (b := ρ5) (by
    rintro n m c a b hc ⟨M', x1, x2, x3⟩
    have hcK : c * K ≤ 3 * K := Nat.mul_le_mul_right K (by omega)
    obtain ⟨a', b', y1, y2, M'', y3, y4, y5⟩ := t_decide x1 (by omega) hc (by have := x3.1; omega)
    refine ⟨a', b', ⟨M'', y3, x2.trans y4, (x3.trans y5).mono (by rw [Nat.succ_mul]; exact Nat.le_refl _)⟩, ?_, ?_⟩
    · simp (disch := omega) only [f_X0_tick_36_s, A_C x1, ni_le, p_nle, if_false, y1, p_bv, ni_1]
    · simp (disch := omega) only [f_X8_ticks_62_s, B_C x1, ni_le, p_nle, if_false, y2, p_bv, ni_1]) ⟨M3, u3, SP.rf j σ5 ρ5, (NX.rf M3 _).mono (Nat.zero_le _)⟩
  have hCK : C * K ≤ 4 * K := Nat.mul_le_mul_right K hC
  have nw6 := NW_le (vw j σ6) K
  have v31 := v3.1
  have v32 := v3.2.1
  obtain ⟨n7, m7, σ7, ρ7, ⟨M5, w1, w2, w3, w4, w7⟩, w5, w6⟩ := lpE (fun n (a : Sg) i => f_X0_tick_58 n a j i) (fun n (b : Sg) i => f_X8_ticks_85 n b i) C (by omega) (fun _ a b => ∃ M', LU F C K M' T (T + 1) (vw j a) (b 30 0) ∧ SP j σ6 ρ6 a b ∧ V_ann (vw j a) M' = V_ann (vw j σ6) M4 ∧ M' + NW (vw j a) K ≤ 240 ∧ PG T K (vw j σ6) (vw j a)) (a := σ6) (b := ρ6) (by
    rintro n m c a b hc ⟨M', x1, x2, x3, x4, x5⟩
    obtain ⟨a', b', y1, y2, M'', y3, y4, y5, y6, y7⟩ := t_act x1 (by omega) (Nat.le_refl 240) hc x4
    refine ⟨a', b', ⟨M'', y3, x2.trans y4, y5.trans x3, y6, x5.trans y7⟩, ?_, ?_⟩
    · simp (disch := omega) only [f_X0_tick_58_s, A_C x1, ni_le, p_nle, if_false, y1, p_bv, ni_1]
    · simp (disch := omega) only [f_X8_ticks_85_s, B_C x1, ni_le, p_nle, if_false, y2, p_bv, ni_1]) ⟨M4, v1, SP.rf j σ6 ρ6, rfl, by omega, PG.rf T K _⟩
  have g9 := S_time w1 rfl
  rw [← vs_4, ← s_ru] at g9
  refine ⟨sup σ7 4 j 3 (nI (T + 1)), sup ρ7 30 0 3 (nI (T + 1)), ?_, ?_, M5, ⟨g9, ?_⟩, ?_, ?_⟩
  · unfold f_X0_tick
    rw [p1, p_bv, p_st, q1, p_bv, r1, p_bv, u1, p_bv]
    refine Eq.trans v4 ?_
    rw [f_X0_tick_36_s, A_C v1, if_pos (by rw [ni_le (by omega) (by omega)]; exact Nat.le_refl C)]
    unfold f_X0_tick_56
    refine Eq.trans w5 ?_
    rw [f_X0_tick_58_s, A_C w1, if_pos (by rw [ni_le (by omega) (by omega)]; exact Nat.le_refl C)]
    unfold f_X0_tick_78
    rw [p_st, A_T w1, ni_1]
  · unfold f_X8_ticks
    rw [p2, p_bv, p_st, q2, p_bv, B_M hL]
    refine Eq.trans r2 ?_
    rw [f_X8_ticks_40_s, if_pos (by rw [ni_le (by omega) (by omega)]; exact Nat.le_refl M)]
    unfold f_X8_ticks_56
    rw [u2, p_bv]
    refine Eq.trans v5 ?_
    rw [f_X8_ticks_62_s, B_C v1, if_pos (by rw [ni_le (by omega) (by omega)]; exact Nat.le_refl C)]
    unfold f_X8_ticks_83
    refine Eq.trans w6 ?_
    rw [f_X8_ticks_85_s, B_C w1, if_pos (by rw [ni_le (by omega) (by omega)]; exact Nat.le_refl C)]
    unfold f_X8_ticks_106
    rw [p_st, B_T w1, ni_1]
  · rw [vs_4]
    unfold V_ann
    rw [s_ne (by decide)]
    have e : ct (fun i => decide (vw j σ7 21 0 i = 0)) M5 = V_ann (vw j σ6) M4 := w3
    rw [e]
    omega
  · refine p5.trans ((sA.st.trans (q4.st.trans (r4.st.trans (u4.st.trans (v2.st.trans w2.st))))).trans ?_)
    exact (SP.r (SP.c (SP.rf j σ7 ρ7) (show Own j 4 j from (rfl : j = j)) _ _) _ _).st
  · have z1 : PG T K (vw j σ) (vw j (sup σ1 5 j 0 0)) := PG.of (fun k hk f hf => by rw [vs_5, s_ne (by decide)]; exact p3.2.2.2.2.2.2.1 k hk f (by omega))
    have z3 : PG T K (vw j σ3) (vw j σ4) := PG.of (fun k _ f hf => r5.2.2.1 k f hf)
    have z5 : PG T K (vw j σ5) (vw j σ6) := PG.of (fun k _ f hf => v3.2.2.1 k f hf)
    refine z1.trans (q8.trans (z3.trans (u7.trans (z5.trans (w7.trans (PG.of (fun k _ f hf => ?_)))))))
    rw [vs_4, s_ne (by decide)]
/-- many ticks -/
theorem t_pass (h : LV F C K M T (vw j σ) (ρ 30 0)) (hj : j < 13) {n : Nat} (hn : n ≤ 500) (hT : T + n < 400000) (x : Int32) :
    ∃ σ' ρ' m, f_X0_pass σ j (nI n) = some σ' ∧ f_X8_passes_8 FU ρ (nI n) x 0 = f_X8_passes_8 (m + 1) ρ' (nI n) x (nI n) ∧ ∃ M', LV F C K M' (T + n) (vw j σ') (ρ' 30 0) ∧ ST j σ ρ σ' ρ' := by
  obtain ⟨n1, m1, a, b, ⟨M', x1, x2⟩, x3, x4⟩ := lpE (fun m (a : Sg) i => f_X0_pass_2 m a j (nI n) i) (fun m (b : Sg) i => f_X8_passes_8 m b (nI n) x i) n (by omega) (fun i a b => ∃ M', LV F C K M' (T + i) (vw j a) (b 30 0) ∧ ST j σ ρ a b) (a := σ) (b := ρ) (by
    rintro m1 m2 i a b hi ⟨M', x1, x2⟩
    obtain ⟨a', b', y1, y2, M'', y3, y4, -⟩ := t_tick x1 hj (by omega)
    refine ⟨a', b', ⟨M'', y3, x2.trans y4⟩, ?_, ?_⟩
    · simp (disch := omega) only [f_X0_pass_2_s, ni_le, p_nle, if_false, y1, p_bv, ni_1]
    · simp (disch := omega) only [f_X8_passes_8_s, ni_le, p_nle, if_false, y2, p_bv, ni_1]) ⟨M, h, ST.rf j σ ρ⟩
  refine ⟨a, b, m1, ?_, x4, M', x1, x2⟩
  unfold f_X0_pass
  refine Eq.trans x3 ?_
  simp (disch := omega) only [f_X0_pass_2_s, ni_le, Nat.le_refl, if_true, f_X0_pass_18]
theorem t_passes (h : LV F C K M T (vw j σ) (ρ 30 0)) (hj : j < 13) {n : Nat} (hn : n ≤ 500) (hT : T + n < 400000) :
    ∃ σ' ρ', f_X0_pass σ j (nI n) = some σ' ∧ f_X8_passes ρ (nI n) = some (W_cnt (vw j σ') K 3 - W_cnt (vw j σ) K 3, ρ') ∧ ∃ M', LV F C K M' (T + n) (vw j σ') (ρ' 30 0) ∧ ST j σ ρ σ' ρ' := by
  obtain ⟨σ', ρ', m, y1, y2, M', y3, y4⟩ := t_pass h hj hn hT (W_cnt (vw j σ) K 3)
  refine ⟨σ', ρ', y1, ?_, M', y3, y4⟩
  unfold f_X8_passes
  rw [b_cnt h.1, p_bi]
  refine Eq.trans y2 ?_
  simp (disch := omega) only [f_X8_passes_8_s, ni_le, Nat.le_refl, if_true, f_X8_passes_23, b_cnt y3.1, p_bi]
end TK
