/-! a tick: phase 2, all messages to all receivers -/
def Ar (C K N : Nat) (σ ρ : Sg) : Prop := σ 5 13 0 = nI N ∧ N ≤ 240 ∧ ∀ i, i < N → ρ 35 0 (4 * i) = σ 21 13 i ∧ ρ 35 0 (4 * i + 1) = σ 22 13 i ∧ ρ 35 0 (4 * i + 2) = σ 20 13 i ∧ ρ 35 0 (4 * i + 3) = σ 23 13 i ∧ (∃ k, k < K ∧ σ 22 13 i = nI k) ∧ ((σ 21 13 i = 0 ∧ σ 20 13 i = -1) ∨ ∃ d c, 1 ≤ d ∧ d ≤ 3 ∧ c < C ∧ σ 21 13 i = nI d ∧ σ 20 13 i = nI c) ∧ ∃ n, n ≤ 1000 ∧ σ 23 13 i = nI n
theorem Ar.sp {C K N j : Nat} {σ ρ σ' ρ' : Sg} (h : Ar C K N σ ρ) (hS : SP j σ ρ σ' ρ') (hj : j < 13) : Ar C K N σ' ρ' := by
  refine ⟨(hS.arr hj 0).1.trans h.1, h.2.1, fun i hi => ?_⟩
  obtain ⟨-, e1, e2, e3, e4⟩ := hS.arr hj i
  rw [e1, e2, e3, e4, hS.2 35 (by decide)]
  exact h.2.2 i hi
section TK
variable {F C K M T U j : Nat} {σ ρ : Sg}
/-- the station as a receiver -/
theorem t_lostSt (h : LU F C K M T U (vw j σ) (ρ 30 0)) {i d k : Nat} {b2 : Bool} (hi : i < 240) (hk : k < K) (hs : RC C (vw j σ) (σ 20 13 i) b2) (hd : σ 21 13 i = nI d) (hd4 : d < 4) :
    ∃ (L : Bool) (σ1 ρ1 : Sg), f_X0_isLost σ j (nI i) (-1) = some (W_b L, σ1) ∧ f_X8_arrives ρ (nI d) (nI k) (σ 20 13 i) (-1) = some (W_b (!L), ρ1) ∧ SP j σ ρ σ1 ρ1 ∧ (vw j σ1 1 = vw j σ 1 ∧ vw j σ1 21 = vw j σ 21) ∧ LU F C K M T U (vw j σ1) (ρ1 30 0) := by
  have hC := D_C h
  have hK := D_K h
  have e4 : ρ 30 0 4 = σ 12 j 0 := (B_set h).1
  have e9 : ρ 30 0 9 = σ 4 j 4 := B_seed h
  have hr : RC C (vw j σ) (-1) false := Or.inl ⟨rfl, rfl⟩
  have qa := a_isLost h hi hr hs hd hd4
  have qb := b_arr h hr hs hd4 hk
  rw [e4, e9] at qb
  have g1 := S_seed h (t_x (σ 4 j 4))
  cases hL : t_L (σ 12 j 0) (t_x (σ 4 j 4)) false b2
  · rw [hL, if_neg (show ¬ (false = true) by decide)] at qa qb
    rw [← vs_4, ← s_ru] at g1
    refine ⟨false, _, _, qa, qb, SP.r (SP.c (SP.rf j σ ρ) ?_ _ _) _ _, ⟨?_, ?_⟩, g1⟩
    · exact (rfl : j = j)
    · rw [vs_4, s_ne (by decide)]
    · rw [vs_4, s_ne (by decide)]
  · rw [hL, if_pos rfl] at qa qb
    have e15 : ρ 30 0 (15 + d) = σ 14 j d := (h.2.2.1 d hd4).2.1
    have g2 := S_lostK g1 hd4 (σ 14 j d + 1)
    rw [← vs_4, ← vs_14, ← s_ru, ← s_ru] at g2
    refine ⟨true, _, (sup (sup ρ 30 0 9 (t_x (σ 4 j 4))) 30 0 (15 + d) (σ 14 j d + 1)), qa, qb.trans ?_, ?_, ⟨?_, ?_⟩, ?_⟩
    · unfold f_X8_arrives_35
      simp (disch := omega) only [p_10, l_15, ni_nn, ni_cl, p_nle, false_or, if_false, if_true, p_st, s_nf, e15, f_X8_arrives_83]
      rfl
    · refine SP.r (SP.r (SP.c (SP.c (SP.rf j σ ρ) ?_ _ _) ?_ _ _) _ _) _ _ <;> exact (rfl : j = j)
    · rw [vs_14, vs_4, s_ne (by decide), s_ne (by decide)]
    · rw [vs_14, vs_4, s_ne (by decide), s_ne (by decide)]
    · exact g2
theorem t_toCar (h : LU F C K M T U (vw j σ) (ρ 30 0)) (hj : j < 13) (hT : T < 400000) {i d k c n : Nat} {b2 : Bool} (hi : i < 240) (hc : c < C) (hk : k < K) (hn : n ≤ 1000) (hM : M < 240) (hs : RC C (vw j σ) (σ 20 13 i) b2) (hd4 : d < 4) (hd1 : 1 ≤ d → ∃ c', c' < C ∧ σ 20 13 i = nI c') (f21 : σ 21 13 i = nI d) (f22 : σ 22 13 i = nI k) (f23 : σ 23 13 i = nI n) :
    ∃ (L : Bool) (σ' ρ1 ρ' : Sg), f_X0_deliverToCar σ j (nI i) (nI c) = some σ' ∧ f_X8_arrives ρ (nI d) (nI k) (σ 20 13 i) (nI c) = some (W_b (!L), ρ1) ∧ (L = true → ρ' = ρ1) ∧ (L = false → f_X8_hears ρ1 (nI c) (nI d) (nI k) (σ 20 13 i) (nI n) = some ρ') ∧ SP j σ ρ σ ρ1 ∧ ∃ M', LU F C K M' T U (vw j σ') (ρ' 30 0) ∧ SP j σ ρ σ' ρ' ∧ NX (if d = 0 then 1 else 0) M (vw j σ) M' (vw j σ') := by
  have hC := D_C h
  have hK := D_K h
  obtain ⟨L, σ1, ρ1, i1, i2, i3, i4, i5, i6⟩ := t_lostCar h hi hc hk hs f21 hd4
  have nx : NX 0 M (vw j σ) M (vw j σ1) := NX.of1 i4.2 i4.1
  have sp1 : SP j σ ρ σ ρ1 := ⟨Fr.rf j σ, i3.2⟩
  cases L
  · obtain ⟨-, a20, a21, a22, a23⟩ := i3.arr hj i
    have h1 := i5 rfl
    refine ⟨false, ?_⟩
    have hd9 : d = 0 ∨ d = 1 ∨ d = 2 ∨ d = 3 := by omega
    unfold f_X0_deliverToCar
    simp (disch := omega) only [ni_nn, ni_cl, p_nle, false_or, if_false, i1, p_bi, W_b0, if_true, f21, f22, f_X0_deliverToCar_144]
    rcases hd9 with rfl | rfl | rfl | rfl
    · obtain ⟨σ', ρ', k1, k2, M', k3, k4, k5⟩ := t_hearA h1 hT hc hk hM
      refine ⟨σ', ρ1, ρ', ?_, i2, fun q => absurd q (by decide), fun _ => ?_, sp1, M', k3, i3.trans k4, (nx.trans k5).mono (by decide)⟩
      · rw [if_pos (show nI 0 = 0 from rfl), k1]
        rfl
      · unfold f_X8_hears
        rw [if_pos (show nI 0 = 0 from rfl), k2]
        rfl
    · obtain ⟨c', hc', e20⟩ := hd1 (by decide)
      have g := S_note h1 hc hk (q := c') (by omega) (y := nI n) (Or.inr ⟨n, hn, rfl⟩)
      rw [← vs_18, ← s_ru] at g
      refine ⟨_, ρ1, _, ?_, i2, fun q => absurd q (by decide), fun _ => ?_, sp1, M, g, i3.trans (SP.r (SP.c (SP.rf j σ1 ρ1) (O_18 (by omega)) _ _) _ _), ?_⟩
      · rw [if_neg (show ¬ nI 1 = 0 by decide), if_pos (show nI 1 = 1 from rfl)]
        unfold f_X2_noteBid
        rw [a20, a23, e20, f23]
        simp (disch := omega) only [ni_4m, ni_add, ni_nn, ni_cl, p_nle, false_or, if_false, p_st, p_bv]
      · unfold f_X8_hears f_X8_hears_101
        rw [if_neg (show ¬ nI 1 = 0 by decide), if_pos (show nI 1 = 1 from rfl), e20]
        simp (disch := omega) only [b_at, p_bi, ni_nn, ni_cl, p_nle, false_or, if_false, p_st]
      · refine (nx.trans (NX.of1 ?_ ?_)).mono (Nat.zero_le _)
        · rw [vs_18, s_ne (by decide)]
        · rw [vs_18, s_ne (by decide)]
    · obtain ⟨σ', ρ', k1, k2, k3, k4, k5⟩ := t_claim h1 hc hk hi (a22.trans f22)
      rw [a20, a23, f23] at k2
      refine ⟨σ', ρ1, ρ', ?_, i2, fun q => absurd q (by decide), fun _ => k2, sp1, M, k3, i3.trans k4, (nx.trans (NX.of1 (k5 21 (by decide) (by decide)) (k5 1 (by decide) (by decide)))).mono (Nat.zero_le _)⟩
      rw [if_neg (show ¬ nI 2 = 0 by decide), if_neg (show ¬ nI 2 = 1 by decide), if_pos (show nI 2 = 2 from rfl), k1]
      rfl
    · obtain ⟨σ', ρ', k1, k2, k3, k4, k5⟩ := t_report h1 hc hk (σ 20 13 i) (nI n)
      refine ⟨σ', ρ1, ρ', ?_, i2, fun q => absurd q (by decide), fun _ => k2, sp1, M, k3, i3.trans k4, (nx.trans (NX.of1 (k5 21 (by decide) (by decide)) (k5 1 (by decide) (by decide)))).mono (Nat.zero_le _)⟩
      rw [if_neg (show ¬ nI 3 = 0 by decide), if_neg (show ¬ nI 3 = 1 by decide), if_neg (show ¬ nI 3 = 2 by decide), k1]
      rfl
  · have h1 := i6 rfl
    refine ⟨true, _, ρ1, ρ1, ?_, i2, fun _ => rfl, fun q => absurd q (by decide), sp1, M, h1, SP.c i3 (O_19 (by omega)) _ _, ?_⟩
    · unfold f_X0_deliverToCar
      simp (disch := omega) only [ni_nn, ni_cl, p_nle, false_or, if_false, i1, p_bi, W_b0, f21, f22, p_st]
      rw [if_neg (by decide)]
    · refine (nx.trans (NX.of1 ?_ ?_)).mono (Nat.zero_le _)
      · rw [vs_19, s_ne (by decide)]
      · rw [vs_19, s_ne (by decide)]
/-- what stands behind the cars for one message -/
theorem t_toSt (h : LU F C K M T U (vw j σ) (ρ 30 0)) (hj : j < 13) {i d k : Nat} (hi : i < 240) (hk : k < K) (hd4 : d < 4) (hx : (d = 0 ∧ σ 20 13 i = -1) ∨ ∃ c', c' < C ∧ σ 20 13 i = nI c') (f21 : σ 21 13 i = nI d) (f22 : σ 22 13 i = nI k) (k2 : Sg → Nat → Int32 → Option Sg) :
    ∃ σ' ρ', f_X0_deliver_55 k2 σ j (nI i) (σ 20 13 i) = k2 σ' j (nI (i + 1)) ∧ f_X8_delivers_92 ρ (nI d) (nI k) (σ 20 13 i) = some ρ' ∧ LU F C K M T U (vw j σ') (ρ' 30 0) ∧ SP j σ ρ σ' ρ' ∧ NX 0 M (vw j σ) M (vw j σ') := by
  have hC := D_C h
  have hK := D_K h
  unfold f_X0_deliver_55 f_X0_deliver_66 f_X8_delivers_92 f_X8_delivers_110
  rcases hx with ⟨-, e⟩ | ⟨c, hc, e⟩
  · rw [if_pos e, if_pos e, ni_1]
    exact ⟨σ, ρ, rfl, rfl, h, SP.rf j σ ρ, NX.rf M _⟩
  · rw [e]
    rw [if_neg (by rw [nm_1 (by omega)]; exact id), if_neg (by rw [nm_1 (by omega)]; exact id)]
    obtain ⟨L, σ1, ρ1, i1, i2, i3, i4, i5⟩ := t_lostSt (b2 := decide (vw j σ 2 c 4 = 1)) h hi hk (Or.inr ⟨c, hc, e, rfl⟩) f21 hd4
    rw [e] at i2
    obtain ⟨-, a20, a21, a22, a23⟩ := i3.arr hj i
    have nx : NX 0 M (vw j σ) M (vw j σ1) := NX.of1 i4.2 i4.1
    unfold f_X0_deliverToStation f_X0_deliverToStation_59
    simp (disch := omega) only [i1, i2, p_bi, W_b0, a21, f21, a22, f22, ni_nn, ni_cl, p_nle, false_or, if_false, ni_1, a20, e]
    cases L
    · rw [if_pos (show false = false from rfl), if_neg (show ¬ ((!false) = false) by decide)]
      by_cases w : nI d = 2
      · rw [if_pos w, if_pos w]
        have g := S_clm i5 hc hk (nI T)
        rw [← vs_1, ← vs_1, ← s_ru, ← s_ru] at g
        refine ⟨_, _, ?_, ?_, g, i3.trans (SP.r (SP.r (SP.c (SP.c (SP.rf j σ1 ρ1) (O_1 (by omega)) _ _) (O_1 (by omega)) _ _) _ _) _ _), nx.trans (NX.of ?_ ?_)⟩
        · simp (disch := omega) only [p_st, p_bv, s_ne, A_T i5]
        · simp (disch := omega) only [l_247, l_271, ni_nn, ni_cl, p_nle, false_or, if_false, p_st, s_nf, B_T i5]
        · rw [vs_1, vs_1, s_ne (by decide), s_ne (by decide)]
        · intro q f h8 h9
          rw [vs_1, vs_1, s_nf h9, s_nf h8]
      · rw [if_neg w, if_neg w]
        exact ⟨σ1, ρ1, rfl, rfl, i5, i3, nx⟩
    · rw [if_neg (show ¬ (true = false) by decide), if_pos (show (!true) = false from rfl)]
      exact ⟨σ1, ρ1, rfl, rfl, i5, i3, nx⟩
theorem t_deliver1 {N i : Nat} (h : LU F C K M T U (vw j σ) (ρ 30 0)) (hj : j < 13) (hT : T < 400000) (hA : Ar C K N σ ρ) (hi : i < N) (hM : M + 4 * (if σ 21 13 i = 0 then 1 else 0) < 240) (k2 : Sg → Nat → Int32 → Option Sg) :
    ∃ σ' ρ', f_X0_deliver_26 k2 FU σ j (nI i) (σ 20 13 i) 0 = k2 σ' j (nI (i + 1)) ∧ f_X8_delivers ρ (nI i) = some ρ' ∧ ∃ M', LU F C K M' T U (vw j σ') (ρ' 30 0) ∧ SP j σ ρ σ' ρ' ∧ NX (4 * (if σ 21 13 i = 0 then 1 else 0)) M (vw j σ) M' (vw j σ') := by
  have hC := D_C h
  have hK := D_K h
  have hN := hA.2.1
  obtain ⟨o1, o2, o3, o4, ⟨k, hk, f22⟩, fx, nn, hnn, f23⟩ := hA.2.2 i hi
  have hd : ∃ d, d < 4 ∧ σ 21 13 i = nI d ∧ ((d = 0 ∧ σ 20 13 i = -1) ∨ (1 ≤ d ∧ ∃ c', c' < C ∧ σ 20 13 i = nI c')) := by
    rcases fx with ⟨x1, x2⟩ | ⟨d, c', x1, x2, x3, x4, x5⟩
    · exact ⟨0, by decide, x1, Or.inl ⟨rfl, x2⟩⟩
    · exact ⟨d, by omega, x4, Or.inr ⟨x1, c', x3, x5⟩⟩
  obtain ⟨d, hd4, f21, hdx⟩ := hd
  have hx : (if σ 21 13 i = 0 then 1 else 0) = (if d = 0 then 1 else 0) := by
    rw [f21, show (0 : Int32) = nI 0 from rfl]
    simp (disch := omega) only [ni_eq]
  rw [hx] at hM ⊢
  have hx2 : (if d = 0 then 1 else 0) ≤ 1 := by split <;> omega
  generalize hX : (if d = 0 then 1 else 0) = X at hM hx2 ⊢
  obtain ⟨n, m, a, b, ⟨M2, r1, r2, r3⟩, r4, r5⟩ := lpE (fun n (a' : Sg) q => f_X0_deliver_26 k2 n a' j (nI i) (σ 20 13 i) q) (fun n (b' : Sg) q => f_X8_delivers_35 n b' (nI i) (nI d) (nI k) (σ 20 13 i) q) C (by omega) (fun q a' b' => ∃ M2, LU F C K M2 T U (vw j a') (b' 30 0) ∧ SP j σ ρ a' b' ∧ NX (q * X) M (vw j σ) M2 (vw j a')) (a := σ) (b := ρ) (by
    rintro n m q a' b' hq ⟨M2, r1, r2, r3⟩
    obtain ⟨-, a20, a21, a22, a23⟩ := r2.arr hj i
    simp (disch := omega) only [f_X0_deliver_26_s, f_X8_delivers_35_s, A_C r1, B_C r1, ni_le, p_nle, if_false, f_X0_deliver_49, f_X8_delivers_86, ni_1]
    by_cases w : nI q = σ 20 13 i
    · rw [if_pos w, if_pos w]
      exact ⟨a', b', ⟨M2, r1, r2, r3.mono (Nat.mul_le_mul_right X (Nat.le_succ q))⟩, rfl, rfl⟩
    · rw [if_neg w, if_neg w]
      have hs : ∃ b2, RC C (vw j a') (a' 20 13 i) b2 := by
        rcases hdx with ⟨-, e⟩ | ⟨-, c', hc', e⟩
        · exact ⟨false, Or.inl ⟨a20.trans e, rfl⟩⟩
        · exact ⟨_, Or.inr ⟨c', hc', a20.trans e, rfl⟩⟩
      obtain ⟨b2, hs⟩ := hs
      have hb : M2 < 240 := by
        have h9 := r3.1
        have h8 : q * X ≤ 3 * X := Nat.mul_le_mul_right X (by omega)
        omega
      obtain ⟨L, σ', ρ1, ρ', u1, u2, u3, u4, u5, M3, u6, u7, u8⟩ := t_toCar r1 hj hT (i := i) (d := d) (k := k) (n := nn) (by omega) hq hk hnn hb hs hd4 (fun h1 => by
        rcases hdx with ⟨e, -⟩ | ⟨-, c', hc', e⟩
        · omega
        · exact ⟨c', hc', a20.trans e⟩) (a21.trans f21) (a22.trans f22) (a23.trans f23)
      rw [a20] at u2 u4
      rw [hX] at u8
      have e35 : ρ1 35 0 (4 * i + 3) = nI nn := by
        rw [u5.2 35 (by decide), r2.2 35 (by decide)]
        exact o4.trans f23
      refine ⟨σ', ρ', ⟨M3, u6, r2.trans u7, (r3.trans u8).mono (by rw [Nat.succ_mul]; exact Nat.le_refl _)⟩, ?_, ?_⟩
      · rw [u1]
        rfl
      · rw [u2, p_bi]
        cases L
        · rw [if_neg (by decide)]
          simp (disch := omega) only [m_4, ni_3, ni_nn, ni_cl, p_nle, false_or, if_false, e35, u4 rfl, p_bv]
        · rw [if_pos (show W_b (!true) = 0 from rfl), u3 rfl]) ⟨M, h, SP.rf j σ ρ, (NX.rf M _).mono (Nat.zero_le _)⟩
  obtain ⟨-, a20, a21, a22, a23⟩ := r2.arr hj i
  obtain ⟨σ', ρ', v1, v2, v3, v4, v5⟩ := t_toSt r1 hj (i := i) (d := d) (k := k) (by omega) hk hd4 (by
    rcases hdx with ⟨e1, e⟩ | ⟨-, c', hc', e⟩
    · exact Or.inl ⟨e1, a20.trans e⟩
    · exact Or.inr ⟨c', hc', a20.trans e⟩) (a21.trans f21) (a22.trans f22) k2
  rw [a20] at v1 v2
  refine ⟨σ', ρ', r4.trans ?_, ?_, M2, v3, r2.trans v4, (r3.trans v5).mono (Nat.mul_le_mul_right X hC)⟩
  · simp (disch := omega) only [f_X0_deliver_26_s, A_C r1, ni_le, Nat.le_refl, if_true]
    exact v1
  · unfold f_X8_delivers
    simp (disch := omega) only [m_4, ni_1, ni_2, ni_nn, ni_cl, p_nle, false_or, if_false, o1, o2, o3, f21, f22]
    refine r5.trans ?_
    simp (disch := omega) only [f_X8_delivers_35_s, B_C r1, ni_le, Nat.le_refl, if_true]
    exact v2
theorem t_deliver {N : Nat} (h : LU F C K M T U (vw j σ) (ρ 30 0)) (hj : j < 13) (hT : T < 400000) (hA : Ar C K N σ ρ) (hM : M + 4 * ct (fun i => decide (σ 21 13 i = 0)) N < 240) :
    ∃ m σ' ρ', f_X0_deliver σ j = some σ' ∧ f_X8_ticks_40 FU ρ (nI N) 0 = f_X8_ticks_40 (m + 1) ρ' (nI N) (nI N) ∧ ∃ M', LU F C K M' T U (vw j σ') (ρ' 30 0) ∧ SP j σ ρ σ' ρ' ∧ NX (4 * ct (fun i => decide (σ 21 13 i = 0)) N) M (vw j σ) M' (vw j σ') := by
  have hC := D_C h
  have hK := D_K h
  have hN := hA.2.1
  obtain ⟨n, m, a, b, ⟨M', i1, i2, i3⟩, i4, i5⟩ := lpE (fun n (a : Sg) i => f_X0_deliver_2 n a j i) (fun n (b : Sg) i => f_X8_ticks_40 n b (nI N) i) N (by omega) (fun i a b => ∃ M', LU F C K M' T U (vw j a) (b 30 0) ∧ SP j σ ρ a b ∧ NX (4 * ct (fun i => decide (σ 21 13 i = 0)) i) M (vw j σ) M' (vw j a)) (a := σ) (b := ρ) (by
    rintro n m i a b hi ⟨M1, j1, j2, j3⟩
    have hA1 := hA.sp j2 hj
    have ecm : ct (fun i => decide (σ 21 13 i = 0)) (i + 1) ≤ ct (fun i => decide (σ 21 13 i = 0)) N := by
      obtain ⟨e, he⟩ : ∃ e, N = (i + 1) + e := ⟨N - (i + 1), by omega⟩
      rw [he, ct_add (fun i => decide (σ 21 13 i = 0)) (i + 1) e]
      omega
    have e21 : a 21 13 i = σ 21 13 i := (j2.arr hj i).2.2.1
    have ecs : ct (fun i => decide (σ 21 13 i = 0)) (i + 1) = ct (fun i => decide (σ 21 13 i = 0)) i + (if a 21 13 i = 0 then 1 else 0) := by
      rw [ct_s, e21]
      by_cases w : σ 21 13 i = 0
      · rw [if_pos w, if_pos (decide_eq_true w)]
      · rw [if_neg w, if_neg (by rw [decide_eq_false w]; decide)]
        rfl
    obtain ⟨σ', ρ', v1, v2, M2, v3, v4, v5⟩ := t_deliver1 j1 hj hT hA1 hi (by have := j3.1; omega) (f_X0_deliver_2 n)
    refine ⟨σ', ρ', ⟨M2, v3, j2.trans v4, (j3.trans v5).mono (by omega)⟩, ?_, ?_⟩
    · simp (disch := omega) only [f_X0_deliver_2_s, hA1.1, ni_le, p_nle, if_false, ni_nn, ni_cl, false_or]
      exact v1
    · simp (disch := omega) only [f_X8_ticks_40_s, ni_le, p_nle, if_false, v2, p_bv, ni_1]) ⟨M, h, SP.rf j σ ρ, (NX.rf M _).mono (Nat.zero_le _)⟩
  refine ⟨m, a, b, i4.trans ?_, i5, M', i1, i2, i3⟩
  have hA1 := hA.sp i2 hj
  simp (disch := omega) only [f_X0_deliver_2_s, hA1.1, ni_le, Nat.le_refl, if_true, f_X0_deliver_72]
end TK
