/-! a tick of both: phase 2, all messages to all receivers -/
def ArL (C K N : Nat) (σ τ : Sg) : Prop := σ 5 13 0 = nI N ∧ N ≤ 240 ∧ τ 50 3 2 = nI N ∧ ∀ i, i < N → τ 51 i 0 = σ 21 13 i ∧ τ 51 i 1 = σ 22 13 i ∧ τ 51 i 2 = σ 20 13 i ∧ τ 51 i 3 = σ 23 13 i ∧ (∃ k, k < K ∧ σ 22 13 i = nI k) ∧ ((σ 21 13 i = 0 ∧ σ 20 13 i = -1) ∨ ∃ d c, 1 ≤ d ∧ d ≤ 3 ∧ c < C ∧ σ 21 13 i = nI d ∧ σ 20 13 i = nI c) ∧ ∃ n, n ≤ 1000 ∧ σ 23 13 i = nI n
theorem ArL.sq {C K N j : Nat} {σ τ σ' τ' : Sg} (h : ArL C K N σ τ) (hS : SQ j σ τ σ' τ') (hj : j < 13) : ArL C K N σ' τ' := by
  refine ⟨(hS.arr hj 0).1.trans h.1, h.2.1, ?_, fun i hi => ?_⟩
  · rw [hS.2.2.1]
    exact h.2.2.1
  · obtain ⟨-, e1, e2, e3, e4⟩ := hS.arr hj i
    rw [e1, e2, e3, e4, hS.2.1]
    exact h.2.2.2 i hi
section TK
variable {F C K M T U j : Nat} {σ τ : Sg}
theorem l_toCar (h : LL F C K M T U j σ τ) (hj : j < 13) (hT : T < 400000) {i d k c n : Nat} {b2 : Bool} (hi : i < 240) (hc : c < C) (hk : k < K) (hn : n ≤ 1000) (hM : M < 240) (hs : RC C (vw j σ) (σ 20 13 i) b2) (hd4 : d < 4) (hd1 : 1 ≤ d → ∃ c', c' < C ∧ σ 20 13 i = nI c') (f21 : σ 21 13 i = nI d) (f22 : σ 22 13 i = nI k) (f23 : σ 23 13 i = nI n) (m0 : τ 51 i 0 = nI d) (m1 : τ 51 i 1 = nI k) (m2 : τ 51 i 2 = σ 20 13 i) (m3 : τ 51 i 3 = nI n) :
    ∃ (L : Bool) (σ' τ1 τ' : Sg) (e : Nat), f_X0_deliverToCar σ j (nI i) (nI c) = some σ' ∧ f_L_isLost τ (nI d) (σ 20 13 i) (nI c) = some (W_b L, τ1, 0) ∧ (L = true → τ' = sup τ1 43 (4 * k + c) 3 (τ1 43 (4 * k + c) 3 ||| (1 <<< (nI d &&& 31))) ∧ e = 0) ∧ (L = false → f_L_hear τ1 (nI c) i = some (0, τ', e)) ∧ TP τ τ1 ∧ q_nn τ1 1 = K ∧ ∃ M', LL F C K M' T U j σ' τ' ∧ SQ j σ τ σ' τ' ∧ NX (if d = 0 then 1 else 0) M (vw j σ) M' (vw j σ') ∧ e + pt τ ≤ pt τ' := by
  have hC := D_C h.1
  have hK := D_K h.1
  obtain ⟨L, σ1, τ1, i1, i2, i3, i4, i7, i5, i6⟩ := l_lostCar h hi hc hk hs f21 hd4
  have nx : NX 0 M (vw j σ) M (vw j σ1) := NX.of1 i4.2 i4.1
  have nk : q_nn τ1 1 = K := by
    unfold q_nn
    rw [i3.2.2.2.2, L_K h.1, ni_cl (by omega)]
  cases L
  · obtain ⟨-, a20, a21, a22, a23⟩ := i3.arr hj i
    have h1 := i5 rfl
    have n0 : τ1 51 i 0 = nI d := by rw [i3.2.1]; exact m0
    have n1 : τ1 51 i 1 = nI k := by rw [i3.2.1]; exact m1
    have n2 : τ1 51 i 2 = σ1 20 13 i := by rw [i3.2.1, a20]; exact m2
    have n3 : τ1 51 i 3 = nI n := by rw [i3.2.1]; exact m3
    refine ⟨false, ?_⟩
    have hd9 : d = 0 ∨ d = 1 ∨ d = 2 ∨ d = 3 := by omega
    unfold f_X0_deliverToCar
    simp (disch := omega) only [ni_nn, ni_cl, p_nle, false_or, if_false, i1, p_bi, W_b0, if_true, f21, f22, f_X0_deliverToCar_144]
    rcases hd9 with rfl | rfl | rfl | rfl
    · obtain ⟨σ', τ', e, k1, k2, M', k3, k4, k5, k6⟩ := l_hearA h1 hT hc hk hM n0 n1
      refine ⟨σ', τ1, τ', e, ?_, i2, fun q => absurd q (by decide), fun _ => k2, i3.2, nk, M', k3, i3.trans k4, (nx.trans k5).mono (by decide), by omega⟩
      rw [if_pos (show nI 0 = 0 from rfl), k1]
      rfl
    · obtain ⟨c', hc', e20⟩ := hd1 (by decide)
      have g := S_note h1.1 hc hk (q := c') (by omega) (y := nI n) (Or.inr ⟨n, hn, rfl⟩)
      have e1 := u_44 τ1 (c := c) (k := k) (i := c') (by omega) (by omega) (by omega) (nI n)
      rw [← vs_18, ← e1] at g
      refine ⟨sup σ1 18 (4 * j + c) (4 * k + c') (nI n), τ1, sup τ1 44 (4 * k + c) c' (nI n), 0, ?_, i2, fun q => absurd q (by decide), fun _ => ?_, i3.2, nk, M, ⟨g, cb_put (by decide) h1.2 _ _ _⟩, i3.trans (SQ.l (SQ.c (SQ.rf j σ1 τ1) (O_18 (by omega)) _ _) (by decide) (by decide) _ _ _), ?_, by rw [pt_put (by decide)]; omega⟩
      · rw [if_neg (show ¬ nI 1 = 0 by decide), if_pos (show nI 1 = 1 from rfl)]
        unfold f_X2_noteBid
        rw [a20, a23, e20, f23]
        simp (disch := omega) only [ni_4m, ni_add, ni_nn, ni_cl, p_nle, false_or, if_false, p_st, p_bv]
      · have n2' : τ1 51 i 2 = nI c' := n2.trans (a20.trans e20)
        unfold f_L_hear f_L_hear_216
        simp (disch := omega) only [cl0, cl1, cl2, cl3, n0, n1, n2', n3, N_K h1.1, ni_nn, ni_cl, p_nle, false_or, if_false, p_st]
        rw [if_neg (show ¬ nI 1 = 0 by decide), if_pos (show nI 1 = 1 from rfl)]
      · refine (nx.trans (NX.of1 ?_ ?_)).mono (Nat.zero_le _)
        · rw [vs_18, s_ne (by decide)]
        · rw [vs_18, s_ne (by decide)]
    · obtain ⟨σ', τ', k1, k2, k3, k4, k5, k6⟩ := l_claim h1 hc hk hi (a22.trans f22) n0 n1 n2 (n3.trans (f23.symm.trans a23.symm))
      refine ⟨σ', τ1, τ', 0, ?_, i2, fun q => absurd q (by decide), fun _ => k2, i3.2, nk, M, k3, i3.trans k4, (nx.trans (NX.of1 (k5 21 (by decide) (by decide)) (k5 1 (by decide) (by decide)))).mono (Nat.zero_le _), by omega⟩
      rw [if_neg (show ¬ nI 2 = 0 by decide), if_neg (show ¬ nI 2 = 1 by decide), if_pos (show nI 2 = 2 from rfl), k1]
      rfl
    · obtain ⟨σ', τ', k1, k2, k3, k4, k5, k6⟩ := l_report h1 hc hk n0 n1
      refine ⟨σ', τ1, τ', 0, ?_, i2, fun q => absurd q (by decide), fun _ => k2, i3.2, nk, M, k3, i3.trans k4, (nx.trans (NX.of1 (k5 21 (by decide) (by decide)) (k5 1 (by decide) (by decide)))).mono (Nat.zero_le _), by omega⟩
      rw [if_neg (show ¬ nI 3 = 0 by decide), if_neg (show ¬ nI 3 = 1 by decide), if_neg (show ¬ nI 3 = 2 by decide), k1]
      rfl
  · have h1 := i6 rfl
    refine ⟨true, _, τ1, _, 0, ?_, i2, fun _ => ⟨rfl, rfl⟩, fun q => absurd q (by decide), i3.2, nk, M, h1, SQ.l (SQ.c i3 (O_19 (by omega)) _ _) (by decide) (by decide) _ _ _, ?_, by rw [pt_put (by decide)]; omega⟩
    · unfold f_X0_deliverToCar
      simp (disch := omega) only [ni_nn, ni_cl, p_nle, false_or, if_false, i1, p_bi, W_b0, f21, f22, p_st]
      rw [if_neg (by decide)]
    · refine (nx.trans (NX.of1 ?_ ?_)).mono (Nat.zero_le _)
      · rw [vs_19, s_ne (by decide)]
      · rw [vs_19, s_ne (by decide)]
/-- what stands behind the cars for one message -/
theorem l_toSt (h : LL F C K M T U j σ τ) (hj : j < 13) {i d k : Nat} (hi : i < 240) (hk : k < K) (hd4 : d < 4) (hx : (d = 0 ∧ σ 20 13 i = -1) ∨ ∃ c', c' < C ∧ σ 20 13 i = nI c') (f21 : σ 21 13 i = nI d) (f22 : σ 22 13 i = nI k) (m0 : τ 51 i 0 = nI d) (m1 : τ 51 i 1 = nI k) (m2 : τ 51 i 2 = σ 20 13 i) (k2 : Sg → Nat → Int32 → Option Sg) (kL : Sg → Nat → Int32 → Option (Int32 × Sg × Nat)) (q2 : Nat) (mm : Int32) :
    ∃ σ' τ', f_X0_deliver_55 k2 σ j (nI i) (σ 20 13 i) = k2 σ' j (nI (i + 1)) ∧ f_L_tick_201 kL τ q2 mm i = kL τ' q2 mm ∧ LL F C K M T U j σ' τ' ∧ SQ j σ τ σ' τ' ∧ NX 0 M (vw j σ) M (vw j σ') ∧ pt τ' = pt τ := by
  have hC := D_C h.1
  have hK := D_K h.1
  unfold f_X0_deliver_55 f_X0_deliver_66 f_L_tick_201 f_L_tick_271
  simp only [cl0, cl1, cl2, m0, m2]
  rcases hx with ⟨-, e⟩ | ⟨c, hc, e⟩
  · rw [if_pos e, e, if_pos (by decide), ni_1]
    exact ⟨σ, τ, rfl, rfl, h, SQ.rf j σ τ, NX.rf M _, rfl⟩
  · rw [e]
    rw [if_neg (by rw [nm_1 (by omega)]; exact id), if_neg (by rw [ni_nn (by omega)]; exact id)]
    obtain ⟨L, σ1, τ1, i1, i2, i3, i4, i6, i5⟩ := l_lostSt (b2 := decide (vw j σ 2 c 4 = 1)) h hi (Or.inr ⟨c, hc, e, rfl⟩) f21 hd4
    rw [e] at i2
    obtain ⟨-, a20, a21, a22, a23⟩ := i3.arr hj i
    have nx : NX 0 M (vw j σ) M (vw j σ1) := NX.of1 i4.2 i4.1
    have n0 : τ1 51 i 0 = nI d := by rw [i3.2.1]; exact m0
    have n1 : τ1 51 i 1 = nI k := by rw [i3.2.1]; exact m1
    have n2 : τ1 51 i 2 = nI c := by rw [i3.2.1]; exact m2.trans e
    unfold f_X0_deliverToStation f_X0_deliverToStation_59
    simp (disch := omega) only [i1, i2, p_bi, bq_some, ac_0, W_b0, a21, f21, a22, f22, ni_nn, ni_cl, p_nle, false_or, if_false, ni_1, a20, e, n0, n1, n2, N_K i5.1]
    cases L
    · rw [if_pos (show false = false from rfl), if_pos (show false = false from rfl)]
      by_cases w : nI d = 2
      · rw [if_pos w, if_pos w]
        have g := S_clm i5.1 hc hk (nI T)
        have e1 := u_42 τ1 (k := k) (f := 8) (by omega) (by decide) (nI c)
        have e2 := u_42 (sup τ1 42 k 8 (nI c)) (k := k) (f := 9) (by omega) (by decide) (nI T)
        rw [e1] at e2
        rw [← vs_1, ← vs_1] at g
        refine ⟨sup (sup σ1 1 (24 * j + k) 8 (nI c)) 1 (24 * j + k) 9 (nI T), sup (sup τ1 42 k 8 (nI c)) 42 k 9 (nI T), ?_, ?_, ⟨?_, cb_put (by decide) (cb_put (by decide) i5.2 _ _ _) _ _ _⟩, i3.trans (SQ.l (SQ.l (SQ.c (SQ.c (SQ.rf j σ1 τ1) (O_1 (by omega)) _ _) (O_1 (by omega)) _ _) (by decide) (by decide) _ _ _) (by decide) (by decide) _ _ _), nx.trans (NX.of ?_ ?_), ?_⟩
        · simp (disch := omega) only [p_st, p_bv, s_ne, A_T i5.1]
        · simp (disch := omega) only [p_st, s_ne, n1, n2, L_T i5.1, ni_nn, ni_cl, p_nle, false_or, if_false, nn_put, N_K i5.1]
        · rw [e2]
          exact g
        · rw [vs_1, vs_1, s_ne (by decide), s_ne (by decide)]
        · intro q f h8 h9
          rw [vs_1, vs_1, s_nf h9, s_nf h8]
        · rw [pt_put (by decide), pt_put (by decide), i6]
      · rw [if_neg w, if_neg w]
        exact ⟨σ1, τ1, rfl, rfl, i5, i3, nx, i6⟩
    · rw [if_neg (show ¬ (true = false) by decide), if_neg (show ¬ (true = false) by decide)]
      exact ⟨σ1, τ1, rfl, rfl, i5, i3, nx, i6⟩
theorem l_deliver1 {N i : Nat} (h : LL F C K M T U j σ τ) (hj : j < 13) (hT : T < 400000) (hA : ArL C K N σ τ) (hi : i < N) (hM : M + 4 * (if σ 21 13 i = 0 then 1 else 0) < 240) (k2 : Sg → Nat → Int32 → Option Sg) (kL : Sg → Nat → Int32 → Option (Int32 × Sg × Nat)) (q2 : Nat) (mm : Int32) :
    ∃ σ' τ' e, f_X0_deliver_26 k2 FU σ j (nI i) (σ 20 13 i) 0 = k2 σ' j (nI (i + 1)) ∧ f_L_tick_111 kL FU τ q2 mm i 0 = ac e (kL τ' q2 mm) ∧ ∃ M', LL F C K M' T U j σ' τ' ∧ SQ j σ τ σ' τ' ∧ NX (4 * (if σ 21 13 i = 0 then 1 else 0)) M (vw j σ) M' (vw j σ') ∧ e + pt τ ≤ pt τ' := by
  have hC := D_C h.1
  have hK := D_K h.1
  have hN := hA.2.1
  obtain ⟨o1, o2, o3, o4, ⟨k, hk, f22⟩, fx, nn, hnn, f23⟩ := hA.2.2.2 i hi
  have hd : ∃ d, d < 4 ∧ σ 21 13 i = nI d ∧ ((d = 0 ∧ σ 20 13 i = -1) ∨ (1 ≤ d ∧ ∃ c', c' < C ∧ σ 20 13 i = nI c')) := by
    rcases fx with ⟨x1, x2⟩ | ⟨d, c', x1, x2, x3, x4, x5⟩
    · exact ⟨0, by decide, x1, Or.inl ⟨rfl, x2⟩⟩
    · exact ⟨d, by omega, x4, Or.inr ⟨x1, c', x3, x5⟩⟩
  obtain ⟨d, hd4, f21, hdx⟩ := hd
  have hx : (if σ 21 13 i = 0 then 1 else 0) = (if d = 0 then 1 else 0) := by
    rw [f21, show (0 : Int32) = nI 0 from rfl]
    simp (disch := omega) only [ni_eq]
  rw [hx] at hM ⊢
  have hx2 : (if d = 0 then 1 else 0) ≤ 1 := by split <;> omega
  generalize hX : (if d = 0 then 1 else 0) = X at hM hx2 ⊢
  obtain ⟨n, m, a, b, D, ⟨M2, r1, r2, r3, r6⟩, r4, r5⟩ := lpL (fun n (a' : Sg) q => f_X0_deliver_26 k2 n a' j (nI i) (σ 20 13 i) (nI q)) (fun n (b' : Sg) q => f_L_tick_111 kL n b' q2 mm i (nI q)) C (by omega) (fun q a' b' D => ∃ M2, LL F C K M2 T U j a' b' ∧ SQ j σ τ a' b' ∧ NX (q * X) M (vw j σ) M2 (vw j a') ∧ D + pt τ ≤ pt b') (a := σ) (b := τ) (by
    rintro n m q a' b' D hq ⟨M2, r1, r2, r3, r6⟩
    obtain ⟨-, a20, a21, a22, a23⟩ := r2.arr hj i
    have n0 : b' 51 i 0 = nI d := by rw [r2.2.1]; exact o1.trans f21
    have n1 : b' 51 i 1 = nI k := by rw [r2.2.1]; exact o2.trans f22
    have n2 : b' 51 i 2 = σ 20 13 i := by rw [r2.2.1]; exact o3
    have n3 : b' 51 i 3 = nI nn := by rw [r2.2.1]; exact o4.trans f23
    simp (disch := omega) only [f_X0_deliver_26_s, f_L_tick_111_s, cl0, cl1, cl2, n0, n2, A_C r1.1, L_C r1.1, ni_le, p_nle, if_false, f_X0_deliver_49, f_L_tick_195, ni_1]
    by_cases w : nI q = σ 20 13 i
    · rw [if_pos w, if_pos w]
      exact ⟨a', b', 0, ⟨M2, r1, r2, r3.mono (Nat.mul_le_mul_right X (Nat.le_succ q)), r6⟩, rfl, (ac_0 _).symm⟩
    · rw [if_neg w, if_neg w]
      have hs : ∃ b2, RC C (vw j a') (a' 20 13 i) b2 := by
        rcases hdx with ⟨-, e⟩ | ⟨-, c', hc', e⟩
        · exact ⟨false, Or.inl ⟨a20.trans e, rfl⟩⟩
        · exact ⟨_, Or.inr ⟨c', hc', a20.trans e, rfl⟩⟩
      obtain ⟨b2, hs⟩ := hs
      have hb : M2 < 240 := by
        have h9 := r3.1
        have h8 : q * X ≤ 3 * X := Nat.mul_le_mul_right X (by omega)
        omega
      obtain ⟨L, σ', τ1, τ', e, u1, u2, u3, u4, u5, u9, M3, u6, u7, u8, u10⟩ := l_toCar r1 hj hT (i := i) (d := d) (k := k) (n := nn) (by omega) hq hk hnn hb hs hd4 (fun h1 => by
        rcases hdx with ⟨e, -⟩ | ⟨-, c', hc', e⟩
        · omega
        · exact ⟨c', hc', a20.trans e⟩) (a21.trans f21) (a22.trans f22) (a23.trans f23) n0 n1 (n2.trans a20.symm) n3
      rw [a20] at u2
      rw [hX] at u8
      have t0 : τ1 51 i 0 = nI d := by rw [u5.1]; exact n0
      have t1 : τ1 51 i 1 = nI k := by rw [u5.1]; exact n1
      refine ⟨σ', τ', e, ⟨M3, u6, r2.trans u7, (r3.trans u8).mono (by rw [Nat.succ_mul]; exact Nat.le_refl _), by omega⟩, ?_, ?_⟩
      · rw [u1]
        rfl
      · rw [u2, bq_some, ac_0]
        cases L
        · rw [if_pos (show W_b false = 0 from rfl), u4 rfl, bq_some]
        · obtain ⟨u31, u32⟩ := u3 rfl
          rw [if_neg (by decide), u31, u32, ac_0]
          simp (disch := omega) only [t0, t1, u9, ni_nn, ni_cl, p_nle, false_or, if_false, p_st]) ⟨M, h, SQ.rf j σ τ, (NX.rf M _).mono (Nat.zero_le _), by omega⟩
  obtain ⟨-, a20, a21, a22, a23⟩ := r2.arr hj i
  obtain ⟨σ', τ', v1, v2, v3, v4, v5, v6⟩ := l_toSt r1 hj (i := i) (d := d) (k := k) (by omega) hk hd4 (by
    rcases hdx with ⟨e1, e⟩ | ⟨-, c', hc', e⟩
    · exact Or.inl ⟨e1, a20.trans e⟩
    · exact Or.inr ⟨c', hc', a20.trans e⟩) (a21.trans f21) (a22.trans f22) (by rw [r2.2.1]; exact o1.trans f21) (by rw [r2.2.1]; exact o2.trans f22) (by rw [r2.2.1, a20]; exact o3) k2 kL q2 mm
  rw [a20] at v1
  refine ⟨σ', τ', D, Eq.trans r4 ?_, Eq.trans r5 ?_, M2, v3, r2.trans v4, (r3.trans v5).mono (Nat.mul_le_mul_right X hC), by omega⟩
  · simp (disch := omega) only [f_X0_deliver_26_s, A_C r1.1, ni_le, Nat.le_refl, if_true]
    exact v1
  · simp (disch := omega) only [f_L_tick_111_s, L_C r1.1, ni_le, Nat.le_refl, if_true]
    rw [v2]
theorem l_deliver {N : Nat} (h : LL F C K M T U j σ τ) (hj : j < 13) (hT : T < 400000) (hA : ArL C K N σ τ) (hM : M + 4 * ct (fun i => decide (σ 21 13 i = 0)) N < 240) :
    ∃ σ' τ' D, f_X0_deliver σ j = some σ' ∧ f_L_tick_82 τ = ac D (f_L_tick_274 τ') ∧ ∃ M', LL F C K M' T U j σ' τ' ∧ SQ j σ τ σ' τ' ∧ NX (4 * ct (fun i => decide (σ 21 13 i = 0)) N) M (vw j σ) M' (vw j σ') ∧ D + pt τ ≤ pt τ' + 1 := by
  have hC := D_C h.1
  have hK := D_K h.1
  have hN := hA.2.1
  obtain ⟨n, m, a, b, D, ⟨M', i1, i2, i3, i6⟩, i4, i5⟩ := lpL (fun n (a : Sg) i => f_X0_deliver_2 n a j (nI i)) (fun n (b : Sg) i => f_L_tick_89 n b i (τ 50 3 0)) N (by omega) (fun i a b D => ∃ M', LL F C K M' T U j a b ∧ SQ j σ τ a b ∧ NX (4 * ct (fun i => decide (σ 21 13 i = 0)) i) M (vw j σ) M' (vw j a) ∧ D + pt τ ≤ pt b) (a := σ) (b := τ) (by
    rintro n m i a b D hi ⟨M1, j1, j2, j3, j6⟩
    have hA1 := hA.sq j2 hj
    have ecm : ct (fun i => decide (σ 21 13 i = 0)) (i + 1) ≤ ct (fun i => decide (σ 21 13 i = 0)) N := by
      obtain ⟨e, he⟩ : ∃ e, N = (i + 1) + e := ⟨N - (i + 1), by omega⟩
      rw [he, ct_add (fun i => decide (σ 21 13 i = 0)) (i + 1) e]
      omega
    have e21 : a 21 13 i = σ 21 13 i := (j2.arr hj i).2.2.1
    have ecs : ct (fun i => decide (σ 21 13 i = 0)) (i + 1) = ct (fun i => decide (σ 21 13 i = 0)) i + (if a 21 13 i = 0 then 1 else 0) := by
      rw [ct_s, e21]
      by_cases w : σ 21 13 i = 0
      · rw [if_pos w, if_pos (decide_eq_true w)]
      · rw [if_neg w, if_neg (by rw [decide_eq_false w]; decide)]
        rfl
    obtain ⟨σ', τ', e, v1, v2, M2, v3, v4, v5, v6⟩ := l_deliver1 j1 hj hT hA1 hi (by have := j3.1; omega) (f_X0_deliver_2 n) (f_L_tick_89 m) (i + 1) (τ 50 3 0)
    refine ⟨σ', τ', e, ⟨M2, v3, j2.trans v4, (j3.trans v5).mono (by omega), by omega⟩, ?_, ?_⟩
    · simp (disch := omega) only [f_X0_deliver_2_s, hA1.1, ni_le, p_nle, if_false, ni_nn, ni_cl, false_or]
      exact v1
    · have q3 : q_nn b 3 = N := by
        unfold q_nn
        rw [hA1.2.2.1, ni_cl (by omega)]
      have e30 : τ 50 3 0 = b 50 3 0 := by rw [j2.2.2.1]
      rw [f_L_tick_89_s, hA1.2.2.1, if_neg (by rw [it_no hi (by omega)]; exact id), if_neg (fun z => z ⟨by omega, e30⟩)]
      exact v2) ⟨M, h, SQ.rf j σ τ, (NX.rf M _).mono (Nat.zero_le _), by omega⟩
  have hA1 := hA.sq i2 hj
  refine ⟨a, b, 1 + D, ?_, ?_, M', i1, i2, i3, by omega⟩
  · unfold f_X0_deliver
    refine Eq.trans i4 ?_
    simp (disch := omega) only [f_X0_deliver_2_s, hA1.1, ni_le, Nat.le_refl, if_true, f_X0_deliver_72]
  · unfold f_L_tick_82
    rw [show f_L_tick_89 FU τ 0 (τ 50 3 0) = ac D (f_L_tick_89 (m + 1) b N (τ 50 3 0)) from i5, ac_ac, f_L_tick_89_s, hA1.2.2.1, if_pos (it_y _)]
end TK
