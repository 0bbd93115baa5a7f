theorem j_len {n : Nat} (hn : n ≤ 700) : jmax 0 (jmin (nI n) 700) = nI n := by
  unfold jmin
  rw [show (700 : Int32) = nI 700 from rfl, if_neg (by rw [ni_lt (by omega) (by omega)]; omega)]
  unfold jmax
  by_cases w : n = 0
  · subst w; rfl
  · rw [if_pos (by rw [show (0 : Int32) = nI 0 from rfl, ni_lt (by omega) (by omega)]; omega)]
/-! the law holds: every comparison is true -/
section PLAW
variable {ns nc F : Nat} {w : Nat → Int32}
/-- the text is read -/
theorem read_all {n N P W D S : Nat} {t : Nat → Int32} {σ τb τ0 : Sg} {X : Int32} (hnc : nc = 2 ∨ nc = 3) (hF : 4 ≤ F ∧ F ≤ 11) (hX : X = nI F) (hN : N ≤ 90) (hP : 3 ≤ P ∧ P ≤ 6) (hW : W ≤ 3) (hD : D ≤ 3) (hS : S ≤ 4095)
    (hb : τb 40 0 3 = nI F ∧ τb 40 0 8 = nI N ∧ τb 40 0 9 = nI P ∧ τb 40 0 10 = nI W ∧ τb 40 0 11 = nI D ∧ τb 40 0 12 = 30 ∧ τb 40 0 13 = nI S ∧ τb 40 0 7 = 0) (hz : ∀ k o i, k ≠ 40 → τb k o i = 0) (h0 : τ0 = g_calls ns w X 4 0 (g_cars ns w X nc 0 τb))
    (hE : EX (g_txt τ0) n t) (hn : (g_txt τ0).1 = n) (hn2 : n ≤ 240) (hn3 : 20 ≤ n) (ht : ∀ i, i < n → i_n t i < 256 ∧ σ 10 0 i = nI (i_n t i)) :
    ∃ σ', f_X6_read σ (nI n) 1 = some (1, σ') ∧ LU F nc 4 0 0 0 (vw 1 σ') (rwL τ0) ∧ GY σ σ' := by
  obtain ⟨i40, i41, i42, n0, n1, c1, c2⟩ := law_init (ns := ns) (w := w) X τb hz nc (by omega)
  rw [← h0] at i40 i41 i42 n0 n1 c1 c2
  obtain ⟨b3, b8, b9, b10, b11, b12, b13, b7⟩ := hb
  have d3 : q_d τ0 40 0 3 = F := q_dn ((i40 3).trans b3) (by omega)
  have d8 : q_d τ0 40 0 8 = N := q_dn ((i40 8).trans b8) (by omega)
  have d9 : q_d τ0 40 0 9 = P := q_dn ((i40 9).trans b9) (by omega)
  have d10 : q_d τ0 40 0 10 = W := q_dn ((i40 10).trans b10) (by omega)
  have d11 : q_d τ0 40 0 11 = D := q_dn ((i40 11).trans b11) (by omega)
  have d13 : q_d τ0 40 0 13 = S := q_dn ((i40 13).trans b13) (by omega)
  have eT : g_txt τ0 = g_calsT τ0 4 0 (g_carsT τ0 nc 0 (g_hdr τ0)) := by unfold g_txt; rw [n0, n1]
  rw [eT] at hE hn
  have hEc := EX.calsT 4 0 _ hE
  have hEh := EX.carsT nc 0 _ hEc
  obtain ⟨q0, q1, q2, q3, q4, q5, t0, t1, t2, t3, t4, t5, t6⟩ := P_hdr hEh (by omega) (by omega) (by omega) (by omega) (by omega) (by omega)
  rw [d3] at t0
  rw [d8] at t1
  rw [d9] at t2
  rw [d10] at t3
  rw [d11] at t4
  rw [d13] at t5
  generalize hS0 : sup (sup (sup (sup (sup (sup σ 6 0 2 1) 6 0 3 (nI n)) 6 0 4 0) 6 0 8 0) 6 0 0 0) 6 0 1 (-1) = S0
  have g0 : GY σ S0 := fun k i hk => by rw [← hS0, s_ne (by omega), s_ne (by omega), s_ne (by omega), s_ne (by omega), s_ne (by omega), s_ne (by omega)]
  have r0 : RD n (i_n t) 0 S0 := by
    refine ⟨⟨?_, ?_, by omega, fun i hi => ⟨(ht i hi).1, (g0 10 i (by omega)).trans (ht i hi).2⟩⟩, ?_⟩
    · rw [← hS0, s_nf (by decide), s_nf (by decide), s_nf (by decide), s_nf (by decide), s_nf (by decide), s_at]
    · rw [← hS0, s_nf (by decide), s_nf (by decide), s_nf (by decide), s_nf (by decide), s_at]
    · rw [← hS0, s_nf (by decide), s_nf (by decide), s_nf (by decide), s_at]
      rfl
  have m0 : S0 6 0 8 = 0 := by rw [← hS0, s_nf (by decide), s_nf (by decide), s_at]
  obtain ⟨σ7, s1, x1, x2, x3, x4, x5⟩ := rd_hdr r0 m0 (by omega) hN (by omega) (by omega) (by omega) (by omega) t0 t1 t2 t3 t4 t5
  obtain ⟨y1, y2⟩ := rd_base x4 (by omega) (by omega) (by omega) (by omega) b3 b8 b9 b10 b11 b12 b13 b7 hz
  rw [← t6] at x3
  obtain ⟨s2, z1, z2, z3, z4, z5⟩ := rd_cars (ns := ns) (w := w) (X := X) nc 0 (g_hdr τ0) s1 τb 5 hEc (by omega) x3 y1 y2 (fun m _ hm => by
    obtain ⟨a, c, p1, p2, p3, p4, p5⟩ := nu_car ns w hF m
    have e0 : q_d τ0 41 m 0 = a := q_dn (by rw [i41 m 0 (by omega), if_neg (by decide), if_pos rfl, hX, p4]) (by omega)
    have e1 : q_d τ0 41 m 1 = c := q_dn (by rw [i41 m 1 (by omega), if_pos rfl, p5]) (by omega)
    rw [e0, e1]
    exact ⟨p1, p2, by omega, by rw [hX]; exact p4, p5⟩) (by omega)
  rw [Nat.zero_add] at z3
  obtain ⟨s3, k1, k2, k3, k4⟩ := rd_calls (ns := ns) (w := w) (X := X) 4 0 (g_carsT τ0 nc 0 (g_hdr τ0)) s2 _ (5 + nc) hE (by decide) z2 z3 (fun m _ hm => by
    obtain ⟨a, b, c, p1, p2, p3, p4, p5, p6, p7⟩ := nu_call ns w hF m
    have e0 : q_d τ0 42 m 0 = a := q_dn (by rw [i42 m 0 (by omega), hX]; exact p5) (by omega)
    have e1 : q_d τ0 42 m 1 = b := q_dn (by rw [i42 m 1 (by omega), hX]; exact p6) (by omega)
    have e2 : q_d τ0 42 m 2 = c := q_dn (by rw [i42 m 2 (by omega)]; exact p7) (by omega)
    rw [e0, e1, e2, hX]
    exact ⟨p1, p2, p3, by omega, p5, p6, p7⟩) (by omega)
  rw [hn] at k2
  rw [Nat.zero_add, ← h0] at k3
  obtain ⟨s4, f1, f2⟩ := r_end (f := 65526 - nc) (C := nc) k2 (i := 5 + nc + 4) (by omega) (by omega) (A_C k3) (by omega)
  refine ⟨s4, ?_, k3.kf f2, g0.trans (x5.trans (z5.trans (k4.trans f2.gy)))⟩
  unfold f_X6_read
  rw [p_st, p_st, p_st, p_st, p_st, p_st, j_len (show n ≤ 700 by omega), hS0, x1, p_bi, if_neg (by decide)]
  have eF : FU = 65526 - nc + 1 + 4 + nc + 5 := by unfold FU; omega
  rw [eF, show (0 : Int32) = nI 0 from rfl, x2 (65526 - nc + 1 + 4 + nc), z1 (65526 - nc + 1 + 4), k1 (65526 - nc + 1), f1]
/-- the acts, each followed by a comparison -/
theorem acts_all (ns : Nat) (w : Nat → Int32) : ∀ j k F C K M T σ τ, JJ F C K M T σ τ → 4 ≤ F → F ≤ 11 → 1 ≤ C → C ≤ 3 → 1 ≤ K → T + 4 * j ≤ 1000 → ∃ σ' τ' d, g_acts ns w j k σ τ d σ' τ' ∧ τ' 40 0 12 = 30 ∧ d ≤ j * 12160 := by
  intro j
  induction j with
  | zero => exact fun k F C K M T σ τ h _ _ _ _ _ _ => ⟨σ, τ, 0, ⟨rfl, rfl, rfl⟩, h.1.2.2.2, by omega⟩
  | succ j ih =>
    intro k F C K M T σ τ h h4 h11 hC1 hC3 hK hT
    obtain ⟨σ1, τ1, d1, K', M', T', a1, a2, a3, a4, a5⟩ := l_acts h h4 h11 hC1 hK (by omega) (g_arg ns w k)
    have b1 := l_same a5 (by omega)
    obtain ⟨σ', τ', d, c1, c2, c3⟩ := ih (k + 1) F C K' M' T' σ1 τ1 a5 h4 h11 hC1 hC3 (by omega) (by omega)
    refine ⟨σ', τ', d1 + (4 * C + (2 * C * K' + 1)) + d, ⟨σ1, τ1, d1, σ1, τ1, _, d, a1, b1, c1, rfl⟩, c2, ?_⟩
    have hK24 := D_K a5.1.1
    have : C * K' ≤ 3 * 24 := Nat.mul_le_mul hC3 hK24
    have e : 2 * C * K' = 2 * (C * K') := Nat.mul_assoc 2 C K'
    omega
/-- the class before its first text -/
theorem init_y : ∃ σa σb, f_X4_clear y_σ0 0 2 = some σa ∧ f_X4_addCar σa 0 0 1 = some σb ∧ σb 7 0 1 = 0 ∧ σb 3 0 1 = 0 := by
  obtain ⟨σa, a1, a2, ⟨a3, a4, -⟩, -⟩ := a_clr y_σ0 0 2
  obtain ⟨X, x1, x2, x3, x4, x5, x6, x7⟩ := a_start σa (4 * 0 + 0) 0 1
  refine ⟨σa, sup X 4 0 1 (X 4 0 1 + 1), a1, ?_, ?_, ?_⟩
  · unfold f_X4_addCar f_X4_addCar_32
    rw [a4, if_neg (by decide), if_neg (by decide), show ((0 : Int32)).toNatClampNeg = 0 from rfl, x1, p_bv, p_st]
  · rw [s_ne (by decide), x2 7 0 1 (fun z => by omega)]
    exact (a2 7 0 1 (fun z => False.elim z)).trans rfl
  · rw [s_ne (by decide), x2 3 0 1 (fun z => by omega)]
    exact (a2 3 0 1 (fun z => False.elim z)).trans rfl
/-- what the pure side owes -/
theorem P_law_all (ns : Nat) (w : Nat → Int32) : P_law ns w := by
  obtain ⟨nc, F, N, P, W, D, S, hnc, e27, f4, f11, eX, hN, hP, hW, hD, hS, hb, hz⟩ := law_start ns w
  obtain ⟨σa, σb, a1, a2, a3, a4⟩ := init_y
  obtain ⟨i40, i41, i42, n0, n1, c1, c2⟩ := law_init (ns := ns) (w := w) (4 + jbits (t_cell ns w 0) 0 3) _ hz nc (by omega)
  have h0 : g_init ns w nc = g_calls ns w (4 + jbits (t_cell ns w 0) 0 3) 4 0 (g_cars ns w (4 + jbits (t_cell ns w 0) 0 3) nc 0 (t_base (t_cell ns w 0))) := rfl
  rw [← h0] at i40 i41 i42 n0 n1 c1 c2
  generalize hτ : g_init ns w nc = τ0 at i40 i41 i42 n0 n1 c1 c2
  have eT : g_txt τ0 = g_calsT τ0 4 0 (g_carsT τ0 nc 0 (g_hdr τ0)) := by unfold g_txt; rw [n0, n1]
  have hle : (g_txt τ0).1 ≤ 240 := by
    rw [eT]
    have x1 := tx_leB τ0 4 0 (g_carsT τ0 nc 0 (g_hdr τ0))
    have x2 := tx_leA τ0 nc 0 (g_hdr τ0)
    have x3 := tx_leH τ0
    omega
  have hge : 20 ≤ (g_txt τ0).1 := by
    rw [eT]
    have x1 := g_calsT_le τ0 4 0 (g_carsT τ0 nc 0 (g_hdr τ0))
    have x2 := g_carsT_le τ0 nc 0 (g_hdr τ0)
    have x3 : 20 ≤ (g_hdr τ0).1 := by
      show 20 ≤ 0 + 7 + dgn (q_d τ0 40 0 3) + 7 + dgn (q_d τ0 40 0 8) + 10 + dgn (q_d τ0 40 0 9) + 8 + dgn (q_d τ0 40 0 10) + 6 + dgn (q_d τ0 40 0 11) + 6 + dgn (q_d τ0 40 0 13) + 1
      omega
    omega
  have hok : tx_ok (g_txt τ0) := by
    rw [eT]
    exact tx_okB τ0 4 0 _ (tx_okA τ0 nc 0 _ (tx_okH τ0))
  obtain ⟨σ1, b1, b2, b3, b4⟩ := told_all (n := (g_txt τ0).1) (t := (g_txt τ0).2) (σ := σb) (fun j hj => by obtain ⟨b, hb, e⟩ := hok j hj; exact ⟨b, by omega, e⟩) hle a3
  have ht : ∀ i, i < (g_txt τ0).1 → i_n (g_txt τ0).2 i < 256 ∧ σ1 10 0 i = nI (i_n (g_txt τ0).2 i) := by
    intro i hi
    obtain ⟨b, hb, e⟩ := hok i hi
    have e2 : i_n (g_txt τ0).2 i = b := by
      unfold i_n
      rw [e, ni_cl (by omega)]
    rw [e2, b3 i hi]
    exact ⟨by omega, e⟩
  obtain ⟨σ2, r1, r2, r3⟩ := read_all (ns := ns) (w := w) (τ0 := τ0) (n := (g_txt τ0).1) (t := (g_txt τ0).2) (σ := σ1) hnc ⟨f4, f11⟩ eX hN hP hW hD hS hb hz (hτ.symm.trans h0) ⟨Nat.le_refl _, fun _ _ => rfl⟩ rfl hle hge ht
  have hB : τ0 40 0 12 = 30 := (i40 12).trans hb.2.2.2.2.2.1
  -- the lifts that are played
  generalize hS5 : sup (sup (sup σ2 7 0 1 0) 7 0 2 (sup σ2 7 0 1 0 6 0 0)) 7 0 3 (sup (sup σ2 7 0 1 0) 7 0 2 (sup σ2 7 0 1 0 6 0 0) 6 0 1) = S5
  have e5 : ∀ k, k ≠ 7 → S5 k = σ2 k := fun k hk => by rw [← hS5, s_ne hk, s_ne hk, s_ne hk]
  have l5 : LU F nc 4 0 0 0 (vw 1 S5) (rwL τ0) := r2.both (Veq.lk (D_C r2) (D_K r2) (fun k o i hk => by rw [e5 k (by unfold LK at hk; omega)])) (fun _ _ => rfl)
  obtain ⟨σ6, k1, k2, k3⟩ := t_copy (q := 0) l5 (by decide)
  have l6 : LU F nc 4 0 0 0 (vw 0 σ6) (rwL τ0) := l5.both k3 (fun _ _ => rfl)
  have l8 : LU F nc 4 0 0 0 (vw 0 (sup (sup σ6 3 0 0 0) 7 0 9 0)) (rwL τ0) := l6.both (Veq.lk (D_C r2) (D_K r2) (fun k o i hk => by rw [s_ne (by unfold LK at hk; omega), s_ne (by unfold LK at hk; omega)])) (fun _ _ => rfl)
  have e31 : σ6 3 0 1 = 0 := by
    rw [k2 3 0 1 (fun z => False.elim z), e5 3 (by decide), r3 3 1 (by omega), b4 3 (by decide) (by decide)]
    exact a4
  have J : JJ F nc 4 0 0 (sup (sup σ6 3 0 0 0) 7 0 9 0) τ0 := by
    refine ⟨⟨l8, Or.inl c2, by omega, hB⟩, Nat.zero_le _, ⟨0, by decide, ?_⟩, by omega⟩
    rw [s_ne (by decide), s_nf (by decide), e31]
    rfl
  have s0 := l_same J (by decide)
  obtain ⟨σ', τ', d, g1, g2, g3⟩ := acts_all ns w 36 0 F nc 4 0 0 _ τ0 J f4 f11 (by omega) (by omega) (by decide) (by decide)
  refine ⟨nc, σa, σb, σ1, sup (sup σ6 3 0 0 0) 7 0 9 0, sup (sup σ6 3 0 0 0) 7 0 9 0, τ0, σ', τ', 4 * nc + (2 * nc * 4 + 1), d, ⟨?_, ?_, by omega, e27⟩, ⟨a1, a2⟩, ?_, ?_, ?_, ?_, g1, g2, ?_⟩
  · rw [eX, show (0 : Int32) = nI 0 from rfl, ni_eq (by omega) (by omega)]
    omega
  · rw [eX, show nI F - 1 = nI (F - 1) from ni_sub (b := 1) (by omega), show (0 : Int32) = nI 0 from rfl, ni_eq (by omega) (by omega)]
    omega
  · rw [hτ]
    obtain ⟨x3, x8, x9, x10, x11, x12, x13, x7⟩ := hb
    refine ⟨hle, ⟨q_nu ((i40 3).trans x3) (by omega), q_nu ((i40 8).trans x8) (by omega), q_nu ((i40 9).trans x9) (by omega), q_nu ((i40 10).trans x10) (by omega), q_nu ((i40 11).trans x11) (by omega), q_nu ((i40 13).trans x13) (by omega)⟩, fun m hm => ?_, fun m hm => ?_, by omega, by omega⟩
    · obtain ⟨a, c, p1, p2, p3, p4, p5⟩ := nu_car ns w ⟨f4, f11⟩ m
      rw [n0] at hm
      exact ⟨q_nu (a := a) (by rw [i41 m 0 hm, if_neg (by decide), if_pos rfl, eX, p4]) (by omega), q_nu (a := c) (by rw [i41 m 1 hm, if_pos rfl, p5]) (by omega)⟩
    · obtain ⟨a, b, c, p1, p2, p3, p4, p5, p6, p7⟩ := nu_call ns w ⟨f4, f11⟩ m
      rw [n1] at hm
      exact ⟨q_nu (a := c) (by rw [i42 m 2 hm]; exact p7) (by omega), q_nu (a := a) (by rw [i42 m 0 hm, eX]; exact p5) (by omega), q_nu (a := b) (by rw [i42 m 1 hm, eX]; exact p6) (by omega)⟩
  · rw [hτ]
    exact b1
  · rw [hτ]
    have e50 : τ0 50 0 2 = nI nc := L_C r2
    unfold f_X7_loadLifts f_X3_clear
    rw [b2, r1, p_bi, p_st, p_st, p_st, hS5, if_neg (by decide), k1, p_bv, p_st, p_bv, p_st, e50, show (sup (sup σ6 3 0 0 0) 7 0 9 0) 4 0 1 = nI nc from A_C l8]
  · rw [hτ]
    exact s0
  · have : 2 * nc * 4 ≤ 24 := by omega
    omega
end PLAW
