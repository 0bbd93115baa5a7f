/-! readers: car, call, held, messages, printCar; appendInput, truncateInput -/
theorem E1_car : E_car RelN := by
  intro nn σ ρ v1 v2 hn hR
  obtain ⟨⟨F, C, K, M, T, hC1, hT, hL⟩, -⟩ := id hR
  have h1 := hL.1
  have h2 : LU F C K M T T (vw 0 σ) ((sup ρ 8 0 8 0) 30 0) := h1.thr 0
  have dK := D_K h1
  have dC := D_C h1
  have dF := D_F h1
  rcases x_idx v1 (show C < 2147483648 by omega) with ⟨c, hc, rfl⟩ | hb
  · have g4 : ¬ (nI c < 0 ∨ 4 ≤ (nI c).toNatClampNeg) := by rw [gN (by omega) (by decide)]; exact id
    rcases x_rng v2 9 (by decide) with ⟨w, hw, rfl⟩ | hb
    · have g0 : ¬ (nI w < 0) := by rw [ni_nn (by omega)]; exact id
      have g1 : ¬ ((9 : Int32) < nI w) := by rw [show (9 : Int32) = nI 9 from rfl, ni_lt (by omega) (by omega)]; omega
      obtain ⟨e0, e1, e2, e3, e4, e5, e6, e7⟩ := B_car h2 hc
      have s3 : σ 2 (4 * 0 + c) 3 = 0 ∨ σ 2 (4 * 0 + c) 3 = 1 := (h1.2.2.2.1 c hc).2.2.2.2.1
      have s4 : σ 2 (4 * 0 + c) 4 = 0 ∨ σ 2 (4 * 0 + c) 4 = 1 := (h1.2.2.2.1 c hc).2.2.2.2.2
      suffices h : ∃ x, f_X7_car σ (nI c) (nI w) = some (0, x, σ) ∧ f_X8_car_24 (sup ρ 8 0 8 0) (nI c) (nI w) 0 = some (x, sup ρ 8 0 8 0) by
        obtain ⟨x, i1, i2⟩ := h
        refine ⟨(0, x, σ), x, sup ρ 8 0 8 0, i1, Or.inl rfl, ?_, hR.thr 0, s_thr ρ 0, fun _ => rfl⟩
        unfold f_X8_car
        rw [x_nc0 (B_C h1) dC hc, p_bi, if_pos rfl, x_in1 _ g0 g1, p_bi, if_neg (by decide)]
        exact i2
      unfold f_X7_car f_X7_car_115 f_X7_car_128 f_X8_car_24
      rw [x_car0 (A_C h1) dC hc, p_bx0, x_rg0 g0 g1, p_bx0, if_neg g4, ni_cl (show c < 2147483648 by omega), x_f0, p_bi, if_pos rfl]
      rcases (show w = 0 ∨ w = 1 ∨ w = 2 ∨ w = 3 ∨ w = 4 ∨ w = 5 ∨ w = 6 ∨ w = 7 ∨ w = 8 ∨ w = 9 by omega) with rfl | rfl | rfl | rfl | rfl | rfl | rfl | rfl | rfl | rfl
      · refine ⟨σ 2 (4 * 0 + c) 0, rfl, ?_⟩
        rw [if_pos (show nI 0 = 0 from rfl), l_23, if_neg (by rw [gN (by omega) (by decide)]; exact id), ni_cl (by omega), e0]
        rfl
      · refine ⟨σ 2 (4 * 0 + c) 1, rfl, ?_⟩
        rw [if_neg (show ¬ nI 1 = 0 by decide), if_pos (show nI 1 = 1 from rfl), l_27, if_neg (by rw [gN (by omega) (by decide)]; exact id), ni_cl (by omega), e1]
        rfl
      · refine ⟨σ 2 (4 * 0 + c) 2, rfl, ?_⟩
        rw [if_neg (show ¬ nI 2 = 0 by decide), if_neg (show ¬ nI 2 = 1 by decide), if_pos (show nI 2 = 2 from rfl), l_31, if_neg (by rw [gN (by omega) (by decide)]; exact id), ni_cl (by omega), e2]
        rfl
      · refine ⟨nI (ct (bt (vw 0 σ 2 c 8)) 32), ?_, ?_⟩
        · rw [if_neg (show ¬ nI 3 = 0 by decide), if_neg (show ¬ nI 3 = 1 by decide), if_neg (show ¬ nI 3 = 2 by decide), if_pos (show nI 3 = 3 from rfl), c_cnt, p_bi]
          rfl
        · rw [if_neg (show ¬ nI 3 = 0 by decide), if_neg (show ¬ nI 3 = 1 by decide), if_neg (show ¬ nI 3 = 2 by decide), if_pos (show nI 3 = 3 from rfl), b_heldM h2 hc, p_bi]
      · refine ⟨nI (ct (bt (vw 0 σ 2 c 9)) 32), ?_, ?_⟩
        · rw [if_neg (show ¬ nI 4 = 0 by decide), if_neg (show ¬ nI 4 = 1 by decide), if_neg (show ¬ nI 4 = 2 by decide), if_neg (show ¬ nI 4 = 3 by decide), if_pos (show nI 4 = 4 from rfl), c_cnt, p_bi]
          rfl
        · rw [if_neg (show ¬ nI 4 = 0 by decide), if_neg (show ¬ nI 4 = 1 by decide), if_neg (show ¬ nI 4 = 2 by decide), if_neg (show ¬ nI 4 = 3 by decide), if_pos (show nI 4 = 4 from rfl), b_abdM h2 hc, p_bi]
      · refine ⟨σ 2 (4 * 0 + c) 3, ?_, ?_⟩
        · rcases s3 with s3 | s3 <;> rw [s3] <;> rfl
        · rw [if_neg (show ¬ nI 5 = 0 by decide), if_neg (show ¬ nI 5 = 1 by decide), if_neg (show ¬ nI 5 = 2 by decide), if_neg (show ¬ nI 5 = 3 by decide), if_neg (show ¬ nI 5 = 4 by decide), show (35 : Int32) + 4 * (nI 5 - 5) = nI 35 from by decide, ni_add, if_neg (by rw [gN (by omega) (by decide)]; exact id), ni_cl (by omega), e3]
          rfl
      · refine ⟨σ 2 (4 * 0 + c) 4, ?_, ?_⟩
        · rcases s4 with s4 | s4 <;> rw [s4] <;> rfl
        · rw [if_neg (show ¬ nI 6 = 0 by decide), if_neg (show ¬ nI 6 = 1 by decide), if_neg (show ¬ nI 6 = 2 by decide), if_neg (show ¬ nI 6 = 3 by decide), if_neg (show ¬ nI 6 = 4 by decide), show (35 : Int32) + 4 * (nI 6 - 5) = nI 39 from by decide, ni_add, if_neg (by rw [gN (by omega) (by decide)]; exact id), ni_cl (by omega), e4]
          rfl
      · refine ⟨σ 2 (4 * 0 + c) 5, ?_, ?_⟩
        · rfl
        · rw [if_neg (show ¬ nI 7 = 0 by decide), if_neg (show ¬ nI 7 = 1 by decide), if_neg (show ¬ nI 7 = 2 by decide), if_neg (show ¬ nI 7 = 3 by decide), if_neg (show ¬ nI 7 = 4 by decide), show (35 : Int32) + 4 * (nI 7 - 5) = nI 43 from by decide, ni_add, if_neg (by rw [gN (by omega) (by decide)]; exact id), ni_cl (by omega), e5]
          rfl
      · refine ⟨σ 2 (4 * 0 + c) 6, ?_, ?_⟩
        · rfl
        · rw [if_neg (show ¬ nI 8 = 0 by decide), if_neg (show ¬ nI 8 = 1 by decide), if_neg (show ¬ nI 8 = 2 by decide), if_neg (show ¬ nI 8 = 3 by decide), if_neg (show ¬ nI 8 = 4 by decide), show (35 : Int32) + 4 * (nI 8 - 5) = nI 47 from by decide, ni_add, if_neg (by rw [gN (by omega) (by decide)]; exact id), ni_cl (by omega), e6]
          rfl
      · refine ⟨σ 2 (4 * 0 + c) 7, ?_, ?_⟩
        · rfl
        · rw [if_neg (show ¬ nI 9 = 0 by decide), if_neg (show ¬ nI 9 = 1 by decide), if_neg (show ¬ nI 9 = 2 by decide), if_neg (show ¬ nI 9 = 3 by decide), if_neg (show ¬ nI 9 = 4 by decide), show (35 : Int32) + 4 * (nI 9 - 5) = nI 51 from by decide, ni_add, if_neg (by rw [gN (by omega) (by decide)]; exact id), ni_cl (by omega), e7]
          rfl
    · refine ⟨(2, 0, σ), 0, sup ρ 8 0 8 2, ?_, Or.inr (Or.inr rfl), ?_, hR.thr 2, s_thr ρ 2, fun h => absurd (show (2 : Nat) = 0 from h) (by decide)⟩
      · unfold f_X7_car
        rw [x_car0 (A_C h1) dC hc, p_bx0, x_rg1 (show v2 < 0 ∨ (9 : Int32) < v2 from hb)]
        rfl
      · unfold f_X8_car f_X8_car_24 f_X8_car_31
        rw [x_nc0 (B_C h1) dC hc, p_bi, if_pos rfl, x_in0 _ (show v2 < 0 ∨ (9 : Int32) < v2 from hb), p_bi, if_pos rfl, x_f1, p_bi, if_neg (by decide), s_ss]
  · refine ⟨(1, 0, σ), 0, sup ρ 8 0 8 1, ?_, Or.inr (Or.inl rfl), ?_, hR.thr 1, s_thr ρ 1, fun h => absurd (show (1 : Nat) = 0 from h) (by decide)⟩
    · unfold f_X7_car
      rw [x_car1 (A_C h1) hb]
      rfl
    · unfold f_X8_car f_X8_car_31
      rw [y_nc1 (B_C h1) dC hb, p_bi, if_neg (by decide)]

theorem E1_call : E_call RelN := by
  intro nn σ ρ v1 v2 hn hR
  obtain ⟨⟨F, C, K, M, T, hC1, hT, hL⟩, -⟩ := id hR
  have h1 := hL.1
  have h2 : LU F C K M T T (vw 0 σ) ((sup ρ 8 0 8 0) 30 0) := h1.thr 0
  have dK := D_K h1
  have dC := D_C h1
  have dF := D_F h1
  rcases x_idx v1 (show K < 2147483648 by omega) with ⟨k, hk, rfl⟩ | hb
  · have g4 : ¬ (nI k < 0 ∨ 24 ≤ (nI k).toNatClampNeg) := by rw [gN (by omega) (by decide)]; exact id
    rcases x_rng v2 10 (by decide) with ⟨w, hw, rfl⟩ | hb
    · have g0 : ¬ (nI w < 0) := by rw [ni_nn (by omega)]; exact id
      have g1 : ¬ ((10 : Int32) < nI w) := by rw [show (10 : Int32) = nI 10 from rfl, ni_lt (by omega) (by omega)]; omega
      obtain ⟨e0, e1, e2, e3, e4, e5, e6, e7, e8, e10⟩ := B_call h2 hk
      suffices h : ∃ x, f_X7_call σ (nI k) (nI w) = some (0, x, σ) ∧ f_X8_call_24 (sup ρ 8 0 8 0) (nI k) (nI w) 0 = some (x, sup ρ 8 0 8 0) by
        obtain ⟨x, i1, i2⟩ := h
        refine ⟨(0, x, σ), x, sup ρ 8 0 8 0, i1, Or.inl rfl, ?_, hR.thr 0, s_thr ρ 0, fun _ => rfl⟩
        unfold f_X8_call
        rw [x_nk0 (B_K h1) dK hk, p_bi, if_pos rfl, x_in1 _ g0 g1, p_bi, if_neg (by decide)]
        exact i2
      unfold f_X7_call f_X8_call_24 f_X8_call_78
      rw [x_call0 (A_K h1) dK hk, p_bx0, x_rg0 g0 g1, p_bx0, if_neg g4, ni_cl (show k < 2147483648 by omega), x_f0, p_bi, if_pos rfl]
      rcases (show w = 0 ∨ w = 1 ∨ w = 2 ∨ w = 3 ∨ w = 4 ∨ w = 5 ∨ w = 6 ∨ w = 7 ∨ w = 8 ∨ w = 9 ∨ w = 10 by omega) with rfl | rfl | rfl | rfl | rfl | rfl | rfl | rfl | rfl | rfl | rfl
      · refine ⟨σ 1 (24 * 0 + k) 0, rfl, ?_⟩
        rw [if_neg (show ¬ nI 0 = 9 by decide), if_neg (show ¬ nI 0 = 10 by decide), show (55 : Int32) + 24 * nI 0 = nI 55 from by decide, ni_add, if_neg (by rw [gN (by omega) (by decide)]; exact id), ni_cl (by omega), e0]
        rfl
      · refine ⟨σ 1 (24 * 0 + k) 1, rfl, ?_⟩
        rw [if_neg (show ¬ nI 1 = 9 by decide), if_neg (show ¬ nI 1 = 10 by decide), show (55 : Int32) + 24 * nI 1 = nI 79 from by decide, ni_add, if_neg (by rw [gN (by omega) (by decide)]; exact id), ni_cl (by omega), e1]
        rfl
      · refine ⟨σ 1 (24 * 0 + k) 2, rfl, ?_⟩
        rw [if_neg (show ¬ nI 2 = 9 by decide), if_neg (show ¬ nI 2 = 10 by decide), show (55 : Int32) + 24 * nI 2 = nI 103 from by decide, ni_add, if_neg (by rw [gN (by omega) (by decide)]; exact id), ni_cl (by omega), e2]
        rfl
      · refine ⟨σ 1 (24 * 0 + k) 3, rfl, ?_⟩
        rw [if_neg (show ¬ nI 3 = 9 by decide), if_neg (show ¬ nI 3 = 10 by decide), show (55 : Int32) + 24 * nI 3 = nI 127 from by decide, ni_add, if_neg (by rw [gN (by omega) (by decide)]; exact id), ni_cl (by omega), e3]
        rfl
      · refine ⟨σ 1 (24 * 0 + k) 4, rfl, ?_⟩
        rw [if_neg (show ¬ nI 4 = 9 by decide), if_neg (show ¬ nI 4 = 10 by decide), show (55 : Int32) + 24 * nI 4 = nI 151 from by decide, ni_add, if_neg (by rw [gN (by omega) (by decide)]; exact id), ni_cl (by omega), e4]
        rfl
      · refine ⟨σ 1 (24 * 0 + k) 5, rfl, ?_⟩
        rw [if_neg (show ¬ nI 5 = 9 by decide), if_neg (show ¬ nI 5 = 10 by decide), show (55 : Int32) + 24 * nI 5 = nI 175 from by decide, ni_add, if_neg (by rw [gN (by omega) (by decide)]; exact id), ni_cl (by omega), e5]
        rfl
      · refine ⟨σ 1 (24 * 0 + k) 6, rfl, ?_⟩
        rw [if_neg (show ¬ nI 6 = 9 by decide), if_neg (show ¬ nI 6 = 10 by decide), show (55 : Int32) + 24 * nI 6 = nI 199 from by decide, ni_add, if_neg (by rw [gN (by omega) (by decide)]; exact id), ni_cl (by omega), e6]
        rfl
      · refine ⟨σ 1 (24 * 0 + k) 7, rfl, ?_⟩
        rw [if_neg (show ¬ nI 7 = 9 by decide), if_neg (show ¬ nI 7 = 10 by decide), show (55 : Int32) + 24 * nI 7 = nI 223 from by decide, ni_add, if_neg (by rw [gN (by omega) (by decide)]; exact id), ni_cl (by omega), e7]
        rfl
      · refine ⟨σ 1 (24 * 0 + k) 8, rfl, ?_⟩
        rw [if_neg (show ¬ nI 8 = 9 by decide), if_neg (show ¬ nI 8 = 10 by decide), show (55 : Int32) + 24 * nI 8 = nI 247 from by decide, ni_add, if_neg (by rw [gN (by omega) (by decide)]; exact id), ni_cl (by omega), e8]
        rfl
      · refine ⟨W_hold (vw 0 σ) C k, ?_, ?_⟩
        · rw [if_neg (show ¬ nI 9 = 0 by decide), if_neg (show ¬ nI 9 = 1 by decide), if_neg (show ¬ nI 9 = 2 by decide), if_neg (show ¬ nI 9 = 3 by decide), if_neg (show ¬ nI 9 = 4 by decide), if_neg (show ¬ nI 9 = 5 by decide), if_neg (show ¬ nI 9 = 6 by decide), if_neg (show ¬ nI 9 = 7 by decide), if_neg (show ¬ nI 9 = 8 by decide), if_pos (show nI 9 = 9 from rfl), a_hold h1 hk, p_bi]
        · rw [if_pos (show nI 9 = 9 from rfl), b_hold h2 hk, p_bi]
      · refine ⟨σ 1 (24 * 0 + k) 10, rfl, ?_⟩
        rw [if_neg (show ¬ nI 10 = 9 by decide), if_pos (show nI 10 = 10 from rfl), l_295, if_neg (by rw [gN (by omega) (by decide)]; exact id), ni_cl (by omega), e10]
        rfl
    · refine ⟨(2, 0, σ), 0, sup ρ 8 0 8 2, ?_, Or.inr (Or.inr rfl), ?_, hR.thr 2, s_thr ρ 2, fun h => absurd (show (2 : Nat) = 0 from h) (by decide)⟩
      · unfold f_X7_call
        rw [x_call0 (A_K h1) dK hk, p_bx0, x_rg1 (show v2 < 0 ∨ (10 : Int32) < v2 from hb)]
        rfl
      · unfold f_X8_call f_X8_call_24 f_X8_call_31
        rw [x_nk0 (B_K h1) dK hk, p_bi, if_pos rfl, x_in0 _ (show v2 < 0 ∨ (10 : Int32) < v2 from hb), p_bi, if_pos rfl, x_f1, p_bi, if_neg (by decide), s_ss]
  · refine ⟨(1, 0, σ), 0, sup ρ 8 0 8 1, ?_, Or.inr (Or.inl rfl), ?_, hR.thr 1, s_thr ρ 1, fun h => absurd (show (1 : Nat) = 0 from h) (by decide)⟩
    · unfold f_X7_call
      rw [x_call1 (A_K h1) hb]
      rfl
    · unfold f_X8_call f_X8_call_31
      rw [y_nk1 (B_K h1) dK hb, p_bi, if_neg (by decide)]
theorem E1_held : E_held RelN := by
  intro nn σ ρ v1 v2 hn hR
  obtain ⟨⟨F, C, K, M, T, hC1, hT, hL⟩, -⟩ := id hR
  have h1 := hL.1
  have h2 : LU F C K M T T (vw 0 σ) ((sup ρ 8 0 8 0) 30 0) := h1.thr 0
  have dK := D_K h1
  have dC := D_C h1
  have dF := D_F h1
  rcases x_idx v1 (show C < 2147483648 by omega) with ⟨c, hc, rfl⟩ | hb
  · have g4 : ¬ (nI c < 0 ∨ 4 ≤ (nI c).toNatClampNeg) := by rw [gN (by omega) (by decide)]; exact id
    by_cases hv : v2 < 0
    · -- below 0: nothing is found
      obtain ⟨n1, y, ⟨jj, hj1, hj2⟩, e⟩ := lpE1 (fun n (y : Int32) i => f_X7_held_10 n σ (nI c) y i) K (by omega) (fun k y => ∃ jj, jj ≤ k ∧ y + nI jj = v2) (a := v2) (fun n k y hk hI => by
        obtain ⟨jj, hj1, hj2⟩ := hI
        have nz : ¬ y = 0 := fun q => by
          rw [q, Int32.zero_add] at hj2
          rw [← hj2, ni_nn (by omega)] at hv
          exact hv
        simp (disch := omega) only [f_X7_held_10_s, f_X7_held_49, A_K h1, a_isH, W_b0, ni_le, p_nle, if_false, ni_nn, ni_cl, false_or, p_bi, ni_1]
        cases bt (σ 2 (4 * 0 + c) 8) k
        · rw [if_pos rfl]
          exact ⟨y, ⟨jj, by omega, hj2⟩, rfl⟩
        · rw [if_neg (show ¬ true = false by decide), if_neg nz]
          refine ⟨y + -1, ⟨jj + 1, by omega, ?_⟩, rfl⟩
          rw [← ni_1, Int32.add_assoc, Int32.add_comm (nI jj) 1, ← Int32.add_assoc (-1), show (-1 : Int32) + 1 = 0 from by decide, Int32.zero_add]
          exact hj2) ⟨0, Nat.le_refl 0, by rw [show nI 0 = 0 from rfl, Int32.add_zero]⟩
      refine ⟨(4, 0, σ), 0, sup ρ 8 0 8 2, ?_, Or.inr (Or.inr rfl), ?_, hR.thr 2, s_thr ρ 2, fun h => absurd (show (4 : Nat) = 0 from h) (by decide)⟩
      · unfold f_X7_held
        rw [x_car0 (A_C h1) dC hc, p_bx0]
        refine Eq.trans e ?_
        rw [f_X7_held_10_s, A_K h1, if_pos (by rw [ni_le (by omega) (by omega)]; exact Nat.le_refl K)]
        rfl
      · unfold f_X8_held
        rw [x_nc0 (B_C h1) dC hc, p_bi, if_pos rfl]
        obtain ⟨z, hz⟩ : ∃ z, FU = z + 1 := ⟨65535, rfl⟩
        have e9 : f_X8_held_59 (sup ρ 8 0 8 0) = some (0, sup ρ 8 0 8 2) := by
          unfold f_X8_held_59
          rw [p_st, s_ss]
        rw [hz, f_X8_held_15_s, e9, if_pos hv]
        split <;> rfl
    · obtain ⟨r1, r2, i1, i2, hP⟩ := lpTF (fun n (y : Int32) i => f_X7_held_10 n σ (nI c) y i) (fun n (y : Int32) i => f_X8_held_15 n (sup ρ 8 0 8 0) (nI c) y i) K (by omega) (fun _ a b => a = b ∧ ¬ a < 0) (fun r1 r2 => (∃ x, r1 = (0, x, σ) ∧ r2 = (x, sup ρ 8 0 8 0)) ∨ (r1 = (4, 0, σ) ∧ r2 = (0, sup ρ 8 0 8 2))) (by
        rintro n m k a b hk ⟨rfl, ha⟩
        simp (disch := omega) only [f_X7_held_10_s, f_X8_held_15_s, f_X7_held_49, f_X8_held_53, f_X7_held_43, f_X8_held_47, A_K h1, B_K h2, a_isH, b_doesH h2 hc hk, W_b0, ni_le, p_nle, if_false, ni_nn, ni_cl, false_or, p_bi, ni_1]
        rw [if_neg ha, show bt (vw 0 σ 2 c 8) k = bt (σ 2 (4 * 0 + c) 8) k from rfl]
        cases bt (σ 2 (4 * 0 + c) 8) k
        · rw [if_pos rfl, if_pos rfl]
          exact Or.inl ⟨a, _, ⟨rfl, ha⟩, rfl, rfl⟩
        · rw [if_neg (show ¬ true = false by decide), if_neg (show ¬ true = false by decide)]
          by_cases w : a = 0
          · rw [if_pos w, if_pos w]
            exact Or.inr ⟨_, _, rfl, rfl, Or.inl ⟨nI k, rfl, rfl⟩⟩
          · rw [if_neg w, if_neg w]
            refine Or.inl ⟨a + -1, _, ⟨rfl, ?_⟩, rfl, rfl⟩
            obtain ⟨y, hy, rfl⟩ := ni_of (x := a) (by
              rw [Int32.lt_iff_toInt_lt, Int32.toInt_zero] at ha
              omega)
            have y0 : 1 ≤ y := by
              rcases Nat.eq_zero_or_pos y with q | q
              · subst q; exact absurd rfl w
              · exact q
            rw [ni_p1 y0, ni_nn (by omega)]
            exact id) (by
        rintro n m a b ⟨rfl, -⟩
        simp (disch := omega) only [f_X7_held_10_s, f_X8_held_15_s, A_K h1, B_K h2, ni_le, Nat.le_refl, if_true, f_X7_held_55, f_X8_held_59, p_st, s_ss]
        exact ⟨_, _, rfl, rfl, Or.inr ⟨rfl, rfl⟩⟩) (a := v2) (b := v2) ⟨rfl, hv⟩
      have j1 : f_X7_held σ (nI c) v2 = some r1 := by
        unfold f_X7_held
        rw [x_car0 (A_C h1) dC hc, p_bx0]
        exact i1
      have j2 : f_X8_held ρ (nI c) v2 = some r2 := by
        unfold f_X8_held
        rw [x_nc0 (B_C h1) dC hc, p_bi, if_pos rfl]
        exact i2
      rcases hP with ⟨x, rfl, rfl⟩ | ⟨rfl, rfl⟩
      · exact ⟨_, _, _, j1, Or.inl rfl, j2, hR.thr 0, s_thr ρ 0, fun _ => rfl⟩
      · exact ⟨_, _, _, j1, Or.inr (Or.inr rfl), j2, hR.thr 2, s_thr ρ 2, fun h => absurd (show (4 : Nat) = 0 from h) (by decide)⟩
  · refine ⟨(1, 0, σ), 0, sup ρ 8 0 8 1, ?_, Or.inr (Or.inl rfl), ?_, hR.thr 1, s_thr ρ 1, fun h => absurd (show (1 : Nat) = 0 from h) (by decide)⟩
    · unfold f_X7_held
      rw [x_car1 (A_C h1) hb]
      rfl
    · unfold f_X8_held
      rw [y_nc1 (B_C h1) dC hb, p_bi, if_neg (by decide)]

theorem E1_messages : E_messages RelN := by
  intro nn σ ρ v1 v2 hn hR hv2
  obtain ⟨⟨F, C, K, M, T, hC1, hT, hL⟩, -⟩ := id hR
  have h1 := hL.1
  have h2 : LU F C K M T T (vw 0 σ) ((sup ρ 8 0 8 0) 30 0) := h1.thr 0
  have dK := D_K h1
  have dC := D_C h1
  have dF := D_F h1
  have cn : ∀ i, i < 4 → (sup ρ 8 0 8 0) 30 0 (11 + i) = σ 13 0 i ∧ (sup ρ 8 0 8 0) 30 0 (15 + i) = σ 14 0 i := fun i hi => ⟨(h2.2.2.1 i hi).1, (h2.2.2.1 i hi).2.1⟩
  obtain ⟨kd, B, hB, hcl, hrf⟩ : ∃ (kd B : Nat), (∀ i, i < 4 → (sup ρ 8 0 8 0) 30 0 (B + i) = σ kd 0 i) ∧ (if v2 = 0 then f_X7_messages_27 σ v1 13 0 4 else f_X7_messages_27 σ v1 14 0 4) = f_X7_messages_27 σ v1 kd 0 4 ∧ (B ≤ 15 ∧ ∀ (k34 : Sg → Int32 → Int32 → Int32 → Int32 → Option (Int32 × Sg)) i y, i < 4 → f_X8_messages_52 k34 (sup ρ 8 0 8 0) v1 v2 (nI i) y = k34 (sup ρ 8 0 8 0) v1 v2 (y + (sup ρ 8 0 8 0) 30 0 (B + i)) (nI (i + 1))) := by
    rcases hv2 with rfl | rfl
    · refine ⟨13, 11, fun i hi => (cn i hi).1, rfl, by decide, fun k34 i y hi => ?_⟩
      unfold f_X8_messages_52 f_X8_messages_67 f_X8_messages_75
      rw [if_pos rfl, l_11, if_neg (by rw [gN (by omega) (by decide)]; exact id), ni_cl (by omega), ni_1]
    · refine ⟨14, 15, fun i hi => (cn i hi).2, rfl, by decide, fun k34 i y hi => ?_⟩
      unfold f_X8_messages_52 f_X8_messages_67 f_X8_messages_75
      rw [if_neg (by decide), l_15, if_neg (by rw [gN (by omega) (by decide)]; exact id), ni_cl (by omega), ni_1]
  have bad : (v1 < -1 ∨ (3 : Int32) < v1) → ∃ (q : Xr) (w : Int32) (ρ' : Sg), f_X7_messages σ v1 v2 = some q ∧ (q.1 = 0 ∨ q.1 = 2) ∧ f_X8_messages ρ v1 v2 = some (w, ρ') ∧ RelN (nn + 1) q.2.2 ρ' ∧ ρ' 8 0 8 = L_k [(2, 1)] q.1 ∧ (q.1 = 0 → q.2.1 = w) := fun hb => by
    refine ⟨(2, 0, σ), 0, sup ρ 8 0 8 1, ?_, Or.inr rfl, ?_, hR.thr 1, s_thr ρ 1, fun h => absurd (show (2 : Nat) = 0 from h) (by decide)⟩
    · unfold f_X7_messages
      rw [x_rg1 hb]
      rfl
    · unfold f_X8_messages f_X8_messages_20
      rw [p_st, x_in0 _ hb, p_bi, if_pos rfl, x_f1, p_bi, if_neg (by decide), s_ss]
  have good : ∀ x, ¬ v1 < -1 → ¬ (3 : Int32) < v1 → f_X7_messages_27 σ v1 kd 0 4 = some (0, x, σ) → f_X8_messages_34 FU (sup ρ 8 0 8 0) v1 v2 0 0 = some (x, sup ρ 8 0 8 0) → ∃ (q : Xr) (w : Int32) (ρ' : Sg), f_X7_messages σ v1 v2 = some q ∧ (q.1 = 0 ∨ q.1 = 2) ∧ f_X8_messages ρ v1 v2 = some (w, ρ') ∧ RelN (nn + 1) q.2.2 ρ' ∧ ρ' 8 0 8 = L_k [(2, 1)] q.1 ∧ (q.1 = 0 → q.2.1 = w) := fun x ha hb i1 i2 => by
    refine ⟨(0, x, σ), x, sup ρ 8 0 8 0, ?_, Or.inl rfl, ?_, hR.thr 0, s_thr ρ 0, fun _ => rfl⟩
    · unfold f_X7_messages
      rw [x_rg0 ha hb, p_bx0, hcl, i1]
    · unfold f_X8_messages f_X8_messages_20
      rw [p_st, x_in1 _ ha hb, p_bi, if_neg (by decide), x_f0, p_bi, if_pos rfl, i2]
  have ref : ∀ P : Nat → Bool, (∀ i, i < 4 → (v1 = -1 ∨ v1 = nI i) = (P i = true)) → f_X8_messages_34 FU (sup ρ 8 0 8 0) v1 v2 0 0 = some (fo (fun i (y : Int32) => if P i = true then y + σ kd 0 i else y) 4 0, sup ρ 8 0 8 0) := fun P hP => by
    refine (qrun (fun n (y : Int32) i => f_X8_messages_34 n (sup ρ 8 0 8 0) v1 v2 y i) (fun i (y : Int32) => if P i = true then y + σ kd 0 i else y) 4 0 (by decide) (fun n i y hi => ?_) (fun n => ?_))
    · show f_X8_messages_34 (n + 1) (sup ρ 8 0 8 0) v1 v2 y (nI i) = f_X8_messages_34 n (sup ρ 8 0 8 0) v1 v2 (if P i = true then y + σ kd 0 i else y) (nI (i + 1))
      rw [f_X8_messages_34_s, if_neg (by rw [q_4 (by omega)]; omega), hrf.2 _ i y hi, hB i hi]
      by_cases w : v1 = -1 ∨ v1 = nI i
      · rw [if_pos (show P i = true from Eq.mp (hP i hi) w)]
        by_cases w1 : v1 = -1
        · rw [if_pos w1]
        · rw [if_neg w1, if_pos (w.resolve_left w1)]
      · rw [if_neg (show ¬ P i = true from fun q => w (Eq.mpr (hP i hi) q)), if_neg (fun q => w (Or.inl q)), if_neg (fun q => w (Or.inr q))]
        unfold f_X8_messages_75
        rw [Int32.add_zero, ni_1]
    · rw [f_X8_messages_34_s, if_pos (by rw [q_4 (by omega)]; exact Nat.le_refl 4)]
      rfl
  by_cases hm : v1 = -1
  · subst hm
    refine good (0 + σ kd 0 0 + σ kd 0 1 + σ kd 0 2 + σ kd 0 3) (by decide) (by decide) ?_ ?_
    · unfold f_X7_messages_27 f_X7_sum
      rw [if_pos (by decide)]
      obtain ⟨n, y, hy, e⟩ := lpE1 (fun n (y : Int32) i => f_X7_sum_4 n σ kd 0 4 y i) 4 (by decide) (fun k y => y = fo (fun k a => a + σ kd 0 k) k 0) (a := 0) (fun n k y hk hy => by
        refine ⟨fo (fun k a => a + σ kd 0 k) (k + 1) 0, rfl, ?_⟩
        rw [f_X7_sum_4_s, if_neg (by rw [show Int32.ofNat 4 = nI 4 from rfl, ni_le (by omega) (by omega)]; omega), if_neg (by rw [gN (by omega) (by decide)]; exact id), ni_cl (by omega), ni_1, hy]
        rfl) rfl
      have e' : f_X7_sum_4 FU σ kd 0 4 0 0 = f_X7_sum_4 (n + 1) σ kd 0 4 y (nI 4) := e
      rw [e', f_X7_sum_4_s, if_pos (by rw [show Int32.ofNat 4 = nI 4 from rfl, ni_le (by omega) (by omega)]; omega), hy]
      rfl
    · exact ref (fun _ => true) (fun i _ => propext ⟨fun _ => rfl, fun _ => Or.inl rfl⟩)
  · rcases x_idx v1 (show 4 < 2147483648 by omega) with ⟨d, hd, rfl⟩ | hb
    · have neg1 : (-1 : Int32).toInt = -1 := by decide
      refine good (σ kd 0 d) (by rw [Int32.lt_iff_toInt_lt, ni_int (by omega), neg1]; omega) (by rw [show (3 : Int32) = nI 3 from rfl, ni_lt (by omega) (by omega)]; omega) ?_ ?_
      · unfold f_X7_messages_27
        rw [if_neg (by rw [ni_nn (by omega)]; exact id), if_neg (by rw [gN hd (by decide)]; exact id), ni_cl (by omega)]
      · refine (ref (fun i => decide (i = d)) (fun i hi => ?_)).trans ?_
        · rw [ni_eq (by omega) (by omega)]
          apply propext
          constructor
          · rintro (q | q)
            · exact absurd q hm
            · exact decide_eq_true q.symm
          · intro q
            exact Or.inr (of_decide_eq_true q).symm
        · rcases (show d = 0 ∨ d = 1 ∨ d = 2 ∨ d = 3 by omega) with rfl | rfl | rfl | rfl
          · show some (0 + σ kd 0 0, sup ρ 8 0 8 0) = _
            rw [Int32.zero_add]
          · show some (0 + σ kd 0 1, sup ρ 8 0 8 0) = _
            rw [Int32.zero_add]
          · show some (0 + σ kd 0 2, sup ρ 8 0 8 0) = _
            rw [Int32.zero_add]
          · show some (0 + σ kd 0 3, sup ρ 8 0 8 0) = _
            rw [Int32.zero_add]
    · refine bad ?_
      rcases hb with hb | hb
      · refine Or.inl ?_
        rw [Int32.lt_iff_toInt_lt] at hb ⊢
        have e0 : (0 : Int32).toInt = 0 := by decide
        have e1 : (-1 : Int32).toInt = -1 := by decide
        rw [e0] at hb
        rw [e1]
        have : v1.toInt ≠ -1 := fun q => hm (by rw [← Int32.toInt_inj, q, e1])
        omega
      · refine Or.inr ?_
        rw [Int32.le_iff_toInt_le] at hb
        rw [Int32.lt_iff_toInt_lt]
        have e0 : (nI 4).toInt = 4 := by decide
        have e1 : (3 : Int32).toInt = 3 := by decide
        omega
