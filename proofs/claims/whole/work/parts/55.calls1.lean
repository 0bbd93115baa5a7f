/-! the calls that only read, one by one -/
theorem p_10 : ((1 : Int32) = 0) = False := eq_false (by decide)
theorem p_m10 : ((-1 : Int32) = 0) = False := eq_false (by decide)
theorem s_ss (ρ : Sg) (k o i : Nat) (x y : Int32) : sup (sup ρ k o i x) k o i y = sup ρ k o i y := by
  funext k' o' i'
  unfold sup
  by_cases h : k' = k ∧ o' = o ∧ i' = i
  · rw [if_pos h, if_pos h]
  · rw [if_neg h, if_neg h, if_neg h]
section NP
variable {ρ : Sg} {C K : Nat}
theorem y_nc1 {v : Int32} (hC : ρ 30 0 1 = nI C) (h4 : C ≤ 4) (h : v < 0 ∨ nI C ≤ v) : f_X8_noCar ρ v = some (1, sup ρ 8 0 8 1) := by
  rw [x_nc1 hC h4 h, s_ss]
theorem y_nk1 {v : Int32} (hK : ρ 30 0 2 = nI K) (h4 : K ≤ 24) (h : v < 0 ∨ nI K ≤ v) : f_X8_noCall ρ v = some (1, sup ρ 8 0 8 1) := by
  rw [x_nk1 hK h4 h, s_ss]
theorem y_np0 {c k : Nat} (hC : ρ 30 0 1 = nI C) (h4 : C ≤ 4) (hc : c < C) (hK : ρ 30 0 2 = nI K) (hK4 : K ≤ 24) (hk : k < K) : f_X8_noPair ρ (nI c) (nI k) = some (0, sup ρ 8 0 8 0) := by
  unfold f_X8_noPair
  rw [x_nc0 hC h4 hc, p_bi, if_pos rfl, x_nk0 (by rw [s_30]; exact hK) hK4 hk, p_bi, s_ss]
  rfl
theorem y_np1 {v : Int32} (hC : ρ 30 0 1 = nI C) (h4 : C ≤ 4) (h : v < 0 ∨ nI C ≤ v) (w : Int32) : f_X8_noPair ρ v w = some (1, sup ρ 8 0 8 1) := by
  unfold f_X8_noPair
  rw [y_nc1 hC h4 h, p_bi, if_neg (by decide)]
  rfl
theorem y_np2 {c : Nat} {w : Int32} (hC : ρ 30 0 1 = nI C) (h4 : C ≤ 4) (hc : c < C) (hK : ρ 30 0 2 = nI K) (hK4 : K ≤ 24) (h : w < 0 ∨ nI K ≤ w) : f_X8_noPair ρ (nI c) w = some (1, sup ρ 8 0 8 1) := by
  unfold f_X8_noPair
  rw [x_nc0 hC h4 hc, p_bi, if_pos rfl, y_nk1 (by rw [s_30]; exact hK) hK4 h, p_bi, s_ss, if_neg (by decide)]
  rfl
theorem x_rg0 {σ : Sg} {v a b : Int32} (h : ¬ v < a) (h' : ¬ b < v) : f_X7_checkRange σ v a b = some (0, 0, σ) := by
  unfold f_X7_checkRange
  rw [if_neg h, if_pos (Int32.not_lt.mp h')]
theorem x_rg1 {σ : Sg} {v a b : Int32} (h : v < a ∨ b < v) : f_X7_checkRange σ v a b = some (2, 0, σ) := by
  unfold f_X7_checkRange
  by_cases h1 : v < a
  · rw [if_pos h1]; rfl
  · rw [if_neg h1, if_neg (Int32.not_le.mpr (h.resolve_left h1))]; rfl
end NP
theorem x_rng (v : Int32) (n : Nat) (hn : n < 1000) : (∃ i, i ≤ n ∧ v = nI i) ∨ (v < 0 ∨ nI n < v) := by
  rcases x_idx v (C := n + 1) (by omega) with ⟨i, hi, rfl⟩ | h | h
  · exact Or.inl ⟨i, by omega, rfl⟩
  · exact Or.inr (Or.inl h)
  · refine Or.inr (Or.inr ?_)
    rw [Int32.le_iff_toInt_le, ni_int (by omega)] at h
    rw [Int32.lt_iff_toInt_lt, ni_int (by omega)]
    omega
section CN
variable {F C K M T U j : Nat} {σ ρ v : Sg} {r : Nat → Int32}
theorem LU.thr (h : LU F C K M T U v (ρ 30 0)) (x : Int32) : LU F C K M T U v ((sup ρ 8 0 8 x) 30 0) := by rw [s_30]; exact h
/-- two costs that the class and the reference work out each in its own way -/
theorem n_apart (ρ : Sg) {a b : Nat} (ha : a < 1000) (hb : b < 1000) : f_X8_apart ρ (nI a) (nI b) = some (jabs (nI a - nI b), ρ) := by
  unfold f_X8_apart f_X8_apart_14 jabs
  by_cases h : b ≤ a
  · rw [if_pos (by rw [ni_le (by omega) (by omega)]; exact h), ni_sub h, if_pos (by rw [ni_ge0 (by omega)]; trivial)]
  · have h1 : (nI a - nI b).toInt = (a : Int) - b := by
      rw [n_sub (by rw [ni_int (by omega), ni_int (by omega)]; omega) (by rw [ni_int (by omega), ni_int (by omega)]; omega), ni_int (by omega), ni_int (by omega)]
    rw [if_neg (by rw [ni_le (by omega) (by omega)]; exact h), if_neg (by rw [Int32.le_iff_toInt_le, Int32.toInt_zero, h1]; omega), Int32.zero_sub, Int32.neg_sub]
theorem a_cost (h : LU F C K M T U (vw j σ) r) {c : Nat} (hc : c < C) (fl : Int32) : f_X4_costFrom σ j (nI c) fl = some (W_cost (vw j σ) c fl, σ) := by
  have hC := D_C h
  unfold f_X4_costFrom
  simp (disch := omega) only [ni_nn, ni_cl, ni_le, ni_lt, p_nle, false_or, if_false, if_true, ni_1, p_bi, p_bv, p_st, p_bx0, eq_self, p_10, p_m10, c_cnt]
  rfl
theorem b_cost (h : LU F C K M T U v (ρ 30 0)) {c b : Nat} (hc : c < C) (hb : b < F) : f_X8_costFrom ρ (nI c) (nI b) = some (W_cost v c (nI b), ρ) := by
  have hC := D_C h
  have hF := D_F h
  obtain ⟨e0, -⟩ := B_car h hc
  obtain ⟨a, ha, hfl⟩ := (h.2.2.2.1 c hc).2.1
  unfold f_X8_costFrom
  simp (disch := omega) only [ni_nn, ni_cl, ni_le, ni_lt, p_nle, false_or, if_false, if_true, ni_1, p_bi, p_bv, p_st, p_bx0, eq_self, p_10, p_m10, l_23, e0, hfl, n_apart, b_heldM h hc, b_abdM h hc, (B_set h).2.2.1]
  unfold W_cost
  rw [hfl]
end CN

theorem E1_waitOf : E_waitOf RelN := by
  intro nn σ ρ v1 hn hR
  obtain ⟨⟨F, C, K, M, T, hC1, hT, hL, hAnn⟩, hrest⟩ := id hR
  have dC := D_C hL
  have dK := D_K hL
  have dF := D_F hL
  have hL1 := hL.thr 0
  rcases x_idx v1 (show K < 2147483648 by omega) with ⟨k, hk, rfl⟩ | hb
  · skip
    refine ⟨(0, W_wait (vw 0 σ) k, σ), W_wait (vw 0 σ) k, sup ρ 8 0 8 0, ?_, Or.inl rfl, ?_, hR.thr 0, s_thr ρ 0, fun _ => rfl⟩
    · unfold f_X7_waitOf
      simp (disch := omega) only [ni_nn, ni_cl, ni_le, ni_lt, p_nle, false_or, if_false, if_true, ni_1, p_bi, p_bv, p_st, p_bx0, eq_self, p_10, p_m10, x_call0 (A_K hL) dK hk, a_wait hL hk]
    · unfold f_X8_waitOf
      simp (disch := omega) only [ni_nn, ni_cl, ni_le, ni_lt, p_nle, false_or, if_false, if_true, ni_1, p_bi, p_bv, p_st, p_bx0, eq_self, p_10, p_m10, x_nk0 (B_K hL) dK hk, b_wait hL1 hk, f_X8_waitOf_17]
  · refine ⟨(1, 0, σ), 0, sup ρ 8 0 8 1, ?_, Or.inr rfl, ?_, hR.thr 1, s_thr ρ 1, fun h => absurd (show (1 : Nat) = 0 from h) (by decide)⟩
    · unfold f_X7_waitOf
      rw [x_call1 (A_K hL) hb]
      try rfl
    · unfold f_X8_waitOf
      rw [y_nk1 (B_K hL) dK hb, p_bi, if_neg (by decide)]
      try rfl
theorem E1_holds : E_holds RelN := by
  intro nn σ ρ v1 v2 hn hR
  obtain ⟨⟨F, C, K, M, T, hC1, hT, hL, hAnn⟩, hrest⟩ := id hR
  have dC := D_C hL
  have dK := D_K hL
  have dF := D_F hL
  have hL1 := hL.thr 0
  rcases x_idx v1 (show C < 2147483648 by omega) with ⟨c, hc, rfl⟩ | hb
  · skip
    rcases x_idx v2 (show K < 2147483648 by omega) with ⟨k, hk, rfl⟩ | hb
    · skip
      refine ⟨(0, W_b (bt (σ 2 (4 * 0 + c) 8) k), σ), W_b (bt (σ 2 (4 * 0 + c) 8) k), sup ρ 8 0 8 0, ?_, Or.inl rfl, ?_, hR.thr 0, s_thr ρ 0, fun _ => rfl⟩
      · unfold f_X7_holds
        simp (disch := omega) only [ni_nn, ni_cl, ni_le, ni_lt, p_nle, false_or, if_false, if_true, ni_1, p_bi, p_bv, p_st, p_bx0, eq_self, p_10, p_m10, x_car0 (A_C hL) dC hc, x_call0 (A_K hL) dK hk, a_isH _ _ (show k < 32 by omega), W_b01]
      · unfold f_X8_holds
        simp (disch := omega) only [ni_nn, ni_cl, ni_le, ni_lt, p_nle, false_or, if_false, if_true, ni_1, p_bi, p_bv, p_st, p_bx0, eq_self, p_10, p_m10, y_np0 (B_C hL) dC hc (B_K hL) dK hk, b_doesH hL1 hc hk, f_X8_holds_22, f_X8_holds_23, W_b0]
        show (if bt (σ 2 (4 * 0 + c) 8) k = false then _ else _) = some (W_b (bt (σ 2 (4 * 0 + c) 8) k), _)
        cases bt (σ 2 (4 * 0 + c) 8) k <;> rfl
    · refine ⟨(1, 0, σ), 0, sup ρ 8 0 8 1, ?_, Or.inr rfl, ?_, hR.thr 1, s_thr ρ 1, fun h => absurd (show (1 : Nat) = 0 from h) (by decide)⟩
      · unfold f_X7_holds
        rw [x_car0 (A_C hL) dC hc, p_bx0, x_call1 (A_K hL) hb]
        try rfl
      · unfold f_X8_holds
        rw [y_np2 (B_C hL) dC hc (B_K hL) dK hb, p_bi, if_neg (by decide)]
        try rfl
  · refine ⟨(1, 0, σ), 0, sup ρ 8 0 8 1, ?_, Or.inr rfl, ?_, hR.thr 1, s_thr ρ 1, fun h => absurd (show (1 : Nat) = 0 from h) (by decide)⟩
    · unfold f_X7_holds
      rw [x_car1 (A_C hL) hb]
      try rfl
    · unfold f_X8_holds
      rw [y_np1 (B_C hL) dC hb, p_bi, if_neg (by decide)]
      try rfl
theorem E1_decides : E_decides RelN := by
  intro nn σ ρ v1 v2 hn hR
  obtain ⟨⟨F, C, K, M, T, hC1, hT, hL, hAnn⟩, hrest⟩ := id hR
  have dC := D_C hL
  have dK := D_K hL
  have dF := D_F hL
  have hL1 := hL.thr 0
  rcases x_idx v1 (show C < 2147483648 by omega) with ⟨c, hc, rfl⟩ | hb
  · skip
    rcases x_idx v2 (show K < 2147483648 by omega) with ⟨k, hk, rfl⟩ | hb
    · skip
      refine ⟨(0, σ 17 (4 * 0 + c) k, σ), σ 17 (4 * 0 + c) k, sup ρ 8 0 8 0, ?_, Or.inl rfl, ?_, hR.thr 0, s_thr ρ 0, fun _ => rfl⟩
      · unfold f_X7_decides
        simp (disch := omega) only [ni_nn, ni_cl, ni_le, ni_lt, p_nle, false_or, if_false, if_true, ni_1, p_bi, p_bv, p_st, p_bx0, eq_self, p_10, p_m10, x_car0 (A_C hL) dC hc, x_call0 (A_K hL) dK hk]
      · unfold f_X8_decides_
        simp (disch := omega) only [ni_nn, ni_cl, ni_le, ni_lt, p_nle, false_or, if_false, if_true, ni_1, p_bi, p_bv, p_st, p_bx0, eq_self, p_10, p_m10, y_np0 (B_C hL) dC hc (B_K hL) dK hk, b_of511, f_X8_decides__26, (hL.2.2.2.2.2.2.2.1 c hc k hk).1]
        have e := (hL1.2.2.2.2.2.2.2.1 c hc k hk).1
        rw [e]
        rfl
    · refine ⟨(1, 0, σ), 0, sup ρ 8 0 8 1, ?_, Or.inr rfl, ?_, hR.thr 1, s_thr ρ 1, fun h => absurd (show (1 : Nat) = 0 from h) (by decide)⟩
      · unfold f_X7_decides
        rw [x_car0 (A_C hL) dC hc, p_bx0, x_call1 (A_K hL) hb]
        try rfl
      · unfold f_X8_decides_
        rw [y_np2 (B_C hL) dC hc (B_K hL) dK hb, p_bi, if_neg (by decide)]
        try rfl
  · refine ⟨(1, 0, σ), 0, sup ρ 8 0 8 1, ?_, Or.inr rfl, ?_, hR.thr 1, s_thr ρ 1, fun h => absurd (show (1 : Nat) = 0 from h) (by decide)⟩
    · unfold f_X7_decides
      rw [x_car1 (A_C hL) hb]
      try rfl
    · unfold f_X8_decides_
      rw [y_np1 (B_C hL) dC hb, p_bi, if_neg (by decide)]
      try rfl
theorem E1_costNow : E_costNow RelN := by
  intro nn σ ρ v1 v2 hn hR
  obtain ⟨⟨F, C, K, M, T, hC1, hT, hL, hAnn⟩, hrest⟩ := id hR
  have dC := D_C hL
  have dK := D_K hL
  have dF := D_F hL
  have hL1 := hL.thr 0
  rcases x_idx v1 (show C < 2147483648 by omega) with ⟨c, hc, rfl⟩ | hb
  · skip
    rcases x_idx v2 (show K < 2147483648 by omega) with ⟨k, hk, rfl⟩ | hb
    · skip
      obtain ⟨a, b, ha, hb, -, hfa, -⟩ := (hL.2.2.2.2.1 k hk).2.2.1
      have hfa2 : σ 1 (24 * 0 + k) 0 = nI a := hfa
      refine ⟨(0, W_cost (vw 0 σ) c (σ 1 (24 * 0 + k) 0), σ), W_cost (vw 0 σ) c (σ 1 (24 * 0 + k) 0), sup ρ 8 0 8 0, ?_, Or.inl rfl, ?_, hR.thr 0, s_thr ρ 0, fun _ => rfl⟩
      · unfold f_X7_costNow
        simp (disch := omega) only [ni_nn, ni_cl, ni_le, ni_lt, p_nle, false_or, if_false, if_true, ni_1, p_bi, p_bv, p_st, p_bx0, eq_self, p_10, p_m10, x_car0 (A_C hL) dC hc, x_call0 (A_K hL) dK hk, a_cost hL hc]
      · unfold f_X8_costNow
        simp (disch := omega) only [ni_nn, ni_cl, ni_le, ni_lt, p_nle, false_or, if_false, if_true, ni_1, p_bi, p_bv, p_st, p_bx0, eq_self, p_10, p_m10, y_np0 (B_C hL) dC hc (B_K hL) dK hk, l_55, (B_call hL1 hk).1]
        rw [show vw 0 σ 1 k 0 = nI a from hfa, b_cost hL1 hc ha, p_bi, hfa2]
        rfl
    · refine ⟨(1, 0, σ), 0, sup ρ 8 0 8 1, ?_, Or.inr rfl, ?_, hR.thr 1, s_thr ρ 1, fun h => absurd (show (1 : Nat) = 0 from h) (by decide)⟩
      · unfold f_X7_costNow
        rw [x_car0 (A_C hL) dC hc, p_bx0, x_call1 (A_K hL) hb]
        try rfl
      · unfold f_X8_costNow
        rw [y_np2 (B_C hL) dC hc (B_K hL) dK hb, p_bi, if_neg (by decide)]
        try rfl
  · refine ⟨(1, 0, σ), 0, sup ρ 8 0 8 1, ?_, Or.inr rfl, ?_, hR.thr 1, s_thr ρ 1, fun h => absurd (show (1 : Nat) = 0 from h) (by decide)⟩
    · unfold f_X7_costNow
      rw [x_car1 (A_C hL) hb]
      try rfl
    · unfold f_X8_costNow
      rw [y_np1 (B_C hL) dC hb, p_bi, if_neg (by decide)]
      try rfl
theorem E1_ride : E_ride RelN := by
  intro nn σ ρ v1 hn hR
  obtain ⟨⟨F, C, K, M, T, hC1, hT, hL, hAnn⟩, hrest⟩ := id hR
  have dC := D_C hL
  have dK := D_K hL
  have dF := D_F hL
  have hL1 := hL.thr 0
  rcases x_idx v1 (show K < 2147483648 by omega) with ⟨k, hk, rfl⟩ | hb
  · skip
    obtain ⟨a, b, ha, hb, -, hfa, hfb⟩ := (hL.2.2.2.2.1 k hk).2.2.1
    have hfa2 : σ 1 (24 * 0 + k) 0 = nI a := hfa
    have hfb2 : σ 1 (24 * 0 + k) 1 = nI b := hfb
    refine ⟨(0, jabs (σ 1 (24 * 0 + k) 0 - σ 1 (24 * 0 + k) 1), σ), jabs (σ 1 (24 * 0 + k) 0 - σ 1 (24 * 0 + k) 1), sup ρ 8 0 8 0, ?_, Or.inl rfl, ?_, hR.thr 0, s_thr ρ 0, fun _ => rfl⟩
    · unfold f_X7_ride
      simp (disch := omega) only [ni_nn, ni_cl, ni_le, ni_lt, p_nle, false_or, if_false, if_true, ni_1, p_bi, p_bv, p_st, p_bx0, eq_self, p_10, p_m10, x_call0 (A_K hL) dK hk]
    · unfold f_X8_ride
      simp (disch := omega) only [ni_nn, ni_cl, ni_le, ni_lt, p_nle, false_or, if_false, if_true, ni_1, p_bi, p_bv, p_st, p_bx0, eq_self, p_10, p_m10, x_nk0 (B_K hL) dK hk, l_55, l_79, (B_call hL1 hk).1, (B_call hL1 hk).2.1]
      rw [hfa2, hfb2, show vw 0 σ 1 k 0 = nI a from hfa, show vw 0 σ 1 k 1 = nI b from hfb, n_apart _ (by omega) (by omega)]
      rfl
  · refine ⟨(1, 0, σ), 0, sup ρ 8 0 8 1, ?_, Or.inr rfl, ?_, hR.thr 1, s_thr ρ 1, fun h => absurd (show (1 : Nat) = 0 from h) (by decide)⟩
    · unfold f_X7_ride
      rw [x_call1 (A_K hL) hb]
      try rfl
    · unfold f_X8_ride
      rw [y_nk1 (B_K hL) dK hb, p_bi, if_neg (by decide)]
      try rfl
theorem E1_errorCode : E_errorCode RelN := by
  intro nn σ ρ hn hR
  refine ⟨σ 7 0 2, σ, sup ρ 8 0 8 0, rfl, ?_, hR.thr 0⟩
  unfold f_X8_errorCode
  rw [p_st, s_8 ρ 0 (by decide), hR.2.2.2.1.1]
theorem E1_errorOffset : E_errorOffset RelN := by
  intro nn σ ρ hn hR
  refine ⟨σ 7 0 3, σ, sup ρ 8 0 8 0, rfl, ?_, hR.thr 0⟩
  unfold f_X8_errorOffset
  rw [p_st, s_8 ρ 0 (by decide), hR.2.2.2.1.2]
theorem E1_longestWait : E_longestWait RelN := by
  intro nn σ ρ hn hR
  obtain ⟨⟨F, C, K, M, T, hC1, hT, hL, hAnn⟩, hrest⟩ := id hR
  refine ⟨W_long (vw 0 σ) K, σ, sup ρ 8 0 8 0, ?_, ?_, hR.thr 0⟩
  · unfold f_X7_longestWait
    rw [a_long hL, p_bi]
  · unfold f_X8_longestWait
    rw [p_st, b_long (hL.thr 0), p_bi]
