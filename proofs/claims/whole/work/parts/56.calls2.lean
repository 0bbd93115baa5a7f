/-! more calls that only read -/
theorem x_rgN0 (σ : Sg) {i n : Nat} (h : i ≤ n) (hn : n < 1000) : f_X7_checkRange σ (nI i) 0 (nI n) = some (0, 0, σ) := x_rg0 (by rw [ni_nn (by omega)]; exact id) (by rw [ni_lt (by omega) (by omega)]; omega)
theorem x_inN0 (ρ : Sg) {i n : Nat} (h : i ≤ n) (hn : n < 1000) : f_X8_inRange ρ (nI i) 0 (nI n) = some (1, ρ) := x_in1 ρ (by rw [ni_nn (by omega)]; exact id) (by rw [ni_lt (by omega) (by omega)]; omega)
theorem ni_mr (k m : Nat) : nI k * nI m = nI (k * m) := ni_mul k m
theorem ni_m4 (k : Nat) : nI k * 4 = nI (k * 4) := ni_mul k 4
theorem p_m1lt : ((-1 : Int32) < 0) = True := eq_true (by decide)
theorem ni_m1 {a : Nat} (h : a < 2147483648) : (nI a = -1) = False := by
  refine eq_false (fun e => ?_)
  have h1 := congrArg Int32.toInt e
  rw [ni_int h] at h1
  have h2 : (-1 : Int32).toInt = -1 := by decide
  omega
def W_own (v : Sg) (c k : Nat) : Int32 := if bt (v 2 c 8) k = true ∨ v 17 c k ≠ -1 then v 16 c k else -1
section CO
variable {F C K M T U j : Nat} {σ ρ v : Sg} {r : Nat → Int32}
theorem a_own (h : LU F C K M T U (vw j σ) r) (hT : T ≤ 400000) {c k : Nat} (hc : c < C) (hk : k < K) : f_X2_knownOwnCost σ (4 * j + c) (nI k) = some (W_own (vw j σ) c k, σ) := by
  have dK := D_K h
  unfold f_X2_knownOwnCost f_X2_knownOwnCost_17 f_X2_knownOwnCost_27
  simp (disch := omega) only [ni_nn, ni_cl, ni_le, ni_lt, p_nle, false_or, if_false, if_true, ni_1, p_bi, p_bv, p_st, p_bx0, eq_self, p_10, p_m10, a_isH, W_b0]
  show (if bt (σ 2 (4 * j + c) 8) k = false then (if σ 17 (4 * j + c) k < 0 then some (-1, σ) else some (σ 16 (4 * j + c) k, σ)) else some (σ 16 (4 * j + c) k, σ)) = some (if bt (σ 2 (4 * j + c) 8) k = true ∨ σ 17 (4 * j + c) k ≠ -1 then σ 16 (4 * j + c) k else -1, σ)
  rcases (h.2.2.2.2.2.2.2.1 c hc k hk).2.2.2.2.1 with e | ⟨t, ht, e⟩
  · have e2 : σ 17 (4 * j + c) k = -1 := e
    rw [e2]
    cases bt (σ 2 (4 * j + c) 8) k
    · rw [if_pos rfl, if_pos (by decide), if_neg (by simp)]
    · rfl
  · have e2 : σ 17 (4 * j + c) k = nI t := e
    rw [e2]
    cases bt (σ 2 (4 * j + c) 8) k
    · rw [if_pos rfl, if_neg (by rw [ni_nn (by omega)]; exact id), if_pos (Or.inr (by rw [ne_eq, ni_m1 (by omega)]; exact id))]
    · rfl
theorem b_knows (h : LU F C K M T U v (ρ 30 0)) {c k : Nat} (hc : c < C) (hk : k < K) : f_X8_knowsOwn ρ (nI c) (nI k) = some (W_b (decide (bt (v 2 c 8) k = true ∨ v 17 c k ≠ -1)), ρ) := by
  have dK := D_K h
  have dC := D_C h
  unfold f_X8_knowsOwn f_X8_knowsOwn_26 f_X8_knowsOwn_31
  simp (disch := omega) only [ni_nn, ni_cl, ni_le, ni_lt, p_nle, false_or, if_false, if_true, ni_1, p_bi, p_bv, p_st, p_bx0, eq_self, p_10, p_m10, b_doesH h hc hk, b_of511, (h.2.2.2.2.2.2.2.1 c hc k hk).1, W_b0]
  cases hb : bt (v 2 c 8) k
  · by_cases h1 : v 17 c k = -1
    · rw [if_pos rfl, if_pos h1, decide_eq_false (by simp [h1])]; rfl
    · rw [if_pos rfl, if_neg h1, decide_eq_true (by simp [h1])]; rfl
  · rw [if_neg (by decide), decide_eq_true (by simp)]; rfl
theorem b_ownC (h : LU F C K M T U v (ρ 30 0)) {c k : Nat} (hc : c < C) (hk : k < K) (hq : bt (v 2 c 8) k = true ∨ v 17 c k ≠ -1) : ρ 30 0 (415 + 24 * c + k) = v 16 c k := ((h.2.2.2.2.2.2.2.1 c hc k hk).2.2.2.1 hq).1
theorem b_noted (h : LU F C K M T U v (ρ 30 0)) {c k q : Nat} (hc : c < C) (hk : k < K) (hq : q < 4) : ρ 30 0 (703 + 4 * (24 * c + k) + q) = v 18 c (4 * k + q) := (h.2.2.2.2.2.2.2.1 c hc k hk).2.1 q hq
theorem b_miss (h : LU F C K M T U v (ρ 30 0)) {c k t : Nat} (hc : c < C) (hk : k < K) (ht : t < 4) : bt (ρ 30 0 (607 + 24 * c + k)) t = bt (v 19 c t) k := (h.2.2.2.2.2.2.2.1 c hc k hk).2.2.1 t ht
theorem a_noted (σ : Sg) (o : Nat) {k q : Nat} (hk : k < 24) (hq : q < 4) : f_X2_notedBid σ o (nI k) (nI q) = some (σ 18 o (4 * k + q), σ) := by
  unfold f_X2_notedBid
  simp (disch := omega) only [ni_nn, ni_cl, ni_le, ni_lt, p_nle, false_or, if_false, if_true, ni_1, p_bi, p_bv, p_st, p_bx0, eq_self, p_10, p_m10, ni_m4, ni_add, Nat.mul_comm k 4]
theorem a_hold (h : LU F C K M T U (vw j σ) r) {k : Nat} (hk : k < K) : f_X4_holders σ j (nI k) = some (W_hold (vw j σ) C k, σ) := by
  have hK := D_K h
  have hC := D_C h
  refine qrun (fun n a i => f_X4_holders_4 n σ j (nI k) a i) (fun c (a : Int32) => if bt (vw j σ 2 c 8) k = true then a + 1 else a) C 0 (by omega) (fun n c a hc => ?_) (fun n => ?_)
  · simp (disch := omega) only [ni_nn, ni_cl, ni_le, ni_lt, p_nle, false_or, if_false, if_true, ni_1, p_bi, p_bv, p_st, p_bx0, eq_self, p_10, p_m10, f_X4_holders_4_s, f_X4_holders_28, A_C h, a_isH, W_b0]
    show (if bt (σ 2 (4 * j + c) 8) k = false then _ else _) = f_X4_holders_4 n σ j (nI k) (if bt (σ 2 (4 * j + c) 8) k = true then a + 1 else a) (nI (c + 1))
    cases bt (σ 2 (4 * j + c) 8) k <;> rfl
  · simp (disch := omega) only [ni_nn, ni_cl, ni_le, ni_lt, p_nle, false_or, if_false, if_true, ni_1, p_bi, p_bv, p_st, p_bx0, eq_self, p_10, p_m10, f_X4_holders_4_s, A_C h, Nat.le_refl, f_X4_holders_34]
    rfl
theorem b_hold (h : LU F C K M T U v (ρ 30 0)) {k : Nat} (hk : k < K) : f_X8_holders ρ (nI k) = some (W_hold v C k, ρ) := by
  have hK := D_K h
  have hC := D_C h
  refine qrun (fun n a i => f_X8_holders_4 n ρ (nI k) a i) (fun c (a : Int32) => if bt (v 2 c 8) k = true then a + 1 else a) C 0 (by omega) (fun n c a hc => ?_) (fun n => ?_)
  · simp (disch := omega) only [ni_nn, ni_cl, ni_le, ni_lt, p_nle, false_or, if_false, if_true, ni_1, p_bi, p_bv, p_st, p_bx0, eq_self, p_10, p_m10, f_X8_holders_4_s, B_C h, b_of319, B_held h hc hk]
    cases bt (v 2 c 8) k
    · simp only [Bool.false_eq_true, if_false, Int32.add_zero]
    · simp only [if_true]
  · simp (disch := omega) only [ni_nn, ni_cl, ni_le, ni_lt, p_nle, false_or, if_false, if_true, ni_1, p_bi, p_bv, p_st, p_bx0, eq_self, p_10, p_m10, f_X8_holders_4_s, B_C h, Nat.le_refl, f_X8_holders_36]
    rfl
end CO
theorem E1_ownCost : E_ownCost RelN := by
  intro nn σ ρ v1 v2 hn hR
  obtain ⟨⟨F, C, K, M, T, hC1, hT, hL, hAnn⟩, hrest⟩ := id hR
  have dC := D_C hL
  have dK := D_K hL
  have dF := D_F hL
  have hL1 := hL.thr 0
  rcases x_idx v1 (show C < 2147483648 by omega) with ⟨c, hc, rfl⟩ | hb
  · skip
    rcases x_idx v2 (show K < 2147483648 by omega) with ⟨k, hk, rfl⟩ | hb
    · skip
      refine ⟨(0, W_own (vw 0 σ) c k, σ), W_own (vw 0 σ) c k, sup ρ 8 0 8 0, ?_, Or.inl rfl, ?_, hR.thr 0, s_thr ρ 0, fun _ => rfl⟩
      · unfold f_X7_ownCost
        simp (disch := omega) only [ni_nn, ni_cl, ni_le, ni_lt, p_nle, false_or, if_false, if_true, ni_1, p_bi, p_bv, p_st, p_bx0, eq_self, p_10, p_m10, x_car0 (A_C hL) dC hc, x_call0 (A_K hL) dK hk, a_own hL (show T ≤ 400000 by omega) hc hk]
      · unfold f_X8_ownCost
        simp (disch := omega) only [ni_nn, ni_cl, ni_le, ni_lt, p_nle, false_or, if_false, if_true, ni_1, p_bi, p_bv, p_st, p_bx0, eq_self, p_10, p_m10, y_np0 (B_C hL) dC hc (B_K hL) dK hk, b_knows hL1 hc hk, W_b0, f_X8_ownCost_37, b_of415]
        unfold W_own
        by_cases hq : bt (vw 0 σ 2 c 8) k = true ∨ vw 0 σ 17 c k ≠ -1
        · rw [if_neg (by rw [decide_eq_true hq]; decide), if_pos hq, b_ownC hL1 hc hk hq]
        · rw [if_pos (decide_eq_false hq), if_neg hq]
    · refine ⟨(1, 0, σ), 0, sup ρ 8 0 8 1, ?_, Or.inr rfl, ?_, hR.thr 1, s_thr ρ 1, fun h => absurd (show (1 : Nat) = 0 from h) (by decide)⟩
      · unfold f_X7_ownCost
        rw [x_car0 (A_C hL) dC hc, p_bx0, x_call1 (A_K hL) hb]
        try rfl
      · unfold f_X8_ownCost
        rw [y_np2 (B_C hL) dC hc (B_K hL) dK hb, p_bi, if_neg (by decide)]
        try rfl
  · refine ⟨(1, 0, σ), 0, sup ρ 8 0 8 1, ?_, Or.inr rfl, ?_, hR.thr 1, s_thr ρ 1, fun h => absurd (show (1 : Nat) = 0 from h) (by decide)⟩
    · unfold f_X7_ownCost
      rw [x_car1 (A_C hL) hb]
      try rfl
    · unfold f_X8_ownCost
      rw [y_np1 (B_C hL) dC hb, p_bi, if_neg (by decide)]
      try rfl
theorem E1_noted : E_noted RelN := by
  intro nn σ ρ v1 v2 v3 hn hR
  obtain ⟨⟨F, C, K, M, T, hC1, hT, hL, hAnn⟩, hrest⟩ := id hR
  have dC := D_C hL
  have dK := D_K hL
  have dF := D_F hL
  have hL1 := hL.thr 0
  rcases x_idx v1 (show C < 2147483648 by omega) with ⟨c, hc, rfl⟩ | hb
  · rcases x_idx v2 (show K < 2147483648 by omega) with ⟨k, hk, rfl⟩ | hb
    · rcases x_idx v3 (show C < 2147483648 by omega) with ⟨q, hq, rfl⟩ | hb
      · refine ⟨(0, σ 18 (4 * 0 + c) (4 * k + q), σ), σ 18 (4 * 0 + c) (4 * k + q), sup ρ 8 0 8 0, ?_, Or.inl rfl, ?_, hR.thr 0, s_thr ρ 0, fun _ => rfl⟩
        · unfold f_X7_noted
          simp (disch := omega) only [ni_nn, ni_cl, ni_le, ni_lt, p_nle, false_or, if_false, if_true, ni_1, p_bi, p_bv, p_st, p_bx0, eq_self, p_10, p_m10, x_car0 (A_C hL) dC hc, x_call0 (A_K hL) dK hk, x_car0 (A_C hL) dC hq, a_noted _ _ (show k < 24 by omega) (show q < 4 by omega)]
        · unfold f_X8_noted f_X8_noted_32
          simp (disch := omega) only [ni_nn, ni_cl, ni_le, ni_lt, p_nle, false_or, if_false, if_true, ni_1, p_bi, p_bv, p_st, p_bx0, eq_self, p_10, p_m10, y_np0 (B_C hL) dC hc (B_K hL) dK hk, x_nc0 (B_C hL1) dC hq, s_ss, b_at, b_noted hL1 hc hk (show q < 4 by omega)]
          rfl
      · refine ⟨(1, 0, σ), 0, sup ρ 8 0 8 1, ?_, Or.inr rfl, ?_, hR.thr 1, s_thr ρ 1, fun h => absurd (show (1 : Nat) = 0 from h) (by decide)⟩
        · unfold f_X7_noted
          rw [x_car0 (A_C hL) dC hc, p_bx0, x_call0 (A_K hL) dK hk, p_bx0, x_car1 (A_C hL) hb]
          rfl
        · unfold f_X8_noted
          rw [y_np0 (B_C hL) dC hc (B_K hL) dK hk, p_bi, if_pos rfl, y_nc1 (B_C hL1) dC hb, p_bi, if_neg (by decide), s_ss]
          rfl
    · refine ⟨(1, 0, σ), 0, sup ρ 8 0 8 1, ?_, Or.inr rfl, ?_, hR.thr 1, s_thr ρ 1, fun h => absurd (show (1 : Nat) = 0 from h) (by decide)⟩
      · unfold f_X7_noted
        rw [x_car0 (A_C hL) dC hc, p_bx0, x_call1 (A_K hL) hb]
        rfl
      · unfold f_X8_noted
        rw [y_np2 (B_C hL) dC hc (B_K hL) dK hb, p_bi, if_neg (by decide)]
        rfl
  · refine ⟨(1, 0, σ), 0, sup ρ 8 0 8 1, ?_, Or.inr rfl, ?_, hR.thr 1, s_thr ρ 1, fun h => absurd (show (1 : Nat) = 0 from h) (by decide)⟩
    · unfold f_X7_noted
      rw [x_car1 (A_C hL) hb]
      rfl
    · unfold f_X8_noted
      rw [y_np1 (B_C hL) dC hb, p_bi, if_neg (by decide)]
      rfl
theorem E1_hasLost : E_hasLost RelN := by
  intro nn σ ρ v1 v2 v3 hn hR
  obtain ⟨⟨F, C, K, M, T, hC1, hT, hL, hAnn⟩, hrest⟩ := id hR
  have dC := D_C hL
  have dK := D_K hL
  have dF := D_F hL
  have hL1 := hL.thr 0
  rcases x_idx v1 (show C < 2147483648 by omega) with ⟨c, hc, rfl⟩ | hb
  · rcases x_idx v2 (show K < 2147483648 by omega) with ⟨k, hk, rfl⟩ | hb
    · rcases x_rng v3 3 (by decide) with ⟨t, ht, rfl⟩ | hb
      · have hrg : f_X7_checkRange σ (nI t) 0 3 = some (0, 0, σ) := x_rgN0 σ ht (by decide)
        have hin : f_X8_inRange (sup ρ 8 0 8 0) (nI t) 0 3 = some (1, sup ρ 8 0 8 0) := x_inN0 _ ht (by decide)
        refine ⟨(0, W_b (bt (σ 19 (4 * 0 + c) t) k), σ), W_b (bt (σ 19 (4 * 0 + c) t) k), sup ρ 8 0 8 0, ?_, Or.inl rfl, ?_, hR.thr 0, s_thr ρ 0, fun _ => rfl⟩
        · unfold f_X7_hasLost
          simp (disch := omega) only [ni_nn, ni_cl, ni_le, ni_lt, p_nle, false_or, if_false, if_true, ni_1, p_bi, p_bv, p_st, p_bx0, eq_self, p_10, p_m10, x_car0 (A_C hL) dC hc, x_call0 (A_K hL) dK hk, hrg, a_lost, W_b01]
        · unfold f_X8_hasLost f_X8_hasLost_24 f_X8_hasLost_59
          simp (disch := omega) only [ni_nn, ni_cl, ni_le, ni_lt, p_nle, false_or, if_false, if_true, ni_1, p_bi, p_bv, p_st, p_bx0, eq_self, p_10, p_m10, y_np0 (B_C hL) dC hc (B_K hL) dK hk, hin, x_f0, b_of607, k_sshr, b_miss hL1 hc hk (show t < 4 by omega)]
          show (if bt (σ 19 (4 * 0 + c) t) k = true then _ else _) = _
          cases bt (σ 19 (4 * 0 + c) t) k <;> rfl
      · have hb : v3 < 0 ∨ (3 : Int32) < v3 := hb
        refine ⟨(2, 0, σ), 0, sup ρ 8 0 8 2, ?_, Or.inr (Or.inr rfl), ?_, hR.thr 2, s_thr ρ 2, fun h => absurd (show (2 : Nat) = 0 from h) (by decide)⟩
        · unfold f_X7_hasLost
          rw [x_car0 (A_C hL) dC hc, p_bx0, x_call0 (A_K hL) dK hk, p_bx0, x_rg1 hb]
          rfl
        · unfold f_X8_hasLost f_X8_hasLost_24
          rw [y_np0 (B_C hL) dC hc (B_K hL) dK hk, p_bi, if_pos rfl, x_in0 _ hb, p_bi, if_pos rfl, x_f1, p_bi, if_neg (by decide), s_ss]
          rfl
    · refine ⟨(1, 0, σ), 0, sup ρ 8 0 8 1, ?_, Or.inr (Or.inl rfl), ?_, hR.thr 1, s_thr ρ 1, fun h => absurd (show (1 : Nat) = 0 from h) (by decide)⟩
      · unfold f_X7_hasLost
        rw [x_car0 (A_C hL) dC hc, p_bx0, x_call1 (A_K hL) hb]
        rfl
      · unfold f_X8_hasLost
        rw [y_np2 (B_C hL) dC hc (B_K hL) dK hb, p_bi, if_neg (by decide)]
        rfl
  · refine ⟨(1, 0, σ), 0, sup ρ 8 0 8 1, ?_, Or.inr (Or.inl rfl), ?_, hR.thr 1, s_thr ρ 1, fun h => absurd (show (1 : Nat) = 0 from h) (by decide)⟩
    · unfold f_X7_hasLost
      rw [x_car1 (A_C hL) hb]
      rfl
    · unfold f_X8_hasLost
      rw [y_np1 (B_C hL) dC hb, p_bi, if_neg (by decide)]
      rfl
theorem E1_count : E_count RelN := by
  intro nn σ ρ v1 hn hR
  obtain ⟨⟨F, C, K, M, T, hC1, hT, hL, hAnn⟩, hrest⟩ := id hR
  have dC := D_C hL
  have dK := D_K hL
  have dF := D_F hL
  have hL1 := hL.thr 0
  rcases x_rng v1 13 (by decide) with ⟨i, hi, rfl⟩ | hb
  · have hrg : f_X7_checkRange σ (nI i) 0 13 = some (0, 0, σ) := x_rgN0 σ hi (by decide)
    have hin : f_X8_inRange (sup ρ 8 0 8 0) (nI i) 0 13 = some (1, sup ρ 8 0 8 0) := x_inN0 _ hi (by decide)
    match i, hi, hrg, hin with
    | 0, _, hrg, hin =>
      refine ⟨(0, σ 4 0 0, σ), σ 4 0 0, sup ρ 8 0 8 0, ?_, Or.inl rfl, ?_, hR.thr 0, s_thr ρ 0, fun _ => rfl⟩
      · unfold f_X7_count f_X7_count_157
        rw [hrg, p_bx0, if_pos (show nI 0 = 0 by decide)]
      · unfold f_X8_count f_X8_count_21
        rw [p_st, hin, p_bi, if_neg (by decide), x_f0, p_bi, if_pos rfl, if_neg (show ¬ nI 0 = 10 by decide), if_neg (show ¬ nI 0 = 11 by decide), if_neg (show ¬ nI 0 = 12 by decide), if_neg (show ¬ nI 0 = 13 by decide)]
        rw [if_neg (by decide), s_30]
        exact congrArg (fun z => some (z, sup ρ 8 0 8 0)) ((B_F hL).trans (A_F hL).symm)
    | 1, _, hrg, hin =>
      refine ⟨(0, σ 4 0 1, σ), σ 4 0 1, sup ρ 8 0 8 0, ?_, Or.inl rfl, ?_, hR.thr 0, s_thr ρ 0, fun _ => rfl⟩
      · unfold f_X7_count f_X7_count_157
        rw [hrg, p_bx0, if_neg (show ¬ nI 1 = 0 by decide), if_pos (show nI 1 = 1 by decide)]
      · unfold f_X8_count f_X8_count_21
        rw [p_st, hin, p_bi, if_neg (by decide), x_f0, p_bi, if_pos rfl, if_neg (show ¬ nI 1 = 10 by decide), if_neg (show ¬ nI 1 = 11 by decide), if_neg (show ¬ nI 1 = 12 by decide), if_neg (show ¬ nI 1 = 13 by decide)]
        rw [if_neg (by decide), s_30]
        exact congrArg (fun z => some (z, sup ρ 8 0 8 0)) ((B_C hL).trans (A_C hL).symm)
    | 2, _, hrg, hin =>
      refine ⟨(0, σ 4 0 2, σ), σ 4 0 2, sup ρ 8 0 8 0, ?_, Or.inl rfl, ?_, hR.thr 0, s_thr ρ 0, fun _ => rfl⟩
      · unfold f_X7_count f_X7_count_157
        rw [hrg, p_bx0, if_neg (show ¬ nI 2 = 0 by decide), if_neg (show ¬ nI 2 = 1 by decide), if_pos (show nI 2 = 2 by decide)]
      · unfold f_X8_count f_X8_count_21
        rw [p_st, hin, p_bi, if_neg (by decide), x_f0, p_bi, if_pos rfl, if_neg (show ¬ nI 2 = 10 by decide), if_neg (show ¬ nI 2 = 11 by decide), if_neg (show ¬ nI 2 = 12 by decide), if_neg (show ¬ nI 2 = 13 by decide)]
        rw [if_neg (by decide), s_30]
        exact congrArg (fun z => some (z, sup ρ 8 0 8 0)) ((B_K hL).trans (A_K hL).symm)
    | 3, _, hrg, hin =>
      refine ⟨(0, σ 4 0 3, σ), σ 4 0 3, sup ρ 8 0 8 0, ?_, Or.inl rfl, ?_, hR.thr 0, s_thr ρ 0, fun _ => rfl⟩
      · unfold f_X7_count f_X7_count_157
        rw [hrg, p_bx0, if_neg (show ¬ nI 3 = 0 by decide), if_neg (show ¬ nI 3 = 1 by decide), if_neg (show ¬ nI 3 = 2 by decide), if_pos (show nI 3 = 3 by decide)]
      · unfold f_X8_count f_X8_count_21
        rw [p_st, hin, p_bi, if_neg (by decide), x_f0, p_bi, if_pos rfl, if_neg (show ¬ nI 3 = 10 by decide), if_neg (show ¬ nI 3 = 11 by decide), if_neg (show ¬ nI 3 = 12 by decide), if_neg (show ¬ nI 3 = 13 by decide)]
        rw [if_neg (by decide), s_30]
        exact congrArg (fun z => some (z, sup ρ 8 0 8 0)) ((B_T hL).trans (A_T hL).symm)
    | 4, _, hrg, hin =>
      refine ⟨(0, σ 12 0 0, σ), σ 12 0 0, sup ρ 8 0 8 0, ?_, Or.inl rfl, ?_, hR.thr 0, s_thr ρ 0, fun _ => rfl⟩
      · unfold f_X7_count f_X7_count_157
        rw [hrg, p_bx0, if_neg (show ¬ nI 4 = 0 by decide), if_neg (show ¬ nI 4 = 1 by decide), if_neg (show ¬ nI 4 = 2 by decide), if_neg (show ¬ nI 4 = 3 by decide), if_pos (show nI 4 = 4 by decide)]
        rw [if_neg (by decide)]
        rfl
      · unfold f_X8_count f_X8_count_21
        rw [p_st, hin, p_bi, if_neg (by decide), x_f0, p_bi, if_pos rfl, if_neg (show ¬ nI 4 = 10 by decide), if_neg (show ¬ nI 4 = 11 by decide), if_neg (show ¬ nI 4 = 12 by decide), if_neg (show ¬ nI 4 = 13 by decide)]
        rw [if_neg (by decide), s_30]
        exact congrArg (fun z => some (z, sup ρ 8 0 8 0)) ((B_set hL).1)
    | 5, _, hrg, hin =>
      refine ⟨(0, σ 12 0 1, σ), σ 12 0 1, sup ρ 8 0 8 0, ?_, Or.inl rfl, ?_, hR.thr 0, s_thr ρ 0, fun _ => rfl⟩
      · unfold f_X7_count f_X7_count_157
        rw [hrg, p_bx0, if_neg (show ¬ nI 5 = 0 by decide), if_neg (show ¬ nI 5 = 1 by decide), if_neg (show ¬ nI 5 = 2 by decide), if_neg (show ¬ nI 5 = 3 by decide), if_neg (show ¬ nI 5 = 4 by decide), if_pos (show nI 5 = 5 by decide)]
        rw [if_neg (by decide)]
        rfl
      · unfold f_X8_count f_X8_count_21
        rw [p_st, hin, p_bi, if_neg (by decide), x_f0, p_bi, if_pos rfl, if_neg (show ¬ nI 5 = 10 by decide), if_neg (show ¬ nI 5 = 11 by decide), if_neg (show ¬ nI 5 = 12 by decide), if_neg (show ¬ nI 5 = 13 by decide)]
        rw [if_neg (by decide), s_30]
        exact congrArg (fun z => some (z, sup ρ 8 0 8 0)) ((B_set hL).2.1)
    | 6, _, hrg, hin =>
      refine ⟨(0, σ 12 0 2, σ), σ 12 0 2, sup ρ 8 0 8 0, ?_, Or.inl rfl, ?_, hR.thr 0, s_thr ρ 0, fun _ => rfl⟩
      · unfold f_X7_count f_X7_count_157
        rw [hrg, p_bx0, if_neg (show ¬ nI 6 = 0 by decide), if_neg (show ¬ nI 6 = 1 by decide), if_neg (show ¬ nI 6 = 2 by decide), if_neg (show ¬ nI 6 = 3 by decide), if_neg (show ¬ nI 6 = 4 by decide), if_neg (show ¬ nI 6 = 5 by decide), if_pos (show nI 6 = 6 by decide)]
        rw [if_neg (by decide)]
        rfl
      · unfold f_X8_count f_X8_count_21
        rw [p_st, hin, p_bi, if_neg (by decide), x_f0, p_bi, if_pos rfl, if_neg (show ¬ nI 6 = 10 by decide), if_neg (show ¬ nI 6 = 11 by decide), if_neg (show ¬ nI 6 = 12 by decide), if_neg (show ¬ nI 6 = 13 by decide)]
        rw [if_neg (by decide), s_30]
        exact congrArg (fun z => some (z, sup ρ 8 0 8 0)) ((B_set hL).2.2.1)
    | 7, _, hrg, hin =>
      refine ⟨(0, σ 12 0 3, σ), σ 12 0 3, sup ρ 8 0 8 0, ?_, Or.inl rfl, ?_, hR.thr 0, s_thr ρ 0, fun _ => rfl⟩
      · unfold f_X7_count f_X7_count_157
        rw [hrg, p_bx0, if_neg (show ¬ nI 7 = 0 by decide), if_neg (show ¬ nI 7 = 1 by decide), if_neg (show ¬ nI 7 = 2 by decide), if_neg (show ¬ nI 7 = 3 by decide), if_neg (show ¬ nI 7 = 4 by decide), if_neg (show ¬ nI 7 = 5 by decide), if_neg (show ¬ nI 7 = 6 by decide), if_pos (show nI 7 = 7 by decide)]
        rw [if_neg (by decide)]
        rfl
      · unfold f_X8_count f_X8_count_21
        rw [p_st, hin, p_bi, if_neg (by decide), x_f0, p_bi, if_pos rfl, if_neg (show ¬ nI 7 = 10 by decide), if_neg (show ¬ nI 7 = 11 by decide), if_neg (show ¬ nI 7 = 12 by decide), if_neg (show ¬ nI 7 = 13 by decide)]
        rw [if_neg (by decide), s_30]
        exact congrArg (fun z => some (z, sup ρ 8 0 8 0)) ((B_set hL).2.2.2.1)
    | 8, _, hrg, hin =>
      refine ⟨(0, σ 12 0 4, σ), σ 12 0 4, sup ρ 8 0 8 0, ?_, Or.inl rfl, ?_, hR.thr 0, s_thr ρ 0, fun _ => rfl⟩
      · unfold f_X7_count f_X7_count_157
        rw [hrg, p_bx0, if_neg (show ¬ nI 8 = 0 by decide), if_neg (show ¬ nI 8 = 1 by decide), if_neg (show ¬ nI 8 = 2 by decide), if_neg (show ¬ nI 8 = 3 by decide), if_neg (show ¬ nI 8 = 4 by decide), if_neg (show ¬ nI 8 = 5 by decide), if_neg (show ¬ nI 8 = 6 by decide), if_neg (show ¬ nI 8 = 7 by decide), if_pos (show nI 8 = 8 by decide)]
        rw [if_neg (by decide)]
        rfl
      · unfold f_X8_count f_X8_count_21
        rw [p_st, hin, p_bi, if_neg (by decide), x_f0, p_bi, if_pos rfl, if_neg (show ¬ nI 8 = 10 by decide), if_neg (show ¬ nI 8 = 11 by decide), if_neg (show ¬ nI 8 = 12 by decide), if_neg (show ¬ nI 8 = 13 by decide)]
        rw [if_neg (by decide), s_30]
        exact congrArg (fun z => some (z, sup ρ 8 0 8 0)) ((B_set hL).2.2.2.2)
    | 9, _, hrg, hin =>
      refine ⟨(0, σ 4 0 4, σ), σ 4 0 4, sup ρ 8 0 8 0, ?_, Or.inl rfl, ?_, hR.thr 0, s_thr ρ 0, fun _ => rfl⟩
      · unfold f_X7_count f_X7_count_157
        rw [hrg, p_bx0, if_neg (show ¬ nI 9 = 0 by decide), if_neg (show ¬ nI 9 = 1 by decide), if_neg (show ¬ nI 9 = 2 by decide), if_neg (show ¬ nI 9 = 3 by decide), if_neg (show ¬ nI 9 = 4 by decide), if_neg (show ¬ nI 9 = 5 by decide), if_neg (show ¬ nI 9 = 6 by decide), if_neg (show ¬ nI 9 = 7 by decide), if_neg (show ¬ nI 9 = 8 by decide), if_pos (show nI 9 = 9 by decide)]
      · unfold f_X8_count f_X8_count_21
        rw [p_st, hin, p_bi, if_neg (by decide), x_f0, p_bi, if_pos rfl, if_neg (show ¬ nI 9 = 10 by decide), if_neg (show ¬ nI 9 = 11 by decide), if_neg (show ¬ nI 9 = 12 by decide), if_neg (show ¬ nI 9 = 13 by decide)]
        rw [if_neg (by decide), s_30]
        exact congrArg (fun z => some (z, sup ρ 8 0 8 0)) (B_seed (v := vw 0 σ) hL)
    | 10, _, hrg, hin =>
      refine ⟨(0, W_cnt (vw 0 σ) K 1, σ), W_cnt (vw 0 σ) K 1, sup ρ 8 0 8 0, ?_, Or.inl rfl, ?_, hR.thr 0, s_thr ρ 0, fun _ => rfl⟩
      · unfold f_X7_count f_X7_count_157
        rw [hrg, p_bx0, if_neg (show ¬ nI 10 = 0 by decide), if_neg (show ¬ nI 10 = 1 by decide), if_neg (show ¬ nI 10 = 2 by decide), if_neg (show ¬ nI 10 = 3 by decide), if_neg (show ¬ nI 10 = 4 by decide), if_neg (show ¬ nI 10 = 5 by decide), if_neg (show ¬ nI 10 = 6 by decide), if_neg (show ¬ nI 10 = 7 by decide), if_neg (show ¬ nI 10 = 8 by decide), if_neg (show ¬ nI 10 = 9 by decide), if_pos (show nI 10 = 10 by decide)]
        rw [a_cnt hL, p_bi]
      · unfold f_X8_count f_X8_count_21
        rw [p_st, hin, p_bi, if_neg (by decide), x_f0, p_bi, if_pos rfl, if_pos (show nI 10 = 10 by decide)]
        rw [b_cnt hL1, p_bi]
    | 11, _, hrg, hin =>
      refine ⟨(0, W_cnt (vw 0 σ) K 3, σ), W_cnt (vw 0 σ) K 3, sup ρ 8 0 8 0, ?_, Or.inl rfl, ?_, hR.thr 0, s_thr ρ 0, fun _ => rfl⟩
      · unfold f_X7_count f_X7_count_157
        rw [hrg, p_bx0, if_neg (show ¬ nI 11 = 0 by decide), if_neg (show ¬ nI 11 = 1 by decide), if_neg (show ¬ nI 11 = 2 by decide), if_neg (show ¬ nI 11 = 3 by decide), if_neg (show ¬ nI 11 = 4 by decide), if_neg (show ¬ nI 11 = 5 by decide), if_neg (show ¬ nI 11 = 6 by decide), if_neg (show ¬ nI 11 = 7 by decide), if_neg (show ¬ nI 11 = 8 by decide), if_neg (show ¬ nI 11 = 9 by decide), if_neg (show ¬ nI 11 = 10 by decide), if_pos (show nI 11 = 11 by decide)]
        rw [a_cnt hL, p_bi]
      · unfold f_X8_count f_X8_count_21
        rw [p_st, hin, p_bi, if_neg (by decide), x_f0, p_bi, if_pos rfl, if_neg (show ¬ nI 11 = 10 by decide), if_pos (show nI 11 = 11 by decide)]
        rw [b_cnt hL1, p_bi]
    | 12, _, hrg, hin =>
      refine ⟨(0, σ 5 0 0, σ), σ 5 0 0, sup ρ 8 0 8 0, ?_, Or.inl rfl, ?_, hR.thr 0, s_thr ρ 0, fun _ => rfl⟩
      · unfold f_X7_count f_X7_count_157
        rw [hrg, p_bx0, if_neg (show ¬ nI 12 = 0 by decide), if_neg (show ¬ nI 12 = 1 by decide), if_neg (show ¬ nI 12 = 2 by decide), if_neg (show ¬ nI 12 = 3 by decide), if_neg (show ¬ nI 12 = 4 by decide), if_neg (show ¬ nI 12 = 5 by decide), if_neg (show ¬ nI 12 = 6 by decide), if_neg (show ¬ nI 12 = 7 by decide), if_neg (show ¬ nI 12 = 8 by decide), if_neg (show ¬ nI 12 = 9 by decide), if_neg (show ¬ nI 12 = 10 by decide), if_neg (show ¬ nI 12 = 11 by decide), if_pos (show nI 12 = 12 by decide)]
      · unfold f_X8_count f_X8_count_21
        rw [p_st, hin, p_bi, if_neg (by decide), x_f0, p_bi, if_pos rfl, if_neg (show ¬ nI 12 = 10 by decide), if_neg (show ¬ nI 12 = 11 by decide), if_pos (show nI 12 = 12 by decide)]
        rw [s_30]
        exact congrArg (fun z => some (z, sup ρ 8 0 8 0)) ((B_M hL).trans (A_M hL).symm)
    | 13, _, hrg, hin =>
      refine ⟨(0, σ 3 0 0, σ), σ 3 0 0, sup ρ 8 0 8 0, ?_, Or.inl rfl, ?_, hR.thr 0, s_thr ρ 0, fun _ => rfl⟩
      · unfold f_X7_count f_X7_count_157
        rw [hrg, p_bx0, if_neg (show ¬ nI 13 = 0 by decide), if_neg (show ¬ nI 13 = 1 by decide), if_neg (show ¬ nI 13 = 2 by decide), if_neg (show ¬ nI 13 = 3 by decide), if_neg (show ¬ nI 13 = 4 by decide), if_neg (show ¬ nI 13 = 5 by decide), if_neg (show ¬ nI 13 = 6 by decide), if_neg (show ¬ nI 13 = 7 by decide), if_neg (show ¬ nI 13 = 8 by decide), if_neg (show ¬ nI 13 = 9 by decide), if_neg (show ¬ nI 13 = 10 by decide), if_neg (show ¬ nI 13 = 11 by decide), if_neg (show ¬ nI 13 = 12 by decide), if_pos (show nI 13 = 13 by decide)]
      · unfold f_X8_count f_X8_count_21
        rw [p_st, hin, p_bi, if_neg (by decide), x_f0, p_bi, if_pos rfl, if_neg (show ¬ nI 13 = 10 by decide), if_neg (show ¬ nI 13 = 11 by decide), if_neg (show ¬ nI 13 = 12 by decide), if_pos (show nI 13 = 13 by decide)]
        rw [s_8 ρ 0 (by decide)]
        obtain ⟨h, x, g1, g2, g3, g4, g5, g6⟩ := hrest.2.2.2.2
        exact congrArg (fun z => some (z, sup ρ 8 0 8 0)) (g5.trans g3.symm)
    | i + 14, hi, _, _ => exact absurd hi (by omega)
  · have hb : v1 < 0 ∨ (13 : Int32) < v1 := hb
    refine ⟨(2, 0, σ), 0, sup ρ 8 0 8 1, ?_, Or.inr rfl, ?_, hR.thr 1, s_thr ρ 1, fun h => absurd (show (2 : Nat) = 0 from h) (by decide)⟩
    · unfold f_X7_count
      rw [x_rg1 hb]
      rfl
    · unfold f_X8_count f_X8_count_21
      rw [p_st, x_in0 _ hb, p_bi, if_pos rfl, x_f1, p_bi, if_neg (by decide), s_ss]
