/-! a tick: phase 5, reading: room, who gets off, the stop, the goal, the cause -/
def W_rm (v : Sg) (c : Nat) : Bool := decide (¬ v 2 c 1 ≤ nI (ct (bt (v 2 c 9)) 32))
def W_off (v : Sg) (c k : Nat) : Bool := bt (v 2 c 9) k && decide (v 1 k 1 = v 2 c 0)
def W_hh (v : Sg) (c k : Nat) : Bool := bt (v 2 c 8) k && decide (v 1 k 0 = v 2 c 0)
def W_st (v : Sg) (c k : Nat) : Bool := W_off v c k || (W_hh v c k && (W_rm v c || !decide (v 1 k 3 = 1)))
def W_cs (v : Sg) (c k : Nat) : Nat := if bt (v 19 c 3) k = true then 0 else if bt (v 19 c 2) k = true then 1 else if bt (v 19 c 1) k = true then 2 else 3
theorem an_or (P Q : Nat → Bool) (n : Nat) : an (fun k => P k || Q k) n = (an P n || an Q n) := by
  induction n with
  | zero => rfl
  | succ n ih =>
    rw [an_s, an_s, an_s, ih]
    cases an P n <;> cases an Q n <;> cases P n <;> cases Q n <;> rfl
theorem ite_b (b : Bool) : (if b = true then (1 : Int32) else 0) = W_b b := rfl
theorem a_room (σ : Sg) (o : Nat) : f_X2_hasRoom σ o = some (W_b (decide (¬ σ 2 o 1 ≤ nI (ct (bt (σ 2 o 9)) 32))), σ) := by
  unfold f_X2_hasRoom f_X2_hasRoom_19
  rw [c_cnt, p_bi]
  by_cases h : σ 2 o 1 ≤ nI (ct (bt (σ 2 o 9)) 32)
  · rw [if_pos h, decide_eq_false (fun q => q h)]; rfl
  · rw [if_neg h, decide_eq_true h]; rfl
theorem a_cause (σ : Sg) (o : Nat) {k : Nat} (hk : k < 24) : f_X2_causeOf σ o (nI k) = some (nI ((if bt (σ 19 o 3) k = true then 0 else if bt (σ 19 o 2) k = true then 1 else if bt (σ 19 o 1) k = true then 2 else 3) + 1), σ) := by
  unfold f_X2_causeOf f_X2_causeOf_36
  have e3 := a_lost σ o (k := k) (t := 3) (by omega) (by decide)
  have e2 := a_lost σ o (k := k) (t := 2) (by omega) (by decide)
  have e1 := a_lost σ o (k := k) (t := 1) (by omega) (by decide)
  rw [show (3 : Int32) = nI 3 from rfl, e3, p_bi]
  cases bt (σ 19 o 3) k
  · rw [if_pos (by decide), show (2 : Int32) = nI 2 from rfl, e2, p_bi]
    cases bt (σ 19 o 2) k
    · rw [if_pos (by decide), show (1 : Int32) = nI 1 from rfl, e1, p_bi]
      cases bt (σ 19 o 1) k <;> rfl
    · rfl
  · rfl
section TK
variable {F C K M T U j : Nat} {σ ρ v : Sg} {r : Nat → Int32}
theorem b_cause (h : LU F C K M T U v (ρ 30 0)) {c k : Nat} (hc : c < C) (hk : k < K) : f_X8_causeOf ρ (nI c) (nI k) = some (nI (W_cs v c k + 1), ρ) := by
  have hC := D_C h
  have hK := D_K h
  unfold f_X8_causeOf f_X8_causeOf_54
  simp (disch := omega) only [b_of607, p_bi, ni_nn, ni_cl, p_nle, false_or, if_false]
  have e3 := k_sshr (k := 3) (by decide) (ρ 30 0 (607 + 24 * c + k))
  have e2 := k_sshr (k := 2) (by decide) (ρ 30 0 (607 + 24 * c + k))
  have e1 := k_sshr (k := 1) (by decide) (ρ 30 0 (607 + 24 * c + k))
  rw [b_miss h hc hk (by decide)] at e3 e2 e1
  rw [show ((3 : Int32) &&& 31) = (nI 3 &&& 31) from rfl, show ((2 : Int32) &&& 31) = (nI 2 &&& 31) from rfl, show ((1 : Int32) &&& 31) = (nI 1 &&& 31) from rfl]
  simp only [e3, e2, e1]
  unfold W_cs
  cases bt (v 19 c 3) k
  · cases bt (v 19 c 2) k
    · cases bt (v 19 c 1) k <;> rfl
    · rfl
  · rfl
theorem b_off (h : LU F C K M T U v (ρ 30 0)) {c k : Nat} (hc : c < C) (hk : k < K) : f_X8_getsOff ρ (nI c) (nI k) = some (W_b (W_off v c k), ρ) := by
  have hC := D_C h
  have hK := D_K h
  obtain ⟨-, e1, -⟩ := B_call h hk
  obtain ⟨e0, -⟩ := B_car h hc
  unfold f_X8_getsOff f_X8_getsOff_34 f_X8_getsOff_35 W_off
  simp (disch := omega) only [b_isA h hc hk, p_bi, l_79, l_23, ni_nn, ni_cl, p_nle, false_or, if_false, e0, e1, W_b0]
  cases bt (v 2 c 9) k
  · rfl
  · by_cases w : v 1 k 1 = v 2 c 0
    · rw [if_pos w, decide_eq_true w]; rfl
    · rw [if_neg w, decide_eq_false w]; rfl
theorem b_hh (h : LU F C K M T U v (ρ 30 0)) {c k : Nat} (hc : c < C) (hk : k < K) : f_X8_isHeldHere ρ (nI c) (nI k) = some (W_b (W_hh v c k), ρ) := by
  have hC := D_C h
  have hK := D_K h
  obtain ⟨e1, -⟩ := B_call h hk
  obtain ⟨e0, -⟩ := B_car h hc
  unfold f_X8_isHeldHere f_X8_isHeldHere_34 f_X8_isHeldHere_35 W_hh
  simp (disch := omega) only [b_doesH h hc hk, p_bi, l_55, l_23, ni_nn, ni_cl, p_nle, false_or, if_false, e0, e1, W_b0]
  cases bt (v 2 c 8) k
  · rfl
  · by_cases w : v 1 k 0 = v 2 c 0
    · rw [if_pos w, decide_eq_true w]; rfl
    · rw [if_neg w, decide_eq_false w]; rfl
theorem a_wants (h : LU F C K M T U (vw j σ) r) {c : Nat} (hc : c < C) : f_X0_wantsToStop σ j (4 * j + c) = some (W_b (an (W_st (vw j σ) c) K), σ) := by
  have hC := D_C h
  have hK := D_K h
  unfold f_X0_wantsToStop
  rw [a_room, p_bi]
  refine (lpAny (fun n i => f_X0_wantsToStop_8 n σ j (4 * j + c) (W_b (decide (¬ σ 2 (4 * j + c) 1 ≤ nI (ct (bt (σ 2 (4 * j + c) 9)) 32)))) i) K (by omega) (W_st (vw j σ) c) (1, σ) (0, σ) (fun n k hk => ?_) (fun n => ?_)).trans ?_
  · simp (disch := omega) only [f_X0_wantsToStop_8_s, f_X0_wantsToStop_49, f_X0_wantsToStop_85, f_X0_wantsToStop_83, f_X0_wantsToStop_47, A_K h, ni_le, p_nle, if_false, ni_nn, ni_cl, false_or, a_isC, a_isH, p_bi, W_b0, ni_1]
    unfold W_st W_off W_hh W_rm
    rw [show vw j σ 1 k 1 = σ 1 (24 * j + k) 1 from rfl, show vw j σ 1 k 0 = σ 1 (24 * j + k) 0 from rfl, show vw j σ 1 k 3 = σ 1 (24 * j + k) 3 from rfl, show vw j σ 2 c 0 = σ 2 (4 * j + c) 0 from rfl, show vw j σ 2 c 1 = σ 2 (4 * j + c) 1 from rfl, show vw j σ 2 c 8 = σ 2 (4 * j + c) 8 from rfl, show vw j σ 2 c 9 = σ 2 (4 * j + c) 9 from rfl]
    generalize (decide (¬ σ 2 (4 * j + c) 1 ≤ nI (ct (bt (σ 2 (4 * j + c) 9)) 32))) = R
    by_cases w1 : σ 1 (24 * j + k) 1 = σ 2 (4 * j + c) 0 <;> by_cases w2 : σ 1 (24 * j + k) 0 = σ 2 (4 * j + c) 0 <;> by_cases w3 : σ 1 (24 * j + k) 3 = 1 <;> cases R <;> cases bt (σ 2 (4 * j + c) 9) k <;> cases bt (σ 2 (4 * j + c) 8) k <;> simp [w1, w2, w3]
  · simp (disch := omega) only [f_X0_wantsToStop_8_s, A_K h, ni_le, Nat.le_refl, if_true, f_X0_wantsToStop_91]
  · cases an (W_st (vw j σ) c) K <;> rfl
theorem b_isStop (h : LU F C K M T U v (ρ 30 0)) {c : Nat} (hc : c < C) : f_X8_isStop ρ (nI c) = some (W_b (an (W_st v c) K), ρ) := by
  have hC := D_C h
  have hK := D_K h
  unfold f_X8_isStop
  obtain ⟨n, y, hy, e⟩ := lpE1 (fun n (y : Int32) k => f_X8_isStop_4 n ρ (nI c) y k) K (by omega) (fun k y => y = W_b (an (W_off v c) k)) (a := 0) (fun n k y hk hy => by
    refine ⟨W_b (an (W_off v c) (k + 1)), rfl, ?_⟩
    simp (disch := omega) only [f_X8_isStop_4_s, B_K h, ni_le, p_nle, if_false, hy, W_b0, b_off h hc hk, p_bi, f_X8_isStop_32, f_X8_isStop_27, ni_1]
    rw [an_s]
    cases an (W_off v c) k <;> cases W_off v c k <;> rfl) rfl
  refine e.trans ?_
  have l2 : ∀ R : Bool, f_X8_isStop_65 ρ (nI c) y (W_b R) = some (if an (fun k => W_hh v c k && (R || !decide (v 1 k 3 = 1))) K = true then 1 else y, ρ) := by
    intro R
    unfold f_X8_isStop_65
    refine (lpAny (fun n i => f_X8_isStop_69 n ρ (nI c) y (W_b R) i) K (by omega) (fun k => W_hh v c k && (R || !decide (v 1 k 3 = 1))) (1, ρ) (y, ρ) (fun n k hk => ?_) (fun n => ?_)).trans ?_
    · obtain ⟨-, -, -, e3, -⟩ := B_call h hk
      simp (disch := omega) only [f_X8_isStop_69_s, B_K h, ni_le, p_nle, if_false, b_hh h hc hk, p_bi, W_b0, l_127, ni_nn, ni_cl, false_or, e3, f_X8_isStop_110, f_X8_isStop_108, ni_1]
      by_cases w3 : v 1 k 3 = 1 <;> cases R <;> cases W_hh v c k <;> simp [w3]
    · simp (disch := omega) only [f_X8_isStop_69_s, B_K h, ni_le, Nat.le_refl, if_true, f_X8_isStop_116]
      rw [hy]
      simp only [W_b01, if_false]
    · cases an (fun k => W_hh v c k && (R || !decide (v 1 k 3 = 1))) K <;> rfl
  have e1 : ρ 30 0 (27 + c) = v 2 c 1 := (B_car h hc).2.1
  have fin : ∀ R : Bool, (an (W_off v c) K = false → R = W_rm v c) → some (if an (fun k => W_hh v c k && (R || !decide (v 1 k 3 = 1))) K = true then 1 else y, ρ) = some (W_b (an (W_st v c) K), ρ) := by
    intro R hR
    rw [show an (W_st v c) K = (an (W_off v c) K || an (fun k => W_hh v c k && (W_rm v c || !decide (v 1 k 3 = 1))) K) from an_or (W_off v c) _ K, hy]
    cases hO : an (W_off v c) K
    · rw [hR hO]
      cases an (fun k => W_hh v c k && (W_rm v c || !decide (v 1 k 3 = 1))) K <;> rfl
    · cases an (fun k => W_hh v c k && (R || !decide (v 1 k 3 = 1))) K <;> rfl
  simp (disch := omega) only [f_X8_isStop_4_s, B_K h, ni_le, Nat.le_refl, if_true, f_X8_isStop_39, f_X8_isStop_60, b_abdM h hc, p_bi, l_27, ni_nn, ni_cl, p_nle, false_or, if_false, e1]
  rw [show (1 : Int32) = W_b true from rfl, show f_X8_isStop_65 ρ (nI c) y 0 = f_X8_isStop_65 ρ (nI c) y (W_b false) from rfl, l2 true, l2 false]
  by_cases hy0 : y = 0
  · rw [if_pos hy0]
    rw [hy, W_b0] at hy0
    by_cases w : v 2 c 1 ≤ nI (ct (bt (v 2 c 9)) 32)
    · rw [if_pos w]
      exact fin false (fun _ => (decide_eq_false (fun q => q w)).symm)
    · rw [if_neg w]
      exact fin true (fun _ => (decide_eq_true w).symm)
  · rw [if_neg hy0]
    refine fin true (fun q => absurd ?_ hy0)
    rw [hy, q]
    rfl
end TK
