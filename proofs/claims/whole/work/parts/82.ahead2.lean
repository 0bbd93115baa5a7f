/-! lateIn, doneIn, aboardIn, nobodyIn, wouldWait, bestNoise -/
theorem RestN.rk {n : Nat} {σ ρ ρ' : Sg} (h : RestN n σ ρ) (e8 : ∀ i, i ≠ 8 → ρ' 8 0 i = ρ 8 0 i) (e33 : ρ' 33 = ρ 33) (e34 : ρ' 34 = ρ 34) (e36 : ρ' 36 = ρ 36) (e38 : ρ' 38 = ρ 38) : RestN n σ ρ' := by
  unfold RestN R_in R_out R_sav R_his at h ⊢
  rw [e33, e34, e36, e38, e8 6 (by decide), e8 7 (by decide), e8 10 (by decide), e8 11 (by decide), e8 12 (by decide), e8 22 (by decide)]
  exact h
/-- a look ahead: laid aside, and back -/
theorem t_peek {n F C K M T : Nat} {σ ρ : Sg} (hL : LV F C K M T (vw 0 σ) (ρ 30 0)) (hr : RestN n σ ρ) :
    ∃ σ1 ρ1, f_X4_copyFrom σ 1 0 = some σ1 ∧ f_X8_begins ρ = some ρ1 ∧ LV F C K M T (vw 1 σ1) (ρ1 30 0) ∧ (∀ k i, (k = 4 ∨ k = 12 ∨ k = 15) → σ1 k 0 i = σ k 0 i) ∧ ∀ σ2 ρ2, ST 1 σ1 ρ1 σ2 ρ2 → ∃ ρ3, f_X8_ends ρ2 = some ρ3 ∧ LV F C K M T (vw 0 σ2) (ρ3 30 0) ∧ RestN n σ2 ρ3 ∧ ρ3 8 0 8 = ρ 8 0 8 := by
  have hC := D_C hL.1
  have hK := D_K hL.1
  obtain ⟨σ1, c1, c2, c3⟩ := t_copy (q := 1) hL.1 (by decide)
  refine ⟨σ1, scp ρ 30 0 0 32 0 0 2111, c1, ?_, hL.both c3 (fun q _ => by rw [c_ne (by decide)]), fun k i hk => c2 k 0 i (by
    rcases hk with rfl | rfl | rfl <;> (show ¬ (0 = 1); decide)), ?_⟩
  · unfold f_X8_begins
    rw [show f_X8_copies ρ 30 0 2111 0 32 0 2111 0 2111 = _ from b_copies ρ (p := 0) (q := 0) (n := 2111) (by decide) (by decide) (by decide) (by decide) (Or.inl (by decide)), p_bv]
  · intro σ2 ρ2 hs
    have r2 : ∀ k, k ≠ 30 → k ≠ 35 → k ≠ 32 → ρ2 k = ρ k := fun k h1 h2 h3 => (hs.2 k h1 h2).trans (c_ne h3)
    have sA : ST 1 σ ρ σ1 ρ := ⟨fun k o i h1 _ => c2 k o i h1, fun _ _ _ => rfl⟩
    have sB : ST 1 σ1 ρ σ2 ρ := ⟨hs.1, fun _ _ _ => rfl⟩
    have e3 : ∀ k, k ≠ 30 → scp ρ2 32 0 0 30 0 0 2111 k = ρ2 k := fun k hk => c_ne hk
    refine ⟨scp ρ2 32 0 0 30 0 0 2111, ?_, ?_, ?_, ?_⟩
    · unfold f_X8_ends
      rw [show f_X8_copies ρ2 32 0 2111 0 30 0 2111 0 2111 = _ from b_copies ρ2 (p := 0) (q := 0) (n := 2111) (by decide) (by decide) (by decide) (by decide) (Or.inl (by decide)), p_bv]
    · refine hL.both ((sA.trans sB).veq (by decide) (by decide) hC hK) (fun q hq => ?_)
      rw [c_in0 hq, hs.2 32 (by decide) (by decide), c_in0 hq]
    · refine ((hr.st sA (by decide)).st sB (by decide)).rk (fun i _ => ?_) ?_ ?_ ?_ ?_
      · rw [e3 8 (by decide), r2 8 (by decide) (by decide) (by decide)]
      · rw [e3 33 (by decide), r2 33 (by decide) (by decide) (by decide)]
      · rw [e3 34 (by decide), r2 34 (by decide) (by decide) (by decide)]
      · rw [e3 36 (by decide), r2 36 (by decide) (by decide) (by decide)]
      · rw [e3 38 (by decide), r2 38 (by decide) (by decide) (by decide)]
    · rw [e3 8 (by decide), r2 8 (by decide) (by decide) (by decide)]
theorem W_cnt_ct (v : Sg) (K : Nat) (s : Int32) : W_cnt v K s = nI (ct (fun k => decide (v 1 k 3 = s)) K) := by
  unfold W_cnt
  rw [← W_ctfo]
  exact fo_congr (fun k _ a => by
    by_cases h : v 1 k 3 = s
    · rw [if_pos h, if_pos (decide_eq_true h)]
    · rw [if_neg h, if_neg (by rw [decide_eq_false h]; decide)]) 0
theorem ct_mono {P Q : Nat → Bool} {n : Nat} (h : ∀ k, k < n → P k = true → Q k = true) : ct P n ≤ ct Q n := by
  induction n with
  | zero => exact Nat.le_refl 0
  | succ n ih =>
    have i := ih (fun k hk => h k (by omega))
    rw [ct_s, ct_s]
    cases hp : P n
    · rw [if_neg (by decide)]
      split <;> omega
    · rw [if_pos rfl, h n (by omega) hp, if_pos rfl]
      omega
/-- what is done stays done -/
def G3 (K : Nat) (v v' : Sg) : Prop := ∀ k, k < K → v 1 k 3 = 3 → v' 1 k 3 = 3
theorem PG.g3 {T K : Nat} {v v' : Sg} (h : PG T K v v') : G3 K v v' := by
  intro k hk e
  obtain ⟨-, ⟨a, -⟩ | ⟨a, -⟩ | ⟨a, -⟩ | ⟨a, -⟩⟩ := h k hk
  · exact a.trans e
  · exact absurd (a.symm.trans e) (by decide)
  · rcases a with a | a <;> exact absurd (a.symm.trans e) (by decide)
  · exact absurd (a.symm.trans e) (by decide)
section IT
variable {F C K M T U j : Nat} {σ ρ v : Sg} {r : Nat → Int32}
theorem t_g3 (h : LV F C K M T (vw j σ) (ρ 30 0)) (hj : j < 13) (k : Nat) (hk : T + k < 399999) : G3 K (vw j σ) (vw j (itA j σ k)) := by
  induction k with
  | zero => exact fun _ _ e => e
  | succ k ih => exact fun q hq e => (t_itS h hj (k := k) (by omega)).2.2.g3 q hq (ih (by omega) q hq e)
theorem t_nneg (h : LV F C K M T (vw j σ) (ρ 30 0)) (hj : j < 13) (k : Nat) (hk : T + k < 399999) : (0 : Int32) ≤ W_cnt (vw j (itA j σ k)) K 3 - W_cnt (vw j σ) K 3 := by
  have hK := D_K h.1
  have g := t_g3 h hj k hk
  have m := ct_mono (P := fun k => decide (vw j σ 1 k 3 = 3)) (Q := fun q => decide (vw j (itA j σ k) 1 q 3 = 3)) (n := K) (fun q hq e => decide_eq_true (g q hq (of_decide_eq_true e)))
  rw [W_cnt_ct, W_cnt_ct, ni_sub m, ni_ge0 (by have := ct_le (fun q => decide (vw j (itA j σ k) 1 q 3 = 3)) K; omega)]
  trivial
theorem a_late (h : LU F C K M T U (vw j σ) r) : f_X4_lateCalls σ j = some (W_late (vw j σ) K, σ) := by
  have hK := D_K h
  refine qrun (fun n a i => f_X4_lateCalls_4 n σ j a i) (fun k (a : Int32) => if vw j σ 12 0 4 < W_wait (vw j σ) k then a + 1 else a) K 0 (by omega) (fun n k a hk => ?_) (fun n => ?_)
  · simp (disch := omega) only [f_X4_lateCalls_4_s, f_X4_lateCalls_29, A_K h, ni_le, p_nle, if_false, a_wait h hk, p_bi, ni_1]
    rw [show vw j σ 12 0 4 = σ 12 j 4 from rfl]
    by_cases w : W_wait (vw j σ) k ≤ σ 12 j 4
    · rw [if_pos w, if_neg (Int32.not_lt.mpr w)]
    · rw [if_neg w, if_pos (Int32.not_le.mp w)]
  · simp (disch := omega) only [f_X4_lateCalls_4_s, A_K h, ni_le, Nat.le_refl, if_true, f_X4_lateCalls_35]
    rfl
theorem b_late (h : LU F C K M T U v (ρ 30 0)) : f_X8_lateMany ρ = some (W_late v K, ρ) := by
  have hK := D_K h
  have e8 : ρ 30 0 8 = v 12 0 4 := (B_set h).2.2.2.2
  refine qrun (fun n a i => f_X8_lateMany_4 n ρ a i) (fun k (a : Int32) => if v 12 0 4 < W_wait v k then a + 1 else a) K 0 (by omega) (fun n k a hk => ?_) (fun n => ?_)
  · simp (disch := omega) only [f_X8_lateMany_4_s, f_X8_lateMany_35, B_K h, ni_le, p_nle, if_false, b_wait h hk, p_bi, ni_1, e8]
    by_cases w : W_wait v k ≤ v 12 0 4
    · rw [if_pos w, if_neg (Int32.not_lt.mpr w), Int32.add_zero]
    · rw [if_neg w, if_pos (Int32.not_le.mp w)]
  · simp (disch := omega) only [f_X8_lateMany_4_s, B_K h, ni_le, Nat.le_refl, if_true, f_X8_lateMany_43]
    rfl
theorem a_allDone (h : LU F C K M T U (vw j σ) r) : f_X4_isAllDone σ j = some (W_b (decide (W_cnt (vw j σ) K 3 = nI K)), σ) := by
  unfold f_X4_isAllDone f_X4_isAllDone_17
  rw [a_cnt h, p_bi, A_K h]
  by_cases w : W_cnt (vw j σ) K 3 = nI K
  · rw [if_pos w, decide_eq_true w]; rfl
  · rw [if_neg w, decide_eq_false w]; rfl
/-- all done, tick by tick -/
noncomputable def QD (j K : Nat) (σ : Sg) (k : Nat) : Bool := decide (W_cnt (vw j (itA j σ k)) K 3 = nI K)
noncomputable def QB (j c : Nat) (σ : Sg) (k : Nat) : Bool := decide (¬ vw j (itA j σ k) 1 c 3 < 2)
theorem a_untilD (h : LV F C K M T (vw 1 σ) (ρ 30 0)) {L : Nat} (hL : L ≤ 500) (hT : T + L < 399999) : ∃ r k, f_X7_ticksUntilDone σ (nI L) = some (r, itA 1 σ k) ∧ FS (QD 1 K σ) L r k := by
  have hd : ∀ k, k ≤ L → f_X4_isAllDone (itA 1 σ k) 1 = some (W_b (QD 1 K σ k), itA 1 σ k) := fun k hk => by
    obtain ⟨⟨M', i1⟩, -⟩ := t_it h (by decide) k (by omega)
    exact a_allDone i1.1
  refine a_until h (by decide) hL hT (QD 1 K σ) (fun n (a : Sg) i => f_X7_ticksUntilDone_2 n a (nI L) i) (fun k hk n => ?_) (fun n => ?_)
  · simp (disch := omega) only [f_X7_ticksUntilDone_2_s, ni_le, p_nle, if_false, hd k (Nat.le_of_lt hk), p_bi, W_b0, f_X7_ticksUntilDone_17, ni_1]
  · simp (disch := omega) only [f_X7_ticksUntilDone_2_s, ni_le, Nat.le_refl, if_true, f_X7_ticksUntilDone_36, f_X7_ticksUntilDone_51, hd L (Nat.le_refl L), p_bi, W_b0]
    cases QD 1 K σ L <;> rfl
theorem b_untilD (h : LV F C K M T (vw j σ) (ρ 30 0)) (hj : j < 13) {L : Nat} (hL : L ≤ 500) (hT : T + L < 399999) : ∃ r k, f_X8_thoughtUntil ρ (-1) (nI L) = some (r, itB ρ k) ∧ FS (QD j K σ) L r k := by
  refine b_until h hj hL hT (QD j K σ) (-1) (fun k hk n => ?_)
  obtain ⟨⟨M', i1⟩, -⟩ := t_it h hj k (by omega)
  rw [f_X8_thoughtUntil_2_s, if_neg (by rw [ni_lt (by omega) (by omega)]; omega), if_pos rfl, b_cnt i1.1, p_bi, B_K i1.1]
  unfold QD
  by_cases w : W_cnt (vw j (itA j σ k)) K 3 = nI K
  · rw [if_pos w, decide_eq_true w]; rfl
  · rw [if_neg w, decide_eq_false w]; rfl
theorem a_untilB (h : LV F C K M T (vw 1 σ) (ρ 30 0)) {L c : Nat} (hc : c < K) (hL : L ≤ 500) (hT : T + L < 399999) : ∃ r k, f_X7_ticksUntilAboard σ (nI c) (nI L) = some (r, itA 1 σ k) ∧ FS (QB 1 c σ) L r k := by
  have hK := D_K h.1
  refine a_until h (by decide) hL hT (QB 1 c σ) (fun n (a : Sg) i => f_X7_ticksUntilAboard_2 n a (nI c) (nI L) i) (fun k hk n => ?_) (fun n => ?_)
  · simp (disch := omega) only [f_X7_ticksUntilAboard_2_s, ni_le, p_nle, if_false, ni_nn, ni_cl, false_or, f_X7_ticksUntilAboard_23, ni_1]
    unfold QB
    rw [show vw 1 (itA 1 σ k) 1 c 3 = itA 1 σ k 1 (24 * 1 + c) 3 from rfl]
    by_cases w : itA 1 σ k 1 (24 * 1 + c) 3 < 2
    · rw [if_pos w, if_pos (decide_eq_false (fun q => q w))]
    · rw [if_neg w, if_neg (by rw [decide_eq_true w]; decide)]
  · simp (disch := omega) only [f_X7_ticksUntilAboard_2_s, ni_le, Nat.le_refl, if_true, f_X7_ticksUntilAboard_42, f_X7_ticksUntilAboard_63, ni_nn, ni_cl, p_nle, false_or, if_false]
    unfold QB
    rw [show vw 1 (itA 1 σ L) 1 c 3 = itA 1 σ L 1 (24 * 1 + c) 3 from rfl]
    by_cases w : itA 1 σ L 1 (24 * 1 + c) 3 < 2
    · rw [if_pos w, if_pos (decide_eq_false (fun q => q w))]
    · rw [if_neg w, if_neg (by rw [decide_eq_true w]; decide)]
theorem b_untilB (h : LV F C K M T (vw j σ) (ρ 30 0)) (hj : j < 13) {L c : Nat} (hc : c < K) (hL : L ≤ 500) (hT : T + L < 399999) : ∃ r k, f_X8_thoughtUntil ρ (nI c) (nI L) = some (r, itB ρ k) ∧ FS (QB j c σ) L r k := by
  have hK := D_K h.1
  refine b_until h hj hL hT (QB j c σ) (nI c) (fun k hk n => ?_)
  obtain ⟨⟨M', i1⟩, -⟩ := t_it h hj k (by omega)
  obtain ⟨-, -, -, e3, -⟩ := B_call i1.1 hc
  rw [f_X8_thoughtUntil_2_s, if_neg (by rw [ni_lt (by omega) (by omega)]; omega), if_neg (nm_n (by omega)), l_127, if_neg (by rw [gN (by omega) (by decide)]; exact id), ni_cl (by omega), e3]
  unfold QB
  by_cases w : vw j (itA j σ k) 1 c 3 < 2
  · rw [if_pos w, decide_eq_false (fun q => q w)]; rfl
  · rw [if_neg w, decide_eq_true w]; rfl
end IT
theorem E1_lateIn : E_lateIn RelN := by
  intro nn σ ρ v1 hn hR
  rcases x_ticks σ ρ v1 with ⟨n, h1, h2, rfl, e1, e2⟩ | ⟨e1, e2⟩
  · obtain ⟨⟨F, C, K, M, T, hC1, hT, hL⟩, -⟩ := id hR
    have hLr : LV F C K M T (vw 0 σ) ((sup ρ 8 0 8 0) 30 0) := by rw [s_30]; exact hL
    obtain ⟨σ1, ρ1, a1, a2, a3, -, a4⟩ := t_peek hLr (hR.cut 0)
    obtain ⟨⟨M', i1⟩, i2⟩ := t_it a3 (by decide) n (by omega)
    obtain ⟨ρ3, b1, b2, b3, b4⟩ := a4 _ _ i2
    refine ⟨(0, W_late (vw 1 (itA 1 σ1 n)) K, itA 1 σ1 n), W_late (vw 1 (itA 1 σ1 n)) K, ρ3, ?_, Or.inl rfl, ?_, ⟨⟨F, C, K, M, T, hC1, by omega, b2⟩, b3.up⟩, ?_, fun _ => rfl⟩
    · unfold f_X7_lateIn
      rw [e1, p_bx0, a1, p_bv, a_pass a3 (by decide) h2 (by omega), p_bv, a_late i1.1, p_bi]
    · unfold f_X8_lateIn f_X8_lateIn_32
      rw [e2, p_bi, if_pos rfl, a2, p_bv, b_passes a3 (by decide) h2 (by omega), p_bi, if_pos (t_nneg a3 (by decide) n (by omega)), b_late i1.1, p_bi, b1, p_bv]
    · rw [b4, s_thr]
      rfl
  · refine ⟨(2, 0, σ), 0, sup ρ 8 0 8 1, ?_, Or.inr rfl, ?_, hR.thr 1, s_thr ρ 1, fun h => absurd (show (2 : Nat) = 0 from h) (by decide)⟩
    · unfold f_X7_lateIn
      rw [e1]
      rfl
    · unfold f_X8_lateIn
      rw [e2, p_bi, if_neg (by decide)]
theorem E1_doneIn : E_doneIn RelN := by
  intro nn σ ρ v1 hn hR
  rcases x_ticks σ ρ v1 with ⟨n, h1, h2, rfl, e1, e2⟩ | ⟨e1, e2⟩
  · obtain ⟨⟨F, C, K, M, T, hC1, hT, hL⟩, -⟩ := id hR
    have hLr : LV F C K M T (vw 0 σ) ((sup ρ 8 0 8 0) 30 0) := by rw [s_30]; exact hL
    obtain ⟨σ1, ρ1, a1, a2, a3, -, a4⟩ := t_peek hLr (hR.cut 0)
    obtain ⟨r, k, c1, c2⟩ := a_untilD a3 h2 (by omega)
    obtain ⟨r2, k2, d1, d2⟩ := b_untilD a3 (by decide) h2 (by omega)
    obtain ⟨rfl, rfl⟩ := c2.uniq d2
    have hk := c2.1
    obtain ⟨-, i2⟩ := t_it a3 (by decide) k (by omega)
    obtain ⟨ρ3, b1, b2, b3, b4⟩ := a4 _ _ i2
    refine ⟨(0, r, itA 1 σ1 k), r, ρ3, ?_, Or.inl rfl, ?_, ⟨⟨F, C, K, M, T, hC1, by omega, b2⟩, b3.up⟩, ?_, fun _ => rfl⟩
    · unfold f_X7_doneIn
      rw [e1, p_bx0, a1, p_bv, c1, p_bi]
    · unfold f_X8_doneIn f_X8_doneIn_18 f_X8_until
      rw [e2, p_bi, if_pos rfl, a2, p_bv, d1, p_bi, b1, p_bv, p_bi]
    · rw [b4, s_thr]
      rfl
  · refine ⟨(2, 0, σ), 0, sup ρ 8 0 8 1, ?_, Or.inr rfl, ?_, hR.thr 1, s_thr ρ 1, fun h => absurd (show (2 : Nat) = 0 from h) (by decide)⟩
    · unfold f_X7_doneIn
      rw [e1]
      rfl
    · unfold f_X8_doneIn f_X8_doneIn_18
      rw [e2, p_bi, if_neg (by decide)]
theorem a_sum5 (σ : Sg) (o : Nat) : f_X7_sum σ 15 o 5 = some (0 + σ 15 o 0 + σ 15 o 1 + σ 15 o 2 + σ 15 o 3 + σ 15 o 4, σ) := by
  unfold f_X7_sum
  obtain ⟨n, y, hy, e⟩ := lpE1 (fun n (y : Int32) i => f_X7_sum_4 n σ 15 o 5 y i) 5 (by decide) (fun k y => y = fo (fun k a => a + σ 15 o k) k 0) (a := 0) (fun n k y hk hy => by
    refine ⟨fo (fun k a => a + σ 15 o k) (k + 1) 0, rfl, ?_⟩
    rw [f_X7_sum_4_s, if_neg (by rw [show Int32.ofNat 5 = nI 5 from rfl, ni_le (by omega) (by omega)]; omega), if_neg (by rw [gN (by omega) (by decide)]; exact id), ni_cl (by omega), ni_1, hy]
    rfl) rfl
  refine Eq.trans e ?_
  rw [f_X7_sum_4_s, if_pos (by rw [show Int32.ofNat 5 = nI 5 from rfl, ni_le (by omega) (by omega)]; omega), hy]
  rfl
