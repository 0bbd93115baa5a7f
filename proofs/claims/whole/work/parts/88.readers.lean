/-! readers: numbers and masks -/
theorem E1_allRounds : E_allRounds RelN := by
  intro nn σ ρ hn hR
  obtain ⟨⟨F, C, K, M, T, hC1, hT, hL⟩, -⟩ := id hR
  have h1 := hL.1
  have h2 : LU F C K M T T (vw 0 σ) ((sup ρ 8 0 8 0) 30 0) := h1.thr 0
  have dK := D_K h1
  have dC := D_C h1
  have dF := D_F h1
  obtain ⟨r1, r2, i1, i2, x, rfl, rfl⟩ := lpTF (fun n (a : Int32) i => f_X7_allRounds_4 n σ a i) (fun n (a : Int32) i => f_X8_allRounds_9 n (sup ρ 8 0 8 0) a i) K (by omega) (fun _ a b => a = b) (fun r1 r2 => ∃ x, r1 = (x, σ) ∧ r2 = (x, sup ρ 8 0 8 0)) (by
    rintro n m k a b hk rfl
    obtain ⟨e0, e1, e2, e3, e4, e5, e6, e7, e8, e10⟩ := B_call h2 hk
    have e0' : (sup ρ 8 0 8 0) 30 0 (55 + k) = σ 1 (24 * 0 + k) 0 := e0
    have e1' : (sup ρ 8 0 8 0) 30 0 (79 + k) = σ 1 (24 * 0 + k) 1 := e1
    have e3' : (sup ρ 8 0 8 0) 30 0 (127 + k) = σ 1 (24 * 0 + k) 3 := e3
    have e4' : (sup ρ 8 0 8 0) 30 0 (151 + k) = σ 1 (24 * 0 + k) 4 := e4
    have e7' : (sup ρ 8 0 8 0) 30 0 (223 + k) = σ 1 (24 * 0 + k) 7 := e7
    refine Or.inl ?_
    refine ⟨a + σ 1 (24 * 0 + k) 7, _, rfl, ?_, ?_⟩
    · simp (disch := omega) only [f_X7_allRounds_4_s, A_K h1, ni_le, p_nle, if_false, ni_nn, ni_cl, false_or, p_bi, ni_1]
    · simp (disch := omega) only [f_X8_allRounds_9_s, B_K h2, l_223, e7', ni_le, p_nle, if_false, ni_nn, ni_cl, false_or, p_bi, ni_1]) (by
    rintro n m a b rfl
    simp (disch := omega) only [f_X7_allRounds_4_s, f_X8_allRounds_9_s, A_K h1, B_K h2, A_C h1, B_C h2, A_F h1, B_F h2, ni_le, Nat.le_refl, if_true, f_X7_allRounds_36, f_X8_allRounds_38]
    exact ⟨_, _, rfl, rfl, _, rfl, rfl⟩) (a := 0) (b := 0) rfl
  exact ⟨x, σ, _, i1, (by unfold f_X8_allRounds; rw [p_st]; exact i2), hR.thr 0⟩
theorem E1_doubles : E_doubles RelN := by
  intro nn σ ρ hn hR
  obtain ⟨⟨F, C, K, M, T, hC1, hT, hL⟩, -⟩ := id hR
  have h1 := hL.1
  have h2 : LU F C K M T T (vw 0 σ) ((sup ρ 8 0 8 0) 30 0) := h1.thr 0
  have dK := D_K h1
  have dC := D_C h1
  have dF := D_F h1
  obtain ⟨r1, r2, i1, i2, x, rfl, rfl⟩ := lpTF (fun n (a : Int32) i => f_X7_doubles_4 n σ a i) (fun n (a : Int32) i => f_X8_doubles_9 n (sup ρ 8 0 8 0) a i) K (by omega) (fun _ a b => a = b) (fun r1 r2 => ∃ x, r1 = (x, σ) ∧ r2 = (x, sup ρ 8 0 8 0)) (by
    rintro n m k a b hk rfl
    refine Or.inl ?_
    simp (disch := omega) only [f_X7_doubles_4_s, f_X8_doubles_9_s, f_X7_doubles_33, f_X8_doubles_36, A_K h1, B_K h2, a_hold h1 hk, b_hold h2 hk, ni_le, p_nle, if_false, ni_nn, ni_cl, false_or, p_bi, ni_1]
    by_cases w : W_hold (vw 0 σ) C k ≤ 1
    · rw [if_pos w, if_pos w, Int32.or_zero]
      exact ⟨a, _, rfl, rfl, rfl⟩
    · rw [if_neg w, if_neg w]
      exact ⟨_, _, rfl, rfl, rfl⟩) (by
    rintro n m a b rfl
    simp (disch := omega) only [f_X7_doubles_4_s, f_X8_doubles_9_s, A_K h1, B_K h2, A_C h1, B_C h2, A_F h1, B_F h2, ni_le, Nat.le_refl, if_true, f_X7_doubles_39, f_X8_doubles_44]
    exact ⟨_, _, rfl, rfl, _, rfl, rfl⟩) (a := 0) (b := 0) rfl
  exact ⟨x, σ, _, i1, (by unfold f_X8_doubles; rw [p_st]; exact i2), hR.thr 0⟩
theorem E1_orphans : E_orphans RelN := by
  intro nn σ ρ hn hR
  obtain ⟨⟨F, C, K, M, T, hC1, hT, hL⟩, -⟩ := id hR
  have h1 := hL.1
  have h2 : LU F C K M T T (vw 0 σ) ((sup ρ 8 0 8 0) 30 0) := h1.thr 0
  have dK := D_K h1
  have dC := D_C h1
  have dF := D_F h1
  obtain ⟨r1, r2, i1, i2, x, rfl, rfl⟩ := lpTF (fun n (a : Int32) i => f_X7_orphans_4 n σ a i) (fun n (a : Int32) i => f_X8_orphans_9 n (sup ρ 8 0 8 0) a i) K (by omega) (fun _ a b => a = b) (fun r1 r2 => ∃ x, r1 = (x, σ) ∧ r2 = (x, sup ρ 8 0 8 0)) (by
    rintro n m k a b hk rfl
    obtain ⟨e0, e1, e2, e3, e4, e5, e6, e7, e8, e10⟩ := B_call h2 hk
    have e0' : (sup ρ 8 0 8 0) 30 0 (55 + k) = σ 1 (24 * 0 + k) 0 := e0
    have e1' : (sup ρ 8 0 8 0) 30 0 (79 + k) = σ 1 (24 * 0 + k) 1 := e1
    have e3' : (sup ρ 8 0 8 0) 30 0 (127 + k) = σ 1 (24 * 0 + k) 3 := e3
    have e4' : (sup ρ 8 0 8 0) 30 0 (151 + k) = σ 1 (24 * 0 + k) 4 := e4
    have e7' : (sup ρ 8 0 8 0) 30 0 (223 + k) = σ 1 (24 * 0 + k) 7 := e7
    refine Or.inl ?_
    simp (disch := omega) only [f_X7_orphans_4_s, f_X8_orphans_9_s, f_X7_orphans_48, f_X8_orphans_48, f_X8_orphans_47, A_K h1, B_K h2, a_hold h1 hk, b_hold h2 hk, l_127, e3', ni_le, p_nle, if_false, ni_nn, ni_cl, false_or, p_bi, ni_1]
    by_cases w3 : σ 1 (24 * 0 + k) 3 = 1
    · rw [if_pos w3, if_pos w3]
      by_cases w : W_hold (vw 0 σ) C k = 0
      · rw [if_pos w, if_pos w]
        exact ⟨_, _, rfl, rfl, rfl⟩
      · rw [if_neg w, if_neg w, Int32.or_zero]
        exact ⟨a, _, rfl, rfl, rfl⟩
    · rw [if_neg w3, if_neg w3, Int32.or_zero]
      exact ⟨a, _, rfl, rfl, rfl⟩) (by
    rintro n m a b rfl
    simp (disch := omega) only [f_X7_orphans_4_s, f_X8_orphans_9_s, A_K h1, B_K h2, A_C h1, B_C h2, A_F h1, B_F h2, ni_le, Nat.le_refl, if_true, f_X7_orphans_54, f_X8_orphans_56]
    exact ⟨_, _, rfl, rfl, _, rfl, rfl⟩) (a := 0) (b := 0) rfl
  exact ⟨x, σ, _, i1, (by unfold f_X8_orphans; rw [p_st]; exact i2), hR.thr 0⟩
theorem E1_waitsWithin : E_waitsWithin RelN := by
  intro nn σ ρ v1 v2 hn hR
  obtain ⟨⟨F, C, K, M, T, hC1, hT, hL⟩, -⟩ := id hR
  have h1 := hL.1
  have h2 : LU F C K M T T (vw 0 σ) ((sup ρ 8 0 8 0) 30 0) := h1.thr 0
  have dK := D_K h1
  have dC := D_C h1
  have dF := D_F h1
  obtain ⟨r1, r2, i1, i2, x, rfl, rfl⟩ := lpTF (fun n (a : Int32) i => f_X7_waitsWithin_5 n σ v1 v2 a i) (fun n (a : Int32) i => f_X8_waitsWithin_10 n (sup ρ 8 0 8 0) v1 v2 a i) K (by omega) (fun _ a b => a = b) (fun r1 r2 => ∃ x, r1 = (x, σ) ∧ r2 = (x, sup ρ 8 0 8 0)) (by
    rintro n m k a b hk rfl
    obtain ⟨e0, e1, e2, e3, e4, e5, e6, e7, e8, e10⟩ := B_call h2 hk
    have e0' : (sup ρ 8 0 8 0) 30 0 (55 + k) = σ 1 (24 * 0 + k) 0 := e0
    have e1' : (sup ρ 8 0 8 0) 30 0 (79 + k) = σ 1 (24 * 0 + k) 1 := e1
    have e3' : (sup ρ 8 0 8 0) 30 0 (127 + k) = σ 1 (24 * 0 + k) 3 := e3
    have e4' : (sup ρ 8 0 8 0) 30 0 (151 + k) = σ 1 (24 * 0 + k) 4 := e4
    have e7' : (sup ρ 8 0 8 0) 30 0 (223 + k) = σ 1 (24 * 0 + k) 7 := e7
    refine Or.inl ?_
    simp (disch := omega) only [f_X7_waitsWithin_5_s, f_X8_waitsWithin_10_s, f_X7_waitsWithin_59, f_X8_waitsWithin_54, f_X8_waitsWithin_53, A_K h1, B_K h2, a_wait h1 hk, b_wait h2 hk, l_127, e3', ni_le, p_nle, if_false, ni_nn, ni_cl, false_or, p_bi, ni_1]
    by_cases w3 : σ 1 (24 * 0 + k) 3 = 0
    · rw [if_pos w3, if_pos w3, Int32.add_zero]
      exact ⟨a, _, rfl, rfl, rfl⟩
    · rw [if_neg w3, if_neg w3]
      by_cases w : W_wait (vw 0 σ) k < v1 ∨ v2 < W_wait (vw 0 σ) k
      · rw [x_in0 _ w, p_bi, if_pos rfl, Int32.add_zero]
        refine ⟨a, _, rfl, ?_, rfl⟩
        by_cases w1 : W_wait (vw 0 σ) k < v1
        · rw [if_pos w1]
        · rw [if_neg w1, if_pos (w.resolve_left w1)]
      · rw [x_in1 _ (fun q => w (Or.inl q)) (fun q => w (Or.inr q)), p_bi, if_neg (show ¬ (1 : Int32) = 0 by decide), if_neg (fun q => w (Or.inl q)), if_neg (fun q => w (Or.inr q))]
        exact ⟨_, _, rfl, rfl, rfl⟩) (by
    rintro n m a b rfl
    simp (disch := omega) only [f_X7_waitsWithin_5_s, f_X8_waitsWithin_10_s, A_K h1, B_K h2, ni_le, Nat.le_refl, if_true, f_X7_waitsWithin_65, f_X8_waitsWithin_62]
    exact ⟨_, _, rfl, rfl, _, rfl, rfl⟩) (a := 0) (b := 0) rfl
  exact ⟨x, σ, _, i1, (by unfold f_X8_waitsWithin; rw [p_st]; exact i2), hR.thr 0⟩
theorem E1_busiest : E_busiest RelN := by
  intro nn σ ρ hn hR
  obtain ⟨⟨F, C, K, M, T, hC1, hT, hL⟩, -⟩ := id hR
  have h1 := hL.1
  have h2 : LU F C K M T T (vw 0 σ) ((sup ρ 8 0 8 0) 30 0) := h1.thr 0
  have dK := D_K h1
  have dC := D_C h1
  have dF := D_F h1
  obtain ⟨r1, r2, i1, i2, x, rfl, rfl⟩ := lpT (fun n (a : Int32) i => f_X7_busiest_4 n σ a i) (fun n (a : Int32) i => f_X8_busiest_9 n (sup ρ 8 0 8 0) a i) C (fun _ a b => a = b ∧ ∃ c, c < C ∧ a = nI c) (fun r1 r2 => ∃ x, r1 = (x, σ) ∧ r2 = (x, sup ρ 8 0 8 0)) (by
    rintro n m k a b hk ⟨rfl, c, hc, rfl⟩
    have e5 : (sup ρ 8 0 8 0) 30 0 (43 + k) = σ 2 (4 * 0 + k) 5 := (B_car h2 hk).2.2.2.2.2.1
    have e5' : (sup ρ 8 0 8 0) 30 0 (43 + c) = σ 2 (4 * 0 + c) 5 := (B_car h2 hc).2.2.2.2.2.1
    refine Or.inl ?_
    simp (disch := omega) only [f_X7_busiest_4_s, f_X8_busiest_9_s, f_X7_busiest_44, f_X8_busiest_42, A_C h1, B_C h2, l_43, e5, e5', ni_le, p_nle, if_false, ni_nn, ni_cl, false_or, p_bi, ni_1]
    by_cases w : σ 2 (4 * 0 + k) 5 ≤ σ 2 (4 * 0 + c) 5
    · rw [if_pos w, if_pos w]
      exact ⟨_, _, ⟨rfl, c, hc, rfl⟩, rfl, rfl⟩
    · rw [if_neg w, if_neg w]
      exact ⟨_, _, ⟨rfl, k, hk, rfl⟩, rfl, rfl⟩) (by
    rintro n m a b ⟨rfl, -⟩
    simp (disch := omega) only [f_X7_busiest_4_s, f_X8_busiest_9_s, A_C h1, B_C h2, ni_le, Nat.le_refl, if_true, f_X7_busiest_50, f_X8_busiest_48]
    exact ⟨_, _, rfl, rfl, _, rfl, rfl⟩) FU FU 1 0 0 hC1 (by show C - 1 < 65536; omega) (by show C - 1 < 65536; omega) ⟨rfl, 0, by omega, rfl⟩
  exact ⟨x, σ, _, i1, (by unfold f_X8_busiest; rw [p_st]; exact i2), hR.thr 0⟩
theorem E1_mostRounds : E_mostRounds RelN := by
  intro nn σ ρ hn hR
  obtain ⟨⟨F, C, K, M, T, hC1, hT, hL⟩, -⟩ := id hR
  have h1 := hL.1
  have h2 : LU F C K M T T (vw 0 σ) ((sup ρ 8 0 8 0) 30 0) := h1.thr 0
  have dK := D_K h1
  have dC := D_C h1
  have dF := D_F h1
  obtain ⟨r1, r2, i1, i2, x, rfl, rfl⟩ := lpTF (fun n (a : Int32 × Int32) i => f_X7_mostRounds_6 n σ a.1 a.2 i) (fun n (a : Int32) i => f_X8_mostRounds_9 n (sup ρ 8 0 8 0) a i) K (by omega) (fun _ a b => a.1 = b ∧ ((a.1 = -1 ∧ a.2 = 0) ∨ ∃ c, c < K ∧ a.1 = nI c ∧ a.2 = σ 1 (24 * 0 + c) 7)) (fun r1 r2 => ∃ x, r1 = (x, σ) ∧ r2 = (x, sup ρ 8 0 8 0)) (by
    rintro n m k ⟨a, y⟩ b hk ⟨rfl, hI⟩
    have e7 : (sup ρ 8 0 8 0) 30 0 (223 + k) = σ 1 (24 * 0 + k) 7 := (B_call h2 hk).2.2.2.2.2.2.2.1
    dsimp only at hI ⊢
    refine Or.inl ?_
    simp (disch := omega) only [f_X7_mostRounds_6_s, f_X8_mostRounds_9_s, f_X7_mostRounds_48, f_X8_mostRounds_48, f_X8_mostRounds_53, A_K h1, B_K h2, l_223, e7, ni_le, p_nle, if_false, ni_nn, ni_cl, false_or, p_bi, ni_1]
    have yes : ∃ a' b', ((a' : Int32 × Int32).1 = b' ∧ ((a'.1 = -1 ∧ a'.2 = 0) ∨ ∃ c, c < K ∧ a'.1 = nI c ∧ a'.2 = σ 1 (24 * 0 + c) 7)) ∧ f_X7_mostRounds_6 n σ (nI k) (σ 1 (24 * 0 + k) 7) (nI (k + 1)) = f_X7_mostRounds_6 n σ a'.1 a'.2 (nI (k + 1)) ∧ f_X8_mostRounds_9 m (sup ρ 8 0 8 0) (nI k) (nI (k + 1)) = f_X8_mostRounds_9 m (sup ρ 8 0 8 0) b' (nI (k + 1)) := ⟨(nI k, σ 1 (24 * 0 + k) 7), nI k, ⟨rfl, Or.inr ⟨k, hk, rfl, rfl⟩⟩, rfl, rfl⟩
    rcases hI with ⟨rfl, rfl⟩ | ⟨c, hc, rfl, rfl⟩
    · rw [if_pos rfl]
      by_cases w : σ 1 (24 * 0 + k) 7 ≤ 0
      · rw [if_pos w, if_pos w]
        exact ⟨(-1, 0), _, ⟨rfl, Or.inl ⟨rfl, rfl⟩⟩, rfl, rfl⟩
      · rw [if_neg w, if_neg w]
        exact yes
    · have e7' : (sup ρ 8 0 8 0) 30 0 (223 + c) = σ 1 (24 * 0 + c) 7 := (B_call h2 hc).2.2.2.2.2.2.2.1
      rw [if_neg (nm_n (by omega))]
      simp (disch := omega) only [l_223, ni_nn, ni_cl, p_nle, false_or, if_false, e7']
      by_cases w : σ 1 (24 * 0 + k) 7 ≤ σ 1 (24 * 0 + c) 7
      · rw [if_pos w, if_pos w]
        exact ⟨(nI c, σ 1 (24 * 0 + c) 7), _, ⟨rfl, Or.inr ⟨c, hc, rfl, rfl⟩⟩, rfl, rfl⟩
      · rw [if_neg w, if_neg w]
        exact yes) (by
    rintro n m ⟨a, y⟩ b ⟨rfl, -⟩
    dsimp only
    simp (disch := omega) only [f_X7_mostRounds_6_s, f_X8_mostRounds_9_s, A_K h1, B_K h2, ni_le, Nat.le_refl, if_true, f_X7_mostRounds_54, f_X8_mostRounds_59]
    exact ⟨_, _, rfl, rfl, _, rfl, rfl⟩) (a := (-1, 0)) (b := -1) ⟨rfl, Or.inl ⟨rfl, rfl⟩⟩
  exact ⟨x, σ, _, i1, (by unfold f_X8_mostRounds; rw [p_st]; exact i2), hR.thr 0⟩
def W_made (v : Sg) (K : Nat) (f : Int32) : Int32 := fo (fun k a => if v 1 k 3 = 0 then a else if v 1 k 0 = f then a + 1 else a) K 0
theorem a_made {F C K M T U j : Nat} {σ : Sg} {r : Nat → Int32} (h : LU F C K M T U (vw j σ) r) (f : Int32) : f_X4_madeFrom σ j f = some (W_made (vw j σ) K f, σ) := by
  have hK := D_K h
  refine qrun (fun n a i => f_X4_madeFrom_4 n σ j f a i) (fun k (a : Int32) => if vw j σ 1 k 3 = 0 then a else if vw j σ 1 k 0 = f then a + 1 else a) K 0 (by omega) (fun n k a hk => ?_) (fun n => ?_)
  · simp (disch := omega) only [f_X4_madeFrom_4_s, f_X4_madeFrom_40, A_K h, ni_le, p_nle, if_false, ni_nn, ni_cl, false_or, ni_1]
    show (if σ 1 (24 * j + k) 3 = 0 then _ else if σ 1 (24 * j + k) 0 = f then _ else _) = f_X4_madeFrom_4 n σ j f (if σ 1 (24 * j + k) 3 = 0 then a else if σ 1 (24 * j + k) 0 = f then a + 1 else a) (nI (k + 1))
    split
    · rfl
    · split <;> rfl
  · simp (disch := omega) only [f_X4_madeFrom_4_s, A_K h, ni_le, Nat.le_refl, if_true, f_X4_madeFrom_46]
    rfl
theorem b_made {F C K M T U : Nat} {v ρ : Sg} (h : LU F C K M T U v (ρ 30 0)) (kk : Sg → Int32 → Int32 → Int32 → Option (Int32 × Sg)) (x y f : Int32) : f_X8_fullestFloor_27 kk FU ρ x y f 0 0 = f_X8_fullestFloor_81 kk ρ x y f (W_made v K f) := by
  have hK := D_K h
  refine qrun (fun n a i => f_X8_fullestFloor_27 kk n ρ x y f a i) (fun k (a : Int32) => if v 1 k 3 = 0 then a else if v 1 k 0 = f then a + 1 else a) K 0 (by omega) (fun n k a hk => ?_) (fun n => ?_)
  · obtain ⟨e0, e1, e2, e3, -⟩ := B_call h hk
    simp (disch := omega) only [f_X8_fullestFloor_27_s, f_X8_fullestFloor_71, f_X8_fullestFloor_72, B_K h, ni_le, p_nle, if_false, l_127, l_55, ni_nn, ni_cl, false_or, ni_1, e3, e0, Int32.add_zero]
    split
    · rfl
    · split <;> rfl
  · simp (disch := omega) only [f_X8_fullestFloor_27_s, B_K h, ni_le, Nat.le_refl, if_true]
    rfl
theorem E1_fullestFloor : E_fullestFloor RelN := by
  intro nn σ ρ hn hR
  obtain ⟨⟨F, C, K, M, T, hC1, hT, hL⟩, -⟩ := id hR
  have h1 := hL.1
  have h2 : LU F C K M T T (vw 0 σ) ((sup ρ 8 0 8 0) 30 0) := h1.thr 0
  have dK := D_K h1
  have dC := D_C h1
  have dF := D_F h1
  obtain ⟨r1, r2, i1, i2, x, rfl, rfl⟩ := lpTF (fun n (a : Int32 × Int32) i => f_X7_fullestFloor_6 n σ a.1 a.2 i) (fun n (a : Int32 × Int32) i => f_X8_fullestFloor_11 n (sup ρ 8 0 8 0) a.1 a.2 i) F (by omega) (fun _ a b => a = b) (fun r1 r2 => ∃ x, r1 = (x, σ) ∧ r2 = (x, sup ρ 8 0 8 0)) (by
    rintro n m k a b hk rfl
    refine Or.inl ?_
    simp (disch := omega) only [f_X7_fullestFloor_6_s, f_X8_fullestFloor_11_s, f_X7_fullestFloor_38, A_F h1, B_F h2, a_made h1, ni_le, p_nle, if_false, ni_nn, ni_cl, false_or, p_bi, ni_1]
    rw [b_made h2]
    unfold f_X8_fullestFloor_81 f_X8_fullestFloor_95
    by_cases w : W_made (vw 0 σ) K (nI k) ≤ a.2
    · rw [if_pos w, if_neg (Int32.not_lt.mpr w), ni_1]
      exact ⟨a, _, rfl, rfl, rfl⟩
    · rw [if_neg w, if_pos (Int32.not_le.mp w), ni_1]
      exact ⟨(nI k, W_made (vw 0 σ) K (nI k)), _, rfl, rfl, rfl⟩) (by
    rintro n m a b rfl
    simp (disch := omega) only [f_X7_fullestFloor_6_s, f_X8_fullestFloor_11_s, A_F h1, B_F h2, ni_le, Nat.le_refl, if_true, f_X7_fullestFloor_44, f_X8_fullestFloor_101]
    exact ⟨_, _, rfl, rfl, _, rfl, rfl⟩) (a := (-1, 0)) (b := (-1, 0)) rfl
  exact ⟨x, σ, _, i1, (by unfold f_X8_fullestFloor; rw [p_st]; exact i2), hR.thr 0⟩
theorem E1_goal : E_goal RelN := by
  intro nn σ ρ v1 hn hR
  obtain ⟨⟨F, C, K, M, T, hC1, hT, hL⟩, -⟩ := id hR
  have h1 := hL.1
  have h2 : LU F C K M T T (vw 0 σ) ((sup ρ 8 0 8 0) 30 0) := h1.thr 0
  have dK := D_K h1
  have dC := D_C h1
  have dF := D_F h1
  rcases x_idx v1 (show C < 2147483648 by omega) with ⟨c, hc, rfl⟩ | hb
  · have g4 : ¬ (nI c < 0 ∨ 4 ≤ (nI c).toNatClampNeg) := by rw [gN (by omega) (by decide)]; exact id
    obtain ⟨a, ha, f0⟩ := (h1.2.2.2.1 c hc).2.1
    obtain ⟨b1, i1, i2⟩ := a_goal h1 hc ha f0
    obtain ⟨b2, i3, i4⟩ := b_goal h2 hc ha f0
    have e := i2.uniq i4
    subst e
    refine ⟨(0, b1, σ), b1, sup ρ 8 0 8 0, ?_, Or.inl rfl, ?_, hR.thr 0, s_thr ρ 0, fun _ => rfl⟩
    · unfold f_X7_goal
      rw [x_car0 (A_C h1) dC hc, p_bx0, if_neg g4, ni_cl (show c < 2147483648 by omega), i1, p_bi]
    · unfold f_X8_goal f_X8_goal_17
      rw [x_nc0 (B_C h1) dC hc, p_bi, if_pos rfl, i3, p_bi]
  · refine ⟨(1, 0, σ), 0, sup ρ 8 0 8 1, ?_, Or.inr rfl, ?_, hR.thr 1, s_thr ρ 1, fun h => absurd (show (1 : Nat) = 0 from h) (by decide)⟩
    · unfold f_X7_goal
      rw [x_car1 (A_C h1) hb]
      rfl
    · unfold f_X8_goal f_X8_goal_17
      rw [y_nc1 (B_C h1) dC hb, p_bi, if_neg (by decide)]

theorem E1_served : E_served RelN := by
  intro nn σ ρ v1 hn hR
  obtain ⟨⟨F, C, K, M, T, hC1, hT, hL⟩, -⟩ := id hR
  have h1 := hL.1
  have h2 : LU F C K M T T (vw 0 σ) ((sup ρ 8 0 8 0) 30 0) := h1.thr 0
  have dK := D_K h1
  have dC := D_C h1
  have dF := D_F h1
  rcases x_idx v1 (show C < 2147483648 by omega) with ⟨c, hc, rfl⟩ | hb
  · have g4 : ¬ (nI c < 0 ∨ 4 ≤ (nI c).toNatClampNeg) := by rw [gN (by omega) (by decide)]; exact id
    obtain ⟨r1, r2, i1, i2, x, rfl, rfl⟩ := lpTF (fun n (a : Int32) i => f_X7_served_9 n σ (nI c) a i) (fun n (a : Int32) i => f_X8_served_14 n (sup ρ 8 0 8 0) (nI c) a i) K (by omega) (fun _ a b => a = b) (fun r1 r2 => ∃ x, r1 = (0, x, σ) ∧ r2 = (x, sup ρ 8 0 8 0)) (by
      rintro n m k a b hk rfl
      have e4 : (sup ρ 8 0 8 0) 30 0 (151 + k) = σ 1 (24 * 0 + k) 4 := (B_call h2 hk).2.2.2.2.1
      refine Or.inl ?_
      simp (disch := omega) only [f_X7_served_9_s, f_X8_served_14_s, f_X7_served_39, f_X8_served_44, A_K h1, B_K h2, l_151, e4, ni_le, p_nle, if_false, ni_nn, ni_cl, false_or, p_bi, ni_1]
      by_cases w : σ 1 (24 * 0 + k) 4 = nI c
      · rw [if_pos w, if_pos w]
        exact ⟨a + 1, _, rfl, rfl, rfl⟩
      · rw [if_neg w, if_neg w, Int32.add_zero]
        exact ⟨a, _, rfl, rfl, rfl⟩) (by
      rintro n m a b rfl
      simp (disch := omega) only [f_X7_served_9_s, f_X8_served_14_s, A_K h1, B_K h2, ni_le, Nat.le_refl, if_true, f_X7_served_45, f_X8_served_52]
      exact ⟨_, _, rfl, rfl, _, rfl, rfl⟩) (a := 0) (b := 0) rfl
    refine ⟨(0, x, σ), x, sup ρ 8 0 8 0, ?_, Or.inl rfl, ?_, hR.thr 0, s_thr ρ 0, fun _ => rfl⟩
    · unfold f_X7_served
      rw [x_car0 (A_C h1) dC hc, p_bx0]
      exact i1
    · unfold f_X8_served
      rw [x_nc0 (B_C h1) dC hc, p_bi, if_pos rfl]
      exact i2
  · refine ⟨(1, 0, σ), 0, sup ρ 8 0 8 1, ?_, Or.inr rfl, ?_, hR.thr 1, s_thr ρ 1, fun h => absurd (show (1 : Nat) = 0 from h) (by decide)⟩
    · unfold f_X7_served
      rw [x_car1 (A_C h1) hb]
      rfl
    · unfold f_X8_served
      rw [y_nc1 (B_C h1) dC hb, p_bi, if_neg (by decide)]

theorem bt_fo (x : Int32) : ∀ n, n ≤ 24 → ∀ i, i < 32 → bt (fo (fun k (a : Int32) => a ||| (if bt x k = true then 1 <<< (nI k &&& 31) else 0)) n 0) i = (decide (i < n) && bt x i) := by
  intro n
  induction n with
  | zero => intro _ i _; show bt 0 i = _; rw [b_0, decide_eq_false (Nat.not_lt_zero i)]; rfl
  | succ n ih =>
    intro hn i hi
    have e := ih (by omega) i hi
    have sh : bt (1 <<< (nI n &&& 31)) i = decide (i = n) := by
      have := k_set (k := n) (i := i) (by omega) hi 0
      rw [Int32.zero_or, b_0] at this
      simpa using this
    show bt (fo _ n 0 ||| (if bt x n = true then _ else _)) i = _
    rw [b_or, e]
    cases hx : bt x n
    · rw [if_neg (by decide), b_0]
      by_cases w : i = n
      · subst w; simp [hx]
      · have : (i < n + 1) = (i < n) := by apply propext; omega
        simp [this]
    · rw [if_pos rfl, sh]
      by_cases w : i = n
      · subst w; simp [hx]
      · have : (i < n + 1) = (i < n) := by apply propext; omega
        simp [this, w]
theorem E1_riders : E_riders RelN := by
  intro nn σ ρ v1 hn hR
  obtain ⟨⟨F, C, K, M, T, hC1, hT, hL⟩, -⟩ := id hR
  have h1 := hL.1
  have h2 : LU F C K M T T (vw 0 σ) ((sup ρ 8 0 8 0) 30 0) := h1.thr 0
  have dK := D_K h1
  have dC := D_C h1
  have dF := D_F h1
  rcases x_idx v1 (show C < 2147483648 by omega) with ⟨c, hc, rfl⟩ | hb
  · have g4 : ¬ (nI c < 0 ∨ 4 ≤ (nI c).toNatClampNeg) := by rw [gN (by omega) (by decide)]; exact id
    have e : f_X8_riders_14 FU (sup ρ 8 0 8 0) (nI c) 0 0 = some (σ 2 (4 * 0 + c) 9, sup ρ 8 0 8 0) := by
      have mask : fo (fun k (a : Int32) => a ||| (if bt (vw 0 σ 2 c 9) k = true then 1 <<< (nI k &&& 31) else 0)) K 0 = vw 0 σ 2 c 9 := by
        refine b_ext (fun i hi => ?_)
        rw [bt_fo _ K dK i hi]
        by_cases w : i < K
        · rw [decide_eq_true w, Bool.true_and]
        · rw [decide_eq_false w, Bool.false_and, D_abd h1 hc i, decide_eq_false (fun q => w q.1)]
      refine (qrun (fun n (a : Int32) i => f_X8_riders_14 n (sup ρ 8 0 8 0) (nI c) a i) (fun k (a : Int32) => a ||| (if bt (vw 0 σ 2 c 9) k = true then 1 <<< (nI k &&& 31) else 0)) K 0 (r := some (vw 0 σ 2 c 9, sup ρ 8 0 8 0)) (by omega) (fun n k a hk => ?_) (fun n => ?_))
      · simp (disch := omega) only [f_X8_riders_14_s, f_X8_riders_41, B_K h2, b_isA h2 hc hk, W_b0, ni_le, p_nle, if_false, ni_nn, ni_cl, false_or, p_bi, ni_1]
        cases bt (vw 0 σ 2 c 9) k <;> rfl
      · rw [f_X8_riders_14_s, B_K h2, if_pos (by rw [ni_le (by omega) (by omega)]; exact Nat.le_refl K), mask]
        rfl
    refine ⟨(0, σ 2 (4 * 0 + c) 9, σ), σ 2 (4 * 0 + c) 9, sup ρ 8 0 8 0, ?_, Or.inl rfl, ?_, hR.thr 0, s_thr ρ 0, fun _ => rfl⟩
    · unfold f_X7_riders
      rw [x_car0 (A_C h1) dC hc, p_bx0, if_neg g4, ni_cl (show c < 2147483648 by omega)]
    · unfold f_X8_riders
      rw [x_nc0 (B_C h1) dC hc, p_bi, if_pos rfl, e]
  · refine ⟨(1, 0, σ), 0, sup ρ 8 0 8 1, ?_, Or.inr rfl, ?_, hR.thr 1, s_thr ρ 1, fun h => absurd (show (1 : Nat) = 0 from h) (by decide)⟩
    · unfold f_X7_riders
      rw [x_car1 (A_C h1) hb]
      rfl
    · unfold f_X8_riders
      rw [y_nc1 (B_C h1) dC hb, p_bi, if_neg (by decide)]

