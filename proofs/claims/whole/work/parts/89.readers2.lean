/-! readers: the rest; the input's length and bytes; the output -/
theorem E1_claimLeft : E_claimLeft RelN := by
  intro nn σ ρ v1 hn hR
  obtain ⟨⟨F, C, K, M, T, hC1, hT, hL⟩, -⟩ := id hR
  have h1 := hL.1
  have h2 : LU F C K M T T (vw 0 σ) ((sup ρ 8 0 8 0) 30 0) := h1.thr 0
  have dK := D_K h1
  have dC := D_C h1
  have dF := D_F h1
  rcases x_idx v1 (show K < 2147483648 by omega) with ⟨k, hk, rfl⟩ | hb
  · obtain ⟨-, -, -, e3, -, -, -, -, e8, -⟩ := B_call h2 hk
    have e3' : (sup ρ 8 0 8 0) 30 0 (127 + k) = σ 1 (24 * 0 + k) 3 := e3
    have e8' : (sup ρ 8 0 8 0) 30 0 (247 + k) = σ 1 (24 * 0 + k) 8 := e8
    have e5 : (sup ρ 8 0 8 0) 30 0 5 = σ 12 0 1 := (B_set h2).2.1
    have g : ¬ (nI k < 0 ∨ 24 ≤ (nI k).toNatClampNeg) := by rw [gN (by omega) (by decide)]; exact id
    have eA : f_X7_claimLeft σ (nI k) = if σ 1 (24 * 0 + k) 3 = 1 then (if 0 ≤ σ 1 (24 * 0 + k) 8 then some (0, jmax 0 ((σ 1 (24 * 0 + k) 9 + 10 * σ 12 0 1) - nI T), σ) else some (0, -1, σ)) else some (0, -1, σ) := by
      unfold f_X7_claimLeft f_X7_claimLeft_30
      rw [x_call0 (A_K h1) dK hk, p_bx0, if_neg g, ni_cl (show k < 2147483648 by omega), A_T h1]
    have eB : f_X8_claimLeft ρ (nI k) = if σ 1 (24 * 0 + k) 3 = 1 then (if σ 1 (24 * 0 + k) 8 = -1 then some (-1, sup ρ 8 0 8 0) else some (jmax 0 (((sup ρ 8 0 8 0) 30 0 (271 + k) + 10 * σ 12 0 1) - nI T), sup ρ 8 0 8 0)) else some (-1, sup ρ 8 0 8 0) := by
      unfold f_X8_claimLeft f_X8_claimLeft_37
      rw [x_nk0 (B_K h1) dK hk, p_bi, if_pos rfl]
      simp (disch := omega) only [l_127, l_247, l_271, ni_nn, ni_cl, p_nle, false_or, if_false, e3', e8', e5, B_T h2]
    by_cases w : σ 1 (24 * 0 + k) 3 = 1
    · rw [if_pos w] at eA eB
      rcases (h1.2.2.2.2.1 k hk).2.2.2.2.1 with f8 | ⟨c, hc, f8⟩
      · have f8' : σ 1 (24 * 0 + k) 8 = -1 := f8
        rw [f8', if_neg (by decide)] at eA
        rw [f8', if_pos rfl] at eB
        exact ⟨_, -1, _, eA, Or.inl rfl, eB, hR.thr 0, s_thr ρ 0, fun _ => rfl⟩
      · have f8' : σ 1 (24 * 0 + k) 8 = nI c := f8
        have f9 : (sup ρ 8 0 8 0) 30 0 (271 + k) = σ 1 (24 * 0 + k) 9 := (h2.2.2.2.2.1 k hk).2.1 (by rw [f8]; exact nm_n (by omega))
        rw [f8', if_pos (by rw [ni_ge0 (by omega)]; trivial)] at eA
        rw [f8', if_neg (nm_n (by omega)), f9] at eB
        exact ⟨_, _, _, eA, Or.inl rfl, eB, hR.thr 0, s_thr ρ 0, fun _ => rfl⟩
    · rw [if_neg w] at eA eB
      exact ⟨_, -1, _, eA, Or.inl rfl, eB, hR.thr 0, s_thr ρ 0, fun _ => rfl⟩
  · refine ⟨(1, 0, σ), 0, sup ρ 8 0 8 1, ?_, Or.inr rfl, ?_, hR.thr 1, s_thr ρ 1, fun h => absurd (show (1 : Nat) = 0 from h) (by decide)⟩
    · unfold f_X7_claimLeft
      rw [x_call1 (A_K h1) hb]
      rfl
    · unfold f_X8_claimLeft
      rw [y_nk1 (B_K h1) dK hb, p_bi, if_neg (by decide)]
theorem x_fl {F C K M T U : Nat} {σ ρ : Sg} (h : LU F C K M T U (vw 0 σ) (ρ 30 0)) (v : Int32) : (∃ f, f < F ∧ v = nI f ∧ f_X7_checkFloor σ v = some (0, 0, σ) ∧ f_X8_inRange (sup ρ 8 0 8 0) v 0 ((sup ρ 8 0 8 0) 30 0 0 - 1) = some (1, sup ρ 8 0 8 0)) ∨ (f_X7_checkFloor σ v = some (2, 0, σ) ∧ f_X8_inRange (sup ρ 8 0 8 0) v 0 ((sup ρ 8 0 8 0) 30 0 0 - 1) = some (0, sup ρ 8 0 8 0)) := by
  have dF := D_F h
  have rF : (sup ρ 8 0 8 0) 30 0 0 = nI F := by rw [s_30]; exact B_F h
  rw [rF]
  rcases x_idx v (show F < 2147483648 by omega) with ⟨f, hf, rfl⟩ | hb
  · exact Or.inl ⟨f, hf, rfl, x_floor0 (A_F h) dF hf, x_in1 _ (x_m1 hf (by omega)).1 (x_m1 hf (by omega)).2⟩
  · exact Or.inr ⟨x_floor1 (A_F h) hb, x_in0 _ (x_m hb (by omega))⟩
theorem E1_crowd : E_crowd RelN := by
  intro nn σ ρ v1 v2 hn hR hv2
  obtain ⟨⟨F, C, K, M, T, hC1, hT, hL⟩, -⟩ := id hR
  have h1 := hL.1
  have h2 : LU F C K M T T (vw 0 σ) ((sup ρ 8 0 8 0) 30 0) := h1.thr 0
  have dK := D_K h1
  have dC := D_C h1
  have dF := D_F h1
  rcases x_fl h1 v1 with ⟨f, hf, rfl, q1, q2⟩ | ⟨q1, q2⟩
  · obtain ⟨r1, r2, i1, i2, x, rfl, rfl⟩ := lpTF (fun n (a : Int32) i => f_X7_crowd_10 n σ (nI f) v2 a i) (fun n (a : Int32) i => f_X8_crowd_41 n (sup ρ 8 0 8 0) (nI f) v2 a i) K (by omega) (fun _ a b => a = b) (fun r1 r2 => ∃ x, r1 = (0, x, σ) ∧ r2 = (x, sup ρ 8 0 8 0)) (by
      rintro n m k a b hk rfl
      obtain ⟨e0, e1, e2, e3, -⟩ := B_call h2 hk
      have e0' : (sup ρ 8 0 8 0) 30 0 (55 + k) = σ 1 (24 * 0 + k) 0 := e0
      have e1' : (sup ρ 8 0 8 0) 30 0 (79 + k) = σ 1 (24 * 0 + k) 1 := e1
      have e3' : (sup ρ 8 0 8 0) 30 0 (127 + k) = σ 1 (24 * 0 + k) 3 := e3
      refine Or.inl ?_
      simp (disch := omega) only [f_X7_crowd_10_s, f_X8_crowd_41_s, f_X7_crowd_66, f_X7_crowd_73, f_X8_crowd_100, f_X8_crowd_108, f_X8_crowd_109, A_K h1, B_K h2, l_127, l_55, l_79, e0', e1', e3', ni_le, p_nle, if_false, ni_nn, ni_cl, false_or, p_bi, ni_1, Int32.add_zero]
      by_cases w3 : σ 1 (24 * 0 + k) 3 = 1
      · rw [if_pos w3, if_pos w3]
        by_cases w0 : σ 1 (24 * 0 + k) 0 = nI f
        · rw [if_pos w0, if_pos w0]
          by_cases w1 : σ 1 (24 * 0 + k) 1 ≤ nI f
          · rw [if_pos w1, if_pos w1]
            by_cases w2 : (0 : Int32) = v2
            · rw [if_pos w2, if_pos w2]
              exact ⟨_, _, rfl, rfl, rfl⟩
            · rw [if_neg w2, if_neg w2]
              exact ⟨_, _, rfl, rfl, rfl⟩
          · rw [if_neg w1, if_neg w1]
            by_cases w2 : (1 : Int32) = v2
            · rw [if_pos w2, if_pos w2]
              exact ⟨_, _, rfl, rfl, rfl⟩
            · rw [if_neg w2, if_neg w2]
              exact ⟨_, _, rfl, rfl, rfl⟩
        · rw [if_neg w0, if_neg w0]
          exact ⟨_, _, rfl, rfl, rfl⟩
      · rw [if_neg w3, if_neg w3]
        exact ⟨_, _, rfl, rfl, rfl⟩) (by
      rintro n m a b rfl
      simp (disch := omega) only [f_X7_crowd_10_s, f_X8_crowd_41_s, A_K h1, B_K h2, ni_le, Nat.le_refl, if_true, f_X7_crowd_79, f_X8_crowd_117]
      exact ⟨_, _, rfl, rfl, _, rfl, rfl⟩) (a := 0) (b := 0) rfl
    refine ⟨(0, x, σ), x, sup ρ 8 0 8 0, ?_, Or.inl rfl, ?_, hR.thr 0, s_thr ρ 0, fun _ => rfl⟩
    · unfold f_X7_crowd
      rw [q1, p_bx0]
      exact i1
    · unfold f_X8_crowd f_X8_crowd_27
      rw [p_st, q2, p_bi, if_neg (by decide), x_f0, p_bi, if_pos rfl]
      exact i2
  · refine ⟨(2, 0, σ), 0, sup ρ 8 0 8 1, ?_, Or.inr rfl, ?_, hR.thr 1, s_thr ρ 1, fun h => absurd (show (2 : Nat) = 0 from h) (by decide)⟩
    · unfold f_X7_crowd
      rw [q1]
      rfl
    · unfold f_X8_crowd f_X8_crowd_27
      rw [p_st, q2, p_bi, if_pos rfl, x_f1, p_bi, if_neg (by decide), s_ss]
theorem E1_cheapest : E_cheapest RelN := by
  intro nn σ ρ v1 hn hR
  obtain ⟨⟨F, C, K, M, T, hC1, hT, hL⟩, -⟩ := id hR
  have h1 := hL.1
  have h2 : LU F C K M T T (vw 0 σ) ((sup ρ 8 0 8 0) 30 0) := h1.thr 0
  have dK := D_K h1
  have dC := D_C h1
  have dF := D_F h1
  rcases x_fl h1 v1 with ⟨f, hf, rfl, q1, q2⟩ | ⟨q1, q2⟩
  · obtain ⟨r1, r2, i1, i2, x, rfl, rfl⟩ := lpTF (fun n (a : Int32 × Int32) i => f_X7_cheapest_12 n σ (nI f) a.1 a.2 i) (fun n (a : Int32) i => f_X8_cheapest_40 n (sup ρ 8 0 8 0) (nI f) a i) C (by omega) (fun _ a b => a.1 = b ∧ (a.1 = -1 ∨ ∃ c, c < C ∧ a.1 = nI c ∧ a.2 = W_cost (vw 0 σ) c (nI f))) (fun r1 r2 => ∃ x, r1 = (0, x, σ) ∧ r2 = (x, sup ρ 8 0 8 0)) (by
      rintro n m c ⟨a, y⟩ b hc ⟨rfl, hI⟩
      have e3 : (sup ρ 8 0 8 0) 30 0 (35 + c) = σ 2 (4 * 0 + c) 3 := (B_car h2 hc).2.2.2.1
      have st : σ 2 (4 * 0 + c) 3 = 0 ∨ σ 2 (4 * 0 + c) 3 = 1 := (h1.2.2.2.1 c hc).2.2.2.2.1
      dsimp only at hI ⊢
      refine Or.inl ?_
      simp (disch := omega) only [f_X7_cheapest_12_s, f_X8_cheapest_40_s, f_X7_cheapest_62, f_X7_cheapest_68, f_X8_cheapest_86, f_X8_cheapest_88, A_C h1, B_C h2, a_cost h1 hc, b_cost h2 hc hf, l_35, e3, ni_le, p_nle, if_false, ni_nn, ni_cl, false_or, p_bi, ni_1]
      rcases st with st | st
      · rw [st, if_pos (show (0 : Int32) = 0 from rfl), if_neg (show ¬ (0 : Int32) = 1 by decide)]
        have yes : ∃ a' b', ((a' : Int32 × Int32).1 = b' ∧ (a'.1 = -1 ∨ ∃ c, c < C ∧ a'.1 = nI c ∧ a'.2 = W_cost (vw 0 σ) c (nI f))) ∧ f_X7_cheapest_12 n σ (nI f) (nI c) (W_cost (vw 0 σ) c (nI f)) (nI (c + 1)) = f_X7_cheapest_12 n σ (nI f) a'.1 a'.2 (nI (c + 1)) ∧ f_X8_cheapest_40 m (sup ρ 8 0 8 0) (nI f) (nI c) (nI (c + 1)) = f_X8_cheapest_40 m (sup ρ 8 0 8 0) (nI f) b' (nI (c + 1)) := ⟨(nI c, W_cost (vw 0 σ) c (nI f)), nI c, ⟨rfl, Or.inr ⟨c, hc, rfl, rfl⟩⟩, rfl, rfl⟩
        rcases hI with rfl | ⟨c', hc', rfl, rfl⟩
        · rw [if_pos (by decide), if_pos rfl]
          exact yes
        · rw [if_neg (by rw [ni_nn (by omega)]; exact id), if_neg (nm_n (by omega)), b_cost h2 hc' hf, p_bi]
          by_cases w : W_cost (vw 0 σ) c' (nI f) ≤ W_cost (vw 0 σ) c (nI f)
          · rw [if_pos w, if_pos w]
            exact ⟨(nI c', W_cost (vw 0 σ) c' (nI f)), _, ⟨rfl, Or.inr ⟨c', hc', rfl, rfl⟩⟩, rfl, rfl⟩
          · rw [if_neg w, if_neg w]
            exact yes
      · rw [st, if_neg (show ¬ (1 : Int32) = 0 by decide), if_pos (show (1 : Int32) = 1 from rfl)]
        exact ⟨(a, y), _, ⟨rfl, hI⟩, rfl, rfl⟩) (by
      rintro n m ⟨a, y⟩ b ⟨rfl, -⟩
      dsimp only
      simp (disch := omega) only [f_X7_cheapest_12_s, f_X8_cheapest_40_s, A_C h1, B_C h2, ni_le, Nat.le_refl, if_true, f_X7_cheapest_74, f_X8_cheapest_94]
      exact ⟨_, _, rfl, rfl, _, rfl, rfl⟩) (a := (-1, 0)) (b := -1) ⟨rfl, Or.inl rfl⟩
    refine ⟨(0, x, σ), x, sup ρ 8 0 8 0, ?_, Or.inl rfl, ?_, hR.thr 0, s_thr ρ 0, fun _ => rfl⟩
    · unfold f_X7_cheapest
      rw [q1, p_bx0]
      exact i1
    · unfold f_X8_cheapest f_X8_cheapest_27
      rw [p_st, q2, p_bi, if_neg (by decide), x_f0, p_bi, if_pos rfl]
      exact i2
  · refine ⟨(2, 0, σ), 0, sup ρ 8 0 8 1, ?_, Or.inr rfl, ?_, hR.thr 1, s_thr ρ 1, fun h => absurd (show (2 : Nat) = 0 from h) (by decide)⟩
    · unfold f_X7_cheapest
      rw [q1]
      rfl
    · unfold f_X8_cheapest f_X8_cheapest_27
      rw [p_st, q2, p_bi, if_pos rfl, x_f1, p_bi, if_neg (by decide), s_ss]
theorem E1_knownBest : E_knownBest RelN := by
  intro nn σ ρ v1 v2 hn hR
  obtain ⟨⟨F, C, K, M, T, hC1, hT, hL⟩, -⟩ := id hR
  have h1 := hL.1
  have h2 : LU F C K M T T (vw 0 σ) ((sup ρ 8 0 8 0) 30 0) := h1.thr 0
  have dK := D_K h1
  have dC := D_C h1
  have dF := D_F h1
  rcases x_idx v1 (show C < 2147483648 by omega) with ⟨c, hc, rfl⟩ | hb
  · rcases x_idx v2 (show K < 2147483648 by omega) with ⟨k, hk, rfl⟩ | hb
    · have own : ∃ x, f_X2_knownOwnCost σ (4 * 0 + c) (nI k) = some (x, σ) ∧ (x = -1 ∨ ∃ n, n ≤ 1000 ∧ x = nI n) ∧ ∀ (kk : Sg → Int32 → Option (Int32 × Sg)), (bi (f_X8_knowsOwn (sup ρ 8 0 8 0) (nI c) (nI k)) fun r4 σ3 => (if r4 = 0 then kk σ3 (-1) else (bi (f_X8_of σ3 415 (nI c) (nI k)) fun r6 σ5 => (if r6 < 0 ∨ 2111 ≤ (r6).toNatClampNeg then none else kk σ5 (σ5 30 0 (r6).toNatClampNeg))))) = kk (sup ρ 8 0 8 0) x := by
        refine ⟨W_own (vw 0 σ) c k, a_own h1 (by omega) hc hk, ?_, fun kk => ?_⟩
        · unfold W_own
          by_cases hq : bt (vw 0 σ 2 c 8) k = true ∨ vw 0 σ 17 c k ≠ -1
          · rw [if_pos hq]
            obtain ⟨-, n, hn, e⟩ := (h1.2.2.2.2.2.2.2.1 c hc k hk).2.2.2.1 hq
            exact Or.inr ⟨n, hn, e⟩
          · rw [if_neg hq]
            exact Or.inl rfl
        · rw [b_knows h2 hc hk, p_bi]
          simp only [W_b0]
          unfold W_own
          by_cases hq : bt (vw 0 σ 2 c 8) k = true ∨ vw 0 σ 17 c k ≠ -1
          · rw [if_neg (by rw [decide_eq_true hq]; decide), if_pos hq, b_of415, p_bi, if_neg (by rw [gN (by omega) (by decide)]; exact id), ni_cl (by omega), b_ownC h2 hc hk hq]
          · rw [if_pos (decide_eq_false hq), if_neg hq]
      obtain ⟨xo, o1, o2, o3⟩ := own
      obtain ⟨r1, r2, i1, i2, x, rfl, rfl⟩ := lpTF (fun n (a : Int32 × Int32) i => f_X7_knownBest_29 n σ (nI c) (nI k) (4 * 0 + c) a.1 a.2 i) (fun n (a : Int32 × Int32) i => f_X8_knownBest_19 n (sup ρ 8 0 8 0) (nI c) (nI k) a.1 a.2 i) C (by omega) (fun _ a b => a = b ∧ (a.1 = -1 ∨ ∃ c, c < C ∧ a.1 = nI c)) (fun r1 r2 => ∃ x, r1 = (0, x, σ) ∧ r2 = (x, sup ρ 8 0 8 0)) (by
        rintro n m q ⟨a, y⟩ b hq ⟨rfl, hI⟩
        dsimp only at hI ⊢
        refine Or.inl ?_
        have step : ∀ z : Int32, (z = -1 ∨ ∃ n, n ≤ 1000 ∧ z = nI n) → ∃ a' b', (a' = b' ∧ ((a' : Int32 × Int32).1 = -1 ∨ ∃ c, c < C ∧ a'.1 = nI c)) ∧ f_X7_knownBest_62 (f_X7_knownBest_29 n) σ (nI c) (nI k) (4 * 0 + c) a y (nI q) z = f_X7_knownBest_29 n σ (nI c) (nI k) (4 * 0 + c) a'.1 a'.2 (nI (q + 1)) ∧ f_X8_knownBest_78 (f_X8_knownBest_19 m) (sup ρ 8 0 8 0) (nI c) (nI k) a y (nI q) z = f_X8_knownBest_19 m (sup ρ 8 0 8 0) (nI c) (nI k) b'.1 b'.2 (nI (q + 1)) := by
          intro z hz
          unfold f_X7_knownBest_62 f_X7_knownBest_81 f_X7_knownBest_89 f_X8_knownBest_78 f_X8_knownBest_99 f_X8_knownBest_106
          rw [ni_1]
          rcases hz with rfl | ⟨zz, hz, rfl⟩
          · rw [if_pos (by decide), if_pos rfl]
            exact ⟨(a, y), _, ⟨rfl, hI⟩, rfl, rfl⟩
          · rw [if_neg (by rw [ni_nn (by omega)]; exact id), if_neg (nm_n (by omega))]
            rcases hI with rfl | ⟨c', hc', rfl⟩
            · rw [if_pos (by decide), if_pos rfl]
              exact ⟨(nI q, nI zz), _, ⟨rfl, Or.inr ⟨q, hq, rfl⟩⟩, rfl, rfl⟩
            · rw [if_neg (by rw [ni_nn (by omega)]; exact id), if_neg (nm_n (by omega))]
              by_cases w : y ≤ nI zz
              · rw [if_pos w, if_neg (Int32.not_lt.mpr w)]
                exact ⟨(nI c', y), _, ⟨rfl, Or.inr ⟨c', hc', rfl⟩⟩, rfl, rfl⟩
              · rw [if_neg w, if_pos (Int32.not_le.mp w)]
                exact ⟨(nI q, nI zz), _, ⟨rfl, Or.inr ⟨q, hq, rfl⟩⟩, rfl, rfl⟩
        simp (disch := omega) only [f_X7_knownBest_29_s, f_X8_knownBest_19_s, f_X8_knownBest_76, A_C h1, B_C h2, b_at, ni_le, p_nle, if_false, ni_nn, ni_cl, false_or, p_bi, ni_1]
        by_cases w : nI q = nI c
        · rw [if_pos w, if_pos w, o1, p_bi, o3 (fun s z => f_X8_knownBest_78 (f_X8_knownBest_19 m) s (nI c) (nI k) a y (nI q) z)]
          exact step xo o2
        · rw [if_neg w, if_neg w, a_noted σ _ (show k < 24 by omega) (show q < 4 by omega), p_bi, b_noted h2 hc hk (show q < 4 by omega)]
          exact step _ ((h1.2.2.2.2.2.2.2.1 c hc k hk).2.2.2.2.2 q (by omega))) (by
        rintro n m a b ⟨rfl, -⟩
        simp (disch := omega) only [f_X7_knownBest_29_s, f_X8_knownBest_19_s, A_C h1, B_C h2, ni_le, Nat.le_refl, if_true, f_X7_knownBest_95, f_X8_knownBest_112]
        exact ⟨_, _, rfl, rfl, _, rfl, rfl⟩) (a := (-1, 0)) (b := (-1, 0)) ⟨rfl, Or.inl rfl⟩
      refine ⟨(0, x, σ), x, sup ρ 8 0 8 0, ?_, Or.inl rfl, ?_, hR.thr 0, s_thr ρ 0, fun _ => rfl⟩
      · unfold f_X7_knownBest
        rw [x_car0 (A_C h1) dC hc, p_bx0, x_call0 (A_K h1) dK hk, p_bx0, if_neg (by rw [gN (by omega) (by decide)]; exact id), ni_cl (by omega)]
        exact i1
      · unfold f_X8_knownBest
        rw [y_np0 (B_C h1) dC hc (B_K h1) dK hk, p_bi, if_pos rfl]
        exact i2
    · refine ⟨(1, 0, σ), 0, sup ρ 8 0 8 1, ?_, Or.inr rfl, ?_, hR.thr 1, s_thr ρ 1, fun h => absurd (show (1 : Nat) = 0 from h) (by decide)⟩
      · unfold f_X7_knownBest
        rw [x_car0 (A_C h1) dC hc, p_bx0, x_call1 (A_K h1) hb]
        rfl
      · unfold f_X8_knownBest 
        rw [y_np2 (B_C h1) dC hc (B_K h1) dK hb, p_bi, if_neg (by decide)]
  · refine ⟨(1, 0, σ), 0, sup ρ 8 0 8 1, ?_, Or.inr rfl, ?_, hR.thr 1, s_thr ρ 1, fun h => absurd (show (1 : Nat) = 0 from h) (by decide)⟩
    · unfold f_X7_knownBest
      rw [x_car1 (A_C h1) hb]
      rfl
    · unfold f_X8_knownBest 
      rw [y_np1 (B_C h1) dC hb, p_bi, if_neg (by decide)]
theorem E1_nobody : E_nobody RelN := by
  intro nn σ ρ v1 hn hR
  obtain ⟨⟨F, C, K, M, T, hC1, hT, hL⟩, -⟩ := id hR
  have h1 := hL.1
  have h2 : LU F C K M T T (vw 0 σ) ((sup ρ 8 0 8 0) 30 0) := h1.thr 0
  have dK := D_K h1
  have dC := D_C h1
  have dF := D_F h1
  have bad : (v1 < 1 ∨ (4 : Int32) < v1) → ∃ (q : Xr) (w : Int32) (ρ' : Sg), f_X7_nobody σ v1 = some q ∧ (q.1 = 0 ∨ q.1 = 2) ∧ f_X8_nobody ρ v1 = some (w, ρ') ∧ RelN (nn + 1) q.2.2 ρ' ∧ ρ' 8 0 8 = L_k [(2, 1)] q.1 ∧ (q.1 = 0 → q.2.1 = w) := fun hb => by
    refine ⟨(2, 0, σ), 0, sup ρ 8 0 8 1, ?_, Or.inr rfl, ?_, hR.thr 1, s_thr ρ 1, fun h => absurd (show (2 : Nat) = 0 from h) (by decide)⟩
    · unfold f_X7_nobody
      rw [x_rg1 hb]
      rfl
    · unfold f_X8_nobody f_X8_nobody_20 f_X8_nobody_42
      rw [p_st, x_in0 _ hb, p_bi, if_pos rfl, x_f1, p_bi, if_neg (by decide), s_ss]
  rcases x_rng v1 4 (by decide) with ⟨d, hd, rfl⟩ | hb
  · rcases Nat.eq_zero_or_pos d with rfl | h0
    · exact bad (Or.inl (by decide))
    · obtain ⟨i, rfl⟩ : ∃ i, d = i + 1 := ⟨d - 1, by omega⟩
      have e : (sup ρ 8 0 8 0) 30 0 (19 + i) = σ 15 0 (i + 1) := (h2.2.2.1 i (by omega)).2.2.1
      have g0 : ¬ (nI (i + 1) < 1) := by rw [show (1 : Int32) = nI 1 from rfl, ni_lt (by omega) (by omega)]; omega
      have g1 : ¬ ((4 : Int32) < nI (i + 1)) := by rw [show (4 : Int32) = nI 4 from rfl, ni_lt (by omega) (by omega)]; omega
      refine ⟨(0, σ 15 0 (i + 1), σ), σ 15 0 (i + 1), sup ρ 8 0 8 0, ?_, Or.inl rfl, ?_, hR.thr 0, s_thr ρ 0, fun _ => rfl⟩
      · unfold f_X7_nobody
        rw [x_rg0 g0 g1, p_bx0, if_neg (by rw [gN (by omega) (by decide)]; exact id), ni_cl (by omega)]
      · unfold f_X8_nobody f_X8_nobody_20 f_X8_nobody_42
        rw [p_st, x_in1 _ g0 g1, p_bi, if_neg (by decide), x_f0, p_bi, if_pos rfl, l_19, show nI (19 + (i + 1)) - 1 = nI (19 + i) from ni_sub (b := 1) (by omega), if_neg (by rw [gN (by omega) (by decide)]; exact id), ni_cl (by omega), e]
  · refine bad ?_
    rcases hb with hb | hb
    · refine Or.inl ?_
      rw [Int32.lt_iff_toInt_lt] at hb ⊢
      have e0 : (0 : Int32).toInt = 0 := by decide
      have e1 : (1 : Int32).toInt = 1 := by decide
      omega
    · exact Or.inr hb
theorem E1_outputByte : E_outputByte RelN := by
  intro nn σ ρ v1 hn hR
  obtain ⟨-, -, ⟨n, hn30, e5, e22, hO⟩, -⟩ := id hR
  have e22' : (sup ρ 8 0 8 0) 8 0 22 = nI n := by rw [s_nf (by decide)]; exact e22
  rcases x_idx v1 (show n < 2147483648 by omega) with ⟨i, hi, rfl⟩ | hb
  · refine ⟨σ 11 0 i, σ, sup ρ 8 0 8 0, ?_, ?_, hR.thr 0⟩
    · unfold f_X7_outputByte
      rw [e5, if_neg (by rw [ni_nn (by omega)]; exact id), if_pos (by rw [ni_lt (by omega) (by omega)]; exact hi), if_neg (by rw [gN (by omega) (by decide)]; exact id), ni_cl (by omega)]
    · unfold f_X8_outputByte f_X8_outputByte_29
      rw [p_st, e22', x_in1 _ (x_m1 hi (by omega)).1 (x_m1 hi (by omega)).2, p_bi, if_neg (by decide), if_neg (by rw [gN (by omega) (by decide)]; exact id), ni_cl (by omega), s_38, hO i hi]
  · refine ⟨-1, σ, sup ρ 8 0 8 0, ?_, ?_, hR.thr 0⟩
    · unfold f_X7_outputByte f_X7_outputByte_12
      by_cases w : v1 < 0
      · rw [if_pos w]
      · rw [if_neg w, e5, if_neg (Int32.not_lt.mpr (hb.resolve_left w))]
    · unfold f_X8_outputByte f_X8_outputByte_29
      rw [p_st, e22', x_in0 _ (x_m hb (by omega)), p_bi, if_pos rfl]
