/-! printCar; appendInput, truncateInput -/
section PC
variable {F C K M T U j : Nat} {σ ρ v : Sg} {r : Nat → Int32}
def W_to (v : Sg) (c : Nat) (f : Int32) (k : Nat) : Bool := bt (v 2 c 9) k && decide (v 1 k 1 = f)
def W_fr (v : Sg) (c : Nat) (f : Int32) (k : Nat) : Bool := bt (v 2 c 8) k && decide (v 1 k 0 = f)
def W_sgn (v : Sg) (c K : Nat) (f : Int32) : Int32 := if v 2 c 0 = f then 79 else if an (W_to v c f) K = true then 43 else if an (W_fr v c f) K = true then 45 else 46
theorem a_sgn (h : LU F C K M T U (vw j σ) r) {c : Nat} (hc : c < C) (f : Int32) : f_X4_shaftSign σ j (4 * j + c) f = some (W_sgn (vw j σ) c K f, σ) := by
  have hK := D_K h
  unfold f_X4_shaftSign W_sgn
  rw [show vw j σ 2 c 0 = σ 2 (4 * j + c) 0 from rfl]
  by_cases w : σ 2 (4 * j + c) 0 = f
  · rw [if_pos w, if_pos w]
  · rw [if_neg w, if_neg w]
    obtain ⟨x, i1, i2⟩ := lpG (fun n (y : Int32) i => f_X4_shaftSign_17 n σ j (4 * j + c) f y i) K (fun k y => y = (if an (W_fr (vw j σ) c f) k = true then 45 else 46) ∧ ∀ i, i < k → W_to (vw j σ) c f i = false) (fun r => r = (if an (W_to (vw j σ) c f) K = true then 43 else if an (W_fr (vw j σ) c f) K = true then 45 else 46, σ)) (by
      rintro n k y hk ⟨hy, hN⟩
      simp (disch := omega) only [f_X4_shaftSign_17_s, f_X4_shaftSign_52, f_X4_shaftSign_78, f_X4_shaftSign_49, A_K h, ni_le, p_nle, if_false, ni_nn, ni_cl, false_or, a_isC, a_isH, p_bi, W_b0, ni_1]
      have e1 : W_to (vw j σ) c f k = (bt (σ 2 (4 * j + c) 9) k && decide (σ 1 (24 * j + k) 1 = f)) := rfl
      have e2 : W_fr (vw j σ) c f k = (bt (σ 2 (4 * j + c) 8) k && decide (σ 1 (24 * j + k) 0 = f)) := rfl
      cases hT : W_to (vw j σ) c f k
      · have nxt : ∃ s', (s' = (if an (W_fr (vw j σ) c f) (k + 1) = true then (45 : Int32) else 46) ∧ ∀ i, i < k + 1 → W_to (vw j σ) c f i = false) ∧ (if bt (σ 2 (4 * j + c) 8) k = false then f_X4_shaftSign_17 n σ j (4 * j + c) f y (nI (k + 1)) else if σ 1 (24 * j + k) 0 = f then f_X4_shaftSign_17 n σ j (4 * j + c) f 45 (nI (k + 1)) else f_X4_shaftSign_17 n σ j (4 * j + c) f y (nI (k + 1))) = f_X4_shaftSign_17 n σ j (4 * j + c) f s' (nI (k + 1)) := by
          refine ⟨_, ⟨rfl, fun i hi => ?_⟩, ?_⟩
          · by_cases q : i = k
            · subst q; exact hT
            · exact hN i (by omega)
          · rw [an_s, e2, hy]
            cases bt (σ 2 (4 * j + c) 8) k
            · rw [if_pos rfl, Bool.false_and, Bool.or_false]
            · rw [if_neg (show ¬ true = false by decide), Bool.true_and]
              by_cases w2 : σ 1 (24 * j + k) 0 = f
              · rw [if_pos w2, decide_eq_true w2, Bool.or_true, if_pos rfl]
              · rw [if_neg w2, decide_eq_false w2, Bool.or_false]
        rw [e1] at hT
        cases h9 : bt (σ 2 (4 * j + c) 9) k
        · rw [if_pos rfl]
          exact Or.inl nxt
        · rw [h9, Bool.true_and] at hT
          rw [if_neg (show ¬ true = false by decide), if_neg (of_decide_eq_false hT)]
          exact Or.inl nxt
      · have hT' := hT
        rw [e1] at hT'
        rw [Bool.and_eq_true] at hT'
        rw [hT'.1, if_neg (show ¬ true = false by decide), if_pos (of_decide_eq_true hT'.2)]
        exact Or.inr ⟨_, rfl, by rw [an_yes hk hT, if_pos rfl]⟩) (by
      rintro n y ⟨hy, hN⟩
      refine ⟨(y, σ), ?_, ?_⟩
      · show f_X4_shaftSign_17 (n + 1) σ j (4 * j + c) f y (nI K) = _
        rw [f_X4_shaftSign_17_s, A_K h, if_pos (by rw [ni_le (by omega) (by omega)]; exact Nat.le_refl K)]
        rfl
      · rw [an_no hN, if_neg (show ¬ false = true by decide), hy]) FU 0 46 (Nat.zero_le _) (by show K - 0 < 65536; omega) ⟨rfl, fun i hi => absurd hi (Nat.not_lt_zero i)⟩
    rw [← i2]
    exact i1
theorem b_sgn (h : LU F C K M T U v (ρ 30 0)) {c : Nat} (hc : c < C) (f : Int32) : f_X8_signAt ρ (nI c) f = some (W_sgn v c K f, ρ) := by
  have hK := D_K h
  have hC := D_C h
  obtain ⟨e0, -⟩ := B_car h hc
  unfold f_X8_signAt W_sgn
  rw [l_23, if_neg (by rw [gN (by omega) (by decide)]; exact id), ni_cl (by omega), e0]
  by_cases w : v 2 c 0 = f
  · rw [if_pos w, if_pos w]
  · rw [if_neg w, if_neg w]
    obtain ⟨n, ⟨x, y⟩, ⟨hx, hy⟩, e⟩ := lpE1 (fun n (s : Int32 × Int32) i => f_X8_signAt_24 n ρ (nI c) f s.1 s.2 i) K (by omega) (fun k s => s.1 = W_b (an (W_to v c f) k) ∧ s.2 = W_b (an (W_fr v c f) k)) (a := (0, 0)) (by
      rintro n k ⟨x, y⟩ hk ⟨hx, hy⟩
      dsimp only at hx hy
      obtain ⟨e0, e1, -⟩ := B_call h hk
      refine ⟨(W_b (an (W_to v c f) (k + 1)), W_b (an (W_fr v c f) (k + 1))), ⟨rfl, rfl⟩, ?_⟩
      dsimp only
      subst hx
      subst hy
      simp (disch := omega) only [f_X8_signAt_24_s, f_X8_signAt_63, f_X8_signAt_67, f_X8_signAt_68, f_X8_signAt_98, f_X8_signAt_102, f_X8_signAt_103, B_K h, ni_le, p_nle, if_false, W_b0, b_isA h hc hk, b_doesH h hc hk, p_bi, l_79, l_55, ni_nn, ni_cl, false_or, e0, e1, ni_1]
      rw [an_s, an_s]
      unfold W_to W_fr
      generalize an (fun k => bt (v 2 c 9) k && decide (v 1 k 1 = f)) k = X
      generalize an (fun k => bt (v 2 c 8) k && decide (v 1 k 0 = f)) k = Y
      by_cases w1 : v 1 k 1 = f <;> by_cases w2 : v 1 k 0 = f <;> cases X <;> cases Y <;> cases bt (v 2 c 9) k <;> cases bt (v 2 c 8) k <;> simp [w1, w2] <;> rfl) ⟨rfl, rfl⟩
    dsimp only at hx hy
    refine Eq.trans e ?_
    show f_X8_signAt_24 (n + 1) ρ (nI c) f x y (nI K) = _
    rw [f_X8_signAt_24_s, B_K h, if_pos (by rw [ni_le (by omega) (by omega)]; exact Nat.le_refl K), hx, hy]
    unfold f_X8_signAt_111 f_X8_signAt_132
    cases an (W_to v c f) K <;> cases an (W_fr v c f) K <;> rfl
end PC
theorem E1_printCar : E_printCar RelN := by
  intro nn σ ρ v1 hn hR
  obtain ⟨⟨F, C, K, M, T, hC1, hT, hL⟩, hIn, hOut, hErr, hSav, hh, x, h6, h7, h8, h9, h10, h11⟩ := id hR
  have h1 := hL.1
  have h2 : LU F C K M T T (vw 0 σ) ((sup ρ 8 0 8 0) 30 0) := h1.thr 0
  have dC := D_C h1
  have dK := D_K h1
  have dF := D_F h1
  rcases x_idx v1 (show C < 2147483648 by omega) with ⟨c, hc, rfl⟩ | hb
  · have g4 : ¬ (nI c < 0 ∨ 4 ≤ (nI c).toNatClampNeg) := by rw [gN (by omega) (by decide)]; exact id
    have vx : ∀ (s : Sg), (∀ k o i, k ≠ 7 → k ≠ 11 → s k o i = σ k o i) → LU F C K M T T (vw 0 s) (ρ 30 0) := fun s hs => h1.both (Veq.lk dC dK (fun k o i hk => hs k o i (by unfold LK at hk; omega) (by unfold LK at hk; omega))) (fun _ _ => rfl)
    have same : ∀ (s : Sg) (f : Int32), (∀ k o i, k ≠ 7 → k ≠ 11 → s k o i = σ k o i) → W_sgn (vw 0 s) c K f = W_sgn (vw 0 σ) c K f := fun s f hs => by
      have e : ∀ k o i, (k = 1 ∨ k = 2) → vw 0 s k o i = vw 0 σ k o i := fun k o i hk => vw_pt (fun o i => hs k o i (by omega) (by omega)) 0 o i
      unfold W_sgn W_to W_fr
      simp only [e 2 c 0 (by decide), e 2 c 8 (by decide), e 2 c 9 (by decide), fun k => e 1 k 0 (by decide), fun k => e 1 k 1 (by decide)]
    obtain ⟨n1, m1, a, b, ⟨i1, i2, i3, i4, i5⟩, e1, e2⟩ := lpE (fun n (a : Sg) i => f_X7_printCar_26 n a (nI c) i) (fun n (b : Sg) i => f_X8_printCar_12 n b (nI c) i) F (by omega) (fun k a b => (∀ k o i, k ≠ 7 → k ≠ 11 → a k o i = σ k o i) ∧ (∀ i, a 7 0 i = sup σ 7 0 5 (nI F) 7 0 i) ∧ (∀ k, k ≠ 38 → b k = (sup ρ 8 0 8 0) k) ∧ (∀ i, i < k → a 11 0 i = b 38 0 i) ∧ a 4 0 1 = nI C) (a := sup σ 7 0 5 (nI F)) (b := sup ρ 8 0 8 0) (by
      rintro n m k a b hk ⟨j1, j2, j3, j4, j5⟩
      have hA := vx a j1
      have hB : LU F C K M T T (vw 0 σ) (b 30 0) := by rw [j3 30 (by decide)]; exact h2
      have a5 : a 7 0 5 = nI F := (j2 5).trans (s_at _ _ _ _ _)
      refine ⟨sup a 11 0 k (W_sgn (vw 0 σ) c K (nI k)), sup b 38 0 k (W_sgn (vw 0 σ) c K (nI k)), ⟨fun k' o i h7 h11 => by rw [s_ne h11]; exact j1 k' o i h7 h11, fun i => by rw [s_ne (by decide)]; exact j2 i, fun k' hk' => by rw [s_ne hk']; exact j3 k' hk', fun i hi => ?_, by rw [s_ne (by decide)]; exact j5⟩, ?_, ?_⟩
      · by_cases w : i = k
        · subst w; rw [s_at, s_at]
        · rw [s_nf w, s_nf w]; exact j4 i (by omega)
      · rw [f_X7_printCar_26_s, a5, if_neg (by rw [ni_le (by omega) (by omega)]; omega), if_neg g4, ni_cl (show c < 2147483648 by omega), a_sgn hA hc, same a _ j1, p_bi, if_neg (by rw [gN (by omega) (by decide)]; exact id), ni_cl (show k < 2147483648 by omega), p_st, ni_1]
      · rw [f_X8_printCar_12_s, B_F hB, if_neg (by rw [ni_le (by omega) (by omega)]; omega), b_sgn hB hc, p_bi, if_neg (by rw [gN (by omega) (by decide)]; exact id), ni_cl (show k < 2147483648 by omega), p_st, ni_1]) ⟨fun k o i h7 _ => by rw [s_ne h7], fun _ => rfl, fun _ _ => rfl, fun i hi => absurd hi (Nat.not_lt_zero i), by rw [s_ne (by decide)]; exact A_C h1⟩
    have a5 : a 7 0 5 = nI F := (i2 5).trans (s_at _ _ _ _ _)
    have bF : b 30 0 0 = nI F := by rw [i3 30 (by decide)]; exact B_F h2
    have bk : ∀ k, k ≠ 38 → k ≠ 8 → sup b 8 0 22 (nI F) k = ρ k := fun k h1 h2 => by rw [s_ne h2, i3 k h1, s_ne h2]
    have b8 : ∀ i, i ≠ 22 → i ≠ 8 → sup b 8 0 22 (nI F) 8 0 i = ρ 8 0 i := fun i h1 h2 => by rw [s_nf h1, i3 8 (by decide), s_nf h2]
    have a7 : ∀ i, i ≠ 5 → a 7 0 i = σ 7 0 i := fun i hi => (i2 i).trans (s_nf hi)
    have vq : ∀ p C K M, C ≤ 4 → K ≤ 24 → Veq C K M (vw p σ) (vw p a) := fun p C K M hC hK => Veq.lk hC hK (fun k o i hk => i1 k o i (by unfold LK at hk; omega) (by unfold LK at hk; omega))
    refine ⟨(0, nI F, a), nI F, sup b 8 0 22 (nI F), ?_, Or.inl rfl, ?_, ⟨⟨F, C, K, M, T, hC1, by omega, hL.both (vq 0 C K M dC dK) (fun q _ => by rw [bk 30 (by decide) (by decide)])⟩, (RestN.up ⟨?_, ?_, ?_, ?_, hh, x, h6, h7, ?_, ?_, ?_, fun i hi => ?_⟩)⟩, ?_, fun _ => rfl⟩
    · unfold f_X7_printCar
      rw [x_car0 (A_C h1) dC hc, p_bx0, A_F h1, show jmin (nI F) 30 = nI F from by
        unfold jmin
        by_cases w : F = 30
        · subst w; rfl
        · rw [if_neg (by rw [show (30 : Int32) = nI 30 from rfl, ni_lt (by omega) (by omega)]; omega)], p_st]
      refine Eq.trans e1 ?_
      rw [f_X7_printCar_26_s, a5, if_pos (by rw [ni_le (by omega) (by omega)]; exact Nat.le_refl F)]
      unfold f_X7_printCar_63
      rw [a5]
    · unfold f_X8_printCar
      rw [x_nc0 (B_C h1) dC hc, p_bi, if_pos rfl]
      refine Eq.trans e2 ?_
      rw [f_X8_printCar_12_s, bF, if_pos (by rw [ni_le (by omega) (by omega)]; exact Nat.le_refl F)]
      unfold f_X8_printCar_40
      rw [bF, p_st, s_at]
    · show R_in a (sup b 8 0 22 (nI F))
      unfold R_in at hIn ⊢
      rw [a7 1 (by decide), b8 10 (by decide) (by decide), bk 36 (by decide) (by decide)]
      obtain ⟨n, q1, q2, q3, q4⟩ := hIn
      exact ⟨n, q1, q2, q3, fun i hi => by rw [i1 10 0 i (by decide) (by decide)]; exact q4 i hi⟩
    · exact ⟨F, dF, a5, s_at _ _ _ _ _, fun i hi => by rw [s_ne (by decide)]; exact i4 i hi⟩
    · rw [b8 11 (by decide) (by decide), b8 12 (by decide) (by decide)]
      exact ⟨(a7 2 (by decide)).trans hErr.1, (a7 3 (by decide)).trans hErr.2⟩
    · unfold R_sav at hSav ⊢
      rw [b8 7 (by decide) (by decide), bk 33 (by decide) (by decide)]
      rcases hSav with ⟨q1, q2⟩ | ⟨q1, q2, q3⟩
      · exact Or.inl ⟨(a7 9 (by decide)).trans q1, q2⟩
      · exact Or.inr ⟨(a7 9 (by decide)).trans q1, q2, q3.both (fun C K M hC hK => vq 2 C K M hC hK) (fun _ _ => rfl)⟩
    · exact (i1 3 0 0 (by decide) (by decide)).trans h8
    · exact (i1 3 0 1 (by decide) (by decide)).trans h9
    · rw [b8 6 (by decide) (by decide)]; exact h10
    · rw [bk 34 (by decide) (by decide)]
      exact (h11 i hi).both (fun C K M hC hK => vq _ C K M hC hK) (fun _ _ => rfl)
    · rw [s_nf (by decide), i3 8 (by decide), s_at]
      rfl
  · refine ⟨(1, 0, σ), 0, sup ρ 8 0 8 1, ?_, Or.inr rfl, ?_, hR.thr 1, s_thr ρ 1, fun h => absurd (show (1 : Nat) = 0 from h) (by decide)⟩
    · unfold f_X7_printCar
      rw [x_car1 (A_C h1) hb]
      rfl
    · unfold f_X8_printCar
      rw [y_nc1 (B_C h1) dC hb, p_bi, if_neg (by decide)]
/-- the input alone is changed -/
theorem RelN.inp {n : Nat} {σ ρ σ' ρ' : Sg} (h : RelN n σ ρ) (hin : R_in σ' ρ') (a1 : ∀ k o i, k ≠ 7 → k ≠ 10 → σ' k o i = σ k o i) (a7 : ∀ i, i ≠ 1 → σ' 7 0 i = σ 7 0 i) (b1 : ∀ k, k ≠ 8 → k ≠ 36 → ρ' k = ρ k) (b8 : ∀ i, i ≠ 8 → i ≠ 10 → ρ' 8 0 i = ρ 8 0 i) : RelN n σ' ρ' := by
  obtain ⟨hL, hIn, ⟨m, o1, o2, o3, o4⟩, hErr, hSav, hh, x, h6, h7, h8, h9, h10, h11⟩ := h
  have vq : ∀ p C K M, C ≤ 4 → K ≤ 24 → Veq C K M (vw p σ) (vw p σ') := fun p C K M hC hK => Veq.lk hC hK (fun k o i hk => a1 k o i (by unfold LK at hk; omega) (by unfold LK at hk; omega))
  refine ⟨hL.both (fun C K M hC hK => vq 0 C K M hC hK) (fun q _ => by rw [b1 30 (by decide) (by decide)]), hin, ⟨m, o1, (a7 5 (by decide)).trans o2, (b8 22 (by decide) (by decide)).trans o3, fun i hi => by rw [a1 11 0 i (by decide) (by decide), b1 38 (by decide) (by decide)]; exact o4 i hi⟩, ?_, ?_, hh, x, h6, h7, (a1 3 0 0 (by decide) (by decide)).trans h8, (a1 3 0 1 (by decide) (by decide)).trans h9, (b8 6 (by decide) (by decide)).trans h10, fun i hi => ?_⟩
  · rw [a7 2 (by decide), a7 3 (by decide), b8 11 (by decide) (by decide), b8 12 (by decide) (by decide)]; exact hErr
  · unfold R_sav at hSav ⊢
    rw [a7 9 (by decide), b8 7 (by decide) (by decide), b1 33 (by decide) (by decide)]
    rcases hSav with q | ⟨q1, q2, q3⟩
    · exact Or.inl q
    · exact Or.inr ⟨q1, q2, q3.both (fun C K M hC hK => vq 2 C K M hC hK) (fun _ _ => rfl)⟩
  · rw [b1 34 (by decide) (by decide)]
    exact (h11 i hi).both (fun C K M hC hK => vq _ C K M hC hK) (fun _ _ => rfl)
theorem E1_truncateInput : E_truncateInput RelN := by
  intro nn σ ρ v1 hn hR
  obtain ⟨-, ⟨n, hn7, e1, e10, hB⟩, -⟩ := id hR
  have e10' : (sup ρ 8 0 8 0) 8 0 10 = nI n := by rw [s_nf (by decide)]; exact e10
  rcases x_idx v1 (show n + 1 < 2147483648 by omega) with ⟨m, hm, rfl⟩ | hb
  · refine ⟨1, sup σ 7 0 1 (nI m), sup (sup ρ 8 0 8 0) 8 0 10 (nI m), ?_, ?_, (RelN.up ?_)⟩
    · unfold f_X7_truncateInput
      rw [if_neg (by rw [ni_nn (by omega)]; exact id), e1, if_pos (by rw [ni_le (by omega) (by omega)]; omega), p_st]
    · unfold f_X8_truncateInput
      rw [p_st, e10', x_in1 _ (by rw [ni_nn (by omega)]; exact id) (by rw [ni_lt (by omega) (by omega)]; omega), p_bi, if_neg (by decide), p_st]
    · refine hR.inp ⟨m, by omega, s_at _ _ _ _ _, s_at _ _ _ _ _, fun i hi => ?_⟩ (fun k o i h1 _ => by rw [s_ne h1]) (fun i hi => s_nf hi) (fun k h1 _ => by rw [s_ne h1, s_ne h1]) (fun i h1 h2 => by rw [s_nf h2, s_nf h1])
      rw [s_ne (by decide), s_ne (by decide), s_ne (by decide)]
      exact hB i (by omega)
  · have hb' : v1 < 0 ∨ nI n < v1 := by
      rcases hb with q | q
      · exact Or.inl q
      · refine Or.inr ?_
        rw [Int32.le_iff_toInt_le, ni_int (by omega)] at q
        rw [Int32.lt_iff_toInt_lt, ni_int (by omega)]
        omega
    refine ⟨0, σ, sup ρ 8 0 8 0, ?_, ?_, hR.thr 0⟩
    · unfold f_X7_truncateInput f_X7_truncateInput_12
      by_cases w : v1 < 0
      · rw [if_pos w]
      · rw [if_neg w, e1, if_neg (Int32.not_le.mpr (hb'.resolve_left w))]
    · unfold f_X8_truncateInput
      rw [p_st, e10', x_in0 _ hb', p_bi, if_pos rfl]
theorem by_eq {s : Nat} (hs : s ≤ 24) (v : Int32) : jush v (nI s) &&& 255 = (v >>> (nI s &&& 31)) &&& 255 := by
  refine b_ext (fun i hi => ?_)
  rw [b_and, b_and, b_255]
  by_cases w : i < 8
  · unfold jush
    rw [b_ushr s (by omega) v i, b_sshr s (by omega) v hi, if_pos (by omega)]
  · rw [decide_eq_false w, Bool.and_false, Bool.and_false]
theorem by_is (x : Int32) : ∃ b, b < 256 ∧ x &&& 255 = nI b := by
  refine ⟨(x &&& 255).toBitVec.toNat, ?_, ?_⟩
  · rw [Int32.toBitVec_and, BitVec.toNat_and]
    exact Nat.lt_of_le_of_lt Nat.and_le_right (by decide)
  · apply Int32.toBitVec_inj.1
    show _ = BitVec.ofNat 32 _
    rw [BitVec.ofNat_toNat, BitVec.setWidth_eq]
def RI (n : Nat) (σ ρ a b : Sg) : Prop := (a 7 0 1 = nI n ∧ b 8 0 10 = nI n ∧ ∀ i, i < n → a 10 0 i = b 36 0 i ∧ ∃ y, y < 256 ∧ a 10 0 i = nI y) ∧ (∀ k o i, k ≠ 7 → k ≠ 10 → a k o i = σ k o i) ∧ (∀ i, i ≠ 1 → a 7 0 i = σ 7 0 i) ∧ (∀ k, k ≠ 8 → k ≠ 36 → b k = ρ k) ∧ ∀ i, i ≠ 10 → b 8 0 i = ρ 8 0 i
theorem t_byte {n s : Nat} {σ ρ a b : Sg} (h : RI n σ ρ a b) (hn : n < 700) (hs : s ≤ 24) (v : Int32) (m1 m2 : Nat) : ∃ a' b', RI (n + 1) σ ρ a' b' ∧ f_X7_appendFour_3 (m1 + 1) a v (nI s) = f_X7_appendFour_3 m1 a' v (nI s + -8) ∧ f_X8_appendWord_3 (m2 + 1) b v (nI s) = f_X8_appendWord_3 m2 b' v (nI s + -8) := by
  obtain ⟨⟨h1, h2, h3⟩, h4, h5, h6, h7⟩ := h
  refine ⟨sup (sup a 10 0 n (jush v (nI s) &&& 255)) 7 0 1 (nI (n + 1)), sup (sup b 36 0 n ((v >>> (nI s &&& 31)) &&& 255)) 8 0 10 (nI (n + 1)), ⟨⟨s_at _ _ _ _ _, s_at _ _ _ _ _, fun i hi => ?_⟩, fun k o i q1 q2 => by rw [s_ne q1, s_ne q2]; exact h4 k o i q1 q2, fun i hi => by rw [s_nf hi, s_ne (by decide)]; exact h5 i hi, fun k q1 q2 => by rw [s_ne q1, s_ne q2]; exact h6 k q1 q2, fun i hi => by rw [s_nf hi, s_ne (by decide)]; exact h7 i hi⟩, ?_, ?_⟩
  · rw [s_ne (show (10 : Nat) ≠ 7 by decide), s_ne (show (36 : Nat) ≠ 8 by decide)]
    by_cases w : i = n
    · subst w
      rw [s_at, s_at]
      exact ⟨by_eq hs v, by_is _⟩
    · rw [s_nf w, s_nf w]
      exact h3 i (by omega)
  · rw [f_X7_appendFour_3_s, if_neg (by rw [ni_nn (by omega)]; exact id), h1, if_neg (show ¬ (700 : Int32) ≤ nI n by rw [show (700 : Int32) = nI 700 from rfl, ni_le (by omega) (by omega)]; omega), if_neg (by rw [gN hn (by decide)]; exact id), ni_cl (by omega), p_st, p_st, s_ne (by decide), h1, ni_1]
  · rw [f_X8_appendWord_3_s, if_neg (by rw [ni_nn (by omega)]; exact id), h2, if_neg (by rw [gN hn (by decide)]; exact id), ni_cl (by omega), p_st, p_st, s_ne (by decide), h2, ni_1]
theorem t_word {n : Nat} {σ ρ a b : Sg} (h : RI n σ ρ a b) (hn : n + 4 ≤ 700) (v : Int32) : ∃ a' b', RI (n + 4) σ ρ a' b' ∧ f_X7_appendFour a v = some a' ∧ f_X8_appendWord b v = some b' := by
  obtain ⟨a1, b1, r1, p1, q1⟩ := t_byte h (by omega) (s := 24) (by decide) v 65535 65535
  obtain ⟨a2, b2, r2, p2, q2⟩ := t_byte r1 (by omega) (s := 16) (by decide) v 65534 65534
  obtain ⟨a3, b3, r3, p3, q3⟩ := t_byte r2 (by omega) (s := 8) (by decide) v 65533 65533
  obtain ⟨a4, b4, r4, p4, q4⟩ := t_byte r3 (by omega) (s := 0) (by decide) v 65532 65532
  refine ⟨a4, b4, r4, ?_, ?_⟩
  · unfold f_X7_appendFour
    refine Eq.trans p1 (Eq.trans p2 (Eq.trans p3 (Eq.trans p4 ?_)))
    rw [f_X7_appendFour_3_s, if_pos (by decide)]
    rfl
  · unfold f_X8_appendWord
    refine Eq.trans q1 (Eq.trans q2 (Eq.trans q3 (Eq.trans q4 ?_)))
    rw [f_X8_appendWord_3_s, if_pos (by decide)]
    rfl
theorem E1_appendInput : E_appendInput RelN := by
  intro nn σ ρ v1 v2 v3 v4 v5 hn hR
  obtain ⟨-, ⟨n, hn7, e1, e10, hB⟩, -⟩ := id hR
  have e10' : (sup ρ 8 0 8 0) 8 0 10 = nI n := by rw [s_nf (by decide)]; exact e10
  by_cases w : n ≤ 680
  · have r0 : RI n σ (sup ρ 8 0 8 0) σ (sup ρ 8 0 8 0) := ⟨⟨e1, e10', fun i hi => by rw [s_36]; exact hB i hi⟩, fun _ _ _ _ _ => rfl, fun _ _ => rfl, fun _ _ _ => rfl, fun _ _ => rfl⟩
    obtain ⟨a1, b1, r1, p1, q1⟩ := t_word r0 (by omega) v1
    obtain ⟨a2, b2, r2, p2, q2⟩ := t_word r1 (by omega) v2
    obtain ⟨a3, b3, r3, p3, q3⟩ := t_word r2 (by omega) v3
    obtain ⟨a4, b4, r4, p4, q4⟩ := t_word r3 (by omega) v4
    obtain ⟨a5, b5, r5, p5, q5⟩ := t_word r4 (by omega) v5
    obtain ⟨⟨s1, s2, s3⟩, s4, s5, s6, s7⟩ := r5
    refine ⟨nI (n + 4 + 4 + 4 + 4 + 4), a5, b5, ?_, ?_, (RelN.up ?_)⟩
    · unfold f_X7_appendInput
      rw [e1, if_pos (by rw [show (680 : Int32) = nI 680 from rfl, ni_le (by omega) (by omega)]; exact w), p1, p_bv, p2, p_bv, p3, p_bv, p4, p_bv, p5, p_bv, s1]
    · unfold f_X8_appendInput
      rw [p_st, e10', if_pos (by rw [show (20 : Int32) = nI 20 from rfl, show (700 : Int32) = nI 700 from rfl, ni_add, ni_le (by omega) (by omega)]; omega), q1, p_bv, q2, p_bv, q3, p_bv, q4, p_bv, q5, p_bv, s2]
    · exact hR.inp ⟨_, by omega, s1, s2, s3⟩ s4 s5 (fun k h1 h2 => (s6 k h1 h2).trans (s_ne h1)) (fun i h1 h2 => (s7 i h2).trans (s_nf h1))
  · refine ⟨-1, σ, sup ρ 8 0 8 0, ?_, ?_, hR.thr 0⟩
    · unfold f_X7_appendInput
      rw [e1, if_neg (by rw [show (680 : Int32) = nI 680 from rfl, ni_le (by omega) (by omega)]; exact w)]
    · unfold f_X8_appendInput
      rw [p_st, e10', if_neg (by rw [show (20 : Int32) = nI 20 from rfl, show (700 : Int32) = nI 700 from rfl, ni_add, ni_le (by omega) (by omega)]; omega)]
