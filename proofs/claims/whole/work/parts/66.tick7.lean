/-! a tick: phase 2, what a car does with what reaches it -/
theorem q_4 {q : Nat} (h : q < 2147483648) : ((4 : Int32) ≤ nI q) = (4 ≤ q) := by
  rw [show (4 : Int32) = nI 4 from rfl, ni_le (by omega) h]
theorem lpE {A B R1 R2 : Type} (g : Nat → A → Int32 → R1) (h : Nat → B → Int32 → R2) (N : Nat) (hN : N < 65536) (Inv : Nat → A → B → Prop)
    (step : ∀ n m k a b, k < N → Inv k a b → ∃ a' b', Inv (k + 1) a' b' ∧ g (n + 1) a (nI k) = g n a' (nI (k + 1)) ∧ h (m + 1) b (nI k) = h m b' (nI (k + 1))) {a : A} {b : B} (h0 : Inv 0 a b) :
    ∃ n m a' b', Inv N a' b' ∧ g FU a (nI 0) = g (n + 1) a' (nI N) ∧ h FU b (nI 0) = h (m + 1) b' (nI N) := by
  have key : ∀ k, k ≤ N → ∃ a' b', Inv k a' b' ∧ g (65535 - k + 1) a' (nI k) = g FU a (nI 0) ∧ h (65535 - k + 1) b' (nI k) = h FU b (nI 0) := by
    intro k
    induction k with
    | zero => intro _; exact ⟨a, b, h0, rfl, rfl⟩
    | succ k ih =>
      intro hk
      obtain ⟨a', b', i1, i2, i3⟩ := ih (by omega)
      obtain ⟨a2, b2, j1, j2, j3⟩ := step (65535 - (k + 1) + 1) (65535 - (k + 1) + 1) k a' b' (by omega) i1
      rw [show 65535 - (k + 1) + 1 = 65535 - k by omega] at j2 j3
      refine ⟨a2, b2, j1, ?_, ?_⟩
      · rw [show 65535 - (k + 1) + 1 = 65535 - k by omega]
        exact j2.symm.trans i2
      · rw [show 65535 - (k + 1) + 1 = 65535 - k by omega]
        exact j3.symm.trans i3
  obtain ⟨a', b', i1, i2, i3⟩ := key N (Nat.le_refl N)
  exact ⟨_, _, a', b', i1, i2.symm, i3.symm⟩
theorem ru_same {r : Nat → Int32} {q : Nat} {y : Int32} (h : r q = y) : ru r q y = r := by
  funext i
  unfold ru
  by_cases e : i = q
  · rw [if_pos e, e, h]
  · rw [if_neg e]
theorem a_bef (σ : Sg) (x y z w : Int32) : f_X0_isBefore σ x y z w = some (W_b (decide (x < z ∨ (x = z ∧ y < w))), σ) := by
  unfold f_X0_isBefore
  by_cases h1 : x < z
  · rw [if_pos h1, decide_eq_true (Or.inl h1)]; rfl
  · rw [if_neg h1]
    by_cases h2 : x = z
    · rw [if_pos h2]
      by_cases h3 : w ≤ y
      · rw [if_pos h3, decide_eq_false (fun q => q.elim h1 (fun q => absurd q.2 (Int32.not_lt.mpr h3)))]; rfl
      · rw [if_neg h3, decide_eq_true (Or.inr ⟨h2, Int32.not_le.mp h3⟩)]; rfl
    · rw [if_neg h2, decide_eq_false (fun q => q.elim h1 (fun q => h2 q.1))]; rfl
theorem b_bef (σ : Sg) (x y z w : Int32) : f_X8_isBefore σ x y z w = some (W_b (decide (x < z ∨ (x = z ∧ y < w))), σ) := by
  unfold f_X8_isBefore
  by_cases h1 : x < z
  · rw [if_pos h1, decide_eq_true (Or.inl h1)]; rfl
  · rw [if_neg h1]
    by_cases h2 : x = z
    · rw [if_pos h2]
      by_cases h3 : w ≤ y
      · rw [if_pos h3, decide_eq_false (fun q => q.elim h1 (fun q => absurd q.2 (Int32.not_lt.mpr h3)))]; rfl
      · rw [if_neg h3, decide_eq_true (Or.inr ⟨h2, Int32.not_le.mp h3⟩)]; rfl
    · rw [if_neg h2, decide_eq_false (fun q => q.elim h1 (fun q => h2 q.1))]; rfl
section TK
variable {F C K M T U j : Nat} {σ ρ : Sg}
theorem t_bids (h : LU F C K M T U (vw j σ) (ρ 30 0)) {c k : Nat} (hc : c < C) (hk : k < K) :
    ∃ σ' ρ', f_X2_dropBids σ (4 * j + c) (nI k) = some σ' ∧ f_X8_forgetsBids ρ (nI c) (nI k) = some ρ' ∧ LU F C K M T U (vw j σ') (ρ' 30 0) ∧ SP j σ ρ σ' ρ' ∧ ∀ q, q ≠ 18 → vw j σ' q = vw j σ q := by
  have hC := D_C h
  have hK := D_K h
  obtain ⟨n, m, a, b, ⟨i1, i2, i3⟩, i4, i5⟩ := lpE (fun n (a : Sg) i => f_X2_dropBids_2 n a (4 * j + c) (nI k) i) (fun n (b : Sg) i => f_X8_forgetsBids_2 n b (nI c) (nI k) i) 4 (by decide) (fun _ a b => LU F C K M T U (vw j a) (b 30 0) ∧ SP j σ ρ a b ∧ ∀ q, q ≠ 18 → vw j a q = vw j σ q) (a := σ) (b := ρ) (by
    rintro n m q a b hq ⟨i1, i2, i3⟩
    have g := S_note i1 hc hk hq (Or.inl rfl)
    rw [← vs_18, ← s_ru] at g
    refine ⟨_, _, ⟨g, SP.r (SP.c i2 (O_18 (by omega)) _ _) _ _, fun q' h' => by rw [vs_18, s_ne h']; exact i3 q' h'⟩, ?_, ?_⟩
    · simp (disch := omega) only [f_X2_dropBids_2_s, f_X2_noteBid, q_4, p_nle, if_false, ni_4m, ni_add, ni_nn, ni_cl, false_or, p_st, p_bv, ni_1]
    · simp (disch := omega) only [f_X8_forgetsBids_2_s, q_4, p_nle, if_false, b_at, p_bi, ni_nn, ni_cl, false_or, p_st, ni_1]) ⟨h, SP.rf j σ ρ, fun _ _ => rfl⟩
  refine ⟨a, b, i4.trans ?_, i5.trans ?_, i1, i2, i3⟩
  · simp (disch := omega) only [f_X2_dropBids_2_s, q_4, Nat.le_refl, if_true, f_X2_dropBids_20]
  · simp (disch := omega) only [f_X8_forgetsBids_2_s, q_4, Nat.le_refl, if_true, f_X8_forgetsBids_25]
theorem t_hearA (h : LU F C K M T U (vw j σ) (ρ 30 0)) (hT : T < 400000) {c k : Nat} (hc : c < C) (hk : k < K) (hM : M < 240) :
    ∃ σ' ρ', f_X0_hearAnnouncement σ j (nI c) (nI k) = some σ' ∧ f_X8_hearsCall ρ (nI c) (nI k) = some ρ' ∧ ∃ M', LU F C K M' T U (vw j σ') (ρ' 30 0) ∧ SP j σ ρ σ' ρ' ∧ NX 1 M (vw j σ) M' (vw j σ') := by
  have hC := D_C h
  have hK := D_K h
  obtain ⟨-, -, -, e3, -⟩ := B_car h hc
  have e3' : ρ 30 0 (35 + c) = σ 2 (4 * j + c) 3 := e3
  obtain ⟨-, -, -, s3, -⟩ := B_call h hk
  have s3' : ρ 30 0 (127 + k) = σ 1 (24 * j + k) 3 := s3
  unfold f_X0_hearAnnouncement f_X8_hearsCall
  rw [if_neg (show ¬ (nI c < 0 ∨ 4 ≤ (nI c).toNatClampNeg) by rw [gN (by omega) (by decide)]; exact id), ni_cl (show c < 2147483648 by omega), l_35, if_neg (show ¬ (nI (35 + c) < 0 ∨ 2111 ≤ (nI (35 + c)).toNatClampNeg) by rw [gN (by omega) (by decide)]; exact id), ni_cl (show 35 + c < 2147483648 by omega), e3', a_isH σ _ (show k < 32 by omega), p_bi, b_doesH h hc hk, p_bi]
  simp only [W_b0]
  rw [show (bt (vw j σ 2 c 8) k) = bt (σ 2 (4 * j + c) 8) k from rfl]
  have st : σ 2 (4 * j + c) 3 = 0 ∨ σ 2 (4 * j + c) 3 = 1 := (h.2.2.2.1 c hc).2.2.2.2.1
  rcases st with st | st
  · rw [st, if_pos (show (0 : Int32) = 0 from rfl), if_neg (show ¬ ((0 : Int32) = 1) by decide)]
    by_cases hb : bt (σ 2 (4 * j + c) 8) k = false
    · rw [if_pos hb, if_pos hb]
      simp (disch := omega) only [l_127, ni_nn, ni_cl, p_nle, false_or, if_false, s3']
      by_cases hs : σ 1 (24 * j + k) 3 = 1
      · rw [if_pos hs, if_pos hs]
        obtain ⟨a, b, i1, i2, i3, i4, i5⟩ := t_bids h hc hk
        obtain ⟨fa, fb, hfa, hfb, hne, hfrom, hto⟩ := (i3.2.2.2.2.1 k hk).2.2.1
        have hfrom' : a 1 (24 * j + k) 0 = nI fa := hfrom
        obtain ⟨e0, -⟩ := B_call i3 hk
        have e0' : b 30 0 (55 + k) = nI fa := e0.trans hfrom
        obtain ⟨n, hn, hW⟩ := W_cost_le i3 hc hfa
        have g1 := S_cost i3 hc hk hn
        have g2 := S_dec g1 hc hk (y := nI (T + 2)) (Or.inr ⟨T + 2, Nat.le_refl _, rfl⟩) (fun _ => ⟨by rw [ru_eq, s_at], n, hn, s_at _ _ _ _ _⟩)
        rw [← vs_16, ← vs_17, ← s_ru, ← s_ru] at g2
        obtain ⟨σ', ρ', k1, k2, k3, k4, k5, k6⟩ := t_send g2 (d := 1) (s := nI c) (by decide) hk hn hM (Or.inr ⟨by decide, c, hc, rfl⟩)
        have k1' : f_X4_send (sup (sup a 16 (4 * j + c) k (nI n)) 17 (4 * j + c) k (nI (T + 2))) j (nI c) 1 (nI k) (nI n) = some σ' := k1
        have k2' : f_X8_sends (sup (sup b 30 0 (415 + 24 * c + k) (nI n)) 30 0 (511 + 24 * c + k) (nI (T + 2))) 1 (nI k) (nI c) (nI n) = some ρ' := k2
        have g3 : SP j a b (sup (sup a 16 (4 * j + c) k (nI n)) 17 (4 * j + c) k (nI (T + 2))) (sup (sup b 30 0 (415 + 24 * c + k) (nI n)) 30 0 (511 + 24 * c + k) (nI (T + 2))) := SP.r (SP.r (SP.c (SP.c (SP.rf j a b) (O_16 (by omega)) _ _) (O_17 (by omega)) _ _) _ _) _ _
        refine ⟨σ', ρ', ?_, ?_, M + 1, k3, i4.trans (g3.trans k4), Nat.le_refl _, ?_, ?_, ?_⟩
        · simp (disch := omega) only [i1, p_bv, p_st, hfrom', a_cost i3 hc, hW, p_bi, s_ne, s_at, A_T i3, ni_2, k1', f_X0_hearAnnouncement_110]
        · simp (disch := omega) only [i2, p_bv, p_st, b_of415, b_of511, p_bi, l_55, ni_nn, ni_cl, p_nle, false_or, if_false, e0', b_cost i3 hc hfa, hW, s_nf, s_at, B_T i3, ni_2, k2']
        · rw [k5, if_neg (by decide), vs_17, vs_16]
          unfold V_ann
          rw [s_ne (by decide), s_ne (by decide), i5 21 (by decide)]
          rfl
        · intro q f _
          rw [k6 1 (by decide) (by decide) (by decide), vs_17, vs_16, s_ne (by decide), s_ne (by decide), i5 1 (by decide)]
        · intro q
          rw [k6 1 (by decide) (by decide) (by decide), vs_17, vs_16, s_ne (by decide), s_ne (by decide), i5 1 (by decide)]
      · rw [if_neg hs, if_neg hs]
        exact ⟨σ, ρ, rfl, rfl, M, h, SP.rf j σ ρ, (NX.rf M _).mono (by decide)⟩
    · rw [if_neg hb, if_neg hb]
      have hb' : bt (vw j σ 2 c 8) k = true := by
        rw [show bt (vw j σ 2 c 8) k = bt (σ 2 (4 * j + c) 8) k from rfl]
        cases hq : bt (σ 2 (4 * j + c) 8) k
        · exact absurd hq hb
        · rfl
      obtain ⟨hc1, n, hn, hc2⟩ := (h.2.2.2.2.2.2.2.1 c hc k hk).2.2.2.1 (Or.inl hb')
      have hc2' : σ 16 (4 * j + c) k = nI n := hc2
      have hc1' : ρ 30 0 (415 + 24 * c + k) = nI n := hc1.trans hc2
      obtain ⟨σ', ρ', k1, k2, k3, k4, k5, k6⟩ := t_send h (d := 2) (s := nI c) (by decide) hk hn hM (Or.inr ⟨by decide, c, hc, rfl⟩)
      have k1' : f_X4_send σ j (nI c) 2 (nI k) (nI n) = some σ' := k1
      have k2' : f_X8_sends ρ 2 (nI k) (nI c) (nI n) = some ρ' := k2
      refine ⟨σ', ρ', ?_, ?_, M + 1, k3, k4, Nat.le_refl _, ?_, ?_, ?_⟩
      · simp (disch := omega) only [ni_nn, ni_cl, p_nle, false_or, if_false, hc2', k1', p_bv, f_X0_hearAnnouncement_110]
      · simp (disch := omega) only [b_of415, p_bi, ni_nn, ni_cl, p_nle, false_or, if_false, hc1', k2', p_bv]
      · rw [k5, if_neg (by decide)]
        rfl
      · intro q f _
        rw [k6 1 (by decide) (by decide) (by decide)]
      · intro q
        rw [k6 1 (by decide) (by decide) (by decide)]
  · rw [st, if_neg (show ¬ ((1 : Int32) = 0) by decide), if_pos (show (1 : Int32) = 1 from rfl)]
    exact ⟨σ, ρ, rfl, rfl, M, h, SP.rf j σ ρ, (NX.rf M _).mono (by decide)⟩
theorem t_report (h : LU F C K M T U (vw j σ) (ρ 30 0)) {c k : Nat} (hc : c < C) (hk : k < K) (s n : Int32) :
    ∃ σ' ρ', f_X2_hearReport σ (4 * j + c) (nI k) = some σ' ∧ f_X8_hears ρ (nI c) 3 (nI k) s n = some ρ' ∧ LU F C K M T U (vw j σ') (ρ' 30 0) ∧ SP j σ ρ σ' ρ' ∧ ∀ q, q ≠ 2 → q ≠ 17 → vw j σ' q = vw j σ q := by
  have hC := D_C h
  have hK := D_K h
  have g1 := S_hclr (S_dec h hc hk (y := -1) (Or.inl rfl) (fun q => absurd rfl q)) hc hk
  rw [← vs_17, ← vs_2, ← s_ru, ← s_ru] at g1
  refine ⟨_, _, ?_, ?_, g1, SP.r (SP.r (SP.c (SP.c (SP.rf j σ ρ) (O_17 (by omega)) _ _) (O_2 (by omega)) _ _) _ _) _ _, ?_⟩
  · unfold f_X2_hearReport f_X2_dropCall
    simp (disch := omega) only [ni_nn, ni_cl, p_nle, false_or, if_false, p_st, p_bv]
    rfl
  · unfold f_X8_hears f_X8_hears_87 f_X8_hears_101
    rw [if_neg (by decide), if_neg (by decide)]
    simp (disch := omega) only [b_of511, b_of319, p_bi, ni_nn, ni_cl, p_nle, false_or, if_false, if_true, p_st]
  · intro q h1 h2
    rw [vs_2, vs_17, s_ne h1, s_ne h2]
theorem t_claim (h : LU F C K M T U (vw j σ) (ρ 30 0)) {c k i : Nat} (hc : c < C) (hk : k < K) (hi : i < 240) (f22 : σ 22 13 i = nI k) :
    ∃ σ' ρ', f_X0_hearClaim σ j (nI i) (nI c) = some σ' ∧ f_X8_hears ρ (nI c) 2 (nI k) (σ 20 13 i) (σ 23 13 i) = some ρ' ∧ LU F C K M T U (vw j σ') (ρ' 30 0) ∧ SP j σ ρ σ' ρ' ∧ ∀ q, q ≠ 2 → q ≠ 17 → vw j σ' q = vw j σ q := by
  have hC := D_C h
  have hK := D_K h
  have g0 := S_dec h hc hk (y := -1) (Or.inl rfl) (fun q => absurd rfl q)
  have g1 := S_hclr g0 hc hk
  rw [← vs_17, ← s_ru] at g0
  have hh : ∀ hx : bt (vw j σ 2 c 8) k = true, ρ 30 0 (415 + 24 * c + k) = σ 16 (4 * j + c) k := fun hx => b_ownC h hc hk (Or.inl hx)
  have s0 : SP j σ ρ (sup σ 17 (4 * j + c) k (-1)) (sup ρ 30 0 (511 + 24 * c + k) (-1)) := SP.r (SP.c (SP.rf j σ ρ) (O_17 (by omega)) _ _) _ _
  unfold f_X0_hearClaim f_X8_hears f_X8_hears_87 f_X8_hears_101 f_X0_hearClaim_68 f_X2_dropCall
  rw [if_neg (show ¬ ((2 : Int32) = 0) by decide), if_neg (show ¬ ((2 : Int32) = 1) by decide)]
  simp (disch := omega) only [ni_nn, ni_cl, p_nle, false_or, if_false, f22, b_of511, b_of415, b_of319, p_bi, p_st, p_bv, a_bef, b_bef, s_ne, b_doesH g0 hc hk, W_b0]
  rw [show bt (vw j (sup σ 17 (4 * j + c) k (-1)) 2 c 8) k = bt (vw j σ 2 c 8) k by rw [vs_17, s_ne (by decide)], if_neg (show ¬ (2 : Int32) = 3 by decide)]
  by_cases hb : bt (vw j σ 2 c 8) k = false
  · rw [if_pos hb]
    by_cases w : decide (σ 23 13 i < σ 16 (4 * j + c) k ∨ σ 23 13 i = σ 16 (4 * j + c) k ∧ σ 20 13 i < nI c) = false
    · rw [if_pos w]
      exact ⟨_, _, rfl, rfl, g0, s0, fun q h1 h2 => by rw [vs_17, s_ne h2]⟩
    · rw [if_neg w]
      have z : ru (ρ 30 0) (511 + 24 * c + k) (-1) (319 + 24 * c + k) = 0 := by
        rw [ru_ne (by omega), B_held h hc hk, hb]
        rfl
      rw [ru_same z, ← vs_17, ← vs_2, ← s_ru] at g1
      refine ⟨_, _, rfl, rfl, ?_, SP.c s0 (O_2 (by omega)) _ _, fun q h1 h2 => by rw [vs_2, vs_17, s_ne h1, s_ne h2]⟩
      exact g1
  · rw [if_neg hb]
    have hb' : bt (vw j σ 2 c 8) k = true := by
      cases hq : bt (vw j σ 2 c 8) k
      · exact absurd hq hb
      · rfl
    rw [s_nf (by omega), hh hb']
    by_cases w : decide (σ 23 13 i < σ 16 (4 * j + c) k ∨ σ 23 13 i = σ 16 (4 * j + c) k ∧ σ 20 13 i < nI c) = false
    · rw [if_pos w, if_pos w]
      exact ⟨_, _, rfl, rfl, g0, s0, fun q h1 h2 => by rw [vs_17, s_ne h2]⟩
    · rw [if_neg w, if_neg w]
      rw [← vs_17, ← vs_2, ← s_ru, ← s_ru] at g1
      refine ⟨_, _, rfl, rfl, ?_, SP.r (SP.c s0 (O_2 (by omega)) _ _) _ _, fun q h1 h2 => by rw [vs_2, vs_17, s_ne h1, s_ne h2]⟩
      exact g1
end TK
