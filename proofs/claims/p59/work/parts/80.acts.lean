/-! a call more, in both; the law's act -/
section TK
variable {F C K M T U j : Nat} {σ τ v : Sg} {r : Nat → Int32}
theorem a_addCall (h : LU F C K M T U (vw j σ) r) (hK : K < 24) (a b m : Nat) : ∃ σ', f_X4_addCall σ j (nI m) (nI a) (nI b) = some (nI K, σ') ∧ vw j σ' = sup (sup (sup (sup (sup (sup (sup (sup (sup (sup (sup (sup (vw j σ) 1 K 0 (nI a)) 1 K 1 (nI b)) 1 K 2 (nI m)) 1 K 3 0) 1 K 4 (-1)) 1 K 5 (-1)) 1 K 6 (-1)) 1 K 7 0) 1 K 8 (-1)) 1 K 9 (-1)) 1 K 10 (-1)) 4 0 2 (nI (K + 1)) ∧ ∀ k, k ≠ 1 → k ≠ 4 → σ' k = σ k := by
  refine ⟨sup (sup (sup (sup (sup (sup (sup (sup (sup (sup (sup (sup σ 1 (24 * j + K) 0 (nI a)) 1 (24 * j + K) 1 (nI b)) 1 (24 * j + K) 2 (nI m)) 1 (24 * j + K) 3 0) 1 (24 * j + K) 4 (-1)) 1 (24 * j + K) 5 (-1)) 1 (24 * j + K) 6 (-1)) 1 (24 * j + K) 7 0) 1 (24 * j + K) 8 (-1)) 1 (24 * j + K) 9 (-1)) 1 (24 * j + K) 10 (-1)) 4 j 2 (nI (K + 1)), ?_, ?_, ?_⟩
  · unfold f_X4_addCall f_X1_start
    simp (disch := omega) only [A_K h, q_l24, hK, if_true, ni_nn, ni_cl, p_nle, false_or, if_false, p_st, p_bv, s_ne, s_at, ni_1]
    rw [show nI (K + 1) - 1 = nI K from ni_sub (b := 1) (by omega)]
  · simp only [vs_1, vs_4]
  · intro k h1 h4
    rw [s_ne h4, s_ne h1, s_ne h1, s_ne h1, s_ne h1, s_ne h1, s_ne h1, s_ne h1, s_ne h1, s_ne h1, s_ne h1, s_ne h1]
/-- the law's cells once a call more stands -/
theorem tn_o {A B D : Int32} {k o i : Nat} (h50 : k ≠ 50) (h1 : ¬ (k = 42 ∧ o = q_nn τ 1)) (h2 : ¬ (k = 43 ∧ 4 * q_nn τ 1 ≤ o)) (h3 : ¬ (k = 44 ∧ 4 * q_nn τ 1 ≤ o)) : t_add (t_new τ A B D) 1 k o i = τ k o i := by
  unfold t_add
  rw [s_ne h50, s_ne h50, s_ne h50]
  show (if k = 42 ∧ o = q_nn τ 1 then _ else _) = _
  rw [if_neg h1, if_neg h2, if_neg h3]
theorem tn_50 {A B D : Int32} {o i : Nat} (h : o ≠ 1) : t_add (t_new τ A B D) 1 50 o i = τ 50 o i := by
  unfold t_add
  rw [s_no h, s_no h, s_no h]
  rfl
theorem tn_n (A B D : Int32) (o : Nat) : q_nn (t_new τ A B D) o = q_nn τ o ∧ q_cc (t_new τ A B D) o = q_cc τ o := ⟨rfl, rfl⟩
theorem l_call (h : JJ F C K M T σ τ) (hF4 : 4 ≤ F) (hF11 : F ≤ 11) (hT : T < 390000) (v2 : Int32) : ∃ σ' τ' d K', f_L_act__421 σ τ v2 = some (1, σ', τ', d) ∧ d ≤ 70 ∧ K ≤ K' ∧ JJ F C K' M T σ' τ' := by
  have hC := D_C h.1.1
  have hK := D_K h.1.1
  have hM := D_M h.1.1
  unfold f_L_act__421
  rw [L_K h.1.1]
  by_cases w : K = 24
  · subst w
    rw [if_pos (show nI 24 = 24 from rfl)]
    exact ⟨σ, τ, 0, 24, rfl, by omega, Nat.le_refl _, h⟩
  have hK24 : K < 24 := by omega
  rw [if_neg (by rw [show (24 : Int32) = nI 24 from rfl, ni_eq (by omega) (by omega)]; exact w), L_F h.1.1]
  have gF0 : ¬ nI F = 0 := by rw [show (0 : Int32) = nI 0 from rfl, ni_eq (by omega) (by omega)]; omega
  have eF1 : nI F - 1 = nI (F - 1) := ni_sub (b := 1) (by omega)
  have gF1 : ¬ nI F - 1 = 0 := by rw [eF1, show (0 : Int32) = nI 0 from rfl, ni_eq (by omega) (by omega)]; omega
  have hcc := h.2.2.2
  rw [if_neg gF0, if_neg gF1, if_neg gF0, if_neg (show ¬ 60000 < q_cc τ 1 by omega)]
  obtain ⟨b6, hb6, e6⟩ := jb_ex v2 (f := 6) (m := 4) (by decide)
  obtain ⟨b10, hb10, e10⟩ := jb_ex v2 (f := 10) (m := 4) (by decide)
  have ea : jrem (jbits v2 6 4) (nI F) = nI (b6 % F) := by
    rw [show jbits v2 6 4 = nI b6 from e6]
    exact jr_mod b6 (by omega) F (by omega) (by omega)
  have ee : jrem (jbits v2 10 4) (nI F - 1) = nI (b10 % (F - 1)) := by
    rw [show jbits v2 10 4 = nI b10 from e10, eF1]
    exact jr_mod b10 (by omega) (F - 1) (by omega) (by omega)
  have ha : b6 % F < F := Nat.mod_lt _ (by omega)
  have he : b10 % (F - 1) < F - 1 := Nat.mod_lt _ (by omega)
  rw [ea, ee]
  generalize b6 % F = a at ha ⊢
  generalize b10 % (F - 1) = e at he ⊢
  have eb : jrem (nI a + 1 + nI e) (nI F) = nI ((a + 1 + e) % F) := by
    rw [ni_1, ni_add]
    exact jr_mod _ (by omega) F (by omega) (by omega)
  have hb : (a + 1 + e) % F < F := Nat.mod_lt _ (by omega)
  have hab : a ≠ (a + 1 + e) % F := by
    rcases Nat.lt_or_ge (a + 1 + e) F with q | q
    · rw [Nat.mod_eq_of_lt q]
      omega
    · rw [Nat.mod_eq_sub_mod q, Nat.mod_eq_of_lt (by omega)]
      omega
  rw [eb]
  generalize (a + 1 + e) % F = b at hb hab ⊢
  have eT := L_T h.1.1
  have nK := N_K h.1.1
  rw [eT, p_st]
  obtain ⟨σ1, a1, a2⟩ := l_hist h
  obtain ⟨σ2, c1, c2, c3⟩ := a_addCall a2.1.1 hK24 a b T
  have hmk : f_X7_makeCall σ (nI a) (nI b) = some (nI K, σ2) := by
    unfold f_X7_makeCall f_X7_checkWay
    rw [x_floor σ (A_F h.1.1) (by omega) ha, p_bv, x_floor σ (A_F h.1.1) (by omega) hb, p_bv, if_neg (by rw [ni_eq (by omega) (by omega)]; exact hab), p_bv, A_K h.1.1, if_pos (by rw [q_l24 (by omega)]; exact hK24), a1, p_bv, A_T a2.1.1, c1, p_bi]
  have e502 : t_add (t_new τ (nI a) (nI b) (nI T)) 1 50 1 2 = nI (K + 1) := by
    rw [t_add2, (tn_n (τ := τ) _ _ _ 1).1, nK]
  refine ⟨σ2, t_add (t_new τ (nI a) (nI b) (nI T)) 1, 10 + t_cst τ 1 + 0, K + 1, ?_, ?_, by omega, ⟨⟨?_, ?_⟩, ?_, ?_, ?_⟩⟩
  · unfold f_L_act__529
    rw [hmk, p_bi, e502, show nI (K + 1) - 1 = nI K from ni_sub (b := 1) (by omega), if_pos rfl, if_neg (by decide), acx_some]
  · unfold t_cst t_cap
    rw [nK]
    split
    · omega
    · split <;> omega
  · rw [c2]
    have cell42 : ∀ f, t_add (t_new τ (nI a) (nI b) (nI T)) 1 42 K f = c_new (nI a) (nI b) (nI T) f := by
      intro f
      unfold t_add
      rw [s_ne (by decide), s_ne (by decide), s_ne (by decide)]
      exact if_pos ⟨rfl, nK.symm⟩
    have cell43 : ∀ c f, t_add (t_new τ (nI a) (nI b) (nI T)) 1 43 (4 * K + c) f = if f = 2 then -1 else 0 := by
      intro c f
      unfold t_add
      rw [s_ne (by decide), s_ne (by decide), s_ne (by decide)]
      show (if 43 = 42 ∧ _ then _ else _) = _
      rw [if_neg (fun z => absurd z.1 (by decide)), if_pos ⟨rfl, by rw [nK]; omega⟩]
    have cell44 : ∀ c q, q < 4 → t_add (t_new τ (nI a) (nI b) (nI T)) 1 44 (4 * K + c) q = -1 := by
      intro c q hq
      unfold t_add
      rw [s_ne (by decide), s_ne (by decide), s_ne (by decide)]
      show (if 44 = 42 ∧ _ then _ else _) = _
      rw [if_neg (fun z => absurd z.1 (by decide)), if_neg (fun z => absurd z.1 (by decide)), if_pos ⟨rfl, by rw [nK]; omega⟩, if_pos hq]
    have r42 : ∀ f, f < 11 → rwL (t_add (t_new τ (nI a) (nI b) (nI T)) 1) (55 + 24 * f + K) = c_new (nI a) (nI b) (nI T) f := fun f hf => (g_42 _ hK24 hf).trans (cell42 f)
    refine S_call a2.1.1 hK24 ha hb hab (m := T) (by omega) (fun k o i h1 h4 => ?_) (s_at _ _ _ _ _) ?_ ?_ ?_ ?_ ?_ ?_ ?_ ?_ ?_
    · rw [FrI h4, FrO h1, FrO h1, FrO h1, FrO h1, FrO h1, FrO h1, FrO h1, FrO h1, FrO h1, FrO h1, FrO h1]
    · refine ⟨?_, ?_, ?_, ?_, ?_, ?_, ?_, ?_, ?_, ?_⟩ <;> simp (disch := omega) only [s_ne, s_nf, s_at]
    · exact e502
    · exact ⟨r42 0 (by decide), r42 1 (by decide), r42 2 (by decide), r42 3 (by decide), r42 4 (by decide), r42 5 (by decide), r42 6 (by decide), r42 7 (by decide), r42 8 (by decide), r42 10 (by decide)⟩
    · intro c hc
      exact ⟨(g_43 _ (c := c) (k := K) (f := 0) hc hK24 (by decide)).trans (cell43 c 0), (g_43 _ (c := c) (k := K) (f := 2) hc hK24 (by decide)).trans (cell43 c 2), (g_43 _ (c := c) (k := K) (f := 3) hc hK24 (by decide)).trans (cell43 c 3), fun q hq => (g_44 _ hc hK24 hq).trans (cell44 c q hq)⟩
    · intro i hi h2
      unfold rwL
      by_cases h9 : i < 11
      · rw [if_pos h9, if_pos h9]
        rcases (show i = 0 ∨ i = 1 ∨ i = 3 ∨ i = 4 ∨ i = 5 ∨ i = 6 ∨ i = 7 ∨ i = 8 ∨ i = 9 ∨ i = 10 by omega) with rfl | rfl | rfl | rfl | rfl | rfl | rfl | rfl | rfl | rfl <;> first | exact tn_o (by decide) (fun z => absurd z.1 (by decide)) (fun z => absurd z.1 (by decide)) (fun z => absurd z.1 (by decide)) | exact tn_50 (by decide)
      · rw [if_neg h9, if_neg h9]
        repeat' split
        all_goals first | exact tn_o (by decide) (fun z => absurd z.1 (by decide)) (fun z => absurd z.1 (by decide)) (fun z => absurd z.1 (by decide)) | (exfalso; omega)
    · intro i hi
      unfold rwL
      repeat' split
      all_goals first | (exfalso; omega) | exact tn_o (by decide) (fun z => absurd z.1 (by decide)) (fun z => absurd z.1 (by decide)) (fun z => absurd z.1 (by decide))
    · intro f k hf hk
      rw [g_42 _ (by omega) hf, g_42 _ (by omega) hf]
      exact tn_o (by decide) (fun z => by have := z.2; omega) (fun z => absurd z.1 (by decide)) (fun z => absurd z.1 (by decide))
    · intro g c k hg hc hk
      rw [g_43 _ hc (by omega) hg, g_43 _ hc (by omega) hg]
      exact tn_o (by decide) (fun z => absurd z.1 (by decide)) (fun z => by have := z.2; omega) (fun z => absurd z.1 (by decide))
    · intro c k q hc hk hq
      rw [g_44 _ hc (by omega) hq, g_44 _ hc (by omega) hq]
      exact tn_o (by decide) (fun z => absurd z.1 (by decide)) (fun z => absurd z.1 (by decide)) (fun z => by have := z.2; omega)
  · obtain ⟨b1, b2, b3⟩ := h.1.2
    unfold CB q_nn q_cc at *
    rw [tn_50 (by decide), tn_50 (by decide), tn_o (by decide) (fun z => absurd z.1 (by decide)) (fun z => absurd z.1 (by decide)) (fun z => absurd z.1 (by decide))]
    exact ⟨b1, b2, b3⟩
  · rw [c2]
    have := a2.2.1
    unfold V_ann at this ⊢
    simp (disch := omega) only [s_ne]
    omega
  · rw [c3 3 (by decide) (by decide)]
    exact a2.2.2.1
  · have hcap : t_cap (t_new τ (nI a) (nI b) (nI T)) 1 ≤ 10 + 2 * (K + 1) := by
      unfold t_cap
      rw [(tn_n (τ := τ) _ _ _ 1).1, (tn_n (τ := τ) _ _ _ 1).2, nK]
      split
      · omega
      · split <;> omega
    show (t_add (t_new τ (nI a) (nI b) (nI T)) 1 50 1 3).toNatClampNeg ≤ _
    rw [t_add3, ni_cl (by omega)]
    exact hcap
/-- one act of the law, whatever its number says -/
theorem l_acts (h : JJ F C K M T σ τ) (hF4 : 4 ≤ F) (hF11 : F ≤ 11) (hC1 : 1 ≤ C) (hK1 : 1 ≤ K) (hT : T < 380000) (x : Int32) : ∃ σ' τ' d K' M' T', f_L_act_ σ τ x = some (1, σ', τ', d) ∧ d ≤ 12002 ∧ K ≤ K' ∧ T' ≤ T + 4 ∧ JJ F C K' M' T' σ' τ' := by
  have hC := D_C h.1.1
  have hK := D_K h.1.1
  obtain ⟨b4, hb4, e4⟩ := jb_ex x (f := 4) (m := 2) (by decide)
  have ec : jrem (jbits x 4 2) (nI C) = nI (b4 % C) := by
    rw [show jbits x 4 2 = nI b4 from e4]
    exact jr_mod b4 (by omega) C (by omega) (by omega)
  have hc : b4 % C < C := Nat.mod_lt _ (by omega)
  unfold f_L_act_
  rw [L_C h.1.1, if_neg (show ¬ nI C = 0 by rw [show (0 : Int32) = nI 0 from rfl, ni_eq (by omega) (by omega)]; omega), ec]
  generalize b4 % C = c at hc ⊢
  have gC : ¬ (nI c < 0 ∨ q_nn τ 0 ≤ (nI c).toNatClampNeg) := by rw [N_C h.1.1, gN hc (by omega)]; exact id
  have g4 : ¬ (nI c < 0 ∨ 4 ≤ (nI c).toNatClampNeg) := by rw [gN (by omega) (by decide)]; exact id
  have cl : (nI c).toNatClampNeg = c := ni_cl (by omega)
  rw [if_neg gC, if_neg gC, if_neg gC, if_neg gC, if_neg g4, cl]
  by_cases w0 : jbits x 0 4 = 0
  · rw [if_pos w0]
    have z : ∀ y : Int32, (y = 0 ∨ y = 1) → ∃ σ' τ' d K' M' T', f_L_act__112 σ τ (nI c) (τ 41 c 3) c y = some (1, σ', τ', d) ∧ d ≤ 12002 ∧ K ≤ K' ∧ T' ≤ T + 4 ∧ JJ F C K' M' T' σ' τ' := by
      intro y hy
      obtain ⟨σ', τ', d, i1, i2, i3⟩ := l_stop' h hc hy
      exact ⟨σ', τ', d, K, M, T, i1, by omega, Nat.le_refl _, by omega, i3⟩
    unfold f_L_act__111
    by_cases w1 : τ 41 c 3 = 0
    · rw [if_pos w1]
      by_cases w2 : jbits x 6 1 = 1
      · rw [if_pos w2]
        exact z 1 (Or.inr rfl)
      · rw [if_neg w2]
        exact z 0 (Or.inl rfl)
    · rw [if_neg w1]
      exact z 0 (Or.inl rfl)
  rw [if_neg w0]
  by_cases w1 : jbits x 0 4 = 1
  · rw [if_pos w1]
    have z : ∀ y : Int32, (y = 0 ∨ y = 1) → ∃ σ' τ' d K' M' T', f_L_act__265 σ τ (nI c) (τ 41 c 4) c y = some (1, σ', τ', d) ∧ d ≤ 12002 ∧ K ≤ K' ∧ T' ≤ T + 4 ∧ JJ F C K' M' T' σ' τ' := by
      intro y hy
      obtain ⟨σ', τ', i1, i3⟩ := l_jam' h hc hy
      exact ⟨σ', τ', 0, K, M, T, i1, by omega, Nat.le_refl _, by omega, i3⟩
    unfold f_L_act__264
    by_cases w1 : τ 41 c 4 = 0
    · rw [if_pos w1]
      by_cases w2 : jbits x 6 1 = 1
      · rw [if_pos w2]
        exact z 1 (Or.inr rfl)
      · rw [if_neg w2]
        exact z 0 (Or.inl rfl)
    · rw [if_neg w1]
      exact z 0 (Or.inl rfl)
  rw [if_neg w1]
  by_cases w2 : jbits x 0 4 = 2
  · rw [if_pos w2]
    obtain ⟨b6, hb6, e6⟩ := jb_ex x (f := 6) (m := 6) (by decide)
    rw [show jbits x 6 6 = nI b6 from e6]
    obtain ⟨σ', τ', i1, i3⟩ := l_set' h hb6
    exact ⟨σ', τ', 0, K, M, T, i1, by omega, Nat.le_refl _, by omega, i3⟩
  rw [if_neg w2]
  by_cases w3 : jbits x 0 4 = 3
  · rw [if_pos w3, L_K h.1.1, if_neg (show ¬ nI K = 0 by rw [show (0 : Int32) = nI 0 from rfl, ni_eq (by omega) (by omega)]; omega)]
    obtain ⟨b6, hb6, e6⟩ := jb_ex x (f := 6) (m := 5) (by decide)
    have ek : jrem (jbits x 6 5) (nI K) = nI (b6 % K) := by
      rw [show jbits x 6 5 = nI b6 from e6]
      exact jr_mod b6 (by omega) K (by omega) (by omega)
    have hk : b6 % K < K := Nat.mod_lt _ (by omega)
    rw [ek]
    generalize b6 % K = k at hk ⊢
    rw [N_K h.1.1, if_neg (show ¬ (nI k < 0 ∨ K ≤ (nI k).toNatClampNeg) by rw [gN hk (by omega)]; exact id), ni_cl (by omega)]
    by_cases w : τ 43 (4 * k + c) 0 = 0
    · rw [if_pos w]
      exact ⟨σ, τ, 0, K, M, T, rfl, by omega, Nat.le_refl _, by omega, h⟩
    · rw [if_neg w]
      obtain ⟨σ', τ', i1, i3⟩ := l_forget h hc hk w
      exact ⟨σ', τ', 1, K, M, T, i1, by omega, Nat.le_refl _, by omega, i3⟩
  rw [if_neg w3]
  have zc : ∃ σ' τ' d K' M' T', f_L_act__421 σ τ x = some (1, σ', τ', d) ∧ d ≤ 12002 ∧ K ≤ K' ∧ T' ≤ T + 4 ∧ JJ F C K' M' T' σ' τ' := by
    obtain ⟨σ', τ', d, K', i1, i2, i3, i4⟩ := l_call h hF4 hF11 (by omega) x
    exact ⟨σ', τ', d, K', M, T, i1, by omega, i3, by omega, i4⟩
  by_cases w4 : jbits x 0 4 = 4
  · rw [if_pos w4]
    exact zc
  rw [if_neg w4]
  by_cases w5 : jbits x 0 4 = 5
  · rw [if_pos w5]
    exact zc
  rw [if_neg w5]
  obtain ⟨b6, hb6, e6⟩ := jb_ex x (f := 6) (m := 2) (by decide)
  rw [show jbits x 6 2 = nI b6 from e6, show (1 : Int32) + nI b6 = nI (1 + b6) from ni_add 1 b6]
  obtain ⟨σ', τ', d, M', i1, i2, i3⟩ := l_run h (n := 1 + b6) (by omega) (by omega) (by omega)
  exact ⟨σ', τ', d, K, M', T + (1 + b6), i1, i2, Nat.le_refl _, by omega, i3⟩
end TK
