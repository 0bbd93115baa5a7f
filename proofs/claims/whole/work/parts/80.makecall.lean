/-! a call more; makeCall -/
theorem FrI {σ : Sg} {k o i : Nat} {x : Int32} {k' o' i' : Nat} (h : ¬ (k' = k ∧ i' = i)) : sup σ k o i x k' o' i' = σ k' o' i' := if_neg (fun q => h ⟨q.1, q.2.2⟩)
theorem g_st {α : Type} {σ : Sg} {q : Nat} {y : Int32} {f : Sg → Option α} (h : q < 2111) : (if nI q < 0 ∨ 2111 ≤ (nI q).toNatClampNeg then none else st (sup σ 30 0 (nI q).toNatClampNeg y) f) = f (sup σ 30 0 q y) := by
  rw [if_neg (by rw [gN h (by decide)]; exact id), ni_cl (by omega), p_st]
theorem b_forget (ρ : Sg) {c k : Nat} (hc : c < 4) (hk : k < 24) : ∃ ρ', f_X8_forgetsBids ρ (nI c) (nI k) = some ρ' ∧ (∀ k', k' ≠ 30 → ρ' k' = ρ k') ∧ ∀ i, ρ' 30 0 i = if 703 + 4 * (24 * c + k) ≤ i ∧ i < 703 + 4 * (24 * c + k) + 4 then -1 else ρ 30 0 i := by
  unfold f_X8_forgetsBids
  obtain ⟨n, b, ⟨b1, b2⟩, b3⟩ := lpE1 (fun n (b : Sg) i => f_X8_forgetsBids_2 n b (nI c) (nI k) i) 4 (by decide) (fun q b => (∀ k', k' ≠ 30 → b k' = ρ k') ∧ ∀ i, b 30 0 i = if 703 + 4 * (24 * c + k) ≤ i ∧ i < 703 + 4 * (24 * c + k) + q then -1 else ρ 30 0 i) (a := ρ) (by
    rintro n q b hq ⟨j1, j2⟩
    refine ⟨sup b 30 0 (703 + 4 * (24 * c + k) + q) (-1), ⟨fun k' hk' => (s_ne hk').trans (j1 k' hk'), fun i => ?_⟩, ?_⟩
    · by_cases w : i = 703 + 4 * (24 * c + k) + q
      · subst w
        rw [s_at, if_pos ⟨by omega, by omega⟩]
      · rw [s_nf w, j2 i]
        by_cases w2 : 703 + 4 * (24 * c + k) ≤ i ∧ i < 703 + 4 * (24 * c + k) + q
        · rw [if_pos w2, if_pos ⟨w2.1, by omega⟩]
        · rw [if_neg w2, if_neg (fun z => w2 ⟨z.1, by omega⟩)]
    · simp (disch := omega) only [f_X8_forgetsBids_2_s, q_4, p_nle, if_false, b_at, p_bi, ni_nn, ni_cl, false_or, p_st, ni_1]) ⟨fun _ _ => rfl, fun i => (if_neg (fun z => by omega)).symm⟩
  refine ⟨b, b3.trans ?_, b1, b2⟩
  simp (disch := omega) only [f_X8_forgetsBids_2_s, q_4, Nat.le_refl, if_true, f_X8_forgetsBids_25]
theorem b_addCall (ρ : Sg) {K a b m : Nat} (hK : K < 24) (h2 : ρ 30 0 2 = nI K) :
    ∃ ρ', f_X8_addCall ρ (nI m) (nI a) (nI b) = some ρ' ∧ (∀ k, k ≠ 30 → ρ' k = ρ k) ∧ ρ' 30 0 2 = nI (K + 1)
    ∧ (ρ' 30 0 (55 + K) = nI a ∧ ρ' 30 0 (79 + K) = nI b ∧ ρ' 30 0 (103 + K) = nI m ∧ ρ' 30 0 (127 + K) = 0 ∧ ρ' 30 0 (151 + K) = -1 ∧ ρ' 30 0 (175 + K) = -1 ∧ ρ' 30 0 (199 + K) = -1 ∧ ρ' 30 0 (223 + K) = 0 ∧ ρ' 30 0 (247 + K) = -1 ∧ ρ' 30 0 (295 + K) = -1)
    ∧ (∀ c, c < 4 → ρ' 30 0 (319 + 24 * c + K) = 0 ∧ ρ' 30 0 (511 + 24 * c + K) = -1 ∧ ρ' 30 0 (607 + 24 * c + K) = 0 ∧ ∀ q, q < 4 → ρ' 30 0 (703 + 4 * (24 * c + K) + q) = -1)
    ∧ ∀ i, i ≠ 2 → (∀ f, f < 11 → i ≠ 55 + 24 * f + K) → (∀ c, c < 4 → i ≠ 319 + 24 * c + K ∧ i ≠ 415 + 24 * c + K ∧ i ≠ 511 + 24 * c + K ∧ i ≠ 607 + 24 * c + K ∧ ¬ (703 + 4 * (24 * c + K) ≤ i ∧ i < 703 + 4 * (24 * c + K) + 4)) → ρ' 30 0 i = ρ 30 0 i := by
  have start : ∃ X, f_X8_addCall ρ (nI m) (nI a) (nI b) = f_X8_addCall_139 FU X (nI K) 0 ∧ X = sup (sup (sup (sup (sup (sup (sup (sup (sup (sup (sup ρ 30 0 (55 + K) (nI a)) 30 0 (79 + K) (nI b)) 30 0 (103 + K) (nI m)) 30 0 (127 + K) 0) 30 0 (151 + K) (-1)) 30 0 (175 + K) (-1)) 30 0 (199 + K) (-1)) 30 0 (223 + K) 0) 30 0 (247 + K) (-1)) 30 0 (271 + K) 0) 30 0 (295 + K) (-1) := by
    refine ⟨_, ?_, rfl⟩
    unfold f_X8_addCall
    rw [h2, l_55, l_79, l_103, l_127, l_151, l_175, l_199, l_223, l_247, l_271, l_295]
    rw [g_st (by omega), g_st (by omega), g_st (by omega), g_st (by omega), g_st (by omega), g_st (by omega), g_st (by omega), g_st (by omega), g_st (by omega), g_st (by omega), g_st (by omega)]
  obtain ⟨X, x1, x2⟩ := start
  have xk : ∀ k, k ≠ 30 → X k = ρ k := fun k hk => by
    rw [x2]
    simp (disch := exact hk) only [s_ne]
  have xi : ∀ i, (∀ f, f < 11 → i ≠ 55 + 24 * f + K) → X 30 0 i = ρ 30 0 i := fun i hi => by
    have e0 := hi 0 (by decide); have e1 := hi 1 (by decide); have e2 := hi 2 (by decide); have e3 := hi 3 (by decide); have e4 := hi 4 (by decide); have e5 := hi 5 (by decide); have e6 := hi 6 (by decide); have e7 := hi 7 (by decide); have e8 := hi 8 (by decide); have e9 := hi 9 (by decide); have e10 := hi 10 (by decide)
    rw [x2, s_nf (by omega), s_nf (by omega), s_nf (by omega), s_nf (by omega), s_nf (by omega), s_nf (by omega), s_nf (by omega), s_nf (by omega), s_nf (by omega), s_nf (by omega), s_nf (by omega)]
  obtain ⟨n, Y, ⟨y1, y2, y3⟩, y4⟩ := lpE1 (fun n (b : Sg) i => f_X8_addCall_139 n b (nI K) i) 4 (by decide) (fun c b => (∀ k', k' ≠ 30 → b k' = ρ k') ∧ (∀ c', c' < c → b 30 0 (319 + 24 * c' + K) = 0 ∧ b 30 0 (511 + 24 * c' + K) = -1 ∧ b 30 0 (607 + 24 * c' + K) = 0 ∧ ∀ q, q < 4 → b 30 0 (703 + 4 * (24 * c' + K) + q) = -1) ∧ ∀ i, (∀ c', c' < c → i ≠ 319 + 24 * c' + K ∧ i ≠ 415 + 24 * c' + K ∧ i ≠ 511 + 24 * c' + K ∧ i ≠ 607 + 24 * c' + K ∧ ¬ (703 + 4 * (24 * c' + K) ≤ i ∧ i < 703 + 4 * (24 * c' + K) + 4)) → b 30 0 i = X 30 0 i) (a := X) (by
    rintro n c b hc ⟨j1, j2, j3⟩
    obtain ⟨Z, z1, z2, z3⟩ := b_forget (sup (sup (sup (sup b 30 0 (319 + 24 * c + K) 0) 30 0 (415 + 24 * c + K) 0) 30 0 (511 + 24 * c + K) (-1)) 30 0 (607 + 24 * c + K) 0) hc hK
    refine ⟨Z, ⟨fun k' hk' => ?_, fun c' hc' => ?_, fun i hi => ?_⟩, ?_⟩
    · rw [z2 k' hk', s_ne hk', s_ne hk', s_ne hk', s_ne hk']
      exact j1 k' hk'
    · by_cases w : c' = c
      · subst w
        refine ⟨?_, ?_, ?_, fun q hq => ?_⟩
        · rw [z3, if_neg (by omega), s_nf (by omega), s_nf (by omega), s_nf (by omega), s_at]
        · rw [z3, if_neg (by omega), s_nf (by omega), s_at]
        · rw [z3, if_neg (by omega), s_at]
        · rw [z3, if_pos (by omega)]
      · obtain ⟨w1, w2, w3, w4⟩ := j2 c' (by omega)
        refine ⟨?_, ?_, ?_, fun q hq => ?_⟩
        · rw [z3, if_neg (by omega), s_nf (by omega), s_nf (by omega), s_nf (by omega), s_nf (by omega)]; exact w1
        · rw [z3, if_neg (by omega), s_nf (by omega), s_nf (by omega), s_nf (by omega), s_nf (by omega)]; exact w2
        · rw [z3, if_neg (by omega), s_nf (by omega), s_nf (by omega), s_nf (by omega), s_nf (by omega)]; exact w3
        · rw [z3, if_neg (by omega), s_nf (by omega), s_nf (by omega), s_nf (by omega), s_nf (by omega)]; exact w4 q hq
    · have hcc := hi c (by omega)
      rw [z3, if_neg (by omega), s_nf (by omega), s_nf (by omega), s_nf (by omega), s_nf (by omega)]
      exact j3 i (fun c' hc' => hi c' (by omega))
    · simp (disch := omega) only [f_X8_addCall_139_s, q_4, p_nle, if_false, m_24, l_319, l_415, l_511, l_607, ni_add, ni_nn, ni_cl, false_or, p_st, z1, p_bv, ni_1]) ⟨xk, fun c' hc' => absurd hc' (Nat.not_lt_zero c'), fun _ _ => rfl⟩
  have y2' : Y 30 0 2 = nI K := by
    rw [y3 2 (fun c' _ => by omega), xi 2 (fun f _ => by omega)]
    exact h2
  have yc : ∀ f, f < 11 → Y 30 0 (55 + 24 * f + K) = X 30 0 (55 + 24 * f + K) := fun f hf => y3 _ (fun c' hc' => by omega)
  refine ⟨sup Y 30 0 2 (nI (K + 1)), ?_, fun k hk => (s_ne hk).trans (y1 k hk), s_at _ _ _ _ _, ?_, ?_, ?_⟩
  · rw [x1]
    refine Eq.trans y4 ?_
    simp (disch := omega) only [f_X8_addCall_139_s, q_4, Nat.le_refl, if_true, f_X8_addCall_231, p_st, y2', ni_1]
  · have z : ∀ f, f < 11 → sup Y 30 0 2 (nI (K + 1)) 30 0 (55 + 24 * f + K) = X 30 0 (55 + 24 * f + K) := fun f hf => by rw [s_nf (by omega)]; exact yc f hf
    have t0 := z 0 (by decide); have t1 := z 1 (by decide); have t2 := z 2 (by decide); have t3 := z 3 (by decide); have t4 := z 4 (by decide); have t5 := z 5 (by decide); have t6 := z 6 (by decide); have t7 := z 7 (by decide); have t8 := z 8 (by decide); have t10 := z 10 (by decide)
    simp only [Nat.mul_zero, Nat.add_zero, Nat.mul_one, Nat.reduceMul, Nat.reduceAdd] at t0 t1 t2 t3 t4 t5 t6 t7 t8 t10
    rw [t0, t1, t2, t3, t4, t5, t6, t7, t8, t10, x2]
    refine ⟨?_, ?_, ?_, ?_, ?_, ?_, ?_, ?_, ?_, ?_⟩ <;> simp (disch := omega) only [s_nf, s_at]
  · intro c hc
    obtain ⟨w1, w2, w3, w4⟩ := y2 c hc
    refine ⟨?_, ?_, ?_, fun q hq => ?_⟩
    · rw [s_nf (by omega)]; exact w1
    · rw [s_nf (by omega)]; exact w2
    · rw [s_nf (by omega)]; exact w3
    · rw [s_nf (by omega)]; exact w4 q hq
  · intro i h1 h3 h4
    rw [s_nf h1, y3 i h4]
    exact xi i h3
section CH
variable {F C K M T U j : Nat} {σ ρ : Sg}
theorem q_l24 {K : Nat} (h : K < 2147483648) : (nI K < (24 : Int32)) = (K < 24) := by
  rw [show (24 : Int32) = nI 24 from rfl, ni_lt h (by omega)]
theorem t_addCall (h : LV F C K M T (vw j σ) (ρ 30 0)) (hK : K < 24) {a b m : Nat} (ha : a < F) (hb : b < F) (hab : a ≠ b) (hm : m ≤ 400000) :
    ∃ σ' ρ', f_X4_addCall σ j (nI m) (nI a) (nI b) = some (nI K, σ') ∧ f_X8_addCall ρ (nI m) (nI a) (nI b) = some ρ' ∧ LV F C (K + 1) M T (vw j σ') (ρ' 30 0) ∧ SP j σ ρ σ' ρ' := by
  obtain ⟨ρ', r1, r2, r3, r4, r5, r6⟩ := b_addCall ρ (a := a) (b := b) (m := m) hK (B_K h.1)
  have e0 : f_X4_addCall σ j (nI m) (nI a) (nI b) = some (nI K, sup (sup (sup (sup (sup (sup (sup (sup (sup (sup (sup (sup σ 1 (24 * j + K) 0 (nI a)) 1 (24 * j + K) 1 (nI b)) 1 (24 * j + K) 2 (nI m)) 1 (24 * j + K) 3 0) 1 (24 * j + K) 4 (-1)) 1 (24 * j + K) 5 (-1)) 1 (24 * j + K) 6 (-1)) 1 (24 * j + K) 7 0) 1 (24 * j + K) 8 (-1)) 1 (24 * j + K) 9 (-1)) 1 (24 * j + K) 10 (-1)) 4 j 2 (nI (K + 1))) := by
    unfold f_X4_addCall f_X1_start
    simp (disch := omega) only [A_K h.1, q_l24, hK, if_true, ni_nn, ni_cl, p_nle, false_or, if_false, p_st, p_bv, s_ne, s_at, ni_1]
    rw [show nI (K + 1) - 1 = nI K from ni_sub (b := 1) (by omega)]
  have vv : vw j (sup (sup (sup (sup (sup (sup (sup (sup (sup (sup (sup (sup σ 1 (24 * j + K) 0 (nI a)) 1 (24 * j + K) 1 (nI b)) 1 (24 * j + K) 2 (nI m)) 1 (24 * j + K) 3 0) 1 (24 * j + K) 4 (-1)) 1 (24 * j + K) 5 (-1)) 1 (24 * j + K) 6 (-1)) 1 (24 * j + K) 7 0) 1 (24 * j + K) 8 (-1)) 1 (24 * j + K) 9 (-1)) 1 (24 * j + K) 10 (-1)) 4 j 2 (nI (K + 1))) = sup (sup (sup (sup (sup (sup (sup (sup (sup (sup (sup (sup (vw j σ) 1 K 0 (nI a)) 1 K 1 (nI b)) 1 K 2 (nI m)) 1 K 3 0) 1 K 4 (-1)) 1 K 5 (-1)) 1 K 6 (-1)) 1 K 7 0) 1 K 8 (-1)) 1 K 9 (-1)) 1 K 10 (-1)) 4 0 2 (nI (K + 1)) := by
    simp only [vs_1, vs_4]
  refine ⟨_, ρ', e0, r1, ⟨?_, ?_⟩, ?_, r2⟩
  · rw [vv]
    refine S_call h.1 hK ha hb hab hm (fun k o i h1 h4 => ?_) (s_at _ _ _ _ _) ?_ r3 r4 r5 r6
    · rw [FrI h4, FrO h1, FrO h1, FrO h1, FrO h1, FrO h1, FrO h1, FrO h1, FrO h1, FrO h1, FrO h1, FrO h1]
    · refine ⟨?_, ?_, ?_, ?_, ?_, ?_, ?_, ?_, ?_, ?_⟩ <;> simp (disch := omega) only [s_ne, s_nf, s_at]
  · rw [vv]
    unfold V_ann
    simp (disch := omega) only [s_ne]
    exact Nat.le_trans h.2 (Nat.le_succ K)
  · intro k o i hn
    have h1 : ¬ (k = 1 ∧ o = 24 * j + K) := fun z => hn (by
      obtain ⟨rfl, rfl⟩ := z
      exact O_1 hK)
    have h4 : ¬ (k = 4 ∧ o = j) := fun z => hn (by
      obtain ⟨rfl, rfl⟩ := z
      exact (rfl : o = o))
    rw [FrO h4, FrO h1, FrO h1, FrO h1, FrO h1, FrO h1, FrO h1, FrO h1, FrO h1, FrO h1, FrO h1, FrO h1]
end CH
theorem E1_makeCall : E_makeCall RelN := by
  intro nn σ ρ v1 v2 hn hR
  obtain ⟨⟨F, C, K, M, T, hC1, hT, hL⟩, -⟩ := id hR
  have dK := D_K hL.1
  have hLr : LV F C K M T (vw 0 σ) ((sup ρ 8 0 8 0) 30 0) := by rw [s_30]; exact hL
  rcases x_way hL.1 v1 v2 with ⟨a, b, ha, hb, hab, rfl, rfl, e1, e2⟩ | ⟨e1, e2⟩
  · by_cases w : K < 24
    · obtain ⟨σ1, ρ1, a1, a2, a3, a4, a5⟩ := t_remember (hR.cut 0) hLr hT hC1
      obtain ⟨σ2, ρ2, b1, b2, b3, b4⟩ := t_addCall a3 w ha hb hab (m := T) (by omega)
      refine ⟨(0, nI K, σ2), nI K, ρ2, ?_, Or.inl rfl, ?_, ⟨⟨F, C, K + 1, M, T, hC1, by omega, b3⟩, (a4.st b4.st (by decide)).up⟩, ?_, fun _ => rfl⟩
      · unfold f_X7_makeCall
        rw [e1, p_bx0, A_K hL.1, if_pos (by rw [q_l24 (by omega)]; exact w), a1, p_bv, A_T a3.1, b1, p_bi]
      · unfold f_X8_makeCall f_X8_makeCall_26
        rw [e2, p_bi, if_pos rfl, s_30, B_K hL.1, if_neg (by rw [show (24 : Int32) = nI 24 from rfl, ni_eq (by omega) (by omega)]; omega), x_f0, p_bi, if_pos rfl, a2, p_bv, B_T a3.1, b2, p_bv, B_K b3.1, show nI (K + 1) - 1 = nI K from ni_sub (b := 1) (by omega)]
      · rw [b4.2 8 (by decide), a5, s_thr]
        rfl
    · have hK24 : K = 24 := by omega
      subst hK24
      refine ⟨(3, 0, σ), 0, sup ρ 8 0 8 2, ?_, Or.inr (Or.inr rfl), ?_, hR.thr 2, s_thr ρ 2, fun h => absurd (show (3 : Nat) = 0 from h) (by decide)⟩
      · unfold f_X7_makeCall
        rw [e1, p_bx0, A_K hL.1, if_neg (by decide)]
      · unfold f_X8_makeCall f_X8_makeCall_26 f_X8_makeCall_33
        rw [e2, p_bi, if_pos rfl, s_30, B_K hL.1, if_pos (by decide), x_f1, p_bi, if_neg (by decide), s_ss]
  · refine ⟨(2, 0, σ), 0, sup ρ 8 0 8 1, ?_, Or.inr (Or.inl rfl), ?_, hR.thr 1, s_thr ρ 1, fun h => absurd (show (2 : Nat) = 0 from h) (by decide)⟩
    · unfold f_X7_makeCall
      rw [e1]
      rfl
    · unfold f_X8_makeCall f_X8_makeCall_33
      rw [e2, p_bi, if_neg (by decide)]
