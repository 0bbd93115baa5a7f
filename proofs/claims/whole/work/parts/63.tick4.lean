/-! a tick: sends, announcements, phases 1 and 3 -/
theorem ni_2 (k : Nat) : nI k + 2 = nI (k + 2) := ni_add k 2
theorem ni_3 (k : Nat) : nI k + 3 = nI (k + 3) := ni_add k 3
theorem q_240 {M : Nat} (h : M < 240) : ((240 : Int32) ≤ nI M) = False := by
  rw [show (240 : Int32) = nI 240 from rfl, ni_le (by omega) (by omega)]
  exact eq_false (by omega)
theorem O_1 {j k : Nat} (h : k < 24) : Own j 1 (24 * j + k) := by show (24 * j + k) / 24 = j; omega
theorem O_2 {j k : Nat} (h : k < 4) : Own j 2 (4 * j + k) := by show (4 * j + k) / 4 = j; omega
theorem O_16 {j k : Nat} (h : k < 4) : Own j 16 (4 * j + k) := by show (4 * j + k) / 4 = j; omega
theorem O_17 {j k : Nat} (h : k < 4) : Own j 17 (4 * j + k) := by show (4 * j + k) / 4 = j; omega
theorem O_18 {j k : Nat} (h : k < 4) : Own j 18 (4 * j + k) := by show (4 * j + k) / 4 = j; omega
theorem O_19 {j k : Nat} (h : k < 4) : Own j 19 (4 * j + k) := by show (4 * j + k) / 4 = j; omega
theorem ct_set {P P' : Nat → Bool} {n k : Nat} (hk : k < n) (h0 : P k = false) (h1 : P' k = true) (h : ∀ i, i ≠ k → P' i = P i) : ct P' n = ct P n + 1 := by
  induction n with
  | zero => omega
  | succ n ih =>
    rw [ct_s, ct_s]
    by_cases e : k = n
    · subst e
      rw [h0, h1, ct_congr (Q := P) (fun i hi => h i (by omega))]
      simp
    · rw [ih (by omega), h n (fun q => e q.symm)]
      split <;> rfl
def NQ (v : Sg) (K T : Nat) : Nat := ct (fun k => decide (v 1 k 10 = nI T)) K
def NW (v : Sg) (K : Nat) : Nat := ct (fun k => decide (v 1 k 3 = 1)) K
section TK
variable {F C K M T U j : Nat} {σ ρ : Sg}
theorem t_send (h : LU F C K M T U (vw j σ) (ρ 30 0)) {d k n : Nat} {s : Int32} (hd : d < 4) (hk : k < K) (hn : n ≤ 1000) (hM : M < 240) (hs : (d = 0 ∧ s = -1) ∨ (1 ≤ d ∧ ∃ c, c < C ∧ s = nI c)) :
    ∃ σ' ρ', f_X4_send σ j s (nI d) (nI k) (nI n) = some σ' ∧ f_X8_sends ρ (nI d) (nI k) s (nI n) = some ρ' ∧ LU F C K (M + 1) T U (vw j σ') (ρ' 30 0) ∧ SP j σ ρ σ' ρ' ∧ V_ann (vw j σ') (M + 1) = V_ann (vw j σ) M + (if nI d = 0 then 1 else 0) ∧ ∀ q, q < 20 → q ≠ 5 → q ≠ 13 → vw j σ' q = vw j σ q := by
  have hx : ρ 30 0 (11 + d) = σ 13 j d := (h.2.2.1 d hd).1
  refine ⟨sup (sup (sup (sup (sup (sup σ 20 j M s) 21 j M (nI d)) 22 j M (nI k)) 23 j M (nI n)) 5 j 0 (nI (M + 1))) 13 j d (σ 13 j d + 1), sup (sup (sup (sup (sup (sup ρ 30 0 (1087 + 4 * M) (nI d)) 30 0 (1087 + 4 * M + 1) (nI k)) 30 0 (1087 + 4 * M + 2) s) 30 0 (1087 + 4 * M + 3) (nI n)) 30 0 10 (nI (M + 1))) 30 0 (11 + d) (σ 13 j d + 1), ?_, ?_, ?_, ?_, ?_, ?_⟩
  · unfold f_X4_send f_X5_append
    simp (disch := omega) only [A_M h, q_240, if_false, ni_nn, ni_cl, p_nle, false_or, p_st, p_bv, s_ne, ni_1, f_X5_append_61]
  · unfold f_X8_sends
    simp (disch := omega) only [B_M h, m_4, l_1087, l_11, ni_1, ni_2, ni_3, if_false, ni_nn, ni_cl, p_nle, false_or, p_st, s_nf, hx]
  · rw [vs_13, vs_5, vs_23, vs_22, vs_21, vs_20, s_ru, s_ru, s_ru, s_ru, s_ru, s_ru]
    exact S_send h hd hk hn hM hs _
  · refine SP.r (SP.r (SP.r (SP.r (SP.r (SP.r (SP.c (SP.c (SP.c (SP.c (SP.c (SP.c (SP.rf j σ ρ) ?_ _ _) ?_ _ _) ?_ _ _) ?_ _ _) ?_ _ _) ?_ _ _) _ _) _ _) _ _) _ _) _ _) _ _ <;> exact (rfl : j = j)
  · rw [vs_13, vs_5, vs_23, vs_22, vs_21, vs_20]
    exact A_send d
  · intro q h1 h2 h3
    rw [vs_13, vs_5, vs_23, vs_22, vs_21, vs_20]
    rw [s_ne (by omega), s_ne (by omega), s_ne (by omega), s_ne (by omega), s_ne (by omega), s_ne (by omega)]
theorem t_announce (h : LU F C K M T U (vw j σ) (ρ 30 0)) {k : Nat} (hk : k < K) (hM : M < 240) (hU : T < U) (h0 : vw j σ 1 k 3 ≠ 0) :
    ∃ σ' ρ', f_X0_announce σ j (nI k) = some σ' ∧ f_X8_announces ρ (nI k) = some ρ' ∧ LU F C K (M + 1) T U (vw j σ') (ρ' 30 0) ∧ SP j σ ρ σ' ρ' ∧ V_ann (vw j σ') (M + 1) = V_ann (vw j σ) M + 1 ∧ (∀ k' f, f ≠ 7 → vw j σ' 1 k' f = if k' = k ∧ f = 10 then nI T else vw j σ 1 k' f) ∧ ∀ q, q < 20 → q ≠ 1 → q ≠ 5 → q ≠ 13 → vw j σ' q = vw j σ q := by
  have hK := D_K h
  obtain ⟨e0, e1, e2, e3, e4, e5, e6, e7, e8, e10⟩ := B_call h hk
  have e7' : ρ 30 0 (223 + k) = σ 1 (24 * j + k) 7 := e7
  have g1 := S_told (S_rnd h hk (σ 1 (24 * j + k) 7 + 1)) hk hU (by rw [s_nf (by decide)]; exact h0)
  rw [← vs_1, ← vs_1, ← s_ru, ← s_ru] at g1
  obtain ⟨σ', ρ', i1, i2, i3, i4, i5, i6⟩ := t_send (j := j) g1 (d := 0) (n := 0) (s := -1) (by decide) hk (by decide) hM (Or.inl ⟨rfl, rfl⟩)
  refine ⟨σ', ρ', ?_, ?_, i3, ?_, ?_, ?_, ?_⟩
  · unfold f_X0_announce
    simp (disch := omega) only [ni_nn, ni_cl, p_nle, false_or, if_false, p_st, s_ne, A_T h]
    rw [show f_X4_send (sup (sup σ 1 (24 * j + k) 7 (σ 1 (24 * j + k) 7 + 1)) 1 (24 * j + k) 10 (nI T)) j (-1) 0 (nI k) 0 = some σ' from i1]
    rfl
  · unfold f_X8_announces
    simp (disch := omega) only [l_223, l_295, ni_nn, ni_cl, p_nle, false_or, if_false, p_st, s_nf, e7', B_T h]
    rw [show f_X8_sends (sup (sup ρ 30 0 (223 + k) (σ 1 (24 * j + k) 7 + 1)) 30 0 (295 + k) (nI T)) 0 (nI k) (-1) 0 = some ρ' from i2]
    rfl
  · exact (SP.r (SP.r (SP.c (SP.c (SP.rf j σ ρ) (O_1 (by omega)) _ _) (O_1 (by omega)) _ _) _ _) _ _).trans i4
  · rw [i5, vs_1, vs_1, if_pos (show nI 0 = 0 from rfl)]
    unfold V_ann
    rw [s_ne (by decide), s_ne (by decide)]
  · intro k' f h7
    rw [i6 1 (by decide) (by decide) (by decide), vs_1, vs_1]
    by_cases w : k' = k
    · subst w
      by_cases w2 : f = 10
      · subst w2
        rw [s_at, if_pos ⟨rfl, rfl⟩]
      · rw [s_nf w2, s_nf h7, if_neg (fun q => w2 q.2)]
    · rw [s_no w, s_no w, if_neg (fun q => w q.1)]
  · intro q h1 h2 h3 h4
    rw [i6 q h1 h3 h4, vs_1, vs_1, s_ne h2, s_ne h2]
end TK
