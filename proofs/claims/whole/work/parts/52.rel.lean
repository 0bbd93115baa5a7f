/-! the relation: a view of one Lifts of the class, and a row of the reference -/
def vw (j : Nat) (σ : Sg) : Sg := fun k o i => match k with
  | 1 => σ 1 (24 * j + o) i
  | 2 => σ 2 (4 * j + o) i
  | 16 => σ 16 (4 * j + o) i
  | 17 => σ 17 (4 * j + o) i
  | 18 => σ 18 (4 * j + o) i
  | 19 => σ 19 (4 * j + o) i
  | k => σ k (j + o) i
def V_hd (F C K M T : Nat) (v : Sg) (r : Nat → Int32) : Prop :=
  v 4 0 0 = nI F ∧ v 4 0 1 = nI C ∧ v 4 0 2 = nI K ∧ v 4 0 3 = nI T ∧ v 5 0 0 = nI M ∧ r 0 = nI F ∧ r 1 = nI C ∧ r 2 = nI K ∧ r 3 = nI T ∧ r 10 = nI M ∧ r 9 = v 4 0 4 ∧ 2 ≤ F ∧ F ≤ 30 ∧ C ≤ 4 ∧ K ≤ 24 ∧ M ≤ 240
def V_set (v : Sg) (r : Nat → Int32) : Prop := (∀ i, i < 5 → r (4 + i) = v 12 0 i) ∧ ∃ P W D, v 12 0 1 = nI P ∧ 3 ≤ P ∧ P ≤ 50 ∧ v 12 0 2 = nI W ∧ W ≤ 20 ∧ v 12 0 3 = nI D ∧ D ≤ 5
def V_cnt (v : Sg) (r : Nat → Int32) : Prop := ∀ i, i < 4 → r (11 + i) = v 13 0 i ∧ r (15 + i) = v 14 0 i ∧ r (19 + i) = v 15 0 (i + 1) ∧ v 15 0 0 = 0
def V_car (F C : Nat) (v : Sg) (r : Nat → Int32) : Prop := ∀ c, c < C → (∀ f, f < 8 → r (23 + 4 * f + c) = v 2 c f) ∧ (∃ a, a < F ∧ v 2 c 0 = nI a) ∧ (∃ p, 1 ≤ p ∧ p ≤ 8 ∧ v 2 c 1 = nI p) ∧ (∃ d, d ≤ 5 ∧ v 2 c 2 = nI d) ∧ (v 2 c 3 = 0 ∨ v 2 c 3 = 1) ∧ (v 2 c 4 = 0 ∨ v 2 c 4 = 1)
/-- the times of a call: made, aboard; its state -/
def V_time (T : Nat) (v : Sg) (k : Nat) : Prop := ∃ m s, m ≤ 400000 ∧ s ≤ 3 ∧ v 1 k 2 = nI m ∧ v 1 k 3 = nI s ∧ (1 ≤ s → m ≤ T) ∧ (2 ≤ s → ∃ a, m ≤ a ∧ a ≤ T ∧ v 1 k 5 = nI a) ∧ (s = 0 → v 1 k 10 = -1)
def V_call (F C K T U : Nat) (v : Sg) (r : Nat → Int32) : Prop := ∀ k, k < K → (∀ f, f < 11 → f ≠ 9 → r (55 + 24 * f + k) = v 1 k f) ∧ (v 1 k 8 ≠ -1 → r (271 + k) = v 1 k 9) ∧ (∃ a b, a < F ∧ b < F ∧ a ≠ b ∧ v 1 k 0 = nI a ∧ v 1 k 1 = nI b) ∧ V_time T v k ∧ (v 1 k 8 = -1 ∨ ∃ c, c < C ∧ v 1 k 8 = nI c) ∧ (v 1 k 10 = -1 ∨ ∃ t, t < U ∧ v 1 k 10 = nI t)
def V_held (C K : Nat) (v : Sg) (r : Nat → Int32) : Prop := ∀ c, c < C → (∀ k, k < K → r (319 + 24 * c + k) = if bt (v 2 c 8) k then 1 else 0) ∧ ∀ k, K ≤ k → bt (v 2 c 8) k = false
def V_abd (C K : Nat) (v : Sg) : Prop := ∀ c, c < C → ∀ k, bt (v 2 c 9) k = decide (k < K ∧ v 1 k 3 = 2 ∧ v 1 k 4 = nI c)
def V_kn1 (C K T : Nat) (v : Sg) (r : Nat → Int32) : Prop := ∀ c, c < C → ∀ k, k < K → r (511 + 24 * c + k) = v 17 c k ∧ (∀ q, q < 4 → r (703 + 4 * (24 * c + k) + q) = v 18 c (4 * k + q)) ∧ (∀ t, t < 4 → bt (r (607 + 24 * c + k)) t = bt (v 19 c t) k) ∧ ((bt (v 2 c 8) k = true ∨ v 17 c k ≠ -1) → r (415 + 24 * c + k) = v 16 c k ∧ ∃ n, n ≤ 1000 ∧ v 16 c k = nI n) ∧ (v 17 c k = -1 ∨ ∃ t, t ≤ T + 2 ∧ v 17 c k = nI t) ∧ (∀ q, q < 4 → v 18 c (4 * k + q) = -1 ∨ ∃ n, n ≤ 1000 ∧ v 18 c (4 * k + q) = nI n)
def V_kn0 (C K : Nat) (v : Sg) : Prop := ∀ c, c < C → ∀ k, K ≤ k → k < 24 → v 17 c k = -1 ∧ (∀ q, q < 4 → v 18 c (4 * k + q) = -1) ∧ ∀ t, t < 4 → bt (v 19 c t) k = false
def V_msg (C K M : Nat) (v : Sg) (r : Nat → Int32) : Prop := ∀ i, i < M → r (1087 + 4 * i) = v 21 0 i ∧ r (1087 + 4 * i + 1) = v 22 0 i ∧ r (1087 + 4 * i + 2) = v 20 0 i ∧ r (1087 + 4 * i + 3) = v 23 0 i ∧ (∃ k, k < K ∧ v 22 0 i = nI k) ∧ ((v 21 0 i = 0 ∧ v 20 0 i = -1) ∨ ∃ d c, 1 ≤ d ∧ d ≤ 3 ∧ c < C ∧ v 21 0 i = nI d ∧ v 20 0 i = nI c) ∧ ∃ n, n ≤ 1000 ∧ v 23 0 i = nI n
def V_ann (v : Sg) (M : Nat) : Nat := ct (fun i => decide (v 21 0 i = 0)) M
def LU (F C K M T U : Nat) (v : Sg) (r : Nat → Int32) : Prop := V_hd F C K M T v r ∧ V_set v r ∧ V_cnt v r ∧ V_car F C v r ∧ V_call F C K T U v r ∧ V_held C K v r ∧ V_abd C K v ∧ V_kn1 C K T v r ∧ V_kn0 C K v ∧ V_msg C K M v r
def LV (F C K M T : Nat) (v : Sg) (r : Nat → Int32) : Prop := LU F C K M T T v r ∧ V_ann v M ≤ K
def LVn (n : Nat) (v : Sg) (r : Nat → Int32) : Prop := ∃ F C K M T, 1 ≤ C ∧ T ≤ 500 * n ∧ LV F C K M T v r
def R_in (σ ρ : Sg) : Prop := ∃ n, n ≤ 700 ∧ σ 7 0 1 = nI n ∧ ρ 8 0 10 = nI n ∧ ∀ i, i < n → σ 10 0 i = ρ 36 0 i ∧ ∃ b, b < 256 ∧ σ 10 0 i = nI b
def R_out (σ ρ : Sg) : Prop := ∃ n, n ≤ 30 ∧ σ 7 0 5 = nI n ∧ ρ 8 0 22 = nI n ∧ ∀ i, i < n → σ 11 0 i = ρ 38 0 i
def R_sav (n : Nat) (σ ρ : Sg) : Prop := (σ 7 0 9 = 0 ∧ ρ 8 0 7 = 0) ∨ (σ 7 0 9 = 1 ∧ ρ 8 0 7 = 1 ∧ LVn n (vw 2 σ) (ρ 33 0))
def R_his (n : Nat) (σ ρ : Sg) : Prop := ∃ h x, h ≤ 10 ∧ x < 10 ∧ σ 3 0 0 = nI h ∧ σ 3 0 1 = nI x ∧ ρ 8 0 6 = nI h ∧ ∀ i, i < h → LVn n (vw (3 + (x + 10 - h + i) % 10) σ) (fun q => ρ 34 0 (2111 * i + q))
def RelN (n : Nat) (σ ρ : Sg) : Prop := LVn n (vw 0 σ) (ρ 30 0) ∧ R_in σ ρ ∧ R_out σ ρ ∧ (σ 7 0 2 = ρ 8 0 11 ∧ σ 7 0 3 = ρ 8 0 12) ∧ R_sav n σ ρ ∧ R_his n σ ρ
theorem LVn.mono {n m : Nat} {v : Sg} {r : Nat → Int32} (h : LVn n v r) (hm : n ≤ m) : LVn m v r := by
  obtain ⟨F, C, K, M, T, h1, h2, h3⟩ := h
  exact ⟨F, C, K, M, T, h1, by omega, h3⟩
theorem RelN.up {n : Nat} {σ ρ : Sg} (h : RelN n σ ρ) : RelN (n + 1) σ ρ := by
  obtain ⟨h1, h2, h3, h4, h5, h, x, h6, h7, h8, h9, h10, h11⟩ := h
  refine ⟨h1.mono (Nat.le_succ n), h2, h3, h4, ?_, h, x, h6, h7, h8, h9, h10, fun i hi => (h11 i hi).mono (Nat.le_succ n)⟩
  rcases h5 with h5 | ⟨a, b, c⟩
  · exact Or.inl h5
  · exact Or.inr ⟨a, b, c.mono (Nat.le_succ n)⟩
/-- what the relation reads of the reference -/
def R_eq (ρ ρ' : Sg) : Prop := ρ' 30 = ρ 30 ∧ ρ' 33 = ρ 33 ∧ ρ' 34 = ρ 34 ∧ ρ' 36 = ρ 36 ∧ ρ' 38 = ρ 38 ∧ ρ' 8 0 6 = ρ 8 0 6 ∧ ρ' 8 0 7 = ρ 8 0 7 ∧ ρ' 8 0 10 = ρ 8 0 10 ∧ ρ' 8 0 11 = ρ 8 0 11 ∧ ρ' 8 0 12 = ρ 8 0 12 ∧ ρ' 8 0 22 = ρ 8 0 22
theorem RelN.ref {n : Nat} {σ ρ ρ' : Sg} (h : RelN n σ ρ) (e : R_eq ρ ρ') : RelN n σ ρ' := by
  obtain ⟨e1, e2, e3, e4, e5, e6, e7, e8, e9, e10, e11⟩ := e
  unfold RelN R_in R_out R_sav R_his at h ⊢
  rw [e1, e2, e3, e4, e5, e6, e7, e8, e9, e10, e11]
  exact h
theorem R_thr (ρ : Sg) (x : Int32) : R_eq ρ (sup ρ 8 0 8 x) := by
  refine ⟨?_, ?_, ?_, ?_, ?_, ?_, ?_, ?_, ?_, ?_, ?_⟩ <;> first | (funext o i; exact if_neg (fun q => absurd q.1 (by decide))) | exact if_neg (fun q => absurd q.2.2 (by decide))
theorem R_eq.trans {a b c : Sg} (h : R_eq a b) (h' : R_eq b c) : R_eq a c := by
  obtain ⟨e1, e2, e3, e4, e5, e6, e7, e8, e9, e10, e11⟩ := h
  obtain ⟨f1, f2, f3, f4, f5, f6, f7, f8, f9, f10, f11⟩ := h'
  exact ⟨f1.trans e1, f2.trans e2, f3.trans e3, f4.trans e4, f5.trans e5, f6.trans e6, f7.trans e7, f8.trans e8, f9.trans e9, f10.trans e10, f11.trans e11⟩
theorem R_eq.rf (a : Sg) : R_eq a a := ⟨rfl, rfl, rfl, rfl, rfl, rfl, rfl, rfl, rfl, rfl, rfl⟩
theorem RelN.thr {n : Nat} {σ ρ : Sg} (h : RelN n σ ρ) (x : Int32) : RelN (n + 1) σ (sup ρ 8 0 8 x) := (h.ref (R_thr ρ x)).up
theorem RelN.thr2 {n : Nat} {σ ρ : Sg} (h : RelN n σ ρ) (x y : Int32) : RelN (n + 1) σ (sup (sup ρ 8 0 8 x) 8 0 8 y) := ((h.ref (R_thr ρ x)).ref (R_thr _ y)).up
theorem s_thr (ρ : Sg) (x : Int32) : (sup ρ 8 0 8 x) 8 0 8 = x := if_pos ⟨rfl, rfl, rfl⟩
theorem s_30 (ρ : Sg) (x : Int32) : (sup ρ 8 0 8 x) 30 = ρ 30 := by
  funext o i
  exact if_neg (fun q => absurd q.1 (by decide))
theorem s_8 (ρ : Sg) (x : Int32) {i : Nat} (hi : i ≠ 8) : (sup ρ 8 0 8 x) 8 0 i = ρ 8 0 i := if_neg (fun q => hi q.2.2)
theorem s_36 (ρ : Sg) (x : Int32) : (sup ρ 8 0 8 x) 36 = ρ 36 := by
  funext o i
  exact if_neg (fun q => absurd q.1 (by decide))
theorem s_38 (ρ : Sg) (x : Int32) : (sup ρ 8 0 8 x) 38 = ρ 38 := by
  funext o i
  exact if_neg (fun q => absurd q.1 (by decide))
/-! checks -/
theorem x_idx (v : Int32) {C : Nat} (hC : C < 2147483648) : (∃ c, c < C ∧ v = nI c) ∨ (v < 0 ∨ nI C ≤ v) := by
  rcases Int.lt_or_le v.toInt 0 with h | h
  · exact Or.inr (Or.inl (by rw [Int32.lt_iff_toInt_lt, Int32.toInt_zero]; exact h))
  · obtain ⟨n, hn, rfl⟩ := ni_of h
    rcases Nat.lt_or_ge n C with h1 | h1
    · exact Or.inl ⟨n, h1, rfl⟩
    · exact Or.inr (Or.inr (by rw [ni_le hC hn]; exact h1))
theorem x_in1 (ρ : Sg) {v a b : Int32} (h : ¬ v < a) (h' : ¬ b < v) : f_X8_inRange ρ v a b = some (1, ρ) := by
  unfold f_X8_inRange
  rw [if_neg h, if_neg h']
  rfl
theorem x_in0 (ρ : Sg) {v a b : Int32} (h : v < a ∨ b < v) : f_X8_inRange ρ v a b = some (0, ρ) := by
  unfold f_X8_inRange
  by_cases h1 : v < a
  · rw [if_pos h1]
    rfl
  · rw [if_neg h1, if_pos (h.resolve_left h1)]
    rfl
theorem x_f0 (ρ : Sg) (c : Int32) : f_X8_fails ρ 0 c = some (0, ρ) := rfl
theorem x_f1 (ρ : Sg) (c : Int32) : f_X8_fails ρ 1 c = some (1, sup ρ 8 0 8 c) := rfl
theorem x_car0 {σ : Sg} {C c : Nat} (hC : σ 4 0 1 = nI C) (h4 : C ≤ 4) (hc : c < C) : f_X7_checkCar σ (nI c) = some (0, 0, σ) := by
  unfold f_X7_checkCar
  simp (disch := omega) only [hC, ni_nn, ni_lt, if_false, hc, if_true]
theorem x_car1 {σ : Sg} {C : Nat} {v : Int32} (hC : σ 4 0 1 = nI C) (h : v < 0 ∨ nI C ≤ v) : f_X7_checkCar σ v = some (1, 0, σ) := by
  unfold f_X7_checkCar
  by_cases h1 : v < 0
  · rw [if_pos h1]; rfl
  · rw [if_neg h1, hC, if_neg (fun q => absurd (h.resolve_left h1) (Int32.not_le.mpr q))]; rfl
theorem x_call0 {σ : Sg} {C c : Nat} (hC : σ 4 0 2 = nI C) (h4 : C ≤ 24) (hc : c < C) : f_X7_checkCall σ (nI c) = some (0, 0, σ) := by
  unfold f_X7_checkCall
  simp (disch := omega) only [hC, ni_nn, ni_lt, if_false, hc, if_true]
theorem x_call1 {σ : Sg} {C : Nat} {v : Int32} (hC : σ 4 0 2 = nI C) (h : v < 0 ∨ nI C ≤ v) : f_X7_checkCall σ v = some (1, 0, σ) := by
  unfold f_X7_checkCall
  by_cases h1 : v < 0
  · rw [if_pos h1]; rfl
  · rw [if_neg h1, hC, if_neg (fun q => absurd (h.resolve_left h1) (Int32.not_le.mpr q))]; rfl
theorem x_floor0 {σ : Sg} {C c : Nat} (hC : σ 4 0 0 = nI C) (h4 : C ≤ 30) (hc : c < C) : f_X7_checkFloor σ (nI c) = some (0, 0, σ) := by
  unfold f_X7_checkFloor
  simp (disch := omega) only [hC, ni_nn, ni_lt, if_false, hc, if_true]
theorem x_floor1 {σ : Sg} {C : Nat} {v : Int32} (hC : σ 4 0 0 = nI C) (h : v < 0 ∨ nI C ≤ v) : f_X7_checkFloor σ v = some (2, 0, σ) := by
  unfold f_X7_checkFloor
  by_cases h1 : v < 0
  · rw [if_pos h1]; rfl
  · rw [if_neg h1, hC, if_neg (fun q => absurd (h.resolve_left h1) (Int32.not_le.mpr q))]; rfl
theorem x_m1 {c C : Nat} (hc : c < C) (hC : C < 2147483648) : ¬ (nI c < 0) ∧ ¬ (nI C - 1 < nI c) := by
  rw [ni_nn (by omega), show nI C - 1 = nI (C - 1) from ni_sub (b := 1) (by omega), ni_lt (by omega) (by omega)]
  exact ⟨id, by omega⟩
theorem x_m2 {v : Int32} {C : Nat} (h : v < 0 ∨ nI C ≤ v) (h0 : 0 < C) (hC : C < 2147483648) : v < 0 ∨ nI C - 1 < v := by
  rcases h with h | h
  · exact Or.inl h
  · refine Or.inr ?_
    rw [show nI C - 1 = nI (C - 1) from ni_sub (b := 1) (by omega)]
    rw [Int32.le_iff_toInt_le, ni_int (by omega)] at h
    rw [Int32.lt_iff_toInt_lt, ni_int (by omega)]
    omega
theorem x_m2z {v : Int32} (h : v < 0 ∨ nI 0 ≤ v) : v < 0 ∨ nI 0 - 1 < v := by
  rcases h with h | h
  · exact Or.inl h
  · refine Or.inr ?_
    rw [Int32.le_iff_toInt_le] at h
    rw [Int32.lt_iff_toInt_lt]
    have e1 : (nI 0).toInt = 0 := rfl
    have e2 : (nI 0 - 1).toInt = -1 := by decide
    omega
theorem x_m {v : Int32} {C : Nat} (h : v < 0 ∨ nI C ≤ v) (hC : C < 2147483648) : v < 0 ∨ nI C - 1 < v := by
  rcases Nat.eq_zero_or_pos C with h0 | h0
  · subst h0; exact x_m2z h
  · exact x_m2 h h0 hC
theorem x_nc0 {ρ : Sg} {C c : Nat} (hC : ρ 30 0 1 = nI C) (h4 : C ≤ 4) (hc : c < C) : f_X8_noCar ρ (nI c) = some (0, sup ρ 8 0 8 0) := by
  unfold f_X8_noCar
  rw [p_st, s_30, hC, x_in1 _ (x_m1 hc (by omega)).1 (x_m1 hc (by omega)).2, p_bi, if_neg (by decide)]
  rfl
theorem x_nc1 {ρ : Sg} {C : Nat} {v : Int32} (hC : ρ 30 0 1 = nI C) (h4 : C ≤ 4) (h : v < 0 ∨ nI C ≤ v) : f_X8_noCar ρ v = some (1, sup (sup ρ 8 0 8 0) 8 0 8 1) := by
  unfold f_X8_noCar
  rw [p_st, s_30, hC, x_in0 _ (x_m h (by omega)), p_bi, if_pos rfl]
  rfl
theorem x_nk0 {ρ : Sg} {C c : Nat} (hC : ρ 30 0 2 = nI C) (h4 : C ≤ 24) (hc : c < C) : f_X8_noCall ρ (nI c) = some (0, sup ρ 8 0 8 0) := by
  unfold f_X8_noCall
  rw [p_st, s_30, hC, x_in1 _ (x_m1 hc (by omega)).1 (x_m1 hc (by omega)).2, p_bi, if_neg (by decide)]
  rfl
theorem x_nk1 {ρ : Sg} {C : Nat} {v : Int32} (hC : ρ 30 0 2 = nI C) (h4 : C ≤ 24) (h : v < 0 ∨ nI C ≤ v) : f_X8_noCall ρ v = some (1, sup (sup ρ 8 0 8 0) 8 0 8 1) := by
  unfold f_X8_noCall
  rw [p_st, s_30, hC, x_in0 _ (x_m h (by omega)), p_bi, if_pos rfl]
  rfl
