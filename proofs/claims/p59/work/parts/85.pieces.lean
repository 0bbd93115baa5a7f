/-! what stands in the law's text -/
def EX (x : Tx) (n : Nat) (t : Nat → Int32) : Prop := x.1 ≤ n ∧ ∀ j, j < x.1 → t j = x.2 j
def PC (p : Nat) (y : Tx) (n : Nat) (t : Nat → Int32) : Prop := p + y.1 ≤ n ∧ ∀ j, j < y.1 → t (p + j) = y.2 j
theorem EX.ap {x y : Tx} {n : Nat} {t : Nat → Int32} (h : EX (tx_ap x y) n t) : EX x n t ∧ PC x.1 y n t := by
  obtain ⟨a, b⟩ := h
  have a : x.1 + y.1 ≤ n := a
  refine ⟨⟨by omega, fun j hj => ?_⟩, a, fun j hj => ?_⟩
  · rw [b j (by show j < x.1 + y.1; omega)]
    exact if_pos hj
  · rw [b (x.1 + j) (by show x.1 + j < x.1 + y.1; omega)]
    show (if x.1 + j < x.1 then x.2 (x.1 + j) else y.2 (x.1 + j - x.1)) = _
    rw [if_neg (by omega), show x.1 + j - x.1 = j by omega]
theorem EX.carsT {τ : Sg} {n : Nat} {t : Nat → Int32} : ∀ k i x, EX (g_carsT τ k i x) n t → EX x n t := by
  intro k
  induction k with
  | zero => exact fun i x h => h
  | succ k ih => exact fun i x h => (((((ih (i + 1) _ h).ap.1).ap.1).ap.1).ap.1).ap.1
theorem EX.calsT {τ : Sg} {n : Nat} {t : Nat → Int32} : ∀ k i x, EX (g_calsT τ k i x) n t → EX x n t := by
  intro k
  induction k with
  | zero => exact fun i x h => h
  | succ k ih => exact fun i x h => (((((((ih (i + 1) _ h).ap.1).ap.1).ap.1).ap.1).ap.1).ap.1).ap.1
def i_n (t : Nat → Int32) : Nat → Nat := fun i => (t i).toNatClampNeg
section PCX
variable {n p v : Nat} {t : Nat → Int32} {y : Tx}
theorem PC.C (h : PC p (tx_C 32) n t) : p < n ∧ i_n t p = 32 := by
  have h1 : p + 1 ≤ n := h.1
  have h2 : t p = 32 := h.2 0 (show 0 < 1 by decide)
  exact ⟨by omega, by unfold i_n; rw [h2]; decide⟩
theorem PC.S (h : PC p (tx_C 59) n t) : p < n ∧ i_n t p = 59 := by
  have h1 : p + 1 ≤ n := h.1
  have h2 : t p = 59 := h.2 0 (show 0 < 1 by decide)
  exact ⟨by omega, by unfold i_n; rw [h2]; decide⟩
theorem dg_1 {d : Nat} (h : d < 10000) : 0 < dgn d ∧ dgn d ≤ 4 ∧ dvs (fun j => d / 10 ^ (dgn d - 1 - j) % 10) (dgn d) = d := by
  unfold dgn
  by_cases h1 : d < 10
  · rw [if_pos h1]
    refine ⟨by decide, by decide, ?_⟩
    show 10 * 0 + d / 10 ^ 0 % 10 = d
    rw [Nat.pow_zero]
    omega
  rw [if_neg h1]
  by_cases h2 : d < 100
  · rw [if_pos h2]
    refine ⟨by decide, by decide, ?_⟩
    show 10 * (10 * 0 + d / 10 ^ 1 % 10) + d / 10 ^ 0 % 10 = d
    rw [Nat.pow_zero, Nat.pow_one]
    omega
  rw [if_neg h2]
  by_cases h3 : d < 1000
  · rw [if_pos h3]
    refine ⟨by decide, by decide, ?_⟩
    show 10 * (10 * (10 * 0 + d / 10 ^ 2 % 10) + d / 10 ^ 1 % 10) + d / 10 ^ 0 % 10 = d
    rw [Nat.pow_zero, Nat.pow_one, show 10 ^ 2 = 100 from rfl]
    omega
  rw [if_neg h3]
  refine ⟨by decide, by decide, ?_⟩
  show 10 * (10 * (10 * (10 * 0 + d / 10 ^ 3 % 10) + d / 10 ^ 2 % 10) + d / 10 ^ 1 % 10) + d / 10 ^ 0 % 10 = d
  rw [Nat.pow_zero, Nat.pow_one, show 10 ^ 2 = 100 from rfl, show 10 ^ 3 = 1000 from rfl]
  omega
/-- a number of the text -/
theorem PC.N (h : PC (p + 1) (tx_N v) n t) (hv : v < 10000) (hb : i_n t p = 32) (hn : p + 1 + dgn v < n) (he : i_n t (p + 1 + dgn v) = 59 ∨ i_n t (p + 1 + dgn v) = 32) : N_at (i_n t) n p (dgn v) v := by
  obtain ⟨d1, d2, d3⟩ := dg_1 hv
  refine ⟨d1, d2, hb, hn, by rcases he with e | e <;> rw [e] <;> decide, _, fun j hj => ?_, d3⟩
  have h2 : t (p + 1 + j) = nI (48 + (v / 10 ^ (dgn v - 1 - j)) % 10) := h.2 j hj
  have h3 : v / 10 ^ (dgn v - 1 - j) % 10 < 10 := Nat.mod_lt _ (by decide)
  refine ⟨?_, h3⟩
  unfold i_n
  rw [h2, ni_cl (by omega)]
/-- a word of the text, behind `off` letters of its piece -/
def S_fit (k w off : Nat) : Prop := (tx_S k).1 = off + Wln w + 1 ∧ (∀ j, j < Wln w → nI (((tx_S k).2 (off + j)).toNatClampNeg) = jchr w (nI j)) ∧ (tx_S k).2 (off + Wln w) = 32
theorem PC.W {k w off : Nat} (h : PC p (tx_S k) n t) (hf : S_fit k w off) : W_at (i_n t) n (p + off) w ∧ i_n t (p + off + Wln w) = 32 := by
  obtain ⟨f1, f2, f3⟩ := hf
  have h1 := h.1
  have e : i_n t (p + off + Wln w) = 32 := by
    unfold i_n
    rw [Nat.add_assoc, h.2 (off + Wln w) (by omega), f3]
    decide
  refine ⟨⟨fun j hj => ?_, by omega, e⟩, e⟩
  unfold i_n
  rw [Nat.add_assoc, h.2 (off + j) (by omega)]
  exact f2 j hj
theorem sf_9 : S_fit 9 0 0 := by unfold S_fit; decide +kernel
theorem sf_10 : S_fit 10 3 1 := by unfold S_fit; decide +kernel
theorem sf_11 : S_fit 11 4 1 := by unfold S_fit; decide +kernel
theorem sf_12 : S_fit 12 5 1 := by unfold S_fit; decide +kernel
theorem sf_13 : S_fit 13 6 1 := by unfold S_fit; decide +kernel
theorem sf_14 : S_fit 14 8 1 := by unfold S_fit; decide +kernel
theorem sf_16 : S_fit 16 1 0 := by unfold S_fit; decide +kernel
theorem sf_17 : S_fit 17 2 0 := by unfold S_fit; decide +kernel
theorem PC.sem {k : Nat} (h : PC p (tx_S k) n t) (h1 : 0 < (tx_S k).1) (h0 : (tx_S k).2 0 = 59) : p < n ∧ i_n t p = 59 := by
  have := h.1
  have h2 : t p = 59 := (h.2 0 h1).trans h0
  exact ⟨by omega, by unfold i_n; rw [h2]; decide⟩
/-- a setting: its word, its number -/
theorem P_set {x : Tx} {k w : Nat} (h : EX (tx_ap (tx_ap x (tx_S k)) (tx_N v)) n t) (hf : S_fit k w 1) (hv : v < 10000) (hn : (tx_ap (tx_ap x (tx_S k)) (tx_N v)).1 < n ∧ i_n t (tx_ap (tx_ap x (tx_S k)) (tx_N v)).1 = 59) : W_at (i_n t) n (x.1 + 1) w ∧ N_at (i_n t) n (x.1 + 1 + Wln w) (dgn v) v ∧ (x.1 + 1 + Wln w + 1 + dgn v < n ∧ i_n t (x.1 + 1 + Wln w + 1 + dgn v) = 59) ∧ (tx_ap (tx_ap x (tx_S k)) (tx_N v)).1 = x.1 + 1 + Wln w + 1 + dgn v := by
  obtain ⟨h1, pN⟩ := h.ap
  obtain ⟨h2, pS⟩ := h1.ap
  obtain ⟨a1, a2⟩ := pS.W hf
  have eL : (tx_ap x (tx_S k)).1 = x.1 + 1 + Wln w + 1 := by
    show x.1 + (tx_S k).1 = _
    rw [hf.1]
    omega
  have eT : (tx_ap (tx_ap x (tx_S k)) (tx_N v)).1 = x.1 + 1 + Wln w + 1 + dgn v := by
    show (tx_ap x (tx_S k)).1 + dgn v = _
    rw [eL]
  rw [eL] at pN
  rw [eT] at hn
  exact ⟨a1, pN.N hv a2 hn.1 (Or.inl hn.2), hn, eT⟩
/-- a car: its word, its numbers -/
theorem P_car {τ : Sg} {i : Nat} {x : Tx} (h : EX (g_carT τ i x) n t) (h0 : q_d τ 41 i 0 < 10000) (h1 : q_d τ 41 i 1 < 10000) : W_at (i_n t) n x.1 1 ∧ N_at (i_n t) n (x.1 + 3) (dgn (q_d τ 41 i 0)) (q_d τ 41 i 0) ∧ N_at (i_n t) n (x.1 + 3 + 1 + dgn (q_d τ 41 i 0)) (dgn (q_d τ 41 i 1)) (q_d τ 41 i 1) ∧ (x.1 + 3 + 1 + dgn (q_d τ 41 i 0) + 1 + dgn (q_d τ 41 i 1) < n ∧ i_n t (x.1 + 3 + 1 + dgn (q_d τ 41 i 0) + 1 + dgn (q_d τ 41 i 1)) = 59) ∧ (g_carT τ i x).1 = x.1 + 3 + 1 + dgn (q_d τ 41 i 0) + 1 + dgn (q_d τ 41 i 1) + 1 := by
  obtain ⟨e4, p5⟩ := h.ap
  obtain ⟨e3, p4⟩ := e4.ap
  obtain ⟨e2, p3⟩ := e3.ap
  obtain ⟨e1, p2⟩ := e2.ap
  obtain ⟨e0, p1⟩ := e1.ap
  obtain ⟨a1, a2⟩ := p1.W sf_16
  have p2 : PC (x.1 + 3 + 1) (tx_N (q_d τ 41 i 0)) n t := p2
  have p3 : PC (x.1 + 3 + 1 + dgn (q_d τ 41 i 0)) (tx_C 32) n t := p3
  have p4 : PC (x.1 + 3 + 1 + dgn (q_d τ 41 i 0) + 1) (tx_N (q_d τ 41 i 1)) n t := p4
  have p5 : PC (x.1 + 3 + 1 + dgn (q_d τ 41 i 0) + 1 + dgn (q_d τ 41 i 1)) (tx_C 59) n t := p5
  have c3 := p3.C
  have c5 := p5.S
  exact ⟨a1, p2.N h0 a2 c3.1 (Or.inr c3.2), p4.N h1 c3.2 c5.1 (Or.inl c5.2), c5, rfl⟩
/-- a call: its word, its numbers -/
theorem P_call {τ : Sg} {i : Nat} {x : Tx} (h : EX (g_calT τ i x) n t) (h2 : q_d τ 42 i 2 < 10000) (h0 : q_d τ 42 i 0 < 10000) (h1 : q_d τ 42 i 1 < 10000) : W_at (i_n t) n x.1 2 ∧ N_at (i_n t) n (x.1 + 4) (dgn (q_d τ 42 i 2)) (q_d τ 42 i 2) ∧ N_at (i_n t) n (x.1 + 4 + 1 + dgn (q_d τ 42 i 2)) (dgn (q_d τ 42 i 0)) (q_d τ 42 i 0) ∧ N_at (i_n t) n (x.1 + 4 + 1 + dgn (q_d τ 42 i 2) + 1 + dgn (q_d τ 42 i 0)) (dgn (q_d τ 42 i 1)) (q_d τ 42 i 1) ∧ (x.1 + 4 + 1 + dgn (q_d τ 42 i 2) + 1 + dgn (q_d τ 42 i 0) + 1 + dgn (q_d τ 42 i 1) < n ∧ i_n t (x.1 + 4 + 1 + dgn (q_d τ 42 i 2) + 1 + dgn (q_d τ 42 i 0) + 1 + dgn (q_d τ 42 i 1)) = 59) ∧ (g_calT τ i x).1 = x.1 + 4 + 1 + dgn (q_d τ 42 i 2) + 1 + dgn (q_d τ 42 i 0) + 1 + dgn (q_d τ 42 i 1) + 1 := by
  obtain ⟨e6, p7⟩ := h.ap
  obtain ⟨e5, p6⟩ := e6.ap
  obtain ⟨e4, p5⟩ := e5.ap
  obtain ⟨e3, p4⟩ := e4.ap
  obtain ⟨e2, p3⟩ := e3.ap
  obtain ⟨e1, p2⟩ := e2.ap
  obtain ⟨e0, p1⟩ := e1.ap
  obtain ⟨a1, a2⟩ := p1.W sf_17
  have p2 : PC (x.1 + 4 + 1) (tx_N (q_d τ 42 i 2)) n t := p2
  have p3 : PC (x.1 + 4 + 1 + dgn (q_d τ 42 i 2)) (tx_C 32) n t := p3
  have p4 : PC (x.1 + 4 + 1 + dgn (q_d τ 42 i 2) + 1) (tx_N (q_d τ 42 i 0)) n t := p4
  have p5 : PC (x.1 + 4 + 1 + dgn (q_d τ 42 i 2) + 1 + dgn (q_d τ 42 i 0)) (tx_C 32) n t := p5
  have p6 : PC (x.1 + 4 + 1 + dgn (q_d τ 42 i 2) + 1 + dgn (q_d τ 42 i 0) + 1) (tx_N (q_d τ 42 i 1)) n t := p6
  have p7 : PC (x.1 + 4 + 1 + dgn (q_d τ 42 i 2) + 1 + dgn (q_d τ 42 i 0) + 1 + dgn (q_d τ 42 i 1)) (tx_C 59) n t := p7
  have c3 := p3.C
  have c5 := p5.C
  have c7 := p7.S
  exact ⟨a1, p2.N h2 a2 c3.1 (Or.inr c3.2), p4.N h0 c3.2 c5.1 (Or.inr c5.2), p6.N h1 c5.2 c7.1 (Or.inl c7.2), c7, rfl⟩
/-- the text's first part -/
theorem P_hdr {τ : Sg} (h : EX (g_hdr τ) n t) (h3 : q_d τ 40 0 3 < 10000) (h8 : q_d τ 40 0 8 < 10000) (h9 : q_d τ 40 0 9 < 10000) (h10 : q_d τ 40 0 10 < 10000) (h11 : q_d τ 40 0 11 < 10000) (h13 : q_d τ 40 0 13 < 10000) : ∃ q0 q1 q2 q3 q4 q5 : Nat,
    (W_at (i_n t) n 0 0 ∧ N_at (i_n t) n (0 + 6) (dgn (q_d τ 40 0 3)) (q_d τ 40 0 3) ∧ (0 + 6 + 1 + dgn (q_d τ 40 0 3) < n ∧ i_n t (0 + 6 + 1 + dgn (q_d τ 40 0 3)) = 59) ∧ q0 = 0 + 6 + 1 + dgn (q_d τ 40 0 3) + 1)
    ∧ (W_at (i_n t) n q0 3 ∧ N_at (i_n t) n (q0 + Wln 3) (dgn (q_d τ 40 0 8)) (q_d τ 40 0 8) ∧ (q0 + Wln 3 + 1 + dgn (q_d τ 40 0 8) < n ∧ i_n t (q0 + Wln 3 + 1 + dgn (q_d τ 40 0 8)) = 59) ∧ q1 = q0 + Wln 3 + 1 + dgn (q_d τ 40 0 8) + 1)
    ∧ (W_at (i_n t) n q1 4 ∧ N_at (i_n t) n (q1 + Wln 4) (dgn (q_d τ 40 0 9)) (q_d τ 40 0 9) ∧ (q1 + Wln 4 + 1 + dgn (q_d τ 40 0 9) < n ∧ i_n t (q1 + Wln 4 + 1 + dgn (q_d τ 40 0 9)) = 59) ∧ q2 = q1 + Wln 4 + 1 + dgn (q_d τ 40 0 9) + 1)
    ∧ (W_at (i_n t) n q2 5 ∧ N_at (i_n t) n (q2 + Wln 5) (dgn (q_d τ 40 0 10)) (q_d τ 40 0 10) ∧ (q2 + Wln 5 + 1 + dgn (q_d τ 40 0 10) < n ∧ i_n t (q2 + Wln 5 + 1 + dgn (q_d τ 40 0 10)) = 59) ∧ q3 = q2 + Wln 5 + 1 + dgn (q_d τ 40 0 10) + 1)
    ∧ (W_at (i_n t) n q3 6 ∧ N_at (i_n t) n (q3 + Wln 6) (dgn (q_d τ 40 0 11)) (q_d τ 40 0 11) ∧ (q3 + Wln 6 + 1 + dgn (q_d τ 40 0 11) < n ∧ i_n t (q3 + Wln 6 + 1 + dgn (q_d τ 40 0 11)) = 59) ∧ q4 = q3 + Wln 6 + 1 + dgn (q_d τ 40 0 11) + 1)
    ∧ (W_at (i_n t) n q4 8 ∧ N_at (i_n t) n (q4 + Wln 8) (dgn (q_d τ 40 0 13)) (q_d τ 40 0 13) ∧ (q4 + Wln 8 + 1 + dgn (q_d τ 40 0 13) < n ∧ i_n t (q4 + Wln 8 + 1 + dgn (q_d τ 40 0 13)) = 59) ∧ q5 = q4 + Wln 8 + 1 + dgn (q_d τ 40 0 13) + 1)
    ∧ (g_hdr τ).1 = q5 := by
  obtain ⟨x12, p12⟩ := h.ap
  have s12 := p12.sem (by decide) (by decide)
  obtain ⟨f1, f2, f3, f4⟩ := P_set x12 sf_14 h13 s12
  have x10 := x12.ap.1.ap
  have s10 := x12.ap.1.ap.2.sem (by decide) (by decide)
  obtain ⟨e1, e2, e3, e4⟩ := P_set x10.1 sf_13 h11 s10
  have x8 := x10.1.ap.1.ap
  have s8 := x8.2.sem (by decide) (by decide)
  obtain ⟨d1, d2, d3, d4⟩ := P_set x8.1 sf_12 h10 s8
  have x6 := x8.1.ap.1.ap
  have s6 := x6.2.sem (by decide) (by decide)
  obtain ⟨c1, c2, c3, c4⟩ := P_set x6.1 sf_11 h9 s6
  have x4 := x6.1.ap.1.ap
  have s4 := x4.2.sem (by decide) (by decide)
  obtain ⟨b1, b2, b3, b4⟩ := P_set x4.1 sf_10 h8 s4
  have x2 := x4.1.ap.1.ap
  have s2 := x2.2.sem (by decide) (by decide)
  obtain ⟨x1, p1⟩ := x2.1.ap
  obtain ⟨x0, p0⟩ := x1.ap
  obtain ⟨a1, a2⟩ := p0.W sf_9
  have p1 : PC (0 + 6 + 1) (tx_N (q_d τ 40 0 3)) n t := p1
  have s2 : 0 + 6 + 1 + dgn (q_d τ 40 0 3) < n ∧ i_n t (0 + 6 + 1 + dgn (q_d τ 40 0 3)) = 59 := s2
  rw [b4] at c1 c2 c3 c4
  rw [c4] at d1 d2 d3 d4
  rw [d4] at e1 e2 e3 e4
  rw [e4] at f1 f2 f3 f4
  refine ⟨_, _, _, _, _, _, ⟨a1, p1.N h3 a2 s2.1 (Or.inl s2.2), s2, rfl⟩, ⟨b1, b2, b3, rfl⟩, ⟨c1, c2, c3, rfl⟩, ⟨d1, d2, d3, rfl⟩, ⟨e1, e2, e3, rfl⟩, ⟨f1, f2, f3, rfl⟩, ?_⟩
  exact congrArg (· + 1) f4
end PCX
