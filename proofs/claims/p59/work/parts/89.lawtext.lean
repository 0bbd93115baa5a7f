/-! the law: its text is read as it is, and all its acts are true -/
def tx_ok (x : Tx) : Prop := ∀ j, j < x.1 → ∃ b, b < 128 ∧ x.2 j = nI b
theorem tx_ok.ap {x y : Tx} (h : tx_ok x) (h' : tx_ok y) : tx_ok (tx_ap x y) := by
  intro j hj
  have hj : j < x.1 + y.1 := hj
  show ∃ b, b < 128 ∧ (if j < x.1 then x.2 j else y.2 (j - x.1)) = nI b
  by_cases w : j < x.1
  · rw [if_pos w]; exact h j w
  · rw [if_neg w]; exact h' (j - x.1) (by omega)
theorem tx_okS {w : Nat} (hw : w < 18) : tx_ok (tx_S w) := by
  intro j hj
  have key : ∀ w, w < 18 → ∀ j, j < z_lens.getD w 0 → ((z_byts.getD w []).getD j 0).toNatClampNeg < 128 ∧ (z_byts.getD w []).getD j 0 = nI ((z_byts.getD w []).getD j 0).toNatClampNeg := by decide +kernel
  exact ⟨_, key w hw j hj⟩
theorem tx_okN (d : Nat) : tx_ok (tx_N d) := fun j _ => ⟨48 + (d / 10 ^ (dgn d - 1 - j)) % 10, by have : (d / 10 ^ (dgn d - 1 - j)) % 10 < 10 := Nat.mod_lt _ (by decide); omega, rfl⟩
theorem tx_ok32 : tx_ok (tx_C 32) := fun _ _ => ⟨32, by decide, rfl⟩
theorem tx_ok59 : tx_ok (tx_C 59) := fun _ _ => ⟨59, by decide, rfl⟩
theorem tx_okH (τ : Sg) : tx_ok (g_hdr τ) := by
  have h0 : tx_ok (0, fun _ => 0) := fun j hj => absurd hj (Nat.not_lt_zero j)
  exact ((((((((((((h0.ap (tx_okS (by decide))).ap (tx_okN _)).ap (tx_okS (by decide))).ap (tx_okN _)).ap (tx_okS (by decide))).ap (tx_okN _)).ap (tx_okS (by decide))).ap (tx_okN _)).ap (tx_okS (by decide))).ap (tx_okN _)).ap (tx_okS (by decide))).ap (tx_okN _)).ap (tx_okS (by decide))
theorem tx_okA (τ : Sg) : ∀ k i x, tx_ok x → tx_ok (g_carsT τ k i x) := by
  intro k
  induction k with
  | zero => exact fun _ _ h => h
  | succ k ih => exact fun i x h => ih (i + 1) _ (((((h.ap (tx_okS (by decide))).ap (tx_okN _)).ap tx_ok32).ap (tx_okN _)).ap tx_ok59)
theorem tx_okB (τ : Sg) : ∀ k i x, tx_ok x → tx_ok (g_calsT τ k i x) := by
  intro k
  induction k with
  | zero => exact fun _ _ h => h
  | succ k ih => exact fun i x h => ih (i + 1) _ (((((((h.ap (tx_okS (by decide))).ap (tx_okN _)).ap tx_ok32).ap (tx_okN _)).ap tx_ok32).ap (tx_okN _)).ap tx_ok59)
theorem dgn_4 (d : Nat) : dgn d ≤ 4 := by
  unfold dgn
  split
  · decide
  split
  · decide
  split <;> decide
theorem tx_leH (τ : Sg) : (g_hdr τ).1 ≤ 69 := by
  have a := dgn_4 (q_d τ 40 0 3)
  have b := dgn_4 (q_d τ 40 0 8)
  have c := dgn_4 (q_d τ 40 0 9)
  have d := dgn_4 (q_d τ 40 0 10)
  have e := dgn_4 (q_d τ 40 0 11)
  have f := dgn_4 (q_d τ 40 0 13)
  show 0 + 7 + dgn (q_d τ 40 0 3) + 7 + dgn (q_d τ 40 0 8) + 10 + dgn (q_d τ 40 0 9) + 8 + dgn (q_d τ 40 0 10) + 6 + dgn (q_d τ 40 0 11) + 6 + dgn (q_d τ 40 0 13) + 1 ≤ 69
  omega
theorem tx_leA (τ : Sg) : ∀ k i x, (g_carsT τ k i x).1 ≤ x.1 + 14 * k := by
  intro k
  induction k with
  | zero => exact fun _ _ => Nat.le_refl _
  | succ k ih =>
    intro i x
    have a := dgn_4 (q_d τ 41 i 0)
    have b := dgn_4 (q_d τ 41 i 1)
    have h : (g_carT τ i x).1 = x.1 + 4 + dgn (q_d τ 41 i 0) + 1 + dgn (q_d τ 41 i 1) + 1 := rfl
    have := ih (i + 1) (g_carT τ i x)
    show (g_carsT τ k (i + 1) (g_carT τ i x)).1 ≤ _
    omega
theorem tx_leB (τ : Sg) : ∀ k i x, (g_calsT τ k i x).1 ≤ x.1 + 20 * k := by
  intro k
  induction k with
  | zero => exact fun _ _ => Nat.le_refl _
  | succ k ih =>
    intro i x
    have a := dgn_4 (q_d τ 42 i 2)
    have b := dgn_4 (q_d τ 42 i 0)
    have c := dgn_4 (q_d τ 42 i 1)
    have h : (g_calT τ i x).1 = x.1 + 5 + dgn (q_d τ 42 i 2) + 1 + dgn (q_d τ 42 i 0) + 1 + dgn (q_d τ 42 i 1) + 1 := rfl
    have := ih (i + 1) (g_calT τ i x)
    show (g_calsT τ k (i + 1) (g_calT τ i x)).1 ≤ _
    omega
theorem q_dn {τ : Sg} {k o f a : Nat} (h : τ k o f = nI a) (ha : a < 2147483648) : q_d τ k o f = a := by
  unfold q_d
  rw [h, ni_cl ha]
theorem q_nu {τ : Sg} {k o f a : Nat} (h : τ k o f = nI a) (ha : a < 10000) : q_num τ k o f := by
  have e := q_dn h (by omega)
  exact ⟨by rw [e]; exact h, by rw [e]; exact ha⟩
section PLAW
variable {ns nc F : Nat} {w : Nat → Int32}
/-- the law's own start: all its cells that its text tells -/
theorem law_start (ns : Nat) (w : Nat → Int32) : ∃ nc F N P W D S : Nat, (nc = 2 ∨ nc = 3) ∧ 2 + jbits (t_cell ns w 0) 27 1 = nI nc ∧ 4 ≤ F ∧ F ≤ 11 ∧ 4 + jbits (t_cell ns w 0) 0 3 = nI F ∧ N ≤ 90 ∧ (3 ≤ P ∧ P ≤ 6) ∧ W ≤ 3 ∧ D ≤ 3 ∧ S ≤ 4095 ∧
    ((t_base (t_cell ns w 0)) 40 0 3 = nI F ∧ (t_base (t_cell ns w 0)) 40 0 8 = nI N ∧ (t_base (t_cell ns w 0)) 40 0 9 = nI P ∧ (t_base (t_cell ns w 0)) 40 0 10 = nI W ∧ (t_base (t_cell ns w 0)) 40 0 11 = nI D ∧ (t_base (t_cell ns w 0)) 40 0 12 = 30 ∧ (t_base (t_cell ns w 0)) 40 0 13 = nI S ∧ (t_base (t_cell ns w 0)) 40 0 7 = 0) ∧ ∀ k o i, k ≠ 40 → (t_base (t_cell ns w 0)) k o i = 0 := by
  obtain ⟨b, hb, e⟩ := jb_ex (t_cell ns w 0) (f := 27) (m := 1) (by decide)
  obtain ⟨F, f1, f2, f3⟩ := nu_F (t_cell ns w 0)
  obtain ⟨N, P, W, D, S, n1, n2, n3, n4, n5, n6, e1, e2, e3, e4, e5⟩ := nu_base (t_cell ns w 0)
  refine ⟨2 + b, F, N, P, W, D, S, by omega, by rw [show jbits (t_cell ns w 0) 27 1 = nI b from e]; exact ni_add 2 b, f1, f2, f3, n1, ⟨n2, n3⟩, n4, n5, n6, ⟨?_, ?_, ?_, ?_, ?_, ?_, ?_, ?_⟩, fun k o i hk => ?_⟩
  · unfold t_base
    rw [s_nf (by decide), s_nf (by decide), s_nf (by decide), s_nf (by decide), s_nf (by decide)]
    exact f3
  · unfold t_base
    rw [s_nf (by decide), s_nf (by decide), s_nf (by decide), s_nf (by decide), s_at]
    exact e1
  · unfold t_base
    rw [s_nf (by decide), s_nf (by decide), s_nf (by decide), s_at]
    exact e2
  · unfold t_base
    rw [s_nf (by decide), s_nf (by decide), s_at]
    exact e3
  · unfold t_base
    rw [s_nf (by decide), s_at]
    exact e4
  · unfold t_base
    rw [s_nf (by decide), s_nf (by decide), s_nf (by decide), s_nf (by decide), s_nf (by decide)]
    rfl
  · unfold t_base
    rw [s_at]
    exact e5
  · unfold t_base
    rw [s_nf (by decide), s_nf (by decide), s_nf (by decide), s_nf (by decide), s_nf (by decide)]
    rfl
  · unfold t_base
    rw [s_ne hk, s_ne hk, s_ne hk, s_ne hk, s_ne hk]
    unfold t_raw
    rw [if_neg (fun z => hk z.1), if_neg (fun z => hk z.1)]
/-- the law's start with its cars and calls -/
theorem law_init (X : Int32) (τb : Sg) (hz : ∀ k o i, k ≠ 40 → τb k o i = 0) (nc : Nat) (hnc : nc ≤ 3) : (∀ i, (g_calls ns w X 4 0 (g_cars ns w X nc 0 τb)) 40 0 i = τb 40 0 i) ∧ (∀ m i, m < nc → (g_calls ns w X 4 0 (g_cars ns w X nc 0 τb)) 41 m i = if i = 1 then 1 + jbits (t_cell ns w (1 + m)) 4 1 else if i = 0 then jrem (jbits (t_cell ns w (1 + m)) 0 4) X else 0) ∧ (∀ m i, m < 4 → (g_calls ns w X 4 0 (g_cars ns w X nc 0 τb)) 42 m i = c_new (t_fro ns w X m) (t_too ns w X m) (jbits (t_cell ns w (4 + m)) 8 4) i) ∧ q_nn (g_calls ns w X 4 0 (g_cars ns w X nc 0 τb)) 0 = nc ∧ q_nn (g_calls ns w X 4 0 (g_cars ns w X nc 0 τb)) 1 = 4 ∧ q_cc (g_calls ns w X 4 0 (g_cars ns w X nc 0 τb)) 1 ≤ 10 ∧ q_cc (g_calls ns w X 4 0 (g_cars ns w X nc 0 τb)) 2 = 0 := by
  have h0 : q_nn τb 0 = 0 := by unfold q_nn; rw [hz 50 0 2 (by decide)]; rfl
  have h1 : q_nn (g_cars ns w X nc 0 τb) 1 = 0 := by unfold q_nn; rw [gc_o nc 0 τb (by omega) (by omega), hz 50 1 2 (by decide)]; rfl
  have h2 : q_cc (g_cars ns w X nc 0 τb) 1 = 0 := by unfold q_cc; rw [gc_o nc 0 τb (by omega) (by omega), hz 50 1 3 (by decide)]; rfl
  obtain ⟨l1, l2⟩ := gl_nn (ns := ns) (w := w) (X := X) 4 0 _ h1 (by decide) h2
  refine ⟨fun i => ?_, fun m i hm => ?_, fun m i hm => gl_42 4 0 _ h1 (by decide) (by omega) (by omega), ?_, l1, l2, ?_⟩
  · rw [gl_o 4 0 _ h1 (by decide) (by omega) (by omega) (by decide) (by decide), gc_o nc 0 τb (by omega) (by omega)]
  · rw [gl_o 4 0 _ h1 (by decide) (by omega) (by omega) (by decide) (by decide), gc_41 nc 0 τb (by omega) (by omega)]
  · unfold q_nn
    rw [gl_o 4 0 _ h1 (by decide) (by omega) (by omega) (by decide) (by decide)]
    have := gc_nn (ns := ns) (w := w) (X := X) nc 0 τb h0 (by omega)
    unfold q_nn at this
    omega
  · unfold q_cc
    rw [gl_o 4 0 _ h1 (by decide) (by omega) (by omega) (by decide) (by decide), gc_o nc 0 τb (by omega) (by omega), hz 50 2 3 (by decide)]
    rfl
end PLAW
