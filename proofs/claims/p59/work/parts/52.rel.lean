/-! the relation: a view of the class's lifts, and a row -/
def vw (j : Nat) (σ : Sg) : Sg := fun k o i => match k with
  | 1 => σ 1 (24 * j + o) i
  | 2 => σ 2 (4 * j + o) i
  | 16 => σ 16 (4 * j + o) i
  | 17 => σ 17 (4 * j + o) i
  | 18 => σ 18 (4 * j + o) i
  | 19 => σ 19 (4 * j + o) i
  | k => σ k (j + o) i
def V_hd (F C K M T : Nat) (v : Sg) (r : Nat → Int32) : Prop :=
  v 4 0 0 = nI F ∧ v 4 0 1 = nI C ∧ v 4 0 2 = nI K ∧ v 4 0 3 = nI T ∧ v 5 0 0 = nI M ∧ r 0 = nI F ∧ r 1 = nI C ∧ r 2 = nI K ∧ r 3 = nI T ∧ r 10 = nI M ∧ r 9 = v 4 0 4 ∧ 2 ≤ F ∧ F ≤ 30 ∧ C ≤ 4 ∧ K ≤ 24 ∧ M ≤ 240
def V_set (v : Sg) (r : Nat → Int32) : Prop := (∀ i, i < 5 → r (4 + i) = v 12 0 i) ∧ ∃ P W D, v 12 0 1 = nI P ∧ 3 ≤ P ∧ P ≤ 50 ∧ v 12 0 2 = nI W ∧ W ≤ 20 ∧ v 12 0 3 = nI D ∧ D ≤ 5
def V_cnt (v : Sg) (r : Nat → Int32) : Prop := ∀ i, i < 4 → r (11 + i) = v 13 0 i ∧ r (15 + i) = v 14 0 i ∧ r (19 + i) = v 15 0 (i + 1) ∧ v 15 0 0 = 0
def V_car (F C : Nat) (v : Sg) (r : Nat → Int32) : Prop := ∀ c, c < C → (∀ f, f < 8 → r (23 + 4 * f + c) = v 2 c f) ∧ (∃ a, a < F ∧ v 2 c 0 = nI a) ∧ (∃ p, 1 ≤ p ∧ p ≤ 8 ∧ v 2 c 1 = nI p) ∧ (∃ d, d ≤ 5 ∧ v 2 c 2 = nI d) ∧ (v 2 c 3 = 0 ∨ v 2 c 3 = 1) ∧ (v 2 c 4 = 0 ∨ v 2 c 4 = 1)
/-- the times of a call: made, aboard; its state -/
def V_time (T : Nat) (v : Sg) (k : Nat) : Prop := ∃ m s, m ≤ 400000 ∧ s ≤ 3 ∧ v 1 k 2 = nI m ∧ v 1 k 3 = nI s ∧ (1 ≤ s → m ≤ T) ∧ (2 ≤ s → ∃ a, m ≤ a ∧ a ≤ T ∧ v 1 k 5 = nI a) ∧ (s = 0 → v 1 k 10 = -1)
def V_call (F C K T U : Nat) (v : Sg) (r : Nat → Int32) : Prop := ∀ k, k < K → (∀ f, f < 11 → f ≠ 9 → r (55 + 24 * f + k) = v 1 k f) ∧ (v 1 k 8 ≠ -1 → r (271 + k) = v 1 k 9) ∧ (∃ a b, a < F ∧ b < F ∧ a ≠ b ∧ v 1 k 0 = nI a ∧ v 1 k 1 = nI b) ∧ V_time T v k ∧ (v 1 k 8 = -1 ∨ ∃ c, c < C ∧ v 1 k 8 = nI c) ∧ (v 1 k 10 = -1 ∨ ∃ t, t < U ∧ v 1 k 10 = nI t)
def V_held (C K : Nat) (v : Sg) (r : Nat → Int32) : Prop := ∀ c, c < C → (∀ k, k < K → r (319 + 24 * c + k) = if bt (v 2 c 8) k then 1 else 0) ∧ ∀ k, K ≤ k → bt (v 2 c 8) k = false
def V_abd (C K : Nat) (v : Sg) : Prop := ∀ c, c < C → ∀ k, bt (v 2 c 9) k = decide (k < K ∧ v 1 k 3 = 2 ∧ v 1 k 4 = nI c)
def V_kn1 (C K T : Nat) (v : Sg) (r : Nat → Int32) : Prop := ∀ c, c < C → ∀ k, k < K → r (511 + 24 * c + k) = v 17 c k ∧ (∀ q, q < 4 → r (703 + 4 * (24 * c + k) + q) = v 18 c (4 * k + q)) ∧ (∀ t, t < 4 → bt (r (607 + 24 * c + k)) t = bt (v 19 c t) k) ∧ ((bt (v 2 c 8) k = true ∨ v 17 c k ≠ -1) → r (415 + 24 * c + k) = v 16 c k ∧ ∃ n, n ≤ 1000 ∧ v 16 c k = nI n) ∧ (v 17 c k = -1 ∨ ∃ t, t ≤ T + 2 ∧ v 17 c k = nI t) ∧ (∀ q, q < 4 → v 18 c (4 * k + q) = -1 ∨ ∃ n, n ≤ 1000 ∧ v 18 c (4 * k + q) = nI n)
def V_kn0 (C K : Nat) (v : Sg) : Prop := ∀ c, c < C → ∀ k, K ≤ k → k < 24 → v 17 c k = -1 ∧ (∀ q, q < 4 → v 18 c (4 * k + q) = -1) ∧ ∀ t, t < 4 → bt (v 19 c t) k = false
def V_msg (C K M : Nat) (v : Sg) (r : Nat → Int32) : Prop := ∀ i, i < M → r (1087 + 4 * i) = v 21 0 i ∧ r (1087 + 4 * i + 1) = v 22 0 i ∧ r (1087 + 4 * i + 2) = v 20 0 i ∧ r (1087 + 4 * i + 3) = v 23 0 i ∧ (∃ k, k < K ∧ v 22 0 i = nI k) ∧ ((v 21 0 i = 0 ∧ v 20 0 i = -1) ∨ ∃ d c, 1 ≤ d ∧ d ≤ 3 ∧ c < C ∧ v 21 0 i = nI d ∧ v 20 0 i = nI c) ∧ ∃ n, n ≤ 1000 ∧ v 23 0 i = nI n
def V_ann (v : Sg) (M : Nat) : Nat := ct (fun i => decide (v 21 0 i = 0)) M
def LU (F C K M T U : Nat) (v : Sg) (r : Nat → Int32) : Prop := V_hd F C K M T v r ∧ V_set v r ∧ V_cnt v r ∧ V_car F C v r ∧ V_call F C K T U v r ∧ V_held C K v r ∧ V_abd C K v ∧ V_kn1 C K T v r ∧ V_kn0 C K v ∧ V_msg C K M v r
def LV (F C K M T : Nat) (v : Sg) (r : Nat → Int32) : Prop := LU F C K M T T v r ∧ V_ann v M ≤ K
theorem x_idx (v : Int32) {C : Nat} (hC : C < 2147483648) : (∃ c, c < C ∧ v = nI c) ∨ (v < 0 ∨ nI C ≤ v) := by
  rcases Int.lt_or_le v.toInt 0 with h | h
  · exact Or.inr (Or.inl (by rw [Int32.lt_iff_toInt_lt, Int32.toInt_zero]; exact h))
  · obtain ⟨n, hn, rfl⟩ := ni_of h
    rcases Nat.lt_or_ge n C with h1 | h1
    · exact Or.inl ⟨n, h1, rfl⟩
    · exact Or.inr (Or.inr (by rw [ni_le hC hn]; exact h1))
