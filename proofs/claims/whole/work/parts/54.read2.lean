/-! bits of the masks; what a car knows -/
theorem k_one (i : Nat) (hi : i < 32) : bt 1 i = decide (i = 0) := by
  have h : ∀ i, i < 32 → bt 1 i = decide (i = 0) := by decide +kernel
  exact h i hi
theorem k_and1 (y : Int32) : (y &&& 1 = 0) = (bt y 0 = false) := by
  apply propext
  constructor
  · intro h
    have h1 := congrArg (fun z => bt z 0) h
    simp only [b_and, b_0, k_one 0 (by decide)] at h1
    simpa using h1
  · intro h
    apply b_ext
    intro i hi
    rw [b_and, b_0, k_one i hi]
    by_cases h0 : i = 0
    · subst h0; rw [h]; rfl
    · simp [h0]
theorem k_and11 (y : Int32) : (y &&& 1 = 1) = (bt y 0 = true) := by
  apply propext
  constructor
  · intro h
    cases hb : bt y 0
    · rw [← k_and1] at hb
      rw [hb] at h
      exact absurd h (by decide)
    · rfl
  · intro h
    apply b_ext
    intro i hi
    rw [b_and, k_one i hi]
    by_cases h0 : i = 0
    · subst h0; rw [h]; rfl
    · simp [h0]
theorem k_ush {k : Nat} (hk : k < 32) (x : Int32) : ((jush x (nI k)) &&& 1 = 0) = (bt x k = false) := by
  rw [k_and1]
  unfold jush
  rw [b_ushr k hk, Nat.add_zero]
theorem k_sshr {k : Nat} (hk : k < 31) (x : Int32) : ((x >>> (nI k &&& 31)) &&& 1 = 1) = (bt x k = true) := by
  rw [k_and11, b_sshr k (by omega) x (by decide), if_pos (by omega), Nat.add_zero]
theorem k_set {k i : Nat} (hk : k < 32) (hi : i < 32) (x : Int32) : bt (x ||| (1 <<< (nI k &&& 31))) i = (bt x i || decide (i = k)) := by
  rw [b_or, b_shl k hk 1 hi]
  by_cases h : k ≤ i
  · rw [k_one (i - k) (by omega)]
    by_cases h2 : i = k
    · subst h2; simp
    · have : ¬ (i - k = 0) := by omega
      simp [h, h2, this]
  · have h2 : ¬ i = k := by omega
    simp [h, h2]
theorem k_clr {k i : Nat} (hk : k < 32) (hi : i < 32) (x : Int32) : bt (x &&& ((1 <<< (nI k &&& 31)) ^^^ (-1))) i = (bt x i && !decide (i = k)) := by
  rw [b_and, b_xor, b_m1 i hi, b_shl k hk 1 hi]
  by_cases h : k ≤ i
  · rw [k_one (i - k) (by omega)]
    by_cases h2 : i = k
    · subst h2; simp
    · have : ¬ (i - k = 0) := by omega
      simp [h, h2, this]
  · have h2 : ¬ i = k := by omega
    simp [h, h2]
theorem k_hi {x : Int32} {i : Nat} (h : 32 ≤ i) : bt x i = false := b_big h
section RD
variable {F C K M T U j : Nat} {σ ρ v : Sg} {r : Nat → Int32}
def W_b (b : Bool) : Int32 := if b = true then 1 else 0
theorem W_b0 (b : Bool) : (W_b b = 0) = (b = false) := by cases b <;> simp [W_b]
theorem W_b1 (b : Bool) : (W_b b = 1) = (b = true) := by cases b <;> simp [W_b]
theorem W_b01 (b : Bool) : (¬ (W_b b = 0 ∨ W_b b = 1)) = False := by cases b <;> simp [W_b]
theorem a_isH (σ : Sg) (o : Nat) {k : Nat} (hk : k < 32) : f_X2_isHolding σ o (nI k) = some (W_b (bt (σ 2 o 8) k), σ) := by
  unfold f_X2_isHolding
  simp only [k_ush hk]
  cases h : bt (σ 2 o 8) k <;> rfl
theorem a_isC (σ : Sg) (o : Nat) {k : Nat} (hk : k < 32) : f_X2_isCarrying σ o (nI k) = some (W_b (bt (σ 2 o 9) k), σ) := by
  unfold f_X2_isCarrying
  simp only [k_ush hk]
  cases h : bt (σ 2 o 9) k <;> rfl
theorem a_lost (σ : Sg) (o : Nat) {k t : Nat} (hk : k < 32) (ht : t < 4) : f_X2_lost σ o (nI k) (nI t) = some (W_b (bt (σ 19 o t) k), σ) := by
  unfold f_X2_lost
  rw [if_neg (by rw [gN ht (by decide)]; exact id), ni_cl (by omega)]
  simp only [k_ush hk]
  cases h : bt (σ 19 o t) k <;> rfl
theorem b_of (ρ : Sg) (a c k : Nat) : f_X8_of ρ (nI a) (nI c) (nI k) = some (nI (a + 24 * c + k), ρ) := by
  unfold f_X8_of
  rw [m_24, ni_add, ni_add]
theorem b_of319 (ρ : Sg) (c k : Nat) : f_X8_of ρ 319 (nI c) (nI k) = some (nI (319 + 24 * c + k), ρ) := b_of ρ 319 c k
theorem b_of415 (ρ : Sg) (c k : Nat) : f_X8_of ρ 415 (nI c) (nI k) = some (nI (415 + 24 * c + k), ρ) := b_of ρ 415 c k
theorem b_of511 (ρ : Sg) (c k : Nat) : f_X8_of ρ 511 (nI c) (nI k) = some (nI (511 + 24 * c + k), ρ) := b_of ρ 511 c k
theorem b_of607 (ρ : Sg) (c k : Nat) : f_X8_of ρ 607 (nI c) (nI k) = some (nI (607 + 24 * c + k), ρ) := b_of ρ 607 c k
theorem b_at (ρ : Sg) (c k q : Nat) : f_X8_notedAt ρ (nI c) (nI k) (nI q) = some (nI (703 + 4 * (24 * c + k) + q), ρ) := by
  unfold f_X8_notedAt
  rw [m_24, ni_add, m_4, l_703, ni_add]
theorem b_doesH (h : LU F C K M T U v (ρ 30 0)) {c k : Nat} (hc : c < C) (hk : k < K) : f_X8_doesHold ρ (nI c) (nI k) = some (W_b (bt (v 2 c 8) k), ρ) := by
  have hK := D_K h
  have hC := D_C h
  unfold f_X8_doesHold
  simp (disch := omega) only [b_of319, p_bi, ni_nn, p_nle, false_or, ni_cl, if_false, B_held h hc hk]
  cases bt (v 2 c 8) k <;> rfl
theorem b_isA (h : LU F C K M T U v (ρ 30 0)) {c k : Nat} (hc : c < C) (hk : k < K) : f_X8_isAboard ρ (nI c) (nI k) = some (W_b (bt (v 2 c 9) k), ρ) := by
  have hK := D_K h
  obtain ⟨e0, e1, e2, e3, e4, e5, e6, e7, e8, e10⟩ := B_call h hk
  rw [D_abd h hc k]
  unfold f_X8_isAboard
  simp (disch := omega) only [l_127, l_151, ni_nn, p_nle, false_or, ni_cl, if_false, e3, e4]
  by_cases h1 : v 1 k 3 = 2
  · rw [if_pos h1]
    by_cases h2 : v 1 k 4 = nI c
    · rw [if_pos h2, decide_eq_true ⟨hk, h1, h2⟩]; rfl
    · rw [if_neg h2, decide_eq_false (fun q => h2 q.2.2)]; rfl
  · rw [if_neg h1, decide_eq_false (fun q => h1 q.2.1)]; rfl
theorem ct_ext {P : Nat → Bool} {m n : Nat} (h : m ≤ n) (h0 : ∀ k, m ≤ k → k < n → P k = false) : ct P n = ct P m := by
  obtain ⟨d, rfl⟩ : ∃ d, n = m + d := ⟨n - m, by omega⟩
  rw [ct_add, ct_none (fun k hk => h0 (m + k) (Nat.le_add_right _ _) (by omega)), Nat.add_zero]
theorem W_ctfo (P : Nat → Bool) (n : Nat) : fo (fun k (a : Int32) => if P k = true then a + 1 else a) n 0 = nI (ct P n) := by
  induction n with
  | zero => rfl
  | succ n ih =>
    show (if P n = true then fo _ n 0 + 1 else fo _ n 0) = _
    rw [ih, ct_s]
    split
    · exact ni_1 _
    · rfl
theorem b_heldM (h : LU F C K M T U v (ρ 30 0)) {c : Nat} (hc : c < C) : f_X8_heldMany ρ (nI c) = some (nI (ct (bt (v 2 c 8)) 32), ρ) := by
  have hK := D_K h
  have hC := D_C h
  rw [ct_ext (m := K) (n := 32) (by omega) (fun k h1 _ => D_held h hc h1)]
  refine qrun (fun n a i => f_X8_heldMany_4 n ρ (nI c) a i) (fun k (a : Int32) => if bt (v 2 c 8) k then a + 1 else a) K 0 (by omega) (fun n k a hk => ?_) (fun n => ?_)
  · simp (disch := omega) only [f_X8_heldMany_4_s, B_K h, ni_le, b_of319, p_bi, ni_nn, p_nle, false_or, ni_cl, if_false, ni_1, B_held h hc hk]
    cases bt (v 2 c 8) k
    · simp only [Bool.false_eq_true, if_false, Int32.add_zero]
    · simp only [if_true]
  · simp (disch := omega) only [f_X8_heldMany_4_s, B_K h, ni_le, Nat.le_refl, if_true, f_X8_heldMany_36]
    rw [W_ctfo]
theorem b_abdM (h : LU F C K M T U v (ρ 30 0)) {c : Nat} (hc : c < C) : f_X8_aboardMany ρ (nI c) = some (nI (ct (bt (v 2 c 9)) 32), ρ) := by
  have hK := D_K h
  have hC := D_C h
  rw [ct_ext (m := K) (n := 32) (by omega) (fun k h1 _ => by rw [D_abd h hc k]; exact decide_eq_false (fun q => absurd q.1 (Nat.not_lt.mpr h1)))]
  refine qrun (fun n a i => f_X8_aboardMany_4 n ρ (nI c) a i) (fun k (a : Int32) => if bt (v 2 c 9) k then a + 1 else a) K 0 (by omega) (fun n k a hk => ?_) (fun n => ?_)
  · simp (disch := omega) only [f_X8_aboardMany_4_s, f_X8_aboardMany_29, B_K h, ni_le, p_nle, b_isA h hc hk, p_bi, if_false, ni_1, W_b0]
    cases bt (v 2 c 9) k
    · simp only [Bool.false_eq_true, if_false, if_true, Int32.add_zero]
    · simp only [if_true, Bool.true_eq_false, if_false]
  · simp (disch := omega) only [f_X8_aboardMany_4_s, B_K h, ni_le, Nat.le_refl, if_true, f_X8_aboardMany_37]
    rw [W_ctfo]
end RD
