/-! reading the class -/
section PX
variable {F C K M T U j : Nat} {σ ρ v : Sg} {r : Nat → Int32}
def W_cnt (v : Sg) (K : Nat) (s : Int32) : Int32 := fo (fun k a => if v 1 k 3 = s then a + 1 else a) K 0
def W_cost (v : Sg) (c : Nat) (fl : Int32) : Int32 := jabs (v 2 c 0 - fl) + v 12 0 2 * (nI (ct (bt (v 2 c 8)) 32) + nI (ct (bt (v 2 c 9)) 32))
theorem A_K (h : LU F C K M T U (vw j σ) r) : σ 4 j 2 = nI K := h.1.2.2.1
theorem A_C (h : LU F C K M T U (vw j σ) r) : σ 4 j 1 = nI C := h.1.2.1
theorem A_F (h : LU F C K M T U (vw j σ) r) : σ 4 j 0 = nI F := h.1.1
theorem A_T (h : LU F C K M T U (vw j σ) r) : σ 4 j 3 = nI T := h.1.2.2.2.1
theorem A_M (h : LU F C K M T U (vw j σ) r) : σ 5 j 0 = nI M := h.1.2.2.2.2.1
theorem B_F (h : LU F C K M T U v r) : r 0 = nI F := h.1.2.2.2.2.2.1
theorem B_C (h : LU F C K M T U v r) : r 1 = nI C := h.1.2.2.2.2.2.2.1
theorem B_K (h : LU F C K M T U v r) : r 2 = nI K := h.1.2.2.2.2.2.2.2.1
theorem B_T (h : LU F C K M T U v r) : r 3 = nI T := h.1.2.2.2.2.2.2.2.2.1
theorem B_M (h : LU F C K M T U v r) : r 10 = nI M := h.1.2.2.2.2.2.2.2.2.2.1
theorem B_seed (h : LU F C K M T U v r) : r 9 = v 4 0 4 := h.1.2.2.2.2.2.2.2.2.2.2.1
theorem V_T (h : LU F C K M T U v r) : v 4 0 3 = nI T := h.1.2.2.2.1
theorem D_F2 (h : LU F C K M T U v r) : 2 ≤ F := h.1.2.2.2.2.2.2.2.2.2.2.2.1
theorem D_F (h : LU F C K M T U v r) : F ≤ 30 := h.1.2.2.2.2.2.2.2.2.2.2.2.2.1
theorem D_C (h : LU F C K M T U v r) : C ≤ 4 := h.1.2.2.2.2.2.2.2.2.2.2.2.2.2.1
theorem D_K (h : LU F C K M T U v r) : K ≤ 24 := h.1.2.2.2.2.2.2.2.2.2.2.2.2.2.2.1
theorem D_M (h : LU F C K M T U v r) : M ≤ 240 := h.1.2.2.2.2.2.2.2.2.2.2.2.2.2.2.2
theorem B_set (h : LU F C K M T U v r) : r 4 = v 12 0 0 ∧ r 5 = v 12 0 1 ∧ r 6 = v 12 0 2 ∧ r 7 = v 12 0 3 ∧ r 8 = v 12 0 4 := ⟨h.2.1.1 0 (by decide), h.2.1.1 1 (by decide), h.2.1.1 2 (by decide), h.2.1.1 3 (by decide), h.2.1.1 4 (by decide)⟩
theorem B_call (h : LU F C K M T U v r) {k : Nat} (hk : k < K) : r (55 + k) = v 1 k 0 ∧ r (79 + k) = v 1 k 1 ∧ r (103 + k) = v 1 k 2 ∧ r (127 + k) = v 1 k 3 ∧ r (151 + k) = v 1 k 4 ∧ r (175 + k) = v 1 k 5 ∧ r (199 + k) = v 1 k 6 ∧ r (223 + k) = v 1 k 7 ∧ r (247 + k) = v 1 k 8 ∧ r (295 + k) = v 1 k 10 := by
  have h1 := (h.2.2.2.2.1 k hk).1
  exact ⟨h1 0 (by decide) (by decide), h1 1 (by decide) (by decide), h1 2 (by decide) (by decide), h1 3 (by decide) (by decide), h1 4 (by decide) (by decide), h1 5 (by decide) (by decide), h1 6 (by decide) (by decide), h1 7 (by decide) (by decide), h1 8 (by decide) (by decide), h1 10 (by decide) (by decide)⟩
theorem B_car (h : LU F C K M T U v r) {c : Nat} (hc : c < C) : r (23 + c) = v 2 c 0 ∧ r (27 + c) = v 2 c 1 ∧ r (31 + c) = v 2 c 2 ∧ r (35 + c) = v 2 c 3 ∧ r (39 + c) = v 2 c 4 ∧ r (43 + c) = v 2 c 5 ∧ r (47 + c) = v 2 c 6 ∧ r (51 + c) = v 2 c 7 := by
  have h1 := (h.2.2.2.1 c hc).1
  exact ⟨h1 0 (by decide), h1 1 (by decide), h1 2 (by decide), h1 3 (by decide), h1 4 (by decide), h1 5 (by decide), h1 6 (by decide), h1 7 (by decide)⟩
theorem B_held (h : LU F C K M T U v r) {c k : Nat} (hc : c < C) (hk : k < K) : r (319 + 24 * c + k) = if bt (v 2 c 8) k then 1 else 0 := (h.2.2.2.2.2.1 c hc).1 k hk
theorem D_held (h : LU F C K M T U v r) {c k : Nat} (hc : c < C) (hk : K ≤ k) : bt (v 2 c 8) k = false := (h.2.2.2.2.2.1 c hc).2 k hk
theorem D_abd (h : LU F C K M T U v r) {c : Nat} (hc : c < C) (k : Nat) : bt (v 2 c 9) k = decide (k < K ∧ v 1 k 3 = 2 ∧ v 1 k 4 = nI c) := h.2.2.2.2.2.2.1 c hc k
theorem a_cnt (h : LU F C K M T U (vw j σ) r) (s : Int32) : f_X4_countInState σ j s = some (W_cnt (vw j σ) K s, σ) := by
  have hK := D_K h
  refine qrun (fun n a i => f_X4_countInState_4 n σ j s a i) (fun k (a : Int32) => if vw j σ 1 k 3 = s then a + 1 else a) K 0 (by omega) (fun n k a hk => ?_) (fun n => ?_)
  · simp (disch := omega) only [f_X4_countInState_4_s, f_X4_countInState_28, A_K h, ni_le, ni_nn, p_nle, false_or, ni_cl, if_false, ni_1]
    show (if σ 1 (24 * j + k) 3 = s then _ else _) = f_X4_countInState_4 n σ j s (if σ 1 (24 * j + k) 3 = s then a + 1 else a) (nI (k + 1))
    split <;> rfl
  · simp (disch := omega) only [f_X4_countInState_4_s, A_K h, ni_le, Nat.le_refl, if_true, f_X4_countInState_34]
    rfl
theorem k_one (i : Nat) (hi : i < 32) : bt 1 i = decide (i = 0) := by
  have h : ∀ i, i < 32 → bt 1 i = decide (i = 0) := by decide +kernel
  exact h i hi
theorem k_and1 (y : Int32) : (y &&& 1 = 0) = (bt y 0 = false) := by
  apply propext
  constructor
  · intro h
    have h1 := congrArg (fun z => bt z 0) h
    simp only [b_and, b_0, k_one 0 (by decide)] at h1
    simpa using h1
  · intro h
    apply b_ext
    intro i hi
    rw [b_and, b_0, k_one i hi]
    by_cases h0 : i = 0
    · subst h0; rw [h]; rfl
    · simp [h0]
theorem k_and11 (y : Int32) : (y &&& 1 = 1) = (bt y 0 = true) := by
  apply propext
  constructor
  · intro h
    cases hb : bt y 0
    · rw [← k_and1] at hb
      rw [hb] at h
      exact absurd h (by decide)
    · rfl
  · intro h
    apply b_ext
    intro i hi
    rw [b_and, k_one i hi]
    by_cases h0 : i = 0
    · subst h0; rw [h]; rfl
    · simp [h0]
theorem k_ush {k : Nat} (hk : k < 32) (x : Int32) : ((jush x (nI k)) &&& 1 = 0) = (bt x k = false) := by
  rw [k_and1]
  unfold jush
  rw [b_ushr k hk, Nat.add_zero]
theorem k_sshr {k : Nat} (hk : k < 31) (x : Int32) : ((x >>> (nI k &&& 31)) &&& 1 = 1) = (bt x k = true) := by
  rw [k_and11, b_sshr k (by omega) x (by decide), if_pos (by omega), Nat.add_zero]
theorem k_set {k i : Nat} (hk : k < 32) (hi : i < 32) (x : Int32) : bt (x ||| (1 <<< (nI k &&& 31))) i = (bt x i || decide (i = k)) := by
  rw [b_or, b_shl k hk 1 hi]
  by_cases h : k ≤ i
  · rw [k_one (i - k) (by omega)]
    by_cases h2 : i = k
    · subst h2; simp
    · have : ¬ (i - k = 0) := by omega
      simp [h, h2, this]
  · have h2 : ¬ i = k := by omega
    simp [h, h2]
theorem k_clr {k i : Nat} (hk : k < 32) (hi : i < 32) (x : Int32) : bt (x &&& ((1 <<< (nI k &&& 31)) ^^^ (-1))) i = (bt x i && !decide (i = k)) := by
  rw [b_and, b_xor, b_m1 i hi, b_shl k hk 1 hi]
  by_cases h : k ≤ i
  · rw [k_one (i - k) (by omega)]
    by_cases h2 : i = k
    · subst h2; simp
    · have : ¬ (i - k = 0) := by omega
      simp [h, h2, this]
  · have h2 : ¬ i = k := by omega
    simp [h, h2]
theorem k_hi {x : Int32} {i : Nat} (h : 32 ≤ i) : bt x i = false := b_big h
def W_b (b : Bool) : Int32 := if b = true then 1 else 0
theorem W_b0 (b : Bool) : (W_b b = 0) = (b = false) := by cases b <;> simp [W_b]
theorem W_b1 (b : Bool) : (W_b b = 1) = (b = true) := by cases b <;> simp [W_b]
theorem W_b01 (b : Bool) : (¬ (W_b b = 0 ∨ W_b b = 1)) = False := by cases b <;> simp [W_b]
theorem a_isH (σ : Sg) (o : Nat) {k : Nat} (hk : k < 32) : f_X2_isHolding σ o (nI k) = some (W_b (bt (σ 2 o 8) k), σ) := by
  unfold f_X2_isHolding
  simp only [k_ush hk]
  cases h : bt (σ 2 o 8) k <;> rfl
theorem a_isC (σ : Sg) (o : Nat) {k : Nat} (hk : k < 32) : f_X2_isCarrying σ o (nI k) = some (W_b (bt (σ 2 o 9) k), σ) := by
  unfold f_X2_isCarrying
  simp only [k_ush hk]
  cases h : bt (σ 2 o 9) k <;> rfl
theorem a_lost (σ : Sg) (o : Nat) {k t : Nat} (hk : k < 32) (ht : t < 4) : f_X2_lost σ o (nI k) (nI t) = some (W_b (bt (σ 19 o t) k), σ) := by
  unfold f_X2_lost
  rw [if_neg (by rw [gN ht (by decide)]; exact id), ni_cl (by omega)]
  simp only [k_ush hk]
  cases h : bt (σ 19 o t) k <;> rfl
theorem ct_ext {P : Nat → Bool} {m n : Nat} (h : m ≤ n) (h0 : ∀ k, m ≤ k → k < n → P k = false) : ct P n = ct P m := by
  obtain ⟨d, rfl⟩ : ∃ d, n = m + d := ⟨n - m, by omega⟩
  rw [ct_add, ct_none (fun k hk => h0 (m + k) (Nat.le_add_right _ _) (by omega)), Nat.add_zero]
theorem W_ctfo (P : Nat → Bool) (n : Nat) : fo (fun k (a : Int32) => if P k = true then a + 1 else a) n 0 = nI (ct P n) := by
  induction n with
  | zero => rfl
  | succ n ih =>
    show (if P n = true then fo _ n 0 + 1 else fo _ n 0) = _
    rw [ih, ct_s]
    split
    · exact ni_1 _
    · rfl
theorem p_10 : ((1 : Int32) = 0) = False := eq_false (by decide)
theorem p_m10 : ((-1 : Int32) = 0) = False := eq_false (by decide)
theorem s_ss (ρ : Sg) (k o i : Nat) (x y : Int32) : sup (sup ρ k o i x) k o i y = sup ρ k o i y := by
  funext k' o' i'
  unfold sup
  by_cases h : k' = k ∧ o' = o ∧ i' = i
  · rw [if_pos h, if_pos h]
  · rw [if_neg h, if_neg h, if_neg h]
theorem x_rng (v : Int32) (n : Nat) (hn : n < 1000) : (∃ i, i ≤ n ∧ v = nI i) ∨ (v < 0 ∨ nI n < v) := by
  rcases x_idx v (C := n + 1) (by omega) with ⟨i, hi, rfl⟩ | h | h
  · exact Or.inl ⟨i, by omega, rfl⟩
  · exact Or.inr (Or.inl h)
  · refine Or.inr (Or.inr ?_)
    rw [Int32.le_iff_toInt_le, ni_int (by omega)] at h
    rw [Int32.lt_iff_toInt_lt, ni_int (by omega)]
    omega
theorem a_cost (h : LU F C K M T U (vw j σ) r) {c : Nat} (hc : c < C) (fl : Int32) : f_X4_costFrom σ j (nI c) fl = some (W_cost (vw j σ) c fl, σ) := by
  have hC := D_C h
  unfold f_X4_costFrom
  simp (disch := omega) only [ni_nn, ni_cl, ni_le, ni_lt, p_nle, false_or, if_false, if_true, ni_1, p_bi, p_bv, p_st, eq_self, p_10, p_m10, c_cnt]
  rfl
theorem ni_mr (k m : Nat) : nI k * nI m = nI (k * m) := ni_mul k m
theorem ni_m4 (k : Nat) : nI k * 4 = nI (k * 4) := ni_mul k 4
theorem p_m1lt : ((-1 : Int32) < 0) = True := eq_true (by decide)
theorem ni_m1 {a : Nat} (h : a < 2147483648) : (nI a = -1) = False := by
  refine eq_false (fun e => ?_)
  have h1 := congrArg Int32.toInt e
  rw [ni_int h] at h1
  have h2 : (-1 : Int32).toInt = -1 := by decide
  omega
def W_own (v : Sg) (c k : Nat) : Int32 := if bt (v 2 c 8) k = true ∨ v 17 c k ≠ -1 then v 16 c k else -1
theorem a_own (h : LU F C K M T U (vw j σ) r) (hT : T ≤ 400000) {c k : Nat} (hc : c < C) (hk : k < K) : f_X2_knownOwnCost σ (4 * j + c) (nI k) = some (W_own (vw j σ) c k, σ) := by
  have dK := D_K h
  unfold f_X2_knownOwnCost f_X2_knownOwnCost_17 f_X2_knownOwnCost_27
  simp (disch := omega) only [ni_nn, ni_cl, ni_le, ni_lt, p_nle, false_or, if_false, if_true, ni_1, p_bi, p_bv, p_st, eq_self, p_10, p_m10, a_isH, W_b0]
  show (if bt (σ 2 (4 * j + c) 8) k = false then (if σ 17 (4 * j + c) k < 0 then some (-1, σ) else some (σ 16 (4 * j + c) k, σ)) else some (σ 16 (4 * j + c) k, σ)) = some (if bt (σ 2 (4 * j + c) 8) k = true ∨ σ 17 (4 * j + c) k ≠ -1 then σ 16 (4 * j + c) k else -1, σ)
  rcases (h.2.2.2.2.2.2.2.1 c hc k hk).2.2.2.2.1 with e | ⟨t, ht, e⟩
  · have e2 : σ 17 (4 * j + c) k = -1 := e
    rw [e2]
    cases bt (σ 2 (4 * j + c) 8) k
    · rw [if_pos rfl, if_pos (by decide), if_neg (by simp)]
    · rfl
  · have e2 : σ 17 (4 * j + c) k = nI t := e
    rw [e2]
    cases bt (σ 2 (4 * j + c) 8) k
    · rw [if_pos rfl, if_neg (by rw [ni_nn (by omega)]; exact id), if_pos (Or.inr (by rw [ne_eq, ni_m1 (by omega)]; exact id))]
    · rfl
theorem a_noted (σ : Sg) (o : Nat) {k q : Nat} (hk : k < 24) (hq : q < 4) : f_X2_notedBid σ o (nI k) (nI q) = some (σ 18 o (4 * k + q), σ) := by
  unfold f_X2_notedBid
  simp (disch := omega) only [ni_nn, ni_cl, ni_le, ni_lt, p_nle, false_or, if_false, if_true, ni_1, p_bi, p_bv, p_st, eq_self, p_10, p_m10, ni_m4, ni_add, Nat.mul_comm k 4]
end PX
