/-! reading: the same values out of both -/
def W_wait (v : Sg) (k : Nat) : Int32 := if v 1 k 3 = 0 then -1 else (if v 1 k 3 = 1 then v 4 0 3 else v 1 k 5) - v 1 k 2
def W_cnt (v : Sg) (K : Nat) (s : Int32) : Int32 := fo (fun k a => if v 1 k 3 = s then a + 1 else a) K 0
def W_long (v : Sg) (K : Nat) : Int32 := fo (fun k a => jmax a (W_wait v k)) K (-1)
def W_late (v : Sg) (K : Nat) : Int32 := fo (fun k a => if v 12 0 4 < W_wait v k then a + 1 else a) K 0
def W_hold (v : Sg) (C k : Nat) : Int32 := fo (fun c a => if bt (v 2 c 8) k = true then a + 1 else a) C 0
def W_cost (v : Sg) (c : Nat) (fl : Int32) : Int32 := jabs (v 2 c 0 - fl) + v 12 0 2 * (nI (ct (bt (v 2 c 8)) 32) + nI (ct (bt (v 2 c 9)) 32))
section RD
variable {F C K M T U j : Nat} {σ ρ v : Sg} {r : Nat → Int32}
theorem A_K (h : LU F C K M T U (vw j σ) r) : σ 4 j 2 = nI K := h.1.2.2.1
theorem A_C (h : LU F C K M T U (vw j σ) r) : σ 4 j 1 = nI C := h.1.2.1
theorem A_F (h : LU F C K M T U (vw j σ) r) : σ 4 j 0 = nI F := h.1.1
theorem A_T (h : LU F C K M T U (vw j σ) r) : σ 4 j 3 = nI T := h.1.2.2.2.1
theorem A_M (h : LU F C K M T U (vw j σ) r) : σ 5 j 0 = nI M := h.1.2.2.2.2.1
theorem B_F (h : LU F C K M T U v r) : r 0 = nI F := h.1.2.2.2.2.2.1
theorem B_C (h : LU F C K M T U v r) : r 1 = nI C := h.1.2.2.2.2.2.2.1
theorem B_K (h : LU F C K M T U v r) : r 2 = nI K := h.1.2.2.2.2.2.2.2.1
theorem B_T (h : LU F C K M T U v r) : r 3 = nI T := h.1.2.2.2.2.2.2.2.2.1
theorem B_M (h : LU F C K M T U v r) : r 10 = nI M := h.1.2.2.2.2.2.2.2.2.2.1
theorem B_seed (h : LU F C K M T U v r) : r 9 = v 4 0 4 := h.1.2.2.2.2.2.2.2.2.2.2.1
theorem V_T (h : LU F C K M T U v r) : v 4 0 3 = nI T := h.1.2.2.2.1
theorem D_F2 (h : LU F C K M T U v r) : 2 ≤ F := h.1.2.2.2.2.2.2.2.2.2.2.2.1
theorem D_F (h : LU F C K M T U v r) : F ≤ 30 := h.1.2.2.2.2.2.2.2.2.2.2.2.2.1
theorem D_C (h : LU F C K M T U v r) : C ≤ 4 := h.1.2.2.2.2.2.2.2.2.2.2.2.2.2.1
theorem D_K (h : LU F C K M T U v r) : K ≤ 24 := h.1.2.2.2.2.2.2.2.2.2.2.2.2.2.2.1
theorem D_M (h : LU F C K M T U v r) : M ≤ 240 := h.1.2.2.2.2.2.2.2.2.2.2.2.2.2.2.2
theorem B_set (h : LU F C K M T U v r) : r 4 = v 12 0 0 ∧ r 5 = v 12 0 1 ∧ r 6 = v 12 0 2 ∧ r 7 = v 12 0 3 ∧ r 8 = v 12 0 4 := ⟨h.2.1.1 0 (by decide), h.2.1.1 1 (by decide), h.2.1.1 2 (by decide), h.2.1.1 3 (by decide), h.2.1.1 4 (by decide)⟩
theorem B_call (h : LU F C K M T U v r) {k : Nat} (hk : k < K) : r (55 + k) = v 1 k 0 ∧ r (79 + k) = v 1 k 1 ∧ r (103 + k) = v 1 k 2 ∧ r (127 + k) = v 1 k 3 ∧ r (151 + k) = v 1 k 4 ∧ r (175 + k) = v 1 k 5 ∧ r (199 + k) = v 1 k 6 ∧ r (223 + k) = v 1 k 7 ∧ r (247 + k) = v 1 k 8 ∧ r (295 + k) = v 1 k 10 := by
  have h1 := (h.2.2.2.2.1 k hk).1
  exact ⟨h1 0 (by decide) (by decide), h1 1 (by decide) (by decide), h1 2 (by decide) (by decide), h1 3 (by decide) (by decide), h1 4 (by decide) (by decide), h1 5 (by decide) (by decide), h1 6 (by decide) (by decide), h1 7 (by decide) (by decide), h1 8 (by decide) (by decide), h1 10 (by decide) (by decide)⟩
theorem B_car (h : LU F C K M T U v r) {c : Nat} (hc : c < C) : r (23 + c) = v 2 c 0 ∧ r (27 + c) = v 2 c 1 ∧ r (31 + c) = v 2 c 2 ∧ r (35 + c) = v 2 c 3 ∧ r (39 + c) = v 2 c 4 ∧ r (43 + c) = v 2 c 5 ∧ r (47 + c) = v 2 c 6 ∧ r (51 + c) = v 2 c 7 := by
  have h1 := (h.2.2.2.1 c hc).1
  exact ⟨h1 0 (by decide), h1 1 (by decide), h1 2 (by decide), h1 3 (by decide), h1 4 (by decide), h1 5 (by decide), h1 6 (by decide), h1 7 (by decide)⟩
theorem B_held (h : LU F C K M T U v r) {c k : Nat} (hc : c < C) (hk : k < K) : r (319 + 24 * c + k) = if bt (v 2 c 8) k then 1 else 0 := (h.2.2.2.2.2.1 c hc).1 k hk
theorem D_held (h : LU F C K M T U v r) {c k : Nat} (hc : c < C) (hk : K ≤ k) : bt (v 2 c 8) k = false := (h.2.2.2.2.2.1 c hc).2 k hk
theorem D_abd (h : LU F C K M T U v r) {c : Nat} (hc : c < C) (k : Nat) : bt (v 2 c 9) k = decide (k < K ∧ v 1 k 3 = 2 ∧ v 1 k 4 = nI c) := h.2.2.2.2.2.2.1 c hc k
/-! the class -/
theorem a_wait (h : LU F C K M T U (vw j σ) r) {k : Nat} (hk : k < K) : f_X4_waitTime σ j (nI k) = some (W_wait (vw j σ) k, σ) := by
  have hK := D_K h
  unfold f_X4_waitTime f_X4_waitTime_35
  rw [if_neg (by rw [gN (by omega) (by decide)]; exact id), ni_cl (by omega)]
  show (if σ 1 (24 * j + k) 3 = 0 then _ else _) = some ((if σ 1 (24 * j + k) 3 = 0 then -1 else (if σ 1 (24 * j + k) 3 = 1 then σ 4 j 3 else σ 1 (24 * j + k) 5) - σ 1 (24 * j + k) 2), σ)
  split
  · rfl
  · split <;> rfl
theorem b_wait (h : LU F C K M T U v (ρ 30 0)) {k : Nat} (hk : k < K) : f_X8_waitNow ρ (nI k) = some (W_wait v k, ρ) := by
  have hK := D_K h
  obtain ⟨e0, e1, e2, e3, e4, e5, e6, e7, e8, e10⟩ := B_call h hk
  unfold f_X8_waitNow f_X8_waitNow_46
  simp (disch := omega) only [l_127, l_175, l_103, ni_nn, p_nle, false_or, ni_cl, if_false, e2, e3, e5, B_T h]
  unfold W_wait
  rw [V_T h]
  split
  · rfl
  · split <;> rfl
theorem a_cnt (h : LU F C K M T U (vw j σ) r) (s : Int32) : f_X4_countInState σ j s = some (W_cnt (vw j σ) K s, σ) := by
  have hK := D_K h
  refine qrun (fun n a i => f_X4_countInState_4 n σ j s a i) (fun k (a : Int32) => if vw j σ 1 k 3 = s then a + 1 else a) K 0 (by omega) (fun n k a hk => ?_) (fun n => ?_)
  · simp (disch := omega) only [f_X4_countInState_4_s, f_X4_countInState_28, A_K h, ni_le, ni_nn, p_nle, false_or, ni_cl, if_false, ni_1]
    show (if σ 1 (24 * j + k) 3 = s then _ else _) = f_X4_countInState_4 n σ j s (if σ 1 (24 * j + k) 3 = s then a + 1 else a) (nI (k + 1))
    split <;> rfl
  · simp (disch := omega) only [f_X4_countInState_4_s, A_K h, ni_le, Nat.le_refl, if_true, f_X4_countInState_34]
    rfl
theorem b_cnt (h : LU F C K M T U v (ρ 30 0)) (s : Int32) : f_X8_inState ρ s = some (W_cnt v K s, ρ) := by
  have hK := D_K h
  refine qrun (fun n a i => f_X8_inState_4 n ρ s a i) (fun k (a : Int32) => if v 1 k 3 = s then a + 1 else a) K 0 (by omega) (fun n k a hk => ?_) (fun n => ?_)
  · obtain ⟨e0, e1, e2, e3, e4, e5, e6, e7, e8, e10⟩ := B_call h hk
    simp (disch := omega) only [f_X8_inState_4_s, f_X8_inState_33, B_K h, ni_le, l_127, ni_nn, p_nle, false_or, ni_cl, if_false, ni_1, e3]
    show (if v 1 k 3 = s then _ else _) = f_X8_inState_4 n ρ s (if v 1 k 3 = s then a + 1 else a) (nI (k + 1))
    split
    · rfl
    · rw [Int32.add_zero]
  · simp (disch := omega) only [f_X8_inState_4_s, B_K h, ni_le, Nat.le_refl, if_true, f_X8_inState_41]
    rfl
theorem a_long (h : LU F C K M T U (vw j σ) r) : f_X4_greatestWait σ j = some (W_long (vw j σ) K, σ) := by
  have hK := D_K h
  refine qrun (fun n a i => f_X4_greatestWait_4 n σ j a i) (fun k (a : Int32) => jmax a (W_wait (vw j σ) k)) K (-1) (by omega) (fun n k a hk => ?_) (fun n => ?_)
  · simp (disch := omega) only [f_X4_greatestWait_4_s, A_K h, ni_le, p_nle, if_false, a_wait h hk, p_bi, ni_1]
  · simp (disch := omega) only [f_X4_greatestWait_4_s, A_K h, ni_le, p_nle, Nat.le_refl, if_true, f_X4_greatestWait_28]
    rfl
theorem b_long (h : LU F C K M T U v (ρ 30 0)) : f_X8_longest ρ = some (W_long v K, ρ) := by
  have hK := D_K h
  refine qrun (fun n a i => f_X8_longest_4 n ρ a i) (fun k (a : Int32) => jmax a (W_wait v k)) K (-1) (by omega) (fun n k a hk => ?_) (fun n => ?_)
  · simp (disch := omega) only [f_X8_longest_4_s, B_K h, ni_le, p_nle, if_false, b_wait h hk, p_bi, ni_1]
  · simp (disch := omega) only [f_X8_longest_4_s, B_K h, ni_le, p_nle, Nat.le_refl, if_true, f_X8_longest_30]
    rfl
end RD
