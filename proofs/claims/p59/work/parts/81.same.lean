/-! is all that can be asked the same: both say so -/
theorem x_rg (σ : Sg) {v a b : Int32} (h1 : ¬ v < a) (h2 : v ≤ b) : f_X7_checkRange σ v a b = some σ := by
  unfold f_X7_checkRange
  rw [if_neg h1, if_pos h2]
/-- a loop whose every turn costs the same -/
theorem lpX (h : Nat → Int32 → Option (Int32 × Sg × Sg × Nat)) (N : Nat) (hN : N < 65536) (D : Nat) (step : ∀ m k, k < N → h (m + 1) (nI k) = acx D (h m (nI (k + 1)))) : ∃ m, h FU 0 = acx (D * N) (h (m + 1) (nI N)) := by
  have key : ∀ k, k ≤ N → h FU 0 = acx (D * k) (h (65535 - k + 1) (nI k)) := by
    intro k
    induction k with
    | zero => intro _; exact (acx_0 _).symm
    | succ k ih =>
      intro hk
      rw [ih (by omega), step (65535 - k) k (by omega), acx_acx, show 65535 - (k + 1) + 1 = 65535 - k by omega]
      rfl
  exact ⟨_, key N (Nat.le_refl N)⟩
section TK
variable {F C K M T U j : Nat} {σ τ v : Sg} {r : Nat → Int32}
theorem y_car (h : LU F C K M T U (vw 0 σ) r) {c : Nat} (hc : c < C) : f_X7_car σ (nI c) 0 = some (σ 2 c 0, σ) ∧ f_X7_car σ (nI c) 2 = some (σ 2 c 2, σ) ∧ f_X7_car σ (nI c) 3 = some (nI (ct (bt (σ 2 c 8)) 32), σ) ∧ f_X7_car σ (nI c) 4 = some (nI (ct (bt (σ 2 c 9)) 32), σ) ∧ f_X7_car σ (nI c) 5 = some (if σ 2 c 3 = 0 then 0 else 1, σ) ∧ f_X7_car σ (nI c) 6 = some (if σ 2 c 4 = 0 then 0 else 1, σ) ∧ f_X7_car σ (nI c) 7 = some (σ 2 c 5, σ) ∧ f_X7_car σ (nI c) 8 = some (σ 2 c 6, σ) ∧ f_X7_car σ (nI c) 9 = some (σ 2 c 7, σ) := by
  have hC := D_C h
  have g4 : ¬ (nI c < 0 ∨ 4 ≤ (nI c).toNatClampNeg) := by rw [gN (by omega) (by decide)]; exact id
  have cl : (nI c).toNatClampNeg = c := ni_cl (by omega)
  have x : ∀ y : Int32, ¬ y < 0 → y ≤ 9 → f_X7_car σ (nI c) y = (if y = 0 then (some ((σ 2 c 0), σ)) else (if y = 1 then (some ((σ 2 c 1), σ)) else (if y = 2 then (some ((σ 2 c 2), σ)) else (if y = 3 then (some (nI (ct (bt (σ 2 c 8)) 32), σ)) else (if y = 4 then (some (nI (ct (bt (σ 2 c 9)) 32), σ)) else (if y = 5 then (if (σ 2 c 3) = 0 then (f_X7_car_115 σ 0) else (f_X7_car_115 σ 1)) else (if y = 6 then (if (σ 2 c 4) = 0 then (f_X7_car_128 σ 0) else (f_X7_car_128 σ 1)) else (if y = 7 then (some ((σ 2 c 5), σ)) else (if y = 8 then (some ((σ 2 c 6), σ)) else (some ((σ 2 c 7), σ))))))))))) := by
    intro y h0 h9
    unfold f_X7_car
    rw [x_car σ (A_C h) hC hc, p_bv, x_rg σ h0 h9, p_bv, if_neg g4, cl, Nat.mul_zero, Nat.zero_add, c_cnt, c_cnt]
    rfl
  refine ⟨(x 0 (by decide) (by decide)).trans rfl, (x 2 (by decide) (by decide)).trans rfl, (x 3 (by decide) (by decide)).trans rfl, (x 4 (by decide) (by decide)).trans rfl, (x 5 (by decide) (by decide)).trans ?_, (x 6 (by decide) (by decide)).trans ?_, (x 7 (by decide) (by decide)).trans rfl, (x 8 (by decide) (by decide)).trans rfl, (x 9 (by decide) (by decide)).trans rfl⟩
  · rw [if_neg (by decide), if_neg (by decide), if_neg (by decide), if_neg (by decide), if_neg (by decide), if_pos rfl]
    split <;> rfl
  · rw [if_neg (by decide), if_neg (by decide), if_neg (by decide), if_neg (by decide), if_neg (by decide), if_neg (by decide), if_pos rfl]
    split <;> rfl
theorem y_kall (h : LU F C K M T U (vw 0 σ) r) {k : Nat} (hk : k < K) : f_X7_call σ (nI k) 3 = some (σ 1 k 3, σ) ∧ f_X7_call σ (nI k) 4 = some (σ 1 k 4, σ) ∧ f_X7_call σ (nI k) 5 = some (σ 1 k 5, σ) ∧ f_X7_call σ (nI k) 6 = some (σ 1 k 6, σ) ∧ f_X7_call σ (nI k) 7 = some (σ 1 k 7, σ) ∧ f_X7_call σ (nI k) 8 = some (σ 1 k 8, σ) ∧ f_X7_call σ (nI k) 10 = some (σ 1 k 10, σ) := by
  have hK := D_K h
  have g4 : ¬ (nI k < 0 ∨ 24 ≤ (nI k).toNatClampNeg) := by rw [gN (by omega) (by decide)]; exact id
  have cl : (nI k).toNatClampNeg = k := ni_cl (by omega)
  have x : ∀ y : Int32, ¬ y < 0 → y ≤ 10 → f_X7_call σ (nI k) y = (if y = 0 then (some ((σ 1 k 0), σ)) else (if y = 1 then (some ((σ 1 k 1), σ)) else (if y = 2 then (some ((σ 1 k 2), σ)) else (if y = 3 then (some ((σ 1 k 3), σ)) else (if y = 4 then (some ((σ 1 k 4), σ)) else (if y = 5 then (some ((σ 1 k 5), σ)) else (if y = 6 then (some ((σ 1 k 6), σ)) else (if y = 7 then (some ((σ 1 k 7), σ)) else (if y = 8 then (some ((σ 1 k 8), σ)) else (if y = 9 then (bi (f_X4_holders σ 0 (nI k)) fun r4 σ3 => (some (r4, σ3))) else (some ((σ 1 k 10), σ)))))))))))) := by
    intro y h0 h9
    unfold f_X7_call
    rw [x_call σ (A_K h) hK hk, p_bv, x_rg σ h0 h9, p_bv, if_neg g4, cl, Nat.mul_zero, Nat.zero_add]
  refine ⟨(x 3 (by decide) (by decide)).trans rfl, (x 4 (by decide) (by decide)).trans rfl, (x 5 (by decide) (by decide)).trans rfl, (x 6 (by decide) (by decide)).trans rfl, (x 7 (by decide) (by decide)).trans rfl, (x 8 (by decide) (by decide)).trans rfl, (x 10 (by decide) (by decide)).trans rfl⟩
theorem y_know (h : LU F C K M T U (vw 0 σ) r) {c k : Nat} (hc : c < C) (hk : k < K) : f_X7_holds σ (nI c) (nI k) = some (W_b (bt (σ 2 c 8) k), σ) ∧ f_X7_decides σ (nI c) (nI k) = some (σ 17 c k, σ) ∧ f_X7_costNow σ (nI c) (nI k) = some (W_cost (vw 0 σ) c (σ 1 k 0), σ) ∧ (T ≤ 400000 → f_X7_ownCost σ (nI c) (nI k) = some (W_own (vw 0 σ) c k, σ)) ∧ (∀ q, q < C → f_X7_noted σ (nI c) (nI k) (nI q) = some (σ 18 c (4 * k + q), σ)) ∧ (∀ t, t < 4 → f_X7_hasLost σ (nI c) (nI k) (nI t) = some (W_b (bt (σ 19 c t) k), σ)) := by
  have hC := D_C h
  have hK := D_K h
  have g4 : ¬ (nI c < 0 ∨ 4 ≤ (nI c).toNatClampNeg) := by rw [gN (by omega) (by decide)]; exact id
  have g24 : ¬ (nI k < 0 ∨ 24 ≤ (nI k).toNatClampNeg) := by rw [gN (by omega) (by decide)]; exact id
  have cl : (nI c).toNatClampNeg = c := ni_cl (by omega)
  have ck : (nI k).toNatClampNeg = k := ni_cl (by omega)
  have z4 : 4 * 0 + c = c := by omega
  have z24 : 24 * 0 + k = k := by omega
  have wb : ∀ b : Bool, ¬ ¬ (W_b b = 0 ∨ W_b b = 1) := fun b q => by cases b <;> revert q <;> decide
  refine ⟨?_, ?_, ?_, ?_, ?_, ?_⟩
  · unfold f_X7_holds
    rw [x_car σ (A_C h) hC hc, p_bv, x_call σ (A_K h) hK hk, p_bv, if_neg g4, cl, a_isH σ _ (show k < 32 by omega), p_bi, z4, if_neg (wb _)]
  · unfold f_X7_decides
    rw [x_car σ (A_C h) hC hc, p_bv, x_call σ (A_K h) hK hk, p_bv, if_neg g4, if_neg g24, cl, ck, z4]
  · unfold f_X7_costNow
    rw [x_car σ (A_C h) hC hc, p_bv, x_call σ (A_K h) hK hk, p_bv, if_neg g24, ck, a_cost h hc, p_bi, z24]
  · intro hT
    unfold f_X7_ownCost
    rw [x_car σ (A_C h) hC hc, p_bv, x_call σ (A_K h) hK hk, p_bv, if_neg g4, cl, a_own h hT hc hk, p_bi]
  · intro q hq
    unfold f_X7_noted
    rw [x_car σ (A_C h) hC hc, p_bv, x_call σ (A_K h) hK hk, p_bv, x_car σ (A_C h) hC hq, p_bv, if_neg g4, cl, a_noted σ _ (show k < 24 by omega) (show q < 4 by omega), p_bi, z4]
  · intro t ht
    unfold f_X7_hasLost
    rw [x_car σ (A_C h) hC hc, p_bv, x_call σ (A_K h) hK hk, p_bv, x_rg σ (by rw [ni_nn (by omega)]; exact id) (by rw [show (3 : Int32) = nI 3 from rfl, ni_le (by omega) (by omega)]; omega), p_bv, if_neg g4, cl, a_lost σ _ (show k < 32 by omega) ht, p_bi, z4, if_neg (wb _)]
theorem y_count (h : LU F C K M T U (vw 0 σ) r) : f_X7_count σ 3 = some (σ 4 0 3, σ) ∧ f_X7_count σ 9 = some (σ 4 0 4, σ) ∧ f_X7_count σ 11 = some (W_cnt (vw 0 σ) K 3, σ) ∧ f_X7_count σ 12 = some (σ 5 0 0, σ) := by
  refine ⟨?_, ?_, ?_, ?_⟩ <;> unfold f_X7_count <;> rw [x_rg σ (by decide) (by decide), p_bv]
  · rfl
  · rfl
  · rw [a_cnt h 3]
    rfl
  · rfl
theorem y_sent (σ : Sg) {i : Nat} (hi : i < 4) : f_X7_messages σ (nI i) 0 = some (σ 13 0 i, σ) ∧ f_X7_messages σ (nI i) 1 = some (σ 14 0 i, σ) ∧ f_X7_nobody σ (nI (i + 1)) = some (σ 15 0 (i + 1), σ) := by
  have g4 : ¬ (nI i < 0 ∨ 4 ≤ (nI i).toNatClampNeg) := by rw [gN (by omega) (by decide)]; exact id
  have g5 : ¬ (nI (i + 1) < 0 ∨ 5 ≤ (nI (i + 1)).toNatClampNeg) := by rw [gN (by omega) (by decide)]; exact id
  have g0 : ¬ nI i < 0 := by rw [ni_nn (by omega)]; exact id
  have gm : ¬ nI i < -1 := by
    rw [Int32.lt_iff_toInt_lt, ni_int (by omega), show (-1 : Int32).toInt = -1 by decide]
    omega
  have l3 : nI i ≤ 3 := by rw [show (3 : Int32) = nI 3 from rfl, ni_le (by omega) (by omega)]; omega
  refine ⟨?_, ?_, ?_⟩
  · unfold f_X7_messages f_X7_messages_27
    rw [x_rg σ gm l3, p_bv, if_pos rfl, if_neg g0, if_neg g4, ni_cl (by omega)]
  · unfold f_X7_messages f_X7_messages_27
    rw [x_rg σ gm l3, p_bv, if_neg (by decide), if_neg g0, if_neg g4, ni_cl (by omega)]
  · unfold f_X7_nobody
    rw [x_rg σ (by rw [show (1 : Int32) = nI 1 from rfl, ni_lt (by omega) (by omega)]; omega) (by rw [show (4 : Int32) = nI 4 from rfl, ni_le (by omega) (by omega)]; omega), p_bv, if_neg g5, ni_cl (by omega)]
theorem y_sum (σ : Sg) : f_X7_messages σ (-1) 0 = some (fo (fun k a => a + σ 13 0 k) 4 0, σ) := by
  obtain ⟨n, y, hy, e⟩ := lpE1 (fun n (y : Int32) i => f_X7_sum_4 n σ 13 0 4 y i) 4 (by decide) (fun k y => y = fo (fun k a => a + σ 13 0 k) k 0) (a := 0) (fun n k y hk hy => by
    refine ⟨fo (fun k a => a + σ 13 0 k) (k + 1) 0, rfl, ?_⟩
    rw [f_X7_sum_4_s, if_neg (by rw [show Int32.ofNat 4 = nI 4 from rfl, ni_le (by omega) (by omega)]; omega), if_neg (by rw [gN (by omega) (by decide)]; exact id), ni_cl (by omega), ni_1, hy]
    rfl) rfl
  have e' : f_X7_sum_4 FU σ 13 0 4 0 0 = f_X7_sum_4 (n + 1) σ 13 0 4 y (nI 4) := e
  unfold f_X7_messages f_X7_messages_27 f_X7_sum
  rw [x_rg σ (by decide) (by decide), p_bv, if_pos rfl, if_pos (by decide), e', f_X7_sum_4_s, if_pos (by rw [show Int32.ofNat 4 = nI 4 from rfl, ni_le (by omega) (by omega)]; omega), hy]
  rfl
/-- the end: what was sent, and the counts -/
theorem k_end (h : LU F C K M T U (vw 0 σ) (rwL τ)) : f_L_isSame_550 σ τ 0 = some (1, σ, τ, 1) := by
  have c := y_count h
  have eT : τ 40 0 7 = σ 4 0 3 := (L_T h).trans h.1.2.2.2.1.symm
  have eS0 : τ 40 0 13 = (vw 0 σ) 4 0 4 := L_seed h
  have eS : τ 40 0 13 = σ 4 0 4 := eS0
  have eM : τ 50 2 2 = σ 5 0 0 := (L_M h).trans (A_M h).symm
  obtain ⟨n, y, hy, e⟩ := lpE1 (fun n (y : Int32) i => f_L_isSame_552 n σ τ y i) 4 (by decide) (fun k y => y = fo (fun k a => a + σ 13 0 k) k 0) (a := 0) (fun n k y hk hy => by
    refine ⟨fo (fun k a => a + σ 13 0 k) (k + 1) 0, rfl, ?_⟩
    have g4 : ¬ (nI k < 0 ∨ 4 ≤ k) := by rw [ni_nn (by omega)]; exact fun q => q.elim id (fun q => by omega)
    have g5 : ¬ (nI (k + 1) < 0 ∨ 5 ≤ k + 1) := by rw [ni_nn (by omega)]; exact fun q => q.elim id (fun q => by omega)
    obtain ⟨m1, m2, m3⟩ := y_sent σ hk
    have e1 : τ 46 0 k = σ 13 0 k := L_sent h hk
    have e2 : τ 47 0 k = σ 14 0 k := L_lost h hk
    have e3 : τ 48 0 (k + 1) = σ 15 0 (k + 1) := L_nob h hk
    rw [f_L_isSame_552_s, if_neg (by rw [q_4 (by omega)]; omega), ni_1, ni_cl (show k < 2147483648 by omega), ni_cl (show k + 1 < 2147483648 by omega), if_neg g4, m1, p_bi, if_neg g4, e1, if_pos rfl, m2, p_bi, if_neg g4, e2, if_pos rfl, m3, p_bi, if_neg g5, e3, if_pos rfl, hy]
    rfl) rfl
  have e' : f_L_isSame_552 FU σ τ 0 0 = f_L_isSame_552 (n + 1) σ τ y (nI 4) := e
  unfold f_L_isSame_550
  rw [e', f_L_isSame_552_s, if_pos (by decide)]
  unfold f_L_isSame_622
  rw [c.1, p_bi, if_pos eT.symm, c.2.1, p_bi, if_pos eS.symm, c.2.2.1, p_bi, l_done h, bqx_some, if_pos rfl, c.2.2.2, p_bi, if_pos eM.symm, y_sum, p_bi, if_pos hy.symm]
  rfl
theorem v0_1 (σ : Sg) (k : Nat) : vw 0 σ 1 k = σ 1 k := by show (fun i => σ 1 (24 * 0 + k) i) = _; rw [Nat.mul_zero, Nat.zero_add]
theorem v0_2 (σ : Sg) (k : Nat) : vw 0 σ 2 k = σ 2 k := by show (fun i => σ 2 (4 * 0 + k) i) = _; rw [Nat.mul_zero, Nat.zero_add]
theorem v0_16 (σ : Sg) (k : Nat) : vw 0 σ 16 k = σ 16 k := by show (fun i => σ 16 (4 * 0 + k) i) = _; rw [Nat.mul_zero, Nat.zero_add]
theorem v0_17 (σ : Sg) (k : Nat) : vw 0 σ 17 k = σ 17 k := by show (fun i => σ 17 (4 * 0 + k) i) = _; rw [Nat.mul_zero, Nat.zero_add]
theorem v0_18 (σ : Sg) (k : Nat) : vw 0 σ 18 k = σ 18 k := by show (fun i => σ 18 (4 * 0 + k) i) = _; rw [Nat.mul_zero, Nat.zero_add]
theorem v0_19 (σ : Sg) (k : Nat) : vw 0 σ 19 k = σ 19 k := by show (fun i => σ 19 (4 * 0 + k) i) = _; rw [Nat.mul_zero, Nat.zero_add]
/-- what a car knows of a call: what of it is lost, and what bids are noted -/
theorem k_lost (h : LU F C K M T U (vw 0 σ) (rwL τ)) {c k : Nat} (hc : c < C) (hk : k < K) (k201 : Sg → Sg → Int32 → Int32 → Option (Int32 × Sg × Sg × Nat)) (k336 : Sg → Sg → Int32 → Int32 → Nat → Int32 → Option (Int32 × Sg × Sg × Nat)) (v2 : Int32) : f_L_isSame_490 k201 k336 σ τ v2 (nI k) k (nI c) (4 * k + c) = k336 σ τ v2 (nI k) k (nI (c + 1)) := by
  obtain ⟨n, y, hy, e⟩ := lpE1 (fun n (y : Unit) i => f_L_isSame_493 k201 k336 n σ τ v2 (nI k) k (nI c) (4 * k + c) i) 4 (by decide) (fun k y => True) (a := ()) (fun n t y ht hy => by
    refine ⟨(), trivial, ?_⟩
    have hl : bt (τ 43 (4 * k + c) 3) t = bt (σ 19 c t) k := (L_miss h hc hk ht).trans (by rw [v0_19])
    rw [f_L_isSame_493_s, if_neg (by rw [q_4 (by omega)]; omega), (y_know h hc hk).2.2.2.2.2 t ht, p_bi]
    simp only [k_sshr (show t < 31 by omega), hl]
    unfold f_L_isSame_527
    rw [ni_1]
    cases bt (σ 19 c t) k
    · rw [if_neg (by decide), if_pos (show W_b false = 0 from rfl)]
    · rw [if_pos rfl, if_pos (show W_b true = 1 from rfl)]) trivial
  have e' : f_L_isSame_493 k201 k336 FU σ τ v2 (nI k) k (nI c) (4 * k + c) 0 = f_L_isSame_493 k201 k336 (n + 1) σ τ v2 (nI k) k (nI c) (4 * k + c) (nI 4) := e
  unfold f_L_isSame_490
  rw [e', f_L_isSame_493_s, if_pos (by decide)]
  unfold f_L_isSame_538
  rw [ni_1]
theorem k_noted (h : LU F C K M T U (vw 0 σ) (rwL τ)) {c k : Nat} (hc : c < C) (hk : k < K) (k201 : Sg → Sg → Int32 → Int32 → Option (Int32 × Sg × Sg × Nat)) (k336 : Sg → Sg → Int32 → Int32 → Nat → Int32 → Option (Int32 × Sg × Sg × Nat)) (v2 : Int32) : f_L_isSame_448 k201 k336 FU σ τ v2 (nI k) k (nI c) (4 * k + c) 0 = k336 σ τ v2 (nI k) k (nI (c + 1)) := by
  have hC := D_C h
  obtain ⟨n, y, hy, e⟩ := lpE1 (fun n (y : Unit) i => f_L_isSame_448 k201 k336 n σ τ v2 (nI k) k (nI c) (4 * k + c) i) C (by omega) (fun k y => True) (a := ()) (fun n q y hq hy => by
    refine ⟨(), trivial, ?_⟩
    have hb : τ 44 (4 * k + c) q = σ 18 c (4 * k + q) := (L_bid h hc hk (show q < 4 by omega)).trans (by rw [v0_18])
    rw [f_L_isSame_448_s, L_C h, if_neg (by rw [ni_le (by omega) (by omega)]; omega), (y_know h hc hk).2.2.2.2.1 q hq, p_bi, ni_cl (show q < 2147483648 by omega), if_neg (show ¬ (nI q < 0 ∨ 4 ≤ q) by rw [ni_nn (by omega)]; exact fun z => z.elim id (fun z => by omega)), hb, if_pos rfl, ni_1]) trivial
  have e' : f_L_isSame_448 k201 k336 FU σ τ v2 (nI k) k (nI c) (4 * k + c) 0 = f_L_isSame_448 k201 k336 (n + 1) σ τ v2 (nI k) k (nI c) (4 * k + c) (nI C) := e
  rw [e', f_L_isSame_448_s, L_C h, if_pos (by rw [ni_le (by omega) (by omega)]; exact Nat.le_refl C), k_lost h hc hk]
/-- a call and a car -/
theorem k_pair (h : LU F C K M T U (vw 0 σ) (rwL τ)) (hT : T ≤ 400000) {c k : Nat} (hc : c < C) (hk : k < K) (k201 : Sg → Sg → Int32 → Int32 → Option (Int32 × Sg × Sg × Nat)) (m : Nat) (v2 : Int32) : f_L_isSame_336 k201 (m + 1) σ τ v2 (nI k) k (nI c) = acx 2 (f_L_isSame_336 k201 m σ τ v2 (nI k) k (nI (c + 1))) := by
  have hC := D_C h
  obtain ⟨q1, q2, q3, q4, -, -⟩ := y_know h hc hk
  have e0 : τ 43 (4 * k + c) 0 = W_b (bt (σ 2 c 8) k) := (L_held h hc hk).trans (by rw [v0_2])
  have e2 : τ 43 (4 * k + c) 2 = σ 17 c k := (L_dec h hc hk).trans (by rw [v0_17])
  have e3 : f_L_cost τ (nI c) k = some (W_cost (vw 0 σ) c (σ 1 k 0), τ, 2) := (l_cost h hc hk).trans (by rw [v0_1])
  have hw : W_own (vw 0 σ) c k = if W_b (bt (σ 2 c 8) k) = 0 then (if σ 17 c k < 0 then -1 else τ 43 (4 * k + c) 1) else τ 43 (4 * k + c) 1 := by
    have eo : (bt (σ 2 c 8) k = true ∨ σ 17 c k ≠ -1) → τ 43 (4 * k + c) 1 = σ 16 c k := fun q => (L_own h hc hk (by rw [v0_2, v0_17]; exact q)).trans (by rw [v0_16])
    unfold W_own
    rw [v0_2, v0_16, v0_17]
    by_cases w : bt (σ 2 c 8) k = true
    · rw [if_pos (Or.inl w), w, if_neg (by decide), eo (Or.inl w)]
    · rw [eq_false_of_ne_true w, if_pos (show W_b false = 0 from rfl)]
      rcases (h.2.2.2.2.2.2.2.1 c hc k hk).2.2.2.2.1 with e | ⟨t, ht, e⟩
      · have e2 : σ 17 c k = -1 := (by rw [v0_17] at e; exact e)
        rw [e2, if_neg (show ¬ (false = true ∨ (-1 : Int32) ≠ -1) by decide), if_pos (show (-1 : Int32) < 0 by decide)]
      · have e2 : σ 17 c k = nI t := (by rw [v0_17] at e; exact e)
        have hn : σ 17 c k ≠ -1 := by rw [e2]; exact nm_n (by omega)
        rw [if_pos (Or.inr hn), eo (Or.inr hn), e2, if_neg (by rw [ni_nn (by omega)]; exact id)]
  rw [f_L_isSame_336_s, L_C h, if_neg (by rw [ni_le (by omega) (by omega)]; omega), ni_cl (show c < 2147483648 by omega), if_neg (show ¬ (nI c < 0 ∨ 4 ≤ c) by rw [ni_nn (by omega)]; exact fun z => z.elim id (fun z => by omega)), q1, p_bi, e0, if_pos rfl, q2, p_bi, e2, if_pos rfl, q3, p_bi, e3, bqx_some, if_pos rfl, q4 hT, p_bi, e0, e2]
  refine congrArg (acx 2) ?_
  unfold f_L_isSame_431
  by_cases w : W_b (bt (σ 2 c 8) k) = 0
  · rw [if_pos w]
    by_cases w2 : σ 17 c k < 0
    · rw [if_pos w2]
      unfold f_L_isSame_440
      rw [if_pos (by rw [hw, if_pos w, if_pos w2]), k_noted h hc hk]
    · rw [if_neg w2]
      unfold f_L_isSame_440
      rw [if_pos (by rw [hw, if_pos w, if_neg w2]), k_noted h hc hk]
  · rw [if_neg w]
    unfold f_L_isSame_440
    rw [if_pos (by rw [hw, if_neg w]), k_noted h hc hk]
/-- a call, with all cars -/
theorem k_call (h : LU F C K M T U (vw 0 σ) (rwL τ)) (hT : T ≤ 400000) {k : Nat} (hk : k < K) (m : Nat) (v2 : Int32) : f_L_isSame_201 (m + 1) σ τ v2 (nI k) = acx (2 * C) (f_L_isSame_201 m σ τ v2 (nI (k + 1))) := by
  have hC := D_C h
  have hK := D_K h
  obtain ⟨q3, q4, q5, q6, q7, q8, q10⟩ := y_kall h hk
  have e : ∀ f, f < 11 → f ≠ 9 → τ 42 k f = σ 1 k f := fun f hf h9 => by
    have := L_call h hk hf h9
    exact this.trans (by show σ 1 (24 * 0 + k) f = _; rw [Nat.mul_zero, Nat.zero_add])
  obtain ⟨n, en⟩ := lpX (fun n i => f_L_isSame_336 (f_L_isSame_201 m) n σ τ v2 (nI k) k i) C (by omega) 2 (fun m' c hc => k_pair h hT hc hk _ m' v2)
  have en' : f_L_isSame_336 (f_L_isSame_201 m) FU σ τ v2 (nI k) k 0 = acx (2 * C) (f_L_isSame_336 (f_L_isSame_201 m) (n + 1) σ τ v2 (nI k) k (nI C)) := en
  rw [f_L_isSame_201_s, L_K h, if_neg (by rw [ni_le (by omega) (by omega)]; omega), N_K h, ni_cl (show k < 2147483648 by omega), if_neg (show ¬ (nI k < 0 ∨ K ≤ k) by rw [ni_nn (by omega)]; exact fun z => z.elim id (fun z => by omega))]
  rw [q3, p_bi, e 3 (by decide) (by decide), if_pos rfl, q4, p_bi, e 4 (by decide) (by decide), if_pos rfl, q5, p_bi, e 5 (by decide) (by decide), if_pos rfl, q6, p_bi, e 6 (by decide) (by decide), if_pos rfl, q7, p_bi, e 7 (by decide) (by decide), if_pos rfl, q8, p_bi, e 8 (by decide) (by decide), if_pos rfl, q10, p_bi, e 10 (by decide) (by decide), if_pos rfl]
  rw [en', f_L_isSame_336_s, L_C h, if_pos (by rw [ni_le (by omega) (by omega)]; exact Nat.le_refl C)]
  unfold f_L_isSame_544
  rw [ni_1]
/-- a car -/
theorem k_car (h : LU F C K M T U (vw 0 σ) (rwL τ)) {c : Nat} (hc : c < C) (m : Nat) (v2 : Int32) : f_L_isSame_4 (m + 1) σ τ v2 (nI c) = acx 4 (f_L_isSame_4 m σ τ v2 (nI (c + 1))) := by
  have hC := D_C h
  have hF := D_F h
  obtain ⟨q0, q2, q3, q4, q5, q6, q7, q8, q9⟩ := y_car h hc
  have e : ∀ f, f < 8 → τ 41 c f = σ 2 c f := fun f hf => by
    have := L_car h hc hf
    exact this.trans (by show σ 2 (4 * 0 + c) f = _; rw [Nat.mul_zero, Nat.zero_add])
  obtain ⟨a, ha, ea⟩ := (h.2.2.2.1 c hc).2.1
  obtain ⟨b, b1, b2⟩ := a_goal h hc ha ea
  obtain ⟨b', b3, b4⟩ := l_goal h hc ha ea
  have eb : b = b' := IsG.uniq b2 b4
  subst eb
  have hg : f_X7_goal σ (nI c) = some (b, σ) := by
    unfold f_X7_goal
    rw [x_car σ (A_C h) hC hc, p_bv, if_neg (show ¬ (nI c < 0 ∨ 4 ≤ (nI c).toNatClampNeg) by rw [gN (by omega) (by decide)]; exact id), ni_cl (by omega), b1, p_bi]
  have z : 4 * 0 + c = c := by omega
  have eh : f_L_held τ (nI c) = some (nI (ct (bt (σ 2 c 8)) 32), τ, 1) := by
    have := l_held h hc
    rw [this]
    show some (nI (ct (bt (σ 2 (4 * 0 + c) 8)) 32), τ, 1) = _
    rw [z]
  have ew : f_L_aboard τ (nI c) = some (nI (ct (bt (σ 2 c 9)) 32), τ, 1) := by
    have := l_aboard h hc
    rw [this]
    show some (nI (ct (bt (σ 2 (4 * 0 + c) 9)) 32), τ, 1) = _
    rw [z]
  have e130 : ∀ x : Int32, f_L_isSame_130 (f_L_isSame_4 m) σ τ v2 (nI c) c x x = acx 2 (f_L_isSame_4 m σ τ v2 (nI (c + 1))) := by
    intro x
    unfold f_L_isSame_130
    rw [if_pos rfl, q7, p_bi, e 5 (by decide), if_pos rfl, q8, p_bi, e 6 (by decide), if_pos rfl, q9, p_bi, e 7 (by decide), if_pos rfl, hg, p_bi, b3, bqx_some, if_pos rfl, ni_1]
  have e107 : ∀ x : Int32, f_L_isSame_107 (f_L_isSame_4 m) σ τ v2 (nI c) c x x = acx 2 (f_L_isSame_4 m σ τ v2 (nI (c + 1))) := by
    intro x
    unfold f_L_isSame_107
    rw [if_pos rfl, q6, p_bi, e 4 (by decide)]
    by_cases w : σ 2 c 4 = 0
    · rw [if_pos w, if_pos w, e130]
    · rw [if_neg w, if_neg w, e130]
  rw [f_L_isSame_4_s, L_C h, if_neg (by rw [ni_le (by omega) (by omega)]; omega), N_C h, ni_cl (show c < 2147483648 by omega), if_neg (show ¬ (nI c < 0 ∨ C ≤ c) by rw [ni_nn (by omega)]; exact fun z => z.elim id (fun z => by omega))]
  rw [q0, p_bi, e 0 (by decide), if_pos rfl, q2, p_bi, e 2 (by decide), if_pos rfl, q3, p_bi, eh, bqx_some, if_pos rfl, q4, p_bi, ew, bqx_some, if_pos rfl, q5, p_bi, e 3 (by decide), acx_acx]
  by_cases w : σ 2 c 3 = 0
  · rw [if_pos w, if_pos w, e107, acx_acx]
  · rw [if_neg w, if_neg w, e107, acx_acx]
/-- the two are the same, and the law says so -/
theorem l_same (h : JJ F C K M T σ τ) (hT : T ≤ 400000) : f_L_isSame σ τ = some (1, σ, τ, 4 * C + (2 * C * K + 1)) := by
  have h := h.1.1
  have hC := D_C h
  have hK := D_K h
  obtain ⟨n, en⟩ := lpX (fun n i => f_L_isSame_4 n σ τ 0 i) C (by omega) 4 (fun m' c hc => k_car h hc m' 0)
  have en' : f_L_isSame_4 FU σ τ 0 0 = acx (4 * C) (f_L_isSame_4 (n + 1) σ τ 0 (nI C)) := en
  obtain ⟨n2, en2⟩ := lpX (fun n i => f_L_isSame_201 n σ τ 0 i) K (by omega) (2 * C) (fun m' k hk => k_call h hT hk m' 0)
  have en2' : f_L_isSame_201 FU σ τ 0 0 = acx (2 * C * K) (f_L_isSame_201 (n2 + 1) σ τ 0 (nI K)) := en2
  unfold f_L_isSame
  rw [en', f_L_isSame_4_s, L_C h, if_pos (by rw [ni_le (by omega) (by omega)]; exact Nat.le_refl C)]
  unfold f_L_isSame_199
  rw [en2', f_L_isSame_201_s, L_K h, if_pos (by rw [ni_le (by omega) (by omega)]; exact Nat.le_refl K), k_end h, acx_some, acx_some]
end TK
