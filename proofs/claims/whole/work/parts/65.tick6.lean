/-! a tick: phase 2, what reaches a car -/
theorem jabs_ni {a b : Nat} (ha : a < 1000) (hb : b < 1000) : jabs (nI a - nI b) = nI (if b ≤ a then a - b else b - a) := by
  unfold jabs
  by_cases h : b ≤ a
  · rw [ni_sub h, if_pos (by rw [ni_ge0 (by omega)]; trivial), if_pos h]
  · have h1 : (nI a - nI b).toInt = (a : Int) - b := by
      rw [n_sub (by rw [ni_int (by omega), ni_int (by omega)]; omega) (by rw [ni_int (by omega), ni_int (by omega)]; omega), ni_int (by omega), ni_int (by omega)]
    rw [if_neg (by rw [Int32.le_iff_toInt_le, Int32.toInt_zero, h1]; omega), Int32.zero_sub, Int32.neg_sub, ni_sub (by omega), if_neg h]
theorem ni_4m (k : Nat) : nI k * 4 = nI (4 * k) := by rw [Int32.mul_comm]; exact m_4 k
def NX (n M : Nat) (v : Sg) (M' : Nat) (v' : Sg) : Prop := M' ≤ M + n ∧ V_ann v' M' = V_ann v M ∧ (∀ k f, f ≤ 6 → v' 1 k f = v 1 k f) ∧ ∀ k, v' 1 k 10 = v 1 k 10
theorem NX.rf (M : Nat) (v : Sg) : NX 0 M v M v := ⟨Nat.le_refl M, rfl, fun _ _ _ => rfl, fun _ => rfl⟩
theorem NX.trans {n m M M' M'' : Nat} {v v' v'' : Sg} (h : NX n M v M' v') (h' : NX m M' v' M'' v'') : NX (n + m) M v M'' v'' := ⟨by have := h.1; have := h'.1; omega, h'.2.1.trans h.2.1, fun k f q => (h'.2.2.1 k f q).trans (h.2.2.1 k f q), fun k => (h'.2.2.2 k).trans (h.2.2.2 k)⟩
theorem NX.mono {n m M M' : Nat} {v v' : Sg} (h : NX n M v M' v') (hm : n ≤ m) : NX m M v M' v' := ⟨by have := h.1; omega, h.2⟩
theorem NX.of {M : Nat} {v v' : Sg} (h1 : v' 21 = v 21) (h2 : ∀ k f, f ≠ 8 → f ≠ 9 → v' 1 k f = v 1 k f) : NX 0 M v M v' := ⟨Nat.le_refl M, by unfold V_ann; rw [h1], fun k f q => h2 k f (by omega) (by omega), fun k => h2 k 10 (by decide) (by decide)⟩
theorem NX.of1 {M : Nat} {v v' : Sg} (h1 : v' 21 = v 21) (h2 : v' 1 = v 1) : NX 0 M v M v' := NX.of h1 (fun k f _ _ => by rw [h2])
def RC (C : Nat) (v : Sg) (s : Int32) (b : Bool) : Prop := (s = -1 ∧ b = false) ∨ ∃ c, c < C ∧ s = nI c ∧ b = decide (v 2 c 4 = 1)
theorem RC.ext {C : Nat} {v v' : Sg} {s : Int32} {b : Bool} (h : RC C v s b) (e : v' 2 = v 2) : RC C v' s b := by
  unfold RC at h ⊢
  rw [e]
  exact h
def t_L (noise sd : Int32) (b1 b2 : Bool) : Bool := decide (jrem (jush sd 16) 100 < noise) || b1 || b2
theorem SP.arr {j : Nat} {σ ρ σ' ρ' : Sg} (h : SP j σ ρ σ' ρ') (hj : j < 13) (i : Nat) : σ' 5 13 i = σ 5 13 i ∧ σ' 20 13 i = σ 20 13 i ∧ σ' 21 13 i = σ 21 13 i ∧ σ' 22 13 i = σ 22 13 i ∧ σ' 23 13 i = σ 23 13 i := by
  refine ⟨h.1 _ _ _ ?_, h.1 _ _ _ ?_, h.1 _ _ _ ?_, h.1 _ _ _ ?_, h.1 _ _ _ ?_⟩ <;> (show ¬ (13 = j); omega)
section TK
variable {F C K M T U j : Nat} {σ ρ v : Sg} {r : Nat → Int32}
theorem W_cost_le (h : LU F C K M T U v r) {c b : Nat} (hc : c < C) (hb : b < F) : ∃ n, n ≤ 1000 ∧ W_cost v c (nI b) = nI n := by
  have hF := D_F h
  have hK := D_K h
  obtain ⟨a, ha, e0⟩ := (h.2.2.2.1 c hc).2.1
  obtain ⟨-, P, W, D, -, -, -, e2, e3, -⟩ := h.2.1
  have h8 : ct (bt (v 2 c 8)) 32 ≤ 24 := by
    rw [ct_ext (m := K) (n := 32) (by omega) (fun k h1 _ => D_held h hc h1)]
    exact Nat.le_trans (ct_le _ _) hK
  have h9 : ct (bt (v 2 c 9)) 32 ≤ 24 := by
    rw [ct_ext (m := K) (n := 32) (by omega) (fun k h1 _ => by rw [D_abd h hc k]; exact decide_eq_false (fun q => absurd q.1 (Nat.not_lt.mpr h1)))]
    exact Nat.le_trans (ct_le _ _) hK
  unfold W_cost
  rw [e0, e2, jabs_ni (by omega) (by omega), ni_add, ni_mul, ni_add]
  refine ⟨_, ?_, rfl⟩
  have h1 : W * (ct (bt (v 2 c 8)) 32 + ct (bt (v 2 c 9)) 32) ≤ 20 * 48 := Nat.mul_le_mul e3 (by omega)
  have h2 : (if b ≤ a then a - b else b - a) ≤ 30 := by split <;> omega
  omega
theorem a_jam (h : LU F C K M T U (vw j σ) r) {s : Int32} {b : Bool} (hr : RC C (vw j σ) s b) : f_X4_isJammedCar σ j s = some (W_b b, σ) := by
  have hC := D_C h
  unfold f_X4_isJammedCar
  rcases hr with ⟨rfl, rfl⟩ | ⟨c, hc, rfl, rfl⟩
  · rw [if_pos (by decide)]
    rfl
  · have e : σ 2 (4 * j + c) 4 = 0 ∨ σ 2 (4 * j + c) 4 = 1 := (h.2.2.2.1 c hc).2.2.2.2.2
    simp (disch := omega) only [A_C h, ni_nn, ni_le, ni_cl, p_nle, false_or, if_false]
    rw [show decide (vw j σ 2 c 4 = 1) = decide (σ 2 (4 * j + c) 4 = 1) from rfl]
    rcases e with e | e
    · rw [e, if_pos rfl, decide_eq_false (by decide)]
      rfl
    · rw [e, if_neg (by decide), decide_eq_true rfl]
      rfl
theorem b_jam (h : LU F C K M T U v (ρ 30 0)) {s : Int32} {b : Bool} (hr : RC C v s b) : f_X8_isJammed ρ s = some (W_b b, ρ) := by
  have hC := D_C h
  unfold f_X8_isJammed
  rcases hr with ⟨rfl, rfl⟩ | ⟨c, hc, rfl, rfl⟩
  · rw [if_pos rfl]
    rfl
  · obtain ⟨-, -, -, -, e4, -⟩ := B_car h hc
    have e : v 2 c 4 = 0 ∨ v 2 c 4 = 1 := (h.2.2.2.1 c hc).2.2.2.2.2
    simp (disch := omega) only [nm_1, l_39, ni_nn, ni_cl, p_nle, false_or, if_false, e4]
    rcases e with e | e
    · rw [e, if_neg (by decide), decide_eq_false (by decide)]
      rfl
    · rw [e, if_pos rfl, decide_eq_true rfl]
      rfl
/-- the seed's step -/
def t_x (x : Int32) : Int32 := 1103515245 * x + 12345
theorem a_isLost (h : LU F C K M T U (vw j σ) r) {i d : Nat} {s : Int32} {b1 b2 : Bool} (hi : i < 240) (hr : RC C (vw j σ) s b1) (hs : RC C (vw j σ) (σ 20 13 i) b2) (hd : σ 21 13 i = nI d) (hd4 : d < 4) :
    f_X0_isLost σ j (nI i) s = some (W_b (t_L (σ 12 j 0) (t_x (σ 4 j 4)) b1 b2), if t_L (σ 12 j 0) (t_x (σ 4 j 4)) b1 b2 = true then sup (sup σ 4 j 4 (t_x (σ 4 j 4))) 14 j d (σ 14 j d + 1) else sup σ 4 j 4 (t_x (σ 4 j 4))) := by
  have h1 : LU F C K M T U (vw j (sup σ 4 j 4 (t_x (σ 4 j 4)))) (ru r 9 (t_x (σ 4 j 4))) := by
    rw [vs_4]
    exact S_seed h _
  have e2 : (vw j (sup σ 4 j 4 (t_x (σ 4 j 4)))) 2 = vw j σ 2 := by rw [vs_4, s_ne (by decide)]
  have q1 := a_jam h1 (hr.ext e2)
  have q2 := a_jam h1 (hs.ext e2)
  unfold f_X0_isLost f_X4_drawn
  rw [show (1103515245 * σ 4 j 4 + 12345 : Int32) = t_x (σ 4 j 4) from rfl]
  unfold t_L
  simp (disch := omega) only [p_st, p_bi, s_at, s_ne, q1, q2, ni_nn, ni_cl, p_nle, false_or, if_false, f_X0_isLost_37, f_X0_isLost_42, f_X0_isLost_67, hd]
  by_cases w : jrem (jush (t_x (σ 4 j 4)) 16) 100 < σ 12 j 0
  · rw [if_pos w, decide_eq_true w, if_neg (by decide)]
    rfl
  · rw [if_neg w, decide_eq_false w]
    cases b1
    · cases b2
      · rfl
      · rfl
    · rfl
theorem b_arr (h : LU F C K M T U v (ρ 30 0)) {k d : Nat} {s q : Int32} {b1 b2 : Bool} (hr : RC C v q b1) (hs : RC C v s b2) (hd : d < 4) (hk : k < K) :
    f_X8_arrives ρ (nI d) (nI k) s q = if t_L (ρ 30 0 4) (t_x (ρ 30 0 9)) b1 b2 = true then f_X8_arrives_35 (sup ρ 30 0 9 (t_x (ρ 30 0 9))) (nI d) (nI k) q 1 else some (1, sup ρ 30 0 9 (t_x (ρ 30 0 9))) := by
  have h1 : LU F C K M T U (sup v 4 0 4 (t_x (ρ 30 0 9))) ((sup ρ 30 0 9 (t_x (ρ 30 0 9))) 30 0) := by
    rw [s_ru]
    exact S_seed h _
  have e2 : (sup v 4 0 4 (t_x (ρ 30 0 9))) 2 = v 2 := s_ne (by decide)
  have q1 := b_jam h1 (hr.ext e2)
  have q2 := b_jam h1 (hs.ext e2)
  unfold f_X8_arrives f_X8_draws
  rw [show (1103515245 * ρ 30 0 9 + 12345 : Int32) = t_x (ρ 30 0 9) from rfl]
  unfold t_L
  simp (disch := omega) only [p_st, p_bi, s_at, s_nf, q1, q2, f_X8_arrives_30]
  by_cases w : jrem (jush (t_x (ρ 30 0 9)) 16) 100 < ρ 30 0 4
  · rw [if_pos w, decide_eq_true w]
    rfl
  · rw [if_neg w, decide_eq_false w]
    cases b1
    · cases b2
      · rfl
      · rfl
    · rfl
/-- one receiver that is a car: what both draw and note -/
theorem t_lostCar (h : LU F C K M T U (vw j σ) (ρ 30 0)) {i d k c : Nat} {b2 : Bool} (hi : i < 240) (hc : c < C) (hk : k < K) (hs : RC C (vw j σ) (σ 20 13 i) b2) (hd : σ 21 13 i = nI d) (hd4 : d < 4) :
    ∃ (L : Bool) (σ1 ρ1 : Sg), f_X0_isLost σ j (nI i) (nI c) = some (W_b L, σ1) ∧ f_X8_arrives ρ (nI d) (nI k) (σ 20 13 i) (nI c) = some (W_b (!L), ρ1) ∧ SP j σ ρ σ1 ρ1 ∧ (vw j σ1 1 = vw j σ 1 ∧ vw j σ1 21 = vw j σ 21) ∧ (L = false → LU F C K M T U (vw j σ1) (ρ1 30 0)) ∧ (L = true → LU F C K M T U (vw j (sup σ1 19 (4 * j + c) d (σ1 19 (4 * j + c) d ||| (1 <<< (nI k &&& 31))))) (ρ1 30 0)) := by
  have hC := D_C h
  have hK := D_K h
  have e4 : ρ 30 0 4 = σ 12 j 0 := (B_set h).1
  have e9 : ρ 30 0 9 = σ 4 j 4 := B_seed h
  have hr : RC C (vw j σ) (nI c) (decide (vw j σ 2 c 4 = 1)) := Or.inr ⟨c, hc, rfl, rfl⟩
  have qa := a_isLost h hi hr hs hd hd4
  have qb := b_arr h hr hs hd4 hk
  rw [e4, e9] at qb
  have g1 := S_seed h (t_x (σ 4 j 4))
  cases hL : t_L (σ 12 j 0) (t_x (σ 4 j 4)) (decide (vw j σ 2 c 4 = 1)) b2
  · rw [hL, if_neg (show ¬ (false = true) by decide)] at qa qb
    rw [← vs_4, ← s_ru] at g1
    refine ⟨false, _, _, qa, qb, SP.r (SP.c (SP.rf j σ ρ) ?_ _ _) _ _, ⟨?_, ?_⟩, fun _ => g1, fun q => absurd q (by decide)⟩
    · exact (rfl : j = j)
    · rw [vs_4, s_ne (by decide)]
    · rw [vs_4, s_ne (by decide)]
  · rw [hL, if_pos rfl] at qa qb
    have e15 : ρ 30 0 (15 + d) = σ 14 j d := (h.2.2.1 d hd4).2.1
    have g2 := S_lostK g1 hd4 (σ 14 j d + 1)
    have g3 := S_miss g2 hc hk hd4
    rw [← vs_4, ← vs_14, ← vs_19, ← s_ru, ← s_ru, ← s_ru] at g3
    refine ⟨true, _, (sup (sup (sup ρ 30 0 9 (t_x (σ 4 j 4))) 30 0 (15 + d) (σ 14 j d + 1)) 30 0 (607 + 24 * c + k) ((sup (sup ρ 30 0 9 (t_x (σ 4 j 4))) 30 0 (15 + d) (σ 14 j d + 1)) 30 0 (607 + 24 * c + k) ||| (1 <<< (nI d &&& 31)))), qa, qb.trans ?_, ?_, ⟨?_, ?_⟩, fun q => absurd q (by decide), fun _ => ?_⟩
    · unfold f_X8_arrives_35
      simp (disch := omega) only [p_10, l_15, ni_nn, ni_cl, p_nle, false_or, if_false, p_st, s_nf, e15, nm_1, b_of607, p_bi, f_X8_arrives_83]
      rfl
    · refine SP.r (SP.r (SP.r (SP.c (SP.c (SP.rf j σ ρ) ?_ _ _) ?_ _ _) _ _) _ _) _ _ <;> exact (rfl : j = j)
    · rw [vs_14, vs_4, s_ne (by decide), s_ne (by decide)]
    · rw [vs_14, vs_4, s_ne (by decide), s_ne (by decide)]
    · exact g3
end TK
