/-! a tick of both: counts, costs, draws -/
section PX
variable {F C K M T U j : Nat} {σ ρ v : Sg} {r : Nat → Int32}
theorem jabs_ni {a b : Nat} (ha : a < 1000) (hb : b < 1000) : jabs (nI a - nI b) = nI (if b ≤ a then a - b else b - a) := by
  unfold jabs
  by_cases h : b ≤ a
  · rw [ni_sub h, if_pos (by rw [ni_ge0 (by omega)]; trivial), if_pos h]
  · have h1 : (nI a - nI b).toInt = (a : Int) - b := by
      rw [n_sub (by rw [ni_int (by omega), ni_int (by omega)]; omega) (by rw [ni_int (by omega), ni_int (by omega)]; omega), ni_int (by omega), ni_int (by omega)]
    rw [if_neg (by rw [Int32.le_iff_toInt_le, Int32.toInt_zero, h1]; omega), Int32.zero_sub, Int32.neg_sub, ni_sub (by omega), if_neg h]
theorem ni_4m (k : Nat) : nI k * 4 = nI (4 * k) := by rw [Int32.mul_comm]; exact m_4 k
def NX (n M : Nat) (v : Sg) (M' : Nat) (v' : Sg) : Prop := M' ≤ M + n ∧ V_ann v' M' = V_ann v M ∧ (∀ k f, f ≤ 6 → v' 1 k f = v 1 k f) ∧ ∀ k, v' 1 k 10 = v 1 k 10
theorem NX.rf (M : Nat) (v : Sg) : NX 0 M v M v := ⟨Nat.le_refl M, rfl, fun _ _ _ => rfl, fun _ => rfl⟩
theorem NX.trans {n m M M' M'' : Nat} {v v' v'' : Sg} (h : NX n M v M' v') (h' : NX m M' v' M'' v'') : NX (n + m) M v M'' v'' := ⟨by have := h.1; have := h'.1; omega, h'.2.1.trans h.2.1, fun k f q => (h'.2.2.1 k f q).trans (h.2.2.1 k f q), fun k => (h'.2.2.2 k).trans (h.2.2.2 k)⟩
theorem NX.mono {n m M M' : Nat} {v v' : Sg} (h : NX n M v M' v') (hm : n ≤ m) : NX m M v M' v' := ⟨by have := h.1; omega, h.2⟩
theorem NX.of {M : Nat} {v v' : Sg} (h1 : v' 21 = v 21) (h2 : ∀ k f, f ≠ 8 → f ≠ 9 → v' 1 k f = v 1 k f) : NX 0 M v M v' := ⟨Nat.le_refl M, by unfold V_ann; rw [h1], fun k f q => h2 k f (by omega) (by omega), fun k => h2 k 10 (by decide) (by decide)⟩
theorem NX.of1 {M : Nat} {v v' : Sg} (h1 : v' 21 = v 21) (h2 : v' 1 = v 1) : NX 0 M v M v' := NX.of h1 (fun k f _ _ => by rw [h2])
def RC (C : Nat) (v : Sg) (s : Int32) (b : Bool) : Prop := (s = -1 ∧ b = false) ∨ ∃ c, c < C ∧ s = nI c ∧ b = decide (v 2 c 4 = 1)
theorem RC.ext {C : Nat} {v v' : Sg} {s : Int32} {b : Bool} (h : RC C v s b) (e : v' 2 = v 2) : RC C v' s b := by
  unfold RC at h ⊢
  rw [e]
  exact h
def t_L (noise sd : Int32) (b1 b2 : Bool) : Bool := decide (jrem (jush sd 16) 100 < noise) || b1 || b2
theorem W_cost_le (h : LU F C K M T U v r) {c b : Nat} (hc : c < C) (hb : b < F) : ∃ n, n ≤ 1000 ∧ W_cost v c (nI b) = nI n := by
  have hF := D_F h
  have hK := D_K h
  obtain ⟨a, ha, e0⟩ := (h.2.2.2.1 c hc).2.1
  obtain ⟨-, P, W, D, -, -, -, e2, e3, -⟩ := h.2.1
  have h8 : ct (bt (v 2 c 8)) 32 ≤ 24 := by
    rw [ct_ext (m := K) (n := 32) (by omega) (fun k h1 _ => D_held h hc h1)]
    exact Nat.le_trans (ct_le _ _) hK
  have h9 : ct (bt (v 2 c 9)) 32 ≤ 24 := by
    rw [ct_ext (m := K) (n := 32) (by omega) (fun k h1 _ => by rw [D_abd h hc k]; exact decide_eq_false (fun q => absurd q.1 (Nat.not_lt.mpr h1)))]
    exact Nat.le_trans (ct_le _ _) hK
  unfold W_cost
  rw [e0, e2, jabs_ni (by omega) (by omega), ni_add, ni_mul, ni_add]
  refine ⟨_, ?_, rfl⟩
  have h1 : W * (ct (bt (v 2 c 8)) 32 + ct (bt (v 2 c 9)) 32) ≤ 20 * 48 := Nat.mul_le_mul e3 (by omega)
  have h2 : (if b ≤ a then a - b else b - a) ≤ 30 := by split <;> omega
  omega
theorem a_jam (h : LU F C K M T U (vw j σ) r) {s : Int32} {b : Bool} (hr : RC C (vw j σ) s b) : f_X4_isJammedCar σ j s = some (W_b b, σ) := by
  have hC := D_C h
  unfold f_X4_isJammedCar
  rcases hr with ⟨rfl, rfl⟩ | ⟨c, hc, rfl, rfl⟩
  · rw [if_pos (by decide)]
    rfl
  · have e : σ 2 (4 * j + c) 4 = 0 ∨ σ 2 (4 * j + c) 4 = 1 := (h.2.2.2.1 c hc).2.2.2.2.2
    simp (disch := omega) only [A_C h, ni_nn, ni_le, ni_cl, p_nle, false_or, if_false]
    rw [show decide (vw j σ 2 c 4 = 1) = decide (σ 2 (4 * j + c) 4 = 1) from rfl]
    rcases e with e | e
    · rw [e, if_pos rfl, decide_eq_false (by decide)]
      rfl
    · rw [e, if_neg (by decide), decide_eq_true rfl]
      rfl
/-- the seed's step -/
def t_x (x : Int32) : Int32 := 1103515245 * x + 12345
theorem a_isLost (h : LU F C K M T U (vw j σ) r) {i d : Nat} {s : Int32} {b1 b2 : Bool} (hi : i < 240) (hr : RC C (vw j σ) s b1) (hs : RC C (vw j σ) (σ 20 13 i) b2) (hd : σ 21 13 i = nI d) (hd4 : d < 4) :
    f_X0_isLost σ j (nI i) s = some (W_b (t_L (σ 12 j 0) (t_x (σ 4 j 4)) b1 b2), if t_L (σ 12 j 0) (t_x (σ 4 j 4)) b1 b2 = true then sup (sup σ 4 j 4 (t_x (σ 4 j 4))) 14 j d (σ 14 j d + 1) else sup σ 4 j 4 (t_x (σ 4 j 4))) := by
  have h1 : LU F C K M T U (vw j (sup σ 4 j 4 (t_x (σ 4 j 4)))) (ru r 9 (t_x (σ 4 j 4))) := by
    rw [vs_4]
    exact S_seed h _
  have e2 : (vw j (sup σ 4 j 4 (t_x (σ 4 j 4)))) 2 = vw j σ 2 := by rw [vs_4, s_ne (by decide)]
  have q1 := a_jam h1 (hr.ext e2)
  have q2 := a_jam h1 (hs.ext e2)
  unfold f_X0_isLost f_X4_drawn
  rw [show (1103515245 * σ 4 j 4 + 12345 : Int32) = t_x (σ 4 j 4) from rfl]
  unfold t_L
  simp (disch := omega) only [p_st, p_bi, s_at, s_ne, q1, q2, ni_nn, ni_cl, p_nle, false_or, if_false, f_X0_isLost_37, f_X0_isLost_42, f_X0_isLost_67, hd]
  by_cases w : jrem (jush (t_x (σ 4 j 4)) 16) 100 < σ 12 j 0
  · rw [if_pos w, decide_eq_true w, if_neg (by decide)]
    rfl
  · rw [if_neg w, decide_eq_false w]
    cases b1
    · cases b2
      · rfl
      · rfl
    · rfl
end PX
theorem SQ.arr {j : Nat} {σ τ σ' τ' : Sg} (h : SQ j σ τ σ' τ') (hj : j < 13) (i : Nat) : σ' 5 13 i = σ 5 13 i ∧ σ' 20 13 i = σ 20 13 i ∧ σ' 21 13 i = σ 21 13 i ∧ σ' 22 13 i = σ 22 13 i ∧ σ' 23 13 i = σ 23 13 i := by
  refine ⟨h.1 _ _ _ ?_, h.1 _ _ _ ?_, h.1 _ _ _ ?_, h.1 _ _ _ ?_, h.1 _ _ _ ?_⟩ <;> (show ¬ (13 = j); omega)
theorem it_no {k K : Nat} (h : k < K) (hK : K < 2147483648) : (it_z (nI k) (nI K) = 0) = False := by
  unfold it_z
  rw [if_neg (by rw [ni_eq (by omega) hK]; omega)]
  exact eq_false (by decide)
theorem it_y (x : Int32) : it_z x x = 0 := if_pos rfl
theorem it_yes (x : Int32) : (it_z x x = 0) = True := eq_true (it_y x)
theorem sup_self (τ : Sg) (k o i : Nat) : sup τ k o i (τ k o i) = τ := by
  funext a b c
  unfold sup
  by_cases h : a = k ∧ b = o ∧ c = i
  · rw [if_pos h, h.1, h.2.1, h.2.2]
  · rw [if_neg h]
theorem sup_self' {τ : Sg} {k o i : Nat} {x : Int32} (h : τ k o i = x) : sup τ k o i x = τ := by
  rw [← h]
  exact sup_self τ k o i
section TK
variable {F C K M T U j : Nat} {σ τ v : Sg} {r : Nat → Int32}
theorem l_held (h : LU F C K M T U v (rwL τ)) {c : Nat} (hc : c < C) : f_L_held τ (nI c) = some (nI (ct (bt (v 2 c 8)) 32), τ, 1) := by
  have hC := D_C h
  have hK := D_K h
  obtain ⟨n, y, hy, e⟩ := lpN (fun n (y : Int32) k => f_L_held_12 n τ (nI c) y k (τ 50 1 0)) K (by omega) (fun k y => y = nI (ct (bt (v 2 c 8)) k)) (a := 0) (fun n k y hk hy => by
    refine ⟨nI (ct (bt (v 2 c 8)) (k + 1)), rfl, ?_⟩
    simp (disch := omega) only [f_L_held_12_s, f_L_held_51, L_K h, it_no, if_false, N_K h, hk, and_true, not_true_eq_false, ni_nn, ni_cl, p_nle, false_or, L_held h hc hk, W_b0, hy]
    rw [ct_s]
    cases bt (v 2 c 8) k
    · rw [if_pos rfl, if_neg (by decide)]
      exact congrArg (fun z => f_L_held_12 n τ (nI c) z (k + 1) (τ 50 1 0)) (ni_add _ 0)
    · rw [if_neg (by decide), if_pos rfl]
      exact congrArg (fun z => f_L_held_12 n τ (nI c) z (k + 1) (τ 50 1 0)) (ni_add _ 1)) rfl
  unfold f_L_held
  rw [e, f_L_held_12_s, L_K h, if_pos (it_y _), hy]
  unfold f_L_held_56
  rw [ac_some, ct_ext (m := K) (n := 32) (by omega) (fun k h1 _ => D_held h hc h1)]
theorem l_aboard (h : LU F C K M T U v (rwL τ)) {c : Nat} (hc : c < C) : f_L_aboard τ (nI c) = some (nI (ct (bt (v 2 c 9)) 32), τ, 1) := by
  have hC := D_C h
  have hK := D_K h
  obtain ⟨n, y, hy, e⟩ := lpN (fun n (y : Int32) k => f_L_aboard_12 n τ (nI c) y k (τ 50 1 0)) K (by omega) (fun k y => y = nI (ct (bt (v 2 c 9)) k)) (a := 0) (fun n k y hk hy => by
    refine ⟨nI (ct (bt (v 2 c 9)) (k + 1)), rfl, ?_⟩
    have e3 : τ 42 k 3 = v 1 k 3 := L_call h hk (by decide) (by decide)
    have e4 : τ 42 k 4 = v 1 k 4 := L_call h hk (by decide) (by decide)
    simp (disch := omega) only [f_L_aboard_12_s, f_L_aboard_56, f_L_aboard_55, L_K h, it_no, if_false, N_K h, hk, and_true, not_true_eq_false, e3, e4, hy]
    rw [ct_s, D_abd h hc k]
    by_cases w3 : v 1 k 3 = 2
    · rw [if_pos w3]
      by_cases w4 : v 1 k 4 = nI c
      · rw [if_pos w4, if_pos (decide_eq_true ⟨hk, w3, w4⟩)]
        exact congrArg (fun z => f_L_aboard_12 n τ (nI c) z (k + 1) (τ 50 1 0)) (ni_add _ 1)
      · rw [if_neg w4, if_neg (by rw [decide_eq_false (fun q => w4 q.2.2)]; decide)]
        exact congrArg (fun z => f_L_aboard_12 n τ (nI c) z (k + 1) (τ 50 1 0)) (ni_add _ 0)
    · rw [if_neg w3, if_neg (by rw [decide_eq_false (fun q => w3 q.2.1)]; decide)]
      exact congrArg (fun z => f_L_aboard_12 n τ (nI c) z (k + 1) (τ 50 1 0)) (ni_add _ 0)) rfl
  unfold f_L_aboard
  rw [e, f_L_aboard_12_s, L_K h, if_pos (it_y _), hy]
  unfold f_L_aboard_61
  rw [ac_some, ct_ext (m := K) (n := 32) (by omega) (fun k h1 _ => by rw [D_abd h hc k]; exact decide_eq_false (fun q => absurd q.1 (Nat.not_lt.mpr h1)))]
theorem l_cost (h : LU F C K M T U v (rwL τ)) {c k : Nat} (hc : c < C) (hk : k < K) : f_L_cost τ (nI c) k = some (W_cost v c (v 1 k 0), τ, 2) := by
  have hC := D_C h
  have e0 : τ 41 c 0 = v 2 c 0 := L_car h hc (by decide)
  have e1 : τ 42 k 0 = v 1 k 0 := L_call h hk (by decide) (by decide)
  unfold f_L_cost W_cost
  rw [N_C h, if_neg (show ¬ (nI c < 0 ∨ C ≤ (nI c).toNatClampNeg) by rw [gN hc (by omega)]; exact id), ni_cl (by omega), l_held h hc, bq_some, l_aboard h hc, bq_some, e0, e1, (L_set h).2.2.1]
  rfl
/-- is a car jammed: the law's question, whatever follows -/
theorem l_jam {α : Type} (h : LU F C K M T U v (rwL τ)) {s : Int32} {b : Bool} (hr : RC C v s b) (x0 x1 : Option α) : (if s < 0 then x0 else (if s < 0 ∨ q_nn τ 0 ≤ s.toNatClampNeg then none else (if τ 41 s.toNatClampNeg 4 = 0 then x0 else x1))) = if b = true then x1 else x0 := by
  have hC := D_C h
  rcases hr with ⟨rfl, rfl⟩ | ⟨c, hc, rfl, rfl⟩
  · rw [if_pos (by decide), if_neg (by decide)]
  · have e : v 2 c 4 = 0 ∨ v 2 c 4 = 1 := (h.2.2.2.1 c hc).2.2.2.2.2
    have e4 : τ 41 c 4 = v 2 c 4 := L_car h hc (by decide)
    rw [if_neg (by rw [ni_nn (by omega)]; exact id), N_C h, if_neg (by rw [gN hc (by omega)]; exact id), ni_cl (by omega), e4]
    rcases e with e | e
    · rw [e, if_pos rfl, decide_eq_false (by decide), if_neg (by decide)]
    · rw [e, if_neg (by decide), decide_eq_true rfl, if_pos rfl]
theorem l_isLost (h : LU F C K M T U v (rwL τ)) {d : Nat} {s q : Int32} {b1 b2 : Bool} (hr : RC C v q b1) (hs : RC C v s b2) (hd : d < 4) :
    f_L_isLost τ (nI d) s q = some (W_b (t_L (τ 40 0 8) (t_x (τ 40 0 13)) b1 b2), if t_L (τ 40 0 8) (t_x (τ 40 0 13)) b1 b2 = true then sup (sup τ 40 0 13 (t_x (τ 40 0 13))) 47 0 d (τ 47 0 d + 1) else sup τ 40 0 13 (t_x (τ 40 0 13)), 0) := by
  have h1 : LU F C K M T U (sup v 4 0 4 (t_x (τ 40 0 13))) (rwL (sup τ 40 0 13 (t_x (τ 40 0 13)))) := by
    rw [u_40 τ (p := 9) (f := 13) (by decide) (by decide) (by decide) rfl]
    exact S_seed h _
  have e2 : (sup v 4 0 4 (t_x (τ 40 0 13))) 2 = v 2 := s_ne (by decide)
  have x0 : f_L_isLost_82 (sup τ 40 0 13 (t_x (τ 40 0 13))) (nI d) = some (0, sup τ 40 0 13 (t_x (τ 40 0 13)), 0) := by
    unfold f_L_isLost_82 f_L_isLost_83 f_L_isLost_102
    simp (disch := omega) only [ni_nn, ni_cl, p_nle, false_or, if_false, p_st, if_true, true_or, not_true_eq_false]
    rw [sup_self' (by rw [Int32.add_zero])]
  have x1 : f_L_isLost_78 (sup τ 40 0 13 (t_x (τ 40 0 13))) (nI d) = some (1, sup (sup τ 40 0 13 (t_x (τ 40 0 13))) 47 0 d (τ 47 0 d + 1), 0) := by
    unfold f_L_isLost_78 f_L_isLost_83 f_L_isLost_102
    simp (disch := omega) only [ni_nn, ni_cl, p_nle, false_or, if_false, p_st, p_10, or_true, not_true_eq_false, s_ne]
  have q2 := l_jam h1 (hs.ext e2) (some ((0 : Int32), sup τ 40 0 13 (t_x (τ 40 0 13)), 0)) (some ((1 : Int32), sup (sup τ 40 0 13 (t_x (τ 40 0 13))) 47 0 d (τ 47 0 d + 1), 0))
  have x5 : f_L_isLost_55 (sup τ 40 0 13 (t_x (τ 40 0 13))) (nI d) s = if b2 = true then (some (1, sup (sup τ 40 0 13 (t_x (τ 40 0 13))) 47 0 d (τ 47 0 d + 1), 0)) else (some (0, sup τ 40 0 13 (t_x (τ 40 0 13)), 0)) := by
    rw [← q2]
    unfold f_L_isLost_55
    rw [x0, x1]
  have q1 := l_jam h1 (hr.ext e2) (if b2 = true then (some ((1 : Int32), sup (sup τ 40 0 13 (t_x (τ 40 0 13))) 47 0 d (τ 47 0 d + 1), 0)) else (some (0, sup τ 40 0 13 (t_x (τ 40 0 13)), 0))) (some (1, sup (sup τ 40 0 13 (t_x (τ 40 0 13))) 47 0 d (τ 47 0 d + 1), 0))
  unfold f_L_isLost
  rw [show (1103515245 * τ 40 0 13 + 12345 : Int32) = t_x (τ 40 0 13) from rfl, p_st, s_at, s_nf (by decide), x5, x1, q1]
  unfold t_L
  by_cases w : jrem (jush (t_x (τ 40 0 13)) 16) 100 < τ 40 0 8
  · rw [if_pos w, decide_eq_true w]
    rfl
  · rw [if_neg w, decide_eq_false w]
    cases b1
    · cases b2
      · rfl
      · rfl
    · rfl
/-- one receiver that is a car: what both draw and note -/
theorem l_lostCar (h : LL F C K M T U j σ τ) {i d k c : Nat} {b2 : Bool} (hi : i < 240) (hc : c < C) (hk : k < K) (hs : RC C (vw j σ) (σ 20 13 i) b2) (hd : σ 21 13 i = nI d) (hd4 : d < 4) :
    ∃ (L : Bool) (σ1 τ1 : Sg), f_X0_isLost σ j (nI i) (nI c) = some (W_b L, σ1) ∧ f_L_isLost τ (nI d) (σ 20 13 i) (nI c) = some (W_b L, τ1, 0) ∧ SQ j σ τ σ1 τ1 ∧ (vw j σ1 1 = vw j σ 1 ∧ vw j σ1 21 = vw j σ 21) ∧ pt τ1 = pt τ ∧ (L = false → LL F C K M T U j σ1 τ1) ∧ (L = true → LL F C K M T U j (sup σ1 19 (4 * j + c) d (σ1 19 (4 * j + c) d ||| (1 <<< (nI k &&& 31)))) (sup τ1 43 (4 * k + c) 3 (τ1 43 (4 * k + c) 3 ||| (1 <<< (nI d &&& 31))))) := by
  obtain ⟨h, hb⟩ := h
  have hC := D_C h
  have hK := D_K h
  have e4 : τ 40 0 8 = σ 12 j 0 := (L_set h).1
  have e9 : τ 40 0 13 = σ 4 j 4 := L_seed h
  have hr : RC C (vw j σ) (nI c) (decide (vw j σ 2 c 4 = 1)) := Or.inr ⟨c, hc, rfl, rfl⟩
  have qa := a_isLost h hi hr hs hd hd4
  have qb := l_isLost h hr hs hd4
  rw [e4, e9] at qb
  have g1 := S_seed h (t_x (σ 4 j 4))
  have u1 := u_40 τ (p := 9) (f := 13) (by decide) (by decide) (by decide) rfl (t_x (σ 4 j 4))
  cases hL : t_L (σ 12 j 0) (t_x (σ 4 j 4)) (decide (vw j σ 2 c 4 = 1)) b2
  · rw [hL, if_neg (show ¬ (false = true) by decide)] at qa qb
    rw [← vs_4, ← u1] at g1
    refine ⟨false, _, _, qa, qb, SQ.l (SQ.c (SQ.rf j σ τ) ?_ _ _) (by decide) (by decide) _ _ _, ⟨?_, ?_⟩, pt_put (by decide) _ _ _ _, fun _ => ⟨g1, cb_p40 (by decide) hb _⟩, fun q => absurd q (by decide)⟩
    · exact (rfl : j = j)
    · rw [vs_4, s_ne (by decide)]
    · rw [vs_4, s_ne (by decide)]
  · rw [hL, if_pos rfl] at qa qb
    have e15 : τ 47 0 d = σ 14 j d := L_lost h hd4
    rw [e15] at qb
    have g2 := S_lostK g1 hd4 (σ 14 j d + 1)
    have g3 := S_miss g2 hc hk hd4
    rw [← u1, ← u_47 _ hd4, show rwL (sup (sup τ 40 0 13 (t_x (σ 4 j 4))) 47 0 d (σ 14 j d + 1)) (607 + 24 * c + k) = (sup (sup τ 40 0 13 (t_x (σ 4 j 4))) 47 0 d (σ 14 j d + 1)) 43 (4 * k + c) 3 from g_43 _ (c := c) (k := k) (f := 3) (by omega) (by omega) (by decide)] at g3
    rw [← vs_4, ← vs_14, ← vs_19] at g3
    have u3 := u_43 (sup (sup τ 40 0 13 (t_x (σ 4 j 4))) 47 0 d (σ 14 j d + 1)) (c := c) (k := k) (f := 3) (by omega) (by omega) (by decide) ((sup (sup τ 40 0 13 (t_x (σ 4 j 4))) 47 0 d (σ 14 j d + 1)) 43 (4 * k + c) 3 ||| (1 <<< (nI d &&& 31)))
    refine ⟨true, _, _, qa, qb, ?_, ⟨?_, ?_⟩, ?_, fun q => absurd q (by decide), fun _ => ⟨?_, ?_⟩⟩
    · refine SQ.l (SQ.l (SQ.c (SQ.c (SQ.rf j σ τ) ?_ _ _) ?_ _ _) (by decide) (by decide) _ _ _) (by decide) (by decide) _ _ _ <;> exact (rfl : j = j)
    · rw [vs_14, vs_4, s_ne (by decide), s_ne (by decide)]
    · rw [vs_14, vs_4, s_ne (by decide), s_ne (by decide)]
    · rw [pt_put (by decide), pt_put (by decide)]
    · rw [u3]
      exact g3
    · exact cb_put (by decide) (cb_put (by decide) (cb_p40 (by decide) hb _) _ _ _) _ _ _
/-- the station as a receiver -/
theorem l_lostSt (h : LL F C K M T U j σ τ) {i d : Nat} {b2 : Bool} (hi : i < 240) (hs : RC C (vw j σ) (σ 20 13 i) b2) (hd : σ 21 13 i = nI d) (hd4 : d < 4) :
    ∃ (L : Bool) (σ1 τ1 : Sg), f_X0_isLost σ j (nI i) (-1) = some (W_b L, σ1) ∧ f_L_isLost τ (nI d) (σ 20 13 i) (-1) = some (W_b L, τ1, 0) ∧ SQ j σ τ σ1 τ1 ∧ (vw j σ1 1 = vw j σ 1 ∧ vw j σ1 21 = vw j σ 21) ∧ pt τ1 = pt τ ∧ LL F C K M T U j σ1 τ1 := by
  obtain ⟨h, hb⟩ := h
  have e4 : τ 40 0 8 = σ 12 j 0 := (L_set h).1
  have e9 : τ 40 0 13 = σ 4 j 4 := L_seed h
  have hr : RC C (vw j σ) (-1) false := Or.inl ⟨rfl, rfl⟩
  have qa := a_isLost h hi hr hs hd hd4
  have qb := l_isLost h hr hs hd4
  rw [e4, e9] at qb
  have g1 := S_seed h (t_x (σ 4 j 4))
  have u1 := u_40 τ (p := 9) (f := 13) (by decide) (by decide) (by decide) rfl (t_x (σ 4 j 4))
  cases hL : t_L (σ 12 j 0) (t_x (σ 4 j 4)) false b2
  · rw [hL, if_neg (show ¬ (false = true) by decide)] at qa qb
    rw [← vs_4, ← u1] at g1
    refine ⟨false, _, _, qa, qb, SQ.l (SQ.c (SQ.rf j σ τ) ?_ _ _) (by decide) (by decide) _ _ _, ⟨?_, ?_⟩, pt_put (by decide) _ _ _ _, ⟨g1, cb_p40 (by decide) hb _⟩⟩
    · exact (rfl : j = j)
    · rw [vs_4, s_ne (by decide)]
    · rw [vs_4, s_ne (by decide)]
  · rw [hL, if_pos rfl] at qa qb
    have e15 : τ 47 0 d = σ 14 j d := L_lost h hd4
    rw [e15] at qb
    have g2 := S_lostK g1 hd4 (σ 14 j d + 1)
    rw [← vs_4, ← vs_14, ← u1, ← u_47 _ hd4] at g2
    refine ⟨true, _, _, qa, qb, ?_, ⟨?_, ?_⟩, ?_, ⟨g2, cb_put (by decide) (cb_p40 (by decide) hb _) _ _ _⟩⟩
    · refine SQ.l (SQ.l (SQ.c (SQ.c (SQ.rf j σ τ) ?_ _ _) ?_ _ _) (by decide) (by decide) _ _ _) (by decide) (by decide) _ _ _ <;> exact (rfl : j = j)
    · rw [vs_14, vs_4, s_ne (by decide), s_ne (by decide)]
    · rw [vs_14, vs_4, s_ne (by decide), s_ne (by decide)]
    · rw [pt_put (by decide), pt_put (by decide)]
end TK
