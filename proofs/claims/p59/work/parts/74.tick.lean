/-! a tick, the class: copies -/
section PX
variable {F C K M T U j : Nat} {σ ρ v : Sg} {r : Nat → Int32}
theorem p_nl {a b : Nat} (h : b ≤ a) : (a < b) = False := eq_false (Nat.not_lt.mpr h)
theorem c_ne {σ : Sg} {k1 o1 sp k2 o2 dp n k' : Nat} (h : k' ≠ k2) : scp σ k1 o1 sp k2 o2 dp n k' = σ k' := by
  funext o i
  exact if_neg (fun q => h q.1)
theorem c_no {σ : Sg} {k1 o1 sp k2 o2 dp n k' o' i' : Nat} (h : o' ≠ o2) : scp σ k1 o1 sp k2 o2 dp n k' o' i' = σ k' o' i' := if_neg (fun q => h q.2.1)
theorem c_in {σ : Sg} {k1 o1 sp k2 o2 dp n i' : Nat} (h : dp ≤ i') (h2 : i' < dp + n) : scp σ k1 o1 sp k2 o2 dp n k2 o2 i' = σ k1 o1 (sp + (i' - dp)) := if_pos ⟨rfl, rfl, h, h2⟩
theorem c_in0 {σ : Sg} {k1 o1 k2 o2 n i' : Nat} (h2 : i' < n) : scp σ k1 o1 0 k2 o2 0 n k2 o2 i' = σ k1 o1 i' := by
  rw [c_in (Nat.zero_le _) (by omega), Nat.zero_add, Nat.sub_zero]
theorem c_out {σ : Sg} {k1 o1 sp k2 o2 dp n k' o' i' : Nat} (h : i' < dp ∨ dp + n ≤ i') : scp σ k1 o1 sp k2 o2 dp n k' o' i' = σ k' o' i' := if_neg (fun q => by omega)
theorem LU.up {F C K M T U : Nat} {v : Sg} {r : Nat → Int32} (h : LU F C K M T U v r) : LU F C K M T (U + 1) v r := by
  refine ⟨h.1, h.2.1, h.2.2.1, h.2.2.2.1, fun k hk => ?_, h.2.2.2.2.2⟩
  obtain ⟨x1, x2, x3, x4, x5, x6⟩ := h.2.2.2.2.1 k hk
  refine ⟨x1, x2, x3, x4, x5, ?_⟩
  rcases x6 with x6 | ⟨t, h1, h2⟩
  · exact Or.inl x6
  · exact Or.inr ⟨t, by omega, h2⟩
theorem S_zero {F C K M T U : Nat} {v : Sg} {r : Nat → Int32} (h : LU F C K M T U v r) : LU F C K 0 T U (sup v 5 0 0 0) (ru r 10 0) := by
  have dC := D_C h
  have dK := D_K h
  have dM := D_M h
  refine ⟨?_, V_set.ext h.2.1 (fun _ => by first | rfl | simp [sup]) (fun i h1 h2 => by simp (disch := omega) only [ru_ne]), V_cnt.ext h.2.2.1 (fun _ => by first | rfl | simp [sup]) (fun _ => by first | rfl | simp [sup]) (fun _ => by first | rfl | simp [sup]) (fun i h1 h2 => by simp (disch := omega) only [ru_ne]), V_car.ext h.2.2.2.1 dC (fun _ f hf => by first | rfl | (simp [sup]; done)) (fun i h1 h2 => by simp (disch := omega) only [ru_ne]), V_call.ext h.2.2.2.2.1 dK (fun _ _ => by first | rfl | simp [sup]) (fun i h1 h2 => by simp (disch := omega) only [ru_ne]), V_held.ext h.2.2.2.2.2.1 dC dK (fun _ => by first | rfl | simp [sup]) (fun i h1 h2 => by simp (disch := omega) only [ru_ne]), V_abd.ext h.2.2.2.2.2.2.1 (fun _ => by first | rfl | simp [sup]) (fun _ => by first | rfl | simp [sup]) (fun _ => by first | rfl | simp [sup]), V_kn1.ext h.2.2.2.2.2.2.2.1 dC dK (fun _ => by first | rfl | simp [sup]) (fun _ _ => by first | rfl | simp [sup]) (fun _ _ => by first | rfl | simp [sup]) (fun _ _ => by first | rfl | simp [sup]) (fun _ _ => by first | rfl | simp [sup]) (fun i h1 h2 => by simp (disch := omega) only [ru_ne]), V_kn0.ext h.2.2.2.2.2.2.2.2.1 (fun _ _ => by first | rfl | simp [sup]) (fun _ _ => by first | rfl | simp [sup]) (fun _ _ => by first | rfl | simp [sup]), fun i hi => absurd hi (Nat.not_lt_zero i)⟩
  obtain ⟨a1, a2, a3, a4, a5, a6, a7, a8, a9, a10, a11, a12, a13, a14, a15, a16⟩ := h.1
  exact ⟨a1, a2, a3, a4, rfl, a6, a7, a8, a9, rfl, a11, a12, a13, a14, a15, Nat.zero_le _⟩
def Veq (C K M : Nat) (v v' : Sg) : Prop := (∀ i, i < 5 → v' 4 0 i = v 4 0 i) ∧ v' 5 0 0 = v 5 0 0 ∧ (∀ i, i < 5 → v' 12 0 i = v 12 0 i) ∧ (∀ i, i < 4 → v' 13 0 i = v 13 0 i ∧ v' 14 0 i = v 14 0 i) ∧ (∀ i, i < 5 → v' 15 0 i = v 15 0 i) ∧ (∀ c, c < C → (∀ f, f < 10 → v' 2 c f = v 2 c f) ∧ (∀ i, i < 24 → v' 16 c i = v 16 c i ∧ v' 17 c i = v 17 c i) ∧ (∀ i, i < 96 → v' 18 c i = v 18 c i) ∧ ∀ i, i < 4 → v' 19 c i = v 19 c i) ∧ (∀ k, k < K → ∀ f, f < 11 → v' 1 k f = v 1 k f) ∧ ∀ i, i < M → v' 20 0 i = v 20 0 i ∧ v' 21 0 i = v 21 0 i ∧ v' 22 0 i = v 22 0 i ∧ v' 23 0 i = v 23 0 i
theorem LU.both {v v' : Sg} {r r' : Nat → Int32} (h : LU F C K M T U v r) (e : Veq C K M v v') (er : ∀ q, q < 2111 → r' q = r q) : LU F C K M T U v' r' := by
  have dC := D_C h
  have dK := D_K h
  have dM := D_M h
  obtain ⟨e4, e5, e12, e13, e15, ec, ek, em⟩ := e
  obtain ⟨h1, h2, h3, h4, h5, h6, h7, h8, h9, h10⟩ := h
  refine ⟨?_, ?_, ?_, ?_, ?_, ?_, ?_, ?_, ?_, ?_⟩
  · obtain ⟨a1, a2, a3, a4, a5, a6, a7, a8, a9, a10, a11, a12⟩ := h1
    exact ⟨(e4 0 (by decide)).trans a1, (e4 1 (by decide)).trans a2, (e4 2 (by decide)).trans a3, (e4 3 (by decide)).trans a4, e5.trans a5, (er 0 (by decide)).trans a6, (er 1 (by decide)).trans a7, (er 2 (by decide)).trans a8, (er 3 (by decide)).trans a9, (er 10 (by decide)).trans a10, ((er 9 (by decide)).trans a11).trans (e4 4 (by decide)).symm, a12⟩
  · obtain ⟨a, P, W, D, b1, b2, b3, b4, b5, b6, b7⟩ := h2
    exact ⟨fun i hi => ((er (4 + i) (by omega)).trans (a i hi)).trans (e12 i hi).symm, P, W, D, (e12 1 (by decide)).trans b1, b2, b3, (e12 2 (by decide)).trans b4, b5, (e12 3 (by decide)).trans b6, b7⟩
  · intro i hi
    obtain ⟨a, b, c⟩ := h3 i hi
    exact ⟨((er _ (by omega)).trans a).trans (e13 i hi).1.symm, ((er _ (by omega)).trans b).trans (e13 i hi).2.symm, ⟨((er _ (by omega)).trans c.1).trans (e15 _ (by omega)).symm, (e15 0 (by decide)).trans c.2⟩⟩
  · intro c hc
    obtain ⟨a, b, d, e, f, g⟩ := h4 c hc
    have z := (ec c hc).1
    refine ⟨fun f hf => ((er _ (by omega)).trans (a f hf)).trans (z f (by omega)).symm, ?_, ?_, ?_, ?_, ?_⟩
    · rw [z 0 (by decide)]; exact b
    · rw [z 1 (by decide)]; exact d
    · rw [z 2 (by decide)]; exact e
    · rw [z 3 (by decide)]; exact f
    · rw [z 4 (by decide)]; exact g
  · intro k hk
    obtain ⟨a, b, c, d, e, f⟩ := h5 k hk
    have z := ek k hk
    refine ⟨fun f hf h9 => ((er _ (by omega)).trans (a f hf h9)).trans (z f hf).symm, fun q => ?_, ?_, ?_, ?_, ?_⟩
    · rw [z 9 (by decide), er _ (by omega)]
      exact b (by rw [← z 8 (by decide)]; exact q)
    · rw [z 0 (by decide), z 1 (by decide)]; exact c
    · unfold V_time at d ⊢
      rw [z 2 (by decide), z 3 (by decide), z 5 (by decide), z 10 (by decide)]; exact d
    · rw [z 8 (by decide)]; exact e
    · rw [z 10 (by decide)]; exact f
  · intro c hc
    obtain ⟨a, b⟩ := h6 c hc
    have z := (ec c hc).1
    refine ⟨fun k hk => ?_, fun k hk => ?_⟩
    · rw [z 8 (by decide), er _ (by omega)]; exact a k hk
    · rw [z 8 (by decide)]; exact b k hk
  · intro c hc k
    rw [(ec c hc).1 9 (by decide), h7 c hc k]
    by_cases hk : k < K
    · rw [ek k hk 3 (by decide), ek k hk 4 (by decide)]
    · rw [decide_eq_false (fun q => hk q.1), decide_eq_false (fun q => hk q.1)]
  · intro c hc k hk
    obtain ⟨a, b, d, e, f, g⟩ := h8 c hc k hk
    obtain ⟨z2, z16, z18, z19⟩ := ec c hc
    refine ⟨?_, fun q hq => ?_, fun t ht => ?_, fun q => ?_, ?_, fun q hq => ?_⟩
    · rw [(z16 k (by omega)).2, er _ (by omega)]; exact a
    · rw [z18 _ (by omega), er _ (by omega)]; exact b q hq
    · rw [z19 _ ht, er _ (by omega)]; exact d t ht
    · rw [z2 8 (by decide), (z16 k (by omega)).2] at q
      rw [(z16 k (by omega)).1, er _ (by omega)]; exact e q
    · rw [(z16 k (by omega)).2]; exact f
    · rw [z18 _ (by omega)]; exact g q hq
  · intro c hc k hk hk2
    obtain ⟨a, b, d⟩ := h9 c hc k hk hk2
    obtain ⟨z2, z16, z18, z19⟩ := ec c hc
    refine ⟨?_, fun q hq => ?_, fun t ht => ?_⟩
    · rw [(z16 k (by omega)).2]; exact a
    · rw [z18 _ (by omega)]; exact b q hq
    · rw [z19 _ ht]; exact d t ht
  · intro i hi
    obtain ⟨z20, z21, z22, z23⟩ := em i hi
    rw [z20, z21, z22, z23, er _ (by omega), er _ (by omega), er _ (by omega), er _ (by omega)]
    exact h10 i hi
theorem V_ann_eq {v v' : Sg} (e : Veq C K M v v') : V_ann v' M = V_ann v M := ct_congr (fun i hi => by rw [(e.2.2.2.2.2.2.2 i hi).2.1])
theorem Veq.of {v v' : Sg} (e0 : ∀ k i, v' k 0 i = v k 0 i) (e1 : ∀ k o i, k = 1 ∨ k = 2 ∨ (16 ≤ k ∧ k ≤ 19) → v' k o i = v k o i) : Veq C K M v v' :=
  ⟨fun i _ => e0 4 i, e0 5 0, fun i _ => e0 12 i, fun i _ => ⟨e0 13 i, e0 14 i⟩, fun i _ => e0 15 i, fun c _ => ⟨fun f _ => e1 2 c f (by decide), fun i _ => ⟨e1 16 c i (by decide), e1 17 c i (by decide)⟩, fun i _ => e1 18 c i (by decide), fun i _ => e1 19 c i (by decide)⟩, fun k _ f _ => e1 1 k f (by decide), fun i _ => ⟨e0 20 i, e0 21 i, e0 22 i, e0 23 i⟩⟩
end PX
/-! a tick of both, whole -/
def SF (j : Nat) (σ σ' : Sg) : Prop := ∀ k o i, ¬ Own j k o → ¬ (o = 13 ∧ (k = 5 ∨ (20 ≤ k ∧ k ≤ 23))) → σ' k o i = σ k o i
theorem SF.rf (j : Nat) (σ : Sg) : SF j σ σ := fun _ _ _ _ _ => rfl
theorem SF.trans {j : Nat} {σ σ' σ'' : Sg} (h : SF j σ σ') (h' : SF j σ' σ'') : SF j σ σ'' := fun k o i q q2 => (h' k o i q q2).trans (h k o i q q2)
theorem Fr.sf {j : Nat} {σ σ' : Sg} (h : Fr j σ σ') : SF j σ σ' := fun k o i q _ => h k o i q
theorem u_swap (τ : Sg) : rwL (t_swap τ) = ru (rwL τ) 10 0 := by
  funext q
  by_cases h10 : q = 10
  · subst h10
    rw [ru_eq]
    rfl
  · rw [ru_ne h10]
    unfold rwL
    by_cases h9 : q < 11
    · rw [if_pos h9, if_pos h9]
      rcases (show q = 0 ∨ q = 1 ∨ q = 2 ∨ q = 3 ∨ q = 4 ∨ q = 5 ∨ q = 6 ∨ q = 7 ∨ q = 8 ∨ q = 9 by omega) with rfl | rfl | rfl | rfl | rfl | rfl | rfl | rfl | rfl | rfl <;> rfl
    · rw [if_neg h9, if_neg h9]
      repeat' split
      all_goals rfl
theorem cb_swap {τ : Sg} (h : CB τ) : CB (t_swap τ) ∧ pt (t_swap τ) = 0 := by
  have e1 : q_nn (t_swap τ) 2 = 0 := rfl
  have e2 : q_cc (t_swap τ) 2 = 0 := rfl
  unfold CB pt
  rw [e1, e2]
  exact ⟨⟨Or.inl rfl, by omega, h.2.2⟩, rfl⟩
section TK
variable {F C K M T U j : Nat} {σ τ : Sg}
/-- the messages of the last tick, laid aside -/
theorem a_aside {r : Nat → Int32} (h : LU F C K M T U (vw j σ) r) (hj : j < 13) :
    ∃ σ1, f_X5_copyFrom σ 13 j = some σ1 ∧ Veq C K M (vw j σ) (vw j σ1) ∧ SF j σ σ1 ∧ σ1 5 13 0 = nI M ∧ ∀ i, i < M → σ1 20 13 i = σ 20 j i ∧ σ1 21 13 i = σ 21 j i ∧ σ1 22 13 i = σ 22 j i ∧ σ1 23 13 i = σ 23 j i := by
  have hM := D_M h
  refine ⟨scp (scp (scp (scp (sup σ 5 13 0 (nI M)) 20 j 0 20 13 0 M) 21 j 0 21 13 0 M) 22 j 0 22 13 0 M) 23 j 0 23 13 0 M, ?_, ?_, ?_, ?_, ?_⟩
  · unfold f_X5_copyFrom
    simp (disch := omega) only [A_M h, p_st, c_ne, s_at, ni_nn, ni_cl, p_nl, false_or, if_false]
  · have e : ∀ k o i, o ≠ 13 → (scp (scp (scp (scp (sup σ 5 13 0 (nI M)) 20 j 0 20 13 0 M) 21 j 0 21 13 0 M) 22 j 0 22 13 0 M) 23 j 0 23 13 0 M) k o i = σ k o i := by
      intro k o i ho
      rw [c_no ho, c_no ho, c_no ho, c_no ho]
      unfold sup
      rw [if_neg (fun q => ho q.2.1)]
    have e2 : ∀ k o i, k < 20 → k ≠ 5 → (scp (scp (scp (scp (sup σ 5 13 0 (nI M)) 20 j 0 20 13 0 M) 21 j 0 21 13 0 M) 22 j 0 22 13 0 M) 23 j 0 23 13 0 M) k o i = σ k o i := by
      intro k o i h1 h2
      rw [c_ne (by omega), c_ne (by omega), c_ne (by omega), c_ne (by omega), s_ne h2]
    refine Veq.of (fun k i => ?_) (fun k o i hk => ?_)
    · by_cases w : k = 1 ∨ k = 2 ∨ (16 ≤ k ∧ k ≤ 19)
      · exact vw_pt (fun o i => e2 k o i (by omega) (by omega)) j 0 i
      · have x : ∀ τ : Sg, vw j τ k 0 i = τ k (j + 0) i := by
          intro τ
          unfold vw
          split <;> first | rfl | (exfalso; omega)
        rw [x, x]
        exact e k j i (by omega)
    · exact vw_pt (fun o i => e2 k o i (by omega) (by omega)) j o i
  · intro k o i q1 q2
    unfold scp sup
    rw [if_neg (fun q => q2 ⟨q.2.1, Or.inr (by omega)⟩), if_neg (fun q => q2 ⟨q.2.1, Or.inr (by omega)⟩), if_neg (fun q => q2 ⟨q.2.1, Or.inr (by omega)⟩), if_neg (fun q => q2 ⟨q.2.1, Or.inr (by omega)⟩), if_neg (fun q => q2 ⟨q.2.1, Or.inl q.1⟩)]
  · simp (disch := omega) only [c_ne, s_at]
  · intro i hi
    simp (disch := omega) only [c_ne, c_in0, s_ne, and_self]
theorem l_tick (h : LL F C K M T T j σ τ) (hAn : V_ann (vw j σ) M ≤ K) (hj : j < 13) (hT : T < 399999) :
    ∃ σ' τ' e, f_X0_tick σ j = some σ' ∧ f_L_tick τ = some (0, τ', e) ∧ ∃ M', LL F C K M' (T + 1) (T + 1) j σ' τ' ∧ V_ann (vw j σ') M' ≤ K ∧ SF j σ σ' ∧ (τ' 50 0 = τ 50 0 ∧ τ' 50 1 = τ 50 1) ∧ e ≤ 3000 := by
  obtain ⟨hL, hb⟩ := h
  have hC := D_C hL
  have hK := D_K hL
  have hM := D_M hL
  obtain ⟨σ1, p1, p3, p5, p6, p7⟩ := a_aside hL hj
  have h1 : LU F C K M T T (vw j σ1) (rwL τ) := hL.both p3 (fun _ _ => rfl)
  have g := S_zero h1.up
  rw [← vs_5, ← u_swap] at g
  obtain ⟨cb0, pt0⟩ := cb_swap hb
  have A1 : ArL C K M (sup σ1 5 j 0 0) (t_swap τ) := by
    refine ⟨(s_no (by omega)).trans p6, hM, L_M hL, fun i hi => ?_⟩
    obtain ⟨q20, q21, q22, q23⟩ := p7 i hi
    obtain ⟨r1, r2, r3, r4, r5, r6, r7⟩ := hL.2.2.2.2.2.2.2.2.2 i hi
    rw [s_ne (by decide), s_ne (by decide), s_ne (by decide), s_ne (by decide), q20, q21, q22, q23]
    refine ⟨(g_49 τ (i := i) (q := 0) (by decide)).symm.trans r1, (g_49 τ (i := i) (q := 1) (by decide)).symm.trans r2, (g_49 τ (i := i) (q := 2) (by decide)).symm.trans r3, (g_49 τ (i := i) (q := 3) (by decide)).symm.trans r4, r5, r6, r7⟩
  have fA : Fr j σ1 (sup σ1 5 j 0 0) := Fr.put (show Own j 5 j from (rfl : j = j)) _ _ _
  obtain ⟨σ3, τ3, D3, q1, q2, M1, q3, q4, ⟨q5, q6⟩, q7, -, q9⟩ := l_comes (τ := t_swap τ) ⟨g, cb0⟩ (by omega)
  have A3 : ArL C K M σ3 τ3 := A1.sq q4 hj
  have cM : ct (fun i => decide (σ3 21 13 i = 0)) M ≤ K := by
    rw [ct_congr (Q := fun i => decide (vw j σ 21 0 i = 0)) (fun i hi => by
      rw [(q4.arr hj i).2.2.1, s_ne (by decide), (p7 i hi).2.1]
      rfl)]
    exact hAn
  obtain ⟨σ4, τ4, D4, r1, r2, M2, r3, r4, r5, r6⟩ := l_deliver q3 hj (by omega) A3 (by omega)
  have nq4 : NQ (vw j σ4) K T = NQ (vw j σ3) K T := ct_congr (fun k _ => by rw [r5.2.2.2 k])
  obtain ⟨σ5, τ5, D5, u1, u2, M3, u3, u4, u5, u6, -, u8⟩ := l_minds r3 (by omega) (B := 4 * K) (by omega) (by have := r5.1; have := r5.2.1; omega) (by have := r5.2.1; omega)
  have nq5 := NQ_le (vw j σ5) K T
  obtain ⟨n6, m6, σ6, τ6, D6, ⟨M4, v1, v2, v3, v6⟩, v4, v5⟩ := lpL (fun n (a : Sg) i => f_X0_tick_36 n a j (nI i)) (fun n (b : Sg) i => f_L_tick_381 n b (nI i)) C (by omega) (fun c a b D => ∃ M', LL F C K M' T (T + 1) j a b ∧ SQ j σ5 τ5 a b ∧ NX (c * K) M3 (vw j σ5) M' (vw j a) ∧ D + pt τ5 ≤ pt b) (a := σ5) (b := τ5) (by
    rintro n m c a b D hc ⟨M', x1, x2, x3, x4⟩
    have hcK : c * K ≤ 3 * K := Nat.mul_le_mul_right K (by omega)
    obtain ⟨a', b', e, y1, y2, M'', y3, y4, y5, y6⟩ := l_decide x1 (by omega) hc (by have := x3.1; omega)
    refine ⟨a', b', e, ⟨M'', y3, x2.trans y4, (x3.trans y5).mono (by rw [Nat.succ_mul]; exact Nat.le_refl _), by omega⟩, ?_, ?_⟩
    · simp (disch := omega) only [f_X0_tick_36_s, A_C x1.1, ni_le, p_nle, if_false, y1, p_bv, ni_1]
    · simp (disch := omega) only [f_L_tick_381_s, L_C x1.1, ni_le, p_nle, if_false, y2, bq_some, ni_1]) ⟨M3, u3, SQ.rf j σ5 τ5, (NX.rf M3 _).mono (Nat.zero_le _), by omega⟩
  have hCK : C * K ≤ 4 * K := Nat.mul_le_mul_right K hC
  have nw6 := NW_le (vw j σ6) K
  have v31 := v3.1
  have v32 := v3.2.1
  obtain ⟨n7, m7, σ7, τ7, D7, ⟨M5, w1, w2, w3, w4, w7⟩, w5, w6⟩ := lpL (fun n (a : Sg) i => f_X0_tick_58 n a j (nI i)) (fun n (b : Sg) i => f_L_tick_407 n b (nI i)) C (by omega) (fun c a b D => ∃ M', LL F C K M' T (T + 1) j a b ∧ SQ j σ6 τ6 a b ∧ V_ann (vw j a) M' = V_ann (vw j σ6) M4 ∧ M' + NW (vw j a) K ≤ 240 ∧ D + pt τ6 ≤ pt b + 60 * c) (a := σ6) (b := τ6) (by
    rintro n m c a b D hc ⟨M', x1, x2, x3, x4, x5⟩
    obtain ⟨a', b', e, y1, y2, M'', y3, y4, y5, y6, -, y8⟩ := l_act x1 (by omega) (Nat.le_refl 240) hc x4
    refine ⟨a', b', e, ⟨M'', y3, x2.trans y4, y5.trans x3, y6, by omega⟩, ?_, ?_⟩
    · simp (disch := omega) only [f_X0_tick_58_s, A_C x1.1, ni_le, p_nle, if_false, y1, p_bv, ni_1]
    · simp (disch := omega) only [f_L_tick_407_s, L_C x1.1, ni_le, p_nle, if_false, y2, bq_some, ni_1]) ⟨M4, v1, SQ.rf j σ6 τ6, rfl, by omega, by omega⟩
  have g9 := S_time w1.1 rfl
  have u9 := u_40 τ7 (p := 3) (f := 7) (by decide) (by decide) (by decide) rfl (nI (T + 1))
  rw [← vs_4, ← u9] at g9
  have hM5 := D_M w1.1
  have hcc := w1.2.2.1
  have hnn := N_M w1.1
  have hpt : pt τ7 ≤ 2680 := by
    unfold pt
    omega
  refine ⟨sup σ7 4 j 3 (nI (T + 1)), sup τ7 40 0 7 (nI (T + 1)), 1 + (D3 + (D4 + (D5 + (D6 + (D7 + 0))))), ?_, ?_, M5, ⟨g9, cb_p40 (by decide) w1.2 _⟩, ?_, ?_, ?_, ?_⟩
  · unfold f_X0_tick
    rw [p1, p_bv, p_st, q1, p_bv, r1, p_bv, u1, p_bv]
    refine Eq.trans v4 ?_
    rw [f_X0_tick_36_s, A_C v1.1, if_pos (by rw [ni_le (by omega) (by omega)]; exact Nat.le_refl C)]
    unfold f_X0_tick_56
    refine Eq.trans w5 ?_
    rw [f_X0_tick_58_s, A_C w1.1, if_pos (by rw [ni_le (by omega) (by omega)]; exact Nat.le_refl C)]
    unfold f_X0_tick_78
    rw [p_st, A_T w1.1, ni_1]
  · unfold f_L_tick
    rw [q2, r2, u2]
    unfold f_L_tick_379
    rw [show f_L_tick_381 FU τ5 0 = ac D6 (f_L_tick_381 (m6 + 1) τ6 (nI C)) from v5, f_L_tick_381_s, L_C v1.1, if_pos (by rw [ni_le (by omega) (by omega)]; exact Nat.le_refl C)]
    unfold f_L_tick_405
    rw [show f_L_tick_407 FU τ6 0 = ac D7 (f_L_tick_407 (m7 + 1) τ7 (nI C)) from w6, f_L_tick_407_s, L_C w1.1, if_pos (by rw [ni_le (by omega) (by omega)]; exact Nat.le_refl C)]
    unfold f_L_tick_431
    rw [p_st, L_T w1.1, ni_1, ac_some, ac_some, ac_some, ac_some, ac_some, ac_some]
  · rw [vs_4]
    unfold V_ann
    rw [s_ne (by decide)]
    have e : ct (fun i => decide (vw j σ7 21 0 i = 0)) M5 = V_ann (vw j σ6) M4 := w3
    rw [e]
    omega
  · exact p5.trans (fA.sf.trans (q4.1.sf.trans (r4.1.sf.trans (u4.1.sf.trans (v2.1.sf.trans (w2.1.sf.trans (Fr.put (show Own j 4 j from (rfl : j = j)) _ _ _).sf))))))
  · have t1 := ((((q4.2.trans r4.2).trans u4.2).trans v2.2).trans w2.2)
    refine ⟨?_, ?_⟩
    · rw [s_ne (by decide)]
      exact t1.2.2.1
    · rw [s_ne (by decide)]
      exact t1.2.2.2
  · omega
/-- many ticks of the class; as many of the law -/
theorem l_pass (h : LL F C K M T T j σ τ) (hAn : V_ann (vw j σ) M ≤ K) (hj : j < 13) {n : Nat} (hn : n ≤ 500) (hT : T + n < 399999) (k0 : Nat → Sg → Nat → Option (Int32 × Sg × Sg × Nat)) (hk : ∀ m b i, i < n → k0 (m + 1) b i = bqx (f_L_tick b) fun _ b2 => k0 m b2 (i + 1)) :
    ∃ σ' τ' D m, f_X0_pass σ j (nI n) = some σ' ∧ k0 FU τ 0 = acx D (k0 (m + 1) τ' n) ∧ ∃ M', LL F C K M' (T + n) (T + n) j σ' τ' ∧ V_ann (vw j σ') M' ≤ K ∧ SF j σ σ' ∧ (τ' 50 0 = τ 50 0 ∧ τ' 50 1 = τ 50 1) ∧ D ≤ 3000 * n := by
  have key : ∀ i, i ≤ n → ∃ σ' τ' D, f_X0_pass_2 FU σ j (nI n) (nI 0) = f_X0_pass_2 (65535 - i + 1) σ' j (nI n) (nI i) ∧ k0 FU τ 0 = acx D (k0 (65535 - i + 1) τ' i) ∧ ∃ M', LL F C K M' (T + i) (T + i) j σ' τ' ∧ V_ann (vw j σ') M' ≤ K ∧ SF j σ σ' ∧ (τ' 50 0 = τ 50 0 ∧ τ' 50 1 = τ 50 1) ∧ D ≤ 3000 * i := by
    intro i
    induction i with
    | zero => intro _; exact ⟨σ, τ, 0, rfl, (acx_0 _).symm, M, h, hAn, SF.rf j σ, ⟨rfl, rfl⟩, by omega⟩
    | succ i ih =>
      intro hi
      obtain ⟨σ', τ', D, i1, i2, M', i3, i4, i5, i6, i7⟩ := ih (by omega)
      obtain ⟨σ2, τ2, e, j1, j2, M2, j3, j4, j5, j6, j7⟩ := l_tick i3 i4 hj (by omega)
      refine ⟨σ2, τ2, D + e, i1.trans ?_, i2.trans ?_, M2, j3, j4, i5.trans j5, ⟨j6.1.trans i6.1, j6.2.trans i6.2⟩, by omega⟩
      · rw [show 65535 - (i + 1) + 1 = 65535 - i by omega]
        simp (disch := omega) only [f_X0_pass_2_s, ni_le, p_nle, if_false, j1, p_bv, ni_1]
      · rw [hk _ _ _ (by omega), j2, bqx_some, acx_acx, show 65535 - (i + 1) + 1 = 65535 - i by omega]
  obtain ⟨σ', τ', D, i1, i2, M', i3, i4, i5, i6, i7⟩ := key n (Nat.le_refl n)
  refine ⟨σ', τ', D, _, ?_, i2, M', i3, i4, i5, i6, i7⟩
  unfold f_X0_pass
  refine Eq.trans i1 ?_
  simp (disch := omega) only [f_X0_pass_2_s, ni_le, Nat.le_refl, if_true, f_X0_pass_18]
end TK
