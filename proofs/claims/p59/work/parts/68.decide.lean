/-! a tick of both: phase 4 -/
section PX
variable {F C K M T U j : Nat} {σ ρ v : Sg} {r : Nat → Int32}
def an (P : Nat → Bool) (n : Nat) : Bool := fo (fun k s => s || P k) n false
theorem an_s (P : Nat → Bool) (n : Nat) : an P (n + 1) = (an P n || P n) := rfl
theorem an_iff (P : Nat → Bool) (n : Nat) : an P n = true ↔ ∃ k, k < n ∧ P k = true := by
  induction n with
  | zero => exact ⟨fun q => absurd (show false = true from q) (by decide), fun ⟨k, h, _⟩ => by omega⟩
  | succ n ih =>
    rw [an_s, Bool.or_eq_true, ih]
    constructor
    · rintro (⟨k, h1, h2⟩ | h)
      · exact ⟨k, by omega, h2⟩
      · exact ⟨n, by omega, h⟩
    · rintro ⟨k, h1, h2⟩
      by_cases e : k = n
      · subst e; exact Or.inr h2
      · exact Or.inl ⟨k, by omega, h2⟩
theorem an_no {P : Nat → Bool} {n : Nat} (h : ∀ k, k < n → P k = false) : an P n = false := by
  cases e : an P n
  · rfl
  · obtain ⟨k, h1, h2⟩ := (an_iff P n).mp e
    rw [h k h1] at h2
    exact absurd h2 (by decide)
theorem an_yes {P : Nat → Bool} {n k : Nat} (h : k < n) (h1 : P k = true) : an P n = true := (an_iff P n).mpr ⟨k, h, h1⟩
theorem an_congr {P Q : Nat → Bool} {n : Nat} (h : ∀ k, k < n → P k = Q k) : an P n = an Q n := fo_congr (fun k hk s => by rw [h k hk]) false
theorem lpE1 {A R : Type} (g : Nat → A → Int32 → R) (N : Nat) (hN : N < 65536) (Inv : Nat → A → Prop)
    (step : ∀ n k a, k < N → Inv k a → ∃ a', Inv (k + 1) a' ∧ g (n + 1) a (nI k) = g n a' (nI (k + 1))) {a : A} (h0 : Inv 0 a) :
    ∃ n a', Inv N a' ∧ g FU a (nI 0) = g (n + 1) a' (nI N) := by
  obtain ⟨n, m, a', b', i1, i2, i3⟩ := lpE g (fun (_ : Nat) (_ : Unit) (_ : Int32) => ()) N hN (fun k a _ => Inv k a) (fun n m k a b hk hI => by
    obtain ⟨a', j1, j2⟩ := step n k a hk hI
    exact ⟨a', (), j1, j2, rfl⟩) (a := a) (b := ()) h0
  exact ⟨n, a', i1, i2⟩
theorem lpAny {R : Type} (g : Nat → Int32 → Option R) (N : Nat) (hN : N < 65536) (P : Nat → Bool) (r1 r0 : R)
    (step : ∀ n k, k < N → g (n + 1) (nI k) = if P k = true then some r1 else g n (nI (k + 1))) (fin : ∀ n, g (n + 1) (nI N) = some r0) :
    g FU (nI 0) = some (if an P N = true then r1 else r0) := by
  have key : ∀ n k, k ≤ N → N - k < n → (∀ i, i < k → P i = false) → g n (nI k) = some (if an P N = true then r1 else r0) := by
    intro n
    induction n with
    | zero => intro k _ h _; omega
    | succ n ih =>
      intro k hk hn hI
      rcases Nat.lt_or_ge k N with h | h
      · rw [step n k h]
        cases e : P k
        · rw [if_neg (by decide)]
          exact ih (k + 1) h (by omega) (fun i hi => by
            by_cases w : i = k
            · subst w; exact e
            · exact hI i (by omega))
        · rw [if_pos rfl, an_yes h e, if_pos rfl]
      · have : k = N := by omega
        subst this
        rw [fin n, an_no hI, if_neg (by decide)]
  exact key FU 0 (Nat.zero_le N) (by show N - 0 < 65536; omega) (fun i hi => by omega)
/-- a noted bid that is better than the car's own -/
def W_pb (v : Sg) (c k : Nat) (q : Nat) : Bool := decide (v 18 c (4 * k + q) ≠ -1 ∧ (v 18 c (4 * k + q) < v 16 c k ∨ (v 18 c (4 * k + q) = v 16 c k ∧ nI q < nI c)))
theorem a_best (h : LU F C K M T U (vw j σ) r) {c k : Nat} (hc : c < C) (hk : k < K) : f_X0_hasBestBid σ j (nI c) (nI k) = some (W_b (!an (W_pb (vw j σ) c k) C), σ) := by
  have hC := D_C h
  have hK := D_K h
  unfold f_X0_hasBestBid
  rw [if_neg (by rw [gN (by omega) (by decide)]; exact id), ni_cl (by omega)]
  refine (lpAny (fun n i => f_X0_hasBestBid_11 n σ j (nI c) (nI k) (4 * j + c) i) C (by omega) (W_pb (vw j σ) c k) (0, σ) (1, σ) (fun n q hq => ?_) (fun n => ?_)).trans ?_
  · simp (disch := omega) only [f_X0_hasBestBid_11_s, A_C h, ni_le, p_nle, if_false, a_noted, p_bi, ni_nn, ni_cl, false_or, a_bef, W_b0, f_X0_hasBestBid_55, f_X0_hasBestBid_53, ni_1]
    unfold W_pb
    rw [show vw j σ 18 c (4 * k + q) = σ 18 (4 * j + c) (4 * k + q) from rfl, show vw j σ 16 c k = σ 16 (4 * j + c) k from rfl]
    rcases (h.2.2.2.2.2.2.2.1 c hc k hk).2.2.2.2.2 q (by omega) with e | ⟨n9, e1, e2⟩
    · have e' : σ 18 (4 * j + c) (4 * k + q) = -1 := e
      rw [e', if_pos (by decide), decide_eq_false (fun z => z.1 rfl), if_neg (by decide)]
    · have e2' : σ 18 (4 * j + c) (4 * k + q) = nI n9 := e2
      rw [e2', if_neg (by rw [ni_nn (by omega)]; exact id)]
      by_cases w : nI n9 < σ 16 (4 * j + c) k ∨ nI n9 = σ 16 (4 * j + c) k ∧ nI q < nI c
      · rw [decide_eq_true w, decide_eq_true ⟨by rw [Ne, nm_1 (by omega)]; exact id, w⟩, if_neg (by decide), if_pos rfl]
      · rw [decide_eq_false w, decide_eq_false (fun z => w z.2), if_pos rfl, if_neg (by decide)]
  · simp (disch := omega) only [f_X0_hasBestBid_11_s, A_C h, ni_le, Nat.le_refl, if_true, f_X0_hasBestBid_61]
  · cases an (W_pb (vw j σ) c k) C <;> rfl
end PX
section TK
variable {F C K M T U j : Nat} {σ τ v : Sg} {r : Nat → Int32}
/-- the law's loop over the bids -/
theorem l_best (h : LU F C K M T U v (rwL τ)) {c k : Nat} (hc : c < C) (hk : k < K) (ho : τ 43 (4 * k + c) 1 = v 16 c k) (x : Int32) (k2 : Sg → Int32 → Int32 → Option (Int32 × Sg × Nat)) : f_L_decide_76 k2 FU τ (nI c) (nI k) (4 * k + c) x 0 = f_L_decide_148 k2 τ (nI c) (nI k) (4 * k + c) (if an (W_pb v c k) C = true then 0 else x) := by
  have hC := D_C h
  have hK := D_K h
  obtain ⟨n, y, hy, e⟩ := lpN (fun n (y : Int32) q => f_L_decide_76 k2 n τ (nI c) (nI k) (4 * k + c) y (nI q)) C (by omega) (fun q y => y = if an (W_pb v c k) q = true then 0 else x) (a := x) (fun n q y hq hy => by
    refine ⟨if W_pb v c k q = true then 0 else y, ?_, ?_⟩
    · rw [hy, an_s]
      cases an (W_pb v c k) q <;> cases W_pb v c k q <;> rfl
    · simp (disch := omega) only [f_L_decide_76_s, L_C h, ni_le, p_nle, if_false, ni_nn, ni_cl, false_or, L_bid h hc hk, ho, f_L_decide_142, f_L_decide_139, ni_1]
      unfold W_pb
      rcases (h.2.2.2.2.2.2.2.1 c hc k hk).2.2.2.2.2 q (by omega) with w1 | ⟨n9, hn9, w1⟩
      · rw [w1, if_pos (by decide), decide_eq_false (fun z => z.1 rfl), if_neg (by decide)]
      · have w2 : ¬ nI n9 = -1 := by rw [nm_1 (by omega)]; exact id
        rw [w1, if_neg (by rw [ni_nn (by omega)]; exact id)]
        by_cases w3 : nI n9 < v 16 c k
        · rw [if_pos w3, decide_eq_true ⟨w2, Or.inl w3⟩, if_pos rfl]
        · rw [if_neg w3]
          by_cases w4 : nI n9 = v 16 c k
          · rw [if_pos w4]
            by_cases w5 : c ≤ q
            · rw [if_pos w5, decide_eq_false (fun z => z.2.elim w3 (fun z => absurd z.2 (by rw [ni_lt (by omega) (by omega)]; omega))), if_neg (by decide)]
            · rw [if_neg w5, decide_eq_true ⟨w2, Or.inr ⟨w4, by rw [ni_lt (by omega) (by omega)]; omega⟩⟩, if_pos rfl]
          · rw [if_neg w4, decide_eq_false (fun z => z.2.elim w3 (fun z => w4 z.1)), if_neg (by decide)]) rfl
  refine e.trans ?_
  simp (disch := omega) only [f_L_decide_76_s, L_C h, ni_le, Nat.le_refl, if_true, hy]
theorem l_decide (h : LL F C K M T U j σ τ) (hT : T < 400000) {c : Nat} (hc : c < C) (hM : M + K ≤ 240) :
    ∃ σ' τ' e, f_X0_decide σ j (nI c) = some σ' ∧ f_L_decide τ (nI c) = some (0, τ', e) ∧ ∃ M', LL F C K M' T U j σ' τ' ∧ SQ j σ τ σ' τ' ∧ NX K M (vw j σ) M' (vw j σ') ∧ e + pt τ ≤ pt τ' := by
  have hC := D_C h.1
  have hK := D_K h.1
  obtain ⟨n, m, a, b, D, ⟨M1, hL, hS, hX, hD⟩, i4, i5⟩ := lpL (fun n (a : Sg) k => f_X0_decide_10 n a j (nI c) (4 * j + c) (nI k)) (fun n (b : Sg) k => f_L_decide_2 n b (nI c) (nI k)) K (by omega) (fun k a b D => ∃ M', LL F C K M' T U j a b ∧ SQ j σ τ a b ∧ NX k M (vw j σ) M' (vw j a) ∧ D + pt τ ≤ pt b) (a := σ) (b := τ) (by
    rintro n m k a b D hk ⟨M1, hL, hS, hX, hD⟩
    have hM1 : M1 < 240 := by have := hX.1; omega
    have hdec := (hL.1.2.2.2.2.2.2.2.1 c hc k hk)
    have e17 : b 43 (4 * k + c) 2 = a 17 (4 * j + c) k := L_dec hL.1 hc hk
    have e3' : b 42 k 3 = a 1 (24 * j + k) 3 := L_call hL.1 hk (by decide) (by decide)
    simp (disch := omega) only [f_X0_decide_10_s, f_L_decide_2_s, A_K hL.1, L_K hL.1, N_K hL.1, A_T hL.1, L_T hL.1, ni_le, p_nle, if_false, ni_nn, ni_cl, false_or, e17, f_X0_decide_94, f_L_decide_174, ni_1]
    by_cases w : a 17 (4 * j + c) k = nI T
    · rw [if_pos w, if_pos w]
      have hqq : bt (vw j a 2 c 8) k = true ∨ vw j a 17 c k ≠ -1 := Or.inr (by rw [show vw j a 17 c k = a 17 (4 * j + c) k from rfl, w, Ne, nm_1 (by omega)]; exact id)
      have hq := hdec.2.2.2.1 hqq
      have hown : b 43 (4 * k + c) 1 = vw j a 16 c k := L_own hL.1 hc hk hqq
      have g1 := S_dec hL.1 hc hk (y := -1) (Or.inl rfl) (fun q => absurd rfl q)
      have u1 : rwL (sup b 43 (4 * k + c) 2 (-1)) = ru (rwL b) (511 + 24 * c + k) (-1) := u_43 b (c := c) (k := k) (f := 2) (by omega) (by omega) (by decide) (-1)
      rw [← vs_17, ← u1] at g1
      have s1 : SQ j a b (sup a 17 (4 * j + c) k (-1)) (sup b 43 (4 * k + c) 2 (-1)) := SQ.l (SQ.c (SQ.rf j a b) (O_17 (by omega)) _ _) (by decide) (by decide) _ _ _
      have x1 : NX 0 M1 (vw j a) M1 (vw j (sup a 17 (4 * j + c) k (-1))) := NX.of1 (by rw [vs_17, s_ne (by decide)]) (by rw [vs_17, s_ne (by decide)])
      obtain ⟨hq1, nn, hnn, hq2⟩ := hq
      have e16n : (sup a 17 (4 * j + c) k (-1)) 16 (4 * j + c) k = nI nn := by
        rw [s_ne (by decide)]
        exact hq2
      have e16m : vw j (sup a 17 (4 * j + c) k (-1)) 16 c k = nI nn := e16n
      have eo : (sup b 43 (4 * k + c) 2 (-1)) 43 (4 * k + c) 1 = vw j (sup a 17 (4 * j + c) k (-1)) 16 c k := by
        rw [s_nf (by decide), vs_17, s_ne (by decide)]
        exact hown
      have e16 : rwL (sup b 43 (4 * k + c) 2 (-1)) (415 + 24 * c + k) = vw j (sup a 17 (4 * j + c) k (-1)) 16 c k := (g_43 _ (c := c) (k := k) (f := 1) (by omega) (by omega) (by decide)).trans eo
      have c1 := cb_put (k := 43) (by decide) hL.2 (4 * k + c) 2 (-1)
      have p1 : pt (sup b 43 (4 * k + c) 2 (-1)) = pt b := pt_put (by decide) _ _ _ _
      simp (disch := omega) only [p_st, s_ne, s_nf, ni_nn, ni_cl, p_nle, false_or, if_false, e3', f_L_decide_71, l_best g1 hc hk eo]
      by_cases w3 : a 1 (24 * j + k) 3 = 1
      · rw [if_pos w3, if_pos w3]
        rw [a_best g1 hc hk, p_bi]
        cases hb : an (W_pb (vw j (sup a 17 (4 * j + c) k (-1))) c k) C
        · simp only [Bool.not_false, W_b0, Bool.true_eq_false, Bool.false_eq_true, if_false]
          have g2 := S_hset g1 hc hk ⟨e16, nn, hnn, e16m⟩
          have u2 : rwL (sup (sup b 43 (4 * k + c) 2 (-1)) 43 (4 * k + c) 0 1) = ru (rwL (sup b 43 (4 * k + c) 2 (-1))) (319 + 24 * c + k) 1 := u_43 _ (c := c) (k := k) (f := 0) (by omega) (by omega) (by decide) 1
          rw [← vs_2, ← u2] at g2
          have s2 : SQ j (sup a 17 (4 * j + c) k (-1)) (sup b 43 (4 * k + c) 2 (-1)) _ _ := SQ.l (SQ.c (SQ.rf j _ _) (O_2 (j := j) (k := c) (by omega)) 8 (vw j (sup a 17 (4 * j + c) k (-1)) 2 c 8 ||| (1 <<< (nI k &&& 31)))) (k := 43) (by decide) (by decide) (4 * k + c) 0 1
          obtain ⟨σ', τ', e, k1, k2, k3, k4, k7, k5, k6⟩ := l_send ⟨g2, cb_put (by decide) c1 _ _ _⟩ (d := 2) (s := nI c) (by decide) hk hnn hM1 (Or.inr ⟨by decide, c, hc, rfl⟩)
          rw [pt_put (by decide), p1] at k7
          refine ⟨σ', τ', e, ⟨M1 + 1, k3, hS.trans (s1.trans (s2.trans k4)), (hX.trans (m := 1) ?_), by omega⟩, ?_, ?_⟩
          · refine x1.trans (m := 1) ⟨Nat.le_refl _, ?_, ?_, ?_⟩
            · rw [k5, if_neg (by decide), vs_2]
              unfold V_ann
              rw [s_ne (by decide)]
              rfl
            · intro q f _
              rw [k6 1 (by decide) (by decide) (by decide), vs_2, s_ne (by decide)]
            · intro q
              rw [k6 1 (by decide) (by decide) (by decide), vs_2, s_ne (by decide)]
          · have k1' : f_X4_send (sup (sup a 17 (4 * j + c) k (-1)) 2 (4 * j + c) 8 ((sup a 17 (4 * j + c) k (-1)) 2 (4 * j + c) 8 ||| (1 <<< (nI k &&& 31)))) j (nI c) 2 (nI k) (nI nn) = some σ' := k1
            simp (disch := omega) only [s_ne] at k1' ⊢
            rw [show a 16 (4 * j + c) k = nI nn from hq2, k1']
            rfl
          · have k2' : f_L_send (sup (sup b 43 (4 * k + c) 2 (-1)) 43 (4 * k + c) 0 1) 2 (nI k) (nI c) (nI nn) = some (0, τ', e) := k2
            unfold f_L_decide_148 f_L_decide_174
            rw [if_neg (by decide), p_st, s_nf (by decide), eo, e16m, k2', bq_some, ni_1]
        · simp only [Bool.not_true, W_b0, if_true]
          unfold f_L_decide_148 f_L_decide_174
          exact ⟨_, _, 0, ⟨M1, ⟨g1, c1⟩, hS.trans s1, (hX.trans x1).mono (by omega), by omega⟩, rfl, by rw [if_pos rfl, ni_1, ac_0]⟩
      · rw [if_neg w3, if_neg w3]
        refine ⟨_, _, 0, ⟨M1, ⟨g1, c1⟩, hS.trans s1, (hX.trans x1).mono (by omega), by omega⟩, rfl, ?_⟩
        unfold f_L_decide_148 f_L_decide_174
        rw [show (if an (W_pb (vw j (sup a 17 (4 * j + c) k (-1))) c k) C = true then (0 : Int32) else 0) = 0 from ite_self 0, if_pos rfl, ni_1, ac_0]
    · rw [if_neg w, if_neg w]
      exact ⟨a, b, 0, ⟨M1, hL, hS, hX.mono (Nat.le_succ k), hD⟩, rfl, (ac_0 _).symm⟩) ⟨M, h, SQ.rf j σ τ, NX.rf M _, by omega⟩
  refine ⟨a, b, D, ?_, ?_, M1, hL, hS, hX, hD⟩
  · unfold f_X0_decide
    rw [if_neg (by rw [gN (by omega) (by decide)]; exact id), ni_cl (by omega)]
    refine Eq.trans i4 ?_
    simp (disch := omega) only [f_X0_decide_10_s, A_K hL.1, ni_le, Nat.le_refl, if_true, f_X0_decide_100]
  · unfold f_L_decide
    refine Eq.trans i5 ?_
    simp (disch := omega) only [f_L_decide_2_s, L_K hL.1, ni_le, Nat.le_refl, if_true, f_L_decide_180, ac_some, Nat.add_zero]
end TK
