/-! a tick of both: what a car hears -/
section PX
variable {F C K M T U j : Nat} {σ ρ v : Sg} {r : Nat → Int32}
theorem q_4 {q : Nat} (h : q < 2147483648) : ((4 : Int32) ≤ nI q) = (4 ≤ q) := by
  rw [show (4 : Int32) = nI 4 from rfl, ni_le (by omega) h]
theorem lpE {A B R1 R2 : Type} (g : Nat → A → Int32 → R1) (h : Nat → B → Int32 → R2) (N : Nat) (hN : N < 65536) (Inv : Nat → A → B → Prop)
    (step : ∀ n m k a b, k < N → Inv k a b → ∃ a' b', Inv (k + 1) a' b' ∧ g (n + 1) a (nI k) = g n a' (nI (k + 1)) ∧ h (m + 1) b (nI k) = h m b' (nI (k + 1))) {a : A} {b : B} (h0 : Inv 0 a b) :
    ∃ n m a' b', Inv N a' b' ∧ g FU a (nI 0) = g (n + 1) a' (nI N) ∧ h FU b (nI 0) = h (m + 1) b' (nI N) := by
  have key : ∀ k, k ≤ N → ∃ a' b', Inv k a' b' ∧ g (65535 - k + 1) a' (nI k) = g FU a (nI 0) ∧ h (65535 - k + 1) b' (nI k) = h FU b (nI 0) := by
    intro k
    induction k with
    | zero => intro _; exact ⟨a, b, h0, rfl, rfl⟩
    | succ k ih =>
      intro hk
      obtain ⟨a', b', i1, i2, i3⟩ := ih (by omega)
      obtain ⟨a2, b2, j1, j2, j3⟩ := step (65535 - (k + 1) + 1) (65535 - (k + 1) + 1) k a' b' (by omega) i1
      rw [show 65535 - (k + 1) + 1 = 65535 - k by omega] at j2 j3
      refine ⟨a2, b2, j1, ?_, ?_⟩
      · rw [show 65535 - (k + 1) + 1 = 65535 - k by omega]
        exact j2.symm.trans i2
      · rw [show 65535 - (k + 1) + 1 = 65535 - k by omega]
        exact j3.symm.trans i3
  obtain ⟨a', b', i1, i2, i3⟩ := key N (Nat.le_refl N)
  exact ⟨_, _, a', b', i1, i2.symm, i3.symm⟩
theorem ru_same {r : Nat → Int32} {q : Nat} {y : Int32} (h : r q = y) : ru r q y = r := by
  funext i
  unfold ru
  by_cases e : i = q
  · rw [if_pos e, e, h]
  · rw [if_neg e]
theorem a_bef (σ : Sg) (x y z w : Int32) : f_X0_isBefore σ x y z w = some (W_b (decide (x < z ∨ (x = z ∧ y < w))), σ) := by
  unfold f_X0_isBefore
  by_cases h1 : x < z
  · rw [if_pos h1, decide_eq_true (Or.inl h1)]; rfl
  · rw [if_neg h1]
    by_cases h2 : x = z
    · rw [if_pos h2]
      by_cases h3 : w ≤ y
      · rw [if_pos h3, decide_eq_false (fun q => q.elim h1 (fun q => absurd q.2 (Int32.not_lt.mpr h3)))]; rfl
      · rw [if_neg h3, decide_eq_true (Or.inr ⟨h2, Int32.not_le.mp h3⟩)]; rfl
    · rw [if_neg h2, decide_eq_false (fun q => q.elim h1 (fun q => h2 q.1))]; rfl
end PX
theorem cl0 : (0 : Int32).toNatClampNeg = 0 := rfl
theorem cl1 : (1 : Int32).toNatClampNeg = 1 := rfl
theorem cl2 : (2 : Int32).toNatClampNeg = 2 := rfl
theorem cl3 : (3 : Int32).toNatClampNeg = 3 := rfl
section TK
variable {F C K M T U j : Nat} {σ τ v : Sg} {r : Nat → Int32}
theorem l_bids (h : LL F C K M T U j σ τ) {c k : Nat} (hc : c < C) (hk : k < K) (o2 : Nat) :
    ∃ σ' τ', f_X2_dropBids σ (4 * j + c) (nI k) = some σ' ∧ f_L_hear_86 FU τ (nI c) o2 k (4 * k + c) 0 = f_L_hear_107 τ' (nI c) o2 k (4 * k + c) ∧ LL F C K M T U j σ' τ' ∧ SQ j σ τ σ' τ' ∧ (∀ q, q ≠ 18 → vw j σ' q = vw j σ q) ∧ pt τ' = pt τ := by
  have hC := D_C h.1
  have hK := D_K h.1
  obtain ⟨n, m, a, b, D, ⟨rfl, i1, i2, i3, i6⟩, i4, i5⟩ := lpL (fun n (a : Sg) q => f_X2_dropBids_2 n a (4 * j + c) (nI k) (nI q)) (fun n (b : Sg) q => f_L_hear_86 n b (nI c) o2 k (4 * k + c) (nI q)) 4 (by decide) (fun _ a b D => D = 0 ∧ LL F C K M T U j a b ∧ SQ j σ τ a b ∧ (∀ q, q ≠ 18 → vw j a q = vw j σ q) ∧ pt b = pt τ) (a := σ) (b := τ) (by
    rintro n m q a b D hq ⟨rfl, i1, i2, i3, i6⟩
    have g := S_note i1.1 hc hk hq (Or.inl rfl)
    have e := u_44 b (c := c) (k := k) (i := q) (by omega) (by omega) hq (-1)
    rw [← vs_18, ← e] at g
    refine ⟨_, sup b 44 (4 * k + c) q (-1), 0, ⟨rfl, ⟨g, cb_put (by decide) i1.2 _ _ _⟩, SQ.l (SQ.c i2 (O_18 (by omega)) _ _) (by decide) (by decide) _ _ _, fun q' h' => by rw [vs_18, s_ne h']; exact i3 q' h', by rw [pt_put (by decide)]; exact i6⟩, ?_, ?_⟩
    · simp (disch := omega) only [f_X2_dropBids_2_s, f_X2_noteBid, q_4, p_nle, if_false, ni_4m, ni_add, ni_nn, ni_cl, false_or, p_st, p_bv, ni_1]
    · simp (disch := omega) only [f_L_hear_86_s, q_4, p_nle, if_false, ni_nn, ni_cl, false_or, p_st, ni_1, ac_0]) ⟨rfl, h, SQ.rf j σ τ, fun _ _ => rfl, rfl⟩
  refine ⟨a, b, ?_, ?_, i1, i2, i3, i6⟩
  · unfold f_X2_dropBids
    refine Eq.trans i4 ?_
    simp (disch := omega) only [f_X2_dropBids_2_s, q_4, Nat.le_refl, if_true, f_X2_dropBids_20]
  · refine Eq.trans i5 ?_
    rw [ac_0]
    simp (disch := omega) only [f_L_hear_86_s, q_4, Nat.le_refl, if_true]
theorem l_hearA (h : LL F C K M T U j σ τ) (hT : T < 400000) {c k i : Nat} (hc : c < C) (hk : k < K) (hM : M < 240) (m0 : τ 51 i 0 = 0) (m1 : τ 51 i 1 = nI k) :
    ∃ σ' τ' e, f_X0_hearAnnouncement σ j (nI c) (nI k) = some σ' ∧ f_L_hear τ (nI c) i = some (0, τ', e) ∧ ∃ M', LL F C K M' T U j σ' τ' ∧ SQ j σ τ σ' τ' ∧ NX 1 M (vw j σ) M' (vw j σ') ∧ e + pt τ ≤ pt τ' := by
  have hC := D_C h.1
  have hK := D_K h.1
  have e3' : τ 41 c 3 = σ 2 (4 * j + c) 3 := L_car h.1 hc (by decide)
  have s3' : τ 42 k 3 = σ 1 (24 * j + k) 3 := L_call h.1 hk (by decide) (by decide)
  have eh := L_held h.1 hc hk
  unfold f_X0_hearAnnouncement f_L_hear
  simp (disch := omega) only [cl0, cl1, cl2, cl3, m0, m1, N_K h.1, N_C h.1, ni_nn, ni_cl, p_nle, false_or, if_false, if_true, e3', s3', a_isH, p_bi, eh, W_b0, f_L_hear_216]
  rw [show (bt (vw j σ 2 c 8) k) = bt (σ 2 (4 * j + c) 8) k from rfl]
  have st : σ 2 (4 * j + c) 3 = 0 ∨ σ 2 (4 * j + c) 3 = 1 := (h.1.2.2.2.1 c hc).2.2.2.2.1
  rcases st with st | st
  · rw [st, if_pos (show (0 : Int32) = 0 from rfl), if_pos (show (0 : Int32) = 0 from rfl)]
    by_cases hb : bt (σ 2 (4 * j + c) 8) k = false
    · rw [if_pos hb, if_pos hb]
      by_cases hs : σ 1 (24 * j + k) 3 = 1
      · rw [if_pos hs, if_pos hs]
        obtain ⟨a, b, i1, i2, i3, i4, i5, i6⟩ := l_bids h hc hk i
        obtain ⟨fa, fb, hfa, hfb, hne, hfrom, hto⟩ := (i3.1.2.2.2.2.1 k hk).2.2.1
        have hfrom' : a 1 (24 * j + k) 0 = nI fa := hfrom
        obtain ⟨n, hn, hW⟩ := W_cost_le i3.1 hc hfa
        have g1 := S_cost i3.1 hc hk hn
        have g2 := S_dec g1 hc hk (y := nI (T + 2)) (Or.inr ⟨T + 2, Nat.le_refl _, rfl⟩) (fun _ => ⟨by rw [ru_eq, s_at], n, hn, s_at _ _ _ _ _⟩)
        have e1 := u_43 b (c := c) (k := k) (f := 1) (by omega) (by omega) (by decide) (nI n)
        have e2 := u_43 (sup b 43 (4 * k + c) 1 (nI n)) (c := c) (k := k) (f := 2) (by omega) (by omega) (by decide) (nI (T + 2))
        rw [e1] at e2
        rw [← vs_16, ← vs_17] at g2
        have g3 : LL F C K M T U j (sup (sup a 16 (4 * j + c) k (nI n)) 17 (4 * j + c) k (nI (T + 2))) (sup (sup b 43 (4 * k + c) 1 (nI n)) 43 (4 * k + c) 2 (nI (T + 2))) := ⟨by rw [e2]; exact g2, cb_put (by decide) (cb_put (by decide) i3.2 _ _ _) _ _ _⟩
        obtain ⟨σ', τ', e, k1, k2, k3, k4, k7, k5, k6⟩ := l_send g3 (d := 1) (s := nI c) (by decide) hk hn hM (Or.inr ⟨by decide, c, hc, rfl⟩)
        rw [pt_put (by decide), pt_put (by decide), i6] at k7
        have k1' : f_X4_send (sup (sup a 16 (4 * j + c) k (nI n)) 17 (4 * j + c) k (nI (T + 2))) j (nI c) 1 (nI k) (nI n) = some σ' := k1
        have k2' : f_L_send (sup (sup b 43 (4 * k + c) 1 (nI n)) 43 (4 * k + c) 2 (nI (T + 2))) 1 (nI k) (nI c) (nI n) = some (0, τ', e) := k2
        have sg : SQ j a b (sup (sup a 16 (4 * j + c) k (nI n)) 17 (4 * j + c) k (nI (T + 2))) (sup (sup b 43 (4 * k + c) 1 (nI n)) 43 (4 * k + c) 2 (nI (T + 2))) := SQ.l (SQ.l (SQ.c (SQ.c (SQ.rf j a b) (O_16 (by omega)) _ _) (O_17 (by omega)) _ _) (by decide) (by decide) _ _ _) (by decide) (by decide) _ _ _
        have m1' : b 51 i 1 = nI k := by rw [i4.2.1]; exact m1
        refine ⟨σ', τ', 2 + (e + 0), ?_, ?_, M + 1, k3, i4.trans (sg.trans k4), ⟨Nat.le_refl _, ?_, ?_, ?_⟩, by omega⟩
        · simp (disch := omega) only [i1, p_bv, p_st, hfrom', a_cost i3.1 hc, hW, p_bi, s_ne, s_at, A_T i3.1, ni_2, k1', f_X0_hearAnnouncement_110]
        · rw [i2]
          unfold f_L_hear_107
          rw [l_cost i3.1 hc hk, bq_some, hfrom, hW]
          simp (disch := omega) only [p_st, cl1, s_nf, s_ne, s_at, L_T i3.1, ni_2, m1', k2', bq_some, ac_some, f_L_hear_216]
        · rw [k5, if_neg (by decide), vs_17, vs_16]
          unfold V_ann
          rw [s_ne (by decide), s_ne (by decide), i5 21 (by decide)]
          rfl
        · intro q f _
          rw [k6 1 (by decide) (by decide) (by decide), vs_17, vs_16, s_ne (by decide), s_ne (by decide), i5 1 (by decide)]
        · intro q
          rw [k6 1 (by decide) (by decide) (by decide), vs_17, vs_16, s_ne (by decide), s_ne (by decide), i5 1 (by decide)]
      · rw [if_neg hs, if_neg hs]
        exact ⟨σ, τ, 0, rfl, rfl, M, h, SQ.rf j σ τ, (NX.rf M _).mono (by decide), by omega⟩
    · rw [if_neg hb, if_neg hb]
      have hb' : bt (vw j σ 2 c 8) k = true := by
        rw [show bt (vw j σ 2 c 8) k = bt (σ 2 (4 * j + c) 8) k from rfl]
        cases hq : bt (σ 2 (4 * j + c) 8) k
        · exact absurd hq hb
        · rfl
      obtain ⟨hc1, n, hn, hc2⟩ := (h.1.2.2.2.2.2.2.2.1 c hc k hk).2.2.2.1 (Or.inl hb')
      have hc2' : σ 16 (4 * j + c) k = nI n := hc2
      have hc1' : τ 43 (4 * k + c) 1 = nI n := (L_own h.1 hc hk (Or.inl hb')).trans hc2
      obtain ⟨σ', τ', e, k1, k2, k3, k4, k7, k5, k6⟩ := l_send h (d := 2) (s := nI c) (by decide) hk hn hM (Or.inr ⟨by decide, c, hc, rfl⟩)
      have k1' : f_X4_send σ j (nI c) 2 (nI k) (nI n) = some σ' := k1
      have k2' : f_L_send τ 2 (nI k) (nI c) (nI n) = some (0, τ', e) := k2
      refine ⟨σ', τ', e + 0, ?_, ?_, M + 1, k3, k4, ⟨Nat.le_refl _, ?_, ?_, ?_⟩, by omega⟩
      · simp (disch := omega) only [ni_nn, ni_cl, p_nle, false_or, if_false, hc2', k1', p_bv, f_X0_hearAnnouncement_110]
      · simp only [hc1', k2', bq_some, ac_some]
      · rw [k5, if_neg (by decide)]
        rfl
      · intro q f _
        rw [k6 1 (by decide) (by decide) (by decide)]
      · intro q
        rw [k6 1 (by decide) (by decide) (by decide)]
  · rw [st, if_neg (show ¬ ((1 : Int32) = 0) by decide), if_neg (show ¬ ((1 : Int32) = 0) by decide)]
    exact ⟨σ, τ, 0, rfl, rfl, M, h, SQ.rf j σ τ, (NX.rf M _).mono (by decide), by omega⟩
theorem l_report (h : LL F C K M T U j σ τ) {c k i : Nat} (hc : c < C) (hk : k < K) (m0 : τ 51 i 0 = 3) (m1 : τ 51 i 1 = nI k) :
    ∃ σ' τ', f_X2_hearReport σ (4 * j + c) (nI k) = some σ' ∧ f_L_hear τ (nI c) i = some (0, τ', 0) ∧ LL F C K M T U j σ' τ' ∧ SQ j σ τ σ' τ' ∧ (∀ q, q ≠ 2 → q ≠ 17 → vw j σ' q = vw j σ q) ∧ pt τ' = pt τ := by
  have hC := D_C h.1
  have hK := D_K h.1
  have g1 := S_hclr (S_dec h.1 hc hk (y := -1) (Or.inl rfl) (fun q => absurd rfl q)) hc hk
  rw [← vs_17, ← vs_2] at g1
  have e1 := u_43 τ (c := c) (k := k) (f := 2) (by omega) (by omega) (by decide) (-1)
  have e2 := u_43 (sup τ 43 (4 * k + c) 2 (-1)) (c := c) (k := k) (f := 0) (by omega) (by omega) (by decide) 0
  rw [e1] at e2
  refine ⟨sup (sup σ 17 (4 * j + c) k (-1)) 2 (4 * j + c) 8 (vw j (sup σ 17 (4 * j + c) k (-1)) 2 c 8 &&& ((1 <<< (nI k &&& 31)) ^^^ (-1))), sup (sup τ 43 (4 * k + c) 2 (-1)) 43 (4 * k + c) 0 0, ?_, ?_, ⟨?_, cb_put (by decide) (cb_put (by decide) h.2 _ _ _) _ _ _⟩, SQ.l (SQ.l (SQ.c (SQ.c (SQ.rf j σ τ) (O_17 (by omega)) _ _) (O_2 (by omega)) _ _) (by decide) (by decide) _ _ _) (by decide) (by decide) _ _ _, ?_, ?_⟩
  · unfold f_X2_hearReport f_X2_dropCall
    simp (disch := omega) only [ni_nn, ni_cl, p_nle, false_or, if_false, p_st, p_bv]
    rfl
  · unfold f_L_hear f_L_hear_210 f_L_hear_216
    simp (disch := omega) only [cl0, cl1, cl2, cl3, m0, m1, N_K h.1, ni_nn, ni_cl, p_nle, false_or, if_false, p_st, s_ne]
    rw [if_neg (by decide), if_neg (by decide), if_pos trivial]
  · rw [e2]
    exact g1
  · intro q h1 h2
    rw [vs_2, vs_17, s_ne h1, s_ne h2]
  · rw [pt_put (by decide), pt_put (by decide)]
theorem l_claim (h : LL F C K M T U j σ τ) {c k i : Nat} (hc : c < C) (hk : k < K) (hi : i < 240) (f22 : σ 22 13 i = nI k) (m0 : τ 51 i 0 = 2) (m1 : τ 51 i 1 = nI k) (m2 : τ 51 i 2 = σ 20 13 i) (m3 : τ 51 i 3 = σ 23 13 i) :
    ∃ σ' τ', f_X0_hearClaim σ j (nI i) (nI c) = some σ' ∧ f_L_hear τ (nI c) i = some (0, τ', 0) ∧ LL F C K M T U j σ' τ' ∧ SQ j σ τ σ' τ' ∧ (∀ q, q ≠ 2 → q ≠ 17 → vw j σ' q = vw j σ q) ∧ pt τ' = pt τ := by
  have hC := D_C h.1
  have hK := D_K h.1
  have g0 := S_dec h.1 hc hk (y := -1) (Or.inl rfl) (fun q => absurd rfl q)
  have g1 := S_hclr g0 hc hk
  have e1 : rwL (sup τ 43 (4 * k + c) 2 (-1)) = ru (rwL τ) (511 + 24 * c + k) (-1) := u_43 τ (c := c) (k := k) (f := 2) (by omega) (by omega) (by decide) (-1)
  have e2 : rwL (sup (sup τ 43 (4 * k + c) 2 (-1)) 43 (4 * k + c) 0 0) = ru (rwL (sup τ 43 (4 * k + c) 2 (-1))) (319 + 24 * c + k) 0 := u_43 (sup τ 43 (4 * k + c) 2 (-1)) (c := c) (k := k) (f := 0) (by omega) (by omega) (by decide) 0
  rw [← vs_17, ← e1] at g0
  rw [← vs_17, ← vs_2, ← e1, ← e2] at g1
  have hh : ∀ hx : bt (vw j σ 2 c 8) k = true, τ 43 (4 * k + c) 1 = σ 16 (4 * j + c) k := fun hx => L_own h.1 hc hk (Or.inl hx)
  have s0 : SQ j σ τ (sup σ 17 (4 * j + c) k (-1)) (sup τ 43 (4 * k + c) 2 (-1)) := SQ.l (SQ.c (SQ.rf j σ τ) (O_17 (by omega)) _ _) (by decide) (by decide) _ _ _
  have c0 := cb_put (k := 43) (by decide) h.2 (4 * k + c) 2 (-1)
  have c1 := cb_put (k := 43) (by decide) c0 (4 * k + c) 0 0
  have p0 : pt (sup τ 43 (4 * k + c) 2 (-1)) = pt τ := pt_put (by decide) _ _ _ _
  have p1 : pt (sup (sup τ 43 (4 * k + c) 2 (-1)) 43 (4 * k + c) 0 0) = pt τ := by rw [pt_put (by decide), p0]
  unfold f_X0_hearClaim f_X0_hearClaim_68 f_X2_dropCall f_L_hear f_L_hear_210 f_L_hear_216
  simp (disch := omega) only [cl0, cl1, cl2, cl3, m0, m1, N_K h.1, ni_nn, ni_cl, p_nle, false_or, if_false, p_st, s_ne, s_nf, p_bv, p_bi, a_bef, f22, W_b0, m2, m3]
  rw [if_neg (show ¬ (2 : Int32) = 0 by decide), if_neg (show ¬ (2 : Int32) = 1 by decide), if_neg (show ¬ (2 : Int32) = 3 by decide)]
  -- the law's own test
  have lt : ∀ (x y z w : Int32) (A B : Option (Int32 × Sg × Nat)), (if x < z then A else if x = z then if w ≤ y then B else A else B) = if decide (x < z ∨ x = z ∧ y < w) = false then B else A := by
    intro x y z w A B
    by_cases h1 : x < z
    · rw [if_pos h1, if_neg (by rw [decide_eq_true (Or.inl h1)]; decide)]
    · rw [if_neg h1]
      by_cases h2 : x = z
      · rw [if_pos h2]
        by_cases h3 : w ≤ y
        · rw [if_pos h3, if_pos (decide_eq_false (fun q => q.elim h1 (fun q => absurd q.2 (Int32.not_lt.mpr h3))))]
        · rw [if_neg h3, if_neg (by rw [decide_eq_true (Or.inr ⟨h2, Int32.not_le.mp h3⟩)]; decide)]
      · rw [if_neg h2, if_pos (decide_eq_false (fun q => q.elim h1 (fun q => h2 q.1)))]
  rw [lt]
  by_cases hb : bt (vw j σ 2 c 8) k = false
  · -- not held: dropping changes nothing
    have z : rwL (sup τ 43 (4 * k + c) 2 (-1)) (319 + 24 * c + k) = 0 := by
      rw [e1, ru_ne (by omega), B_held h.1 hc hk, hb]
      rfl
    have e3 : rwL (sup (sup τ 43 (4 * k + c) 2 (-1)) 43 (4 * k + c) 0 0) = rwL (sup τ 43 (4 * k + c) 2 (-1)) := by rw [e2, ru_same z]
    have g2 := g0
    rw [← e3] at g2
    have g3 := g1
    rw [e3] at g3
    have s1 := SQ.c s0 (O_2 (j := j) (k := c) (by omega)) 8 ((sup σ 17 (4 * j + c) k (-1)) 2 (4 * j + c) 8 &&& ((1 <<< (nI k &&& 31)) ^^^ (-1)))
    by_cases w : decide (σ 23 13 i < σ 16 (4 * j + c) k ∨ σ 23 13 i = σ 16 (4 * j + c) k ∧ σ 20 13 i < nI c) = false <;> by_cases w2 : decide (σ 23 13 i < τ 43 (4 * k + c) 1 ∨ σ 23 13 i = τ 43 (4 * k + c) 1 ∧ σ 20 13 i < nI c) = false
    · rw [if_pos w, if_pos w2]
      exact ⟨_, _, rfl, rfl, ⟨g0, c0⟩, s0, fun q h1 h2 => by rw [vs_17, s_ne h2], p0⟩
    · rw [if_pos w, if_neg w2]
      exact ⟨_, _, rfl, rfl, ⟨g2, c1⟩, SQ.l s0 (by decide) (by decide) _ _ _, fun q h1 h2 => by rw [vs_17, s_ne h2], p1⟩
    · rw [if_neg w, if_pos w2]
      exact ⟨_, _, rfl, rfl, ⟨g3, c0⟩, s1, fun q h1 h2 => by rw [vs_2, vs_17, s_ne h1, s_ne h2], p0⟩
    · rw [if_neg w, if_neg w2]
      exact ⟨_, _, rfl, rfl, ⟨g1, c1⟩, SQ.l s1 (by decide) (by decide) _ _ _, fun q h1 h2 => by rw [vs_2, vs_17, s_ne h1, s_ne h2], p1⟩
  · have hb' : bt (vw j σ 2 c 8) k = true := by
      cases hq : bt (vw j σ 2 c 8) k
      · exact absurd hq hb
      · rfl
    rw [hh hb']
    by_cases w : decide (σ 23 13 i < σ 16 (4 * j + c) k ∨ σ 23 13 i = σ 16 (4 * j + c) k ∧ σ 20 13 i < nI c) = false
    · rw [if_pos w, if_pos w]
      exact ⟨_, _, rfl, rfl, ⟨g0, c0⟩, s0, fun q h1 h2 => by rw [vs_17, s_ne h2], p0⟩
    · rw [if_neg w, if_neg w]
      exact ⟨_, _, rfl, rfl, ⟨g1, c1⟩, SQ.l (SQ.c s0 (O_2 (by omega)) _ _) (by decide) (by decide) _ _ _, fun q h1 h2 => by rw [vs_2, vs_17, s_ne h1, s_ne h2], p1⟩
end TK
