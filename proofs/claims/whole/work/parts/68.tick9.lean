/-! a tick: phase 4; loops that look for one -/
def an (P : Nat → Bool) (n : Nat) : Bool := fo (fun k s => s || P k) n false
theorem an_s (P : Nat → Bool) (n : Nat) : an P (n + 1) = (an P n || P n) := rfl
theorem an_iff (P : Nat → Bool) (n : Nat) : an P n = true ↔ ∃ k, k < n ∧ P k = true := by
  induction n with
  | zero => exact ⟨fun q => absurd (show false = true from q) (by decide), fun ⟨k, h, _⟩ => by omega⟩
  | succ n ih =>
    rw [an_s, Bool.or_eq_true, ih]
    constructor
    · rintro (⟨k, h1, h2⟩ | h)
      · exact ⟨k, by omega, h2⟩
      · exact ⟨n, by omega, h⟩
    · rintro ⟨k, h1, h2⟩
      by_cases e : k = n
      · subst e; exact Or.inr h2
      · exact Or.inl ⟨k, by omega, h2⟩
theorem an_no {P : Nat → Bool} {n : Nat} (h : ∀ k, k < n → P k = false) : an P n = false := by
  cases e : an P n
  · rfl
  · obtain ⟨k, h1, h2⟩ := (an_iff P n).mp e
    rw [h k h1] at h2
    exact absurd h2 (by decide)
theorem an_yes {P : Nat → Bool} {n k : Nat} (h : k < n) (h1 : P k = true) : an P n = true := (an_iff P n).mpr ⟨k, h, h1⟩
theorem an_congr {P Q : Nat → Bool} {n : Nat} (h : ∀ k, k < n → P k = Q k) : an P n = an Q n := fo_congr (fun k hk s => by rw [h k hk]) false
theorem lpE1 {A R : Type} (g : Nat → A → Int32 → R) (N : Nat) (hN : N < 65536) (Inv : Nat → A → Prop)
    (step : ∀ n k a, k < N → Inv k a → ∃ a', Inv (k + 1) a' ∧ g (n + 1) a (nI k) = g n a' (nI (k + 1))) {a : A} (h0 : Inv 0 a) :
    ∃ n a', Inv N a' ∧ g FU a (nI 0) = g (n + 1) a' (nI N) := by
  obtain ⟨n, m, a', b', i1, i2, i3⟩ := lpE g (fun (_ : Nat) (_ : Unit) (_ : Int32) => ()) N hN (fun k a _ => Inv k a) (fun n m k a b hk hI => by
    obtain ⟨a', j1, j2⟩ := step n k a hk hI
    exact ⟨a', (), j1, j2, rfl⟩) (a := a) (b := ()) h0
  exact ⟨n, a', i1, i2⟩
theorem lpAny {R : Type} (g : Nat → Int32 → Option R) (N : Nat) (hN : N < 65536) (P : Nat → Bool) (r1 r0 : R)
    (step : ∀ n k, k < N → g (n + 1) (nI k) = if P k = true then some r1 else g n (nI (k + 1))) (fin : ∀ n, g (n + 1) (nI N) = some r0) :
    g FU (nI 0) = some (if an P N = true then r1 else r0) := by
  have key : ∀ n k, k ≤ N → N - k < n → (∀ i, i < k → P i = false) → g n (nI k) = some (if an P N = true then r1 else r0) := by
    intro n
    induction n with
    | zero => intro k _ h _; omega
    | succ n ih =>
      intro k hk hn hI
      rcases Nat.lt_or_ge k N with h | h
      · rw [step n k h]
        cases e : P k
        · rw [if_neg (by decide)]
          exact ih (k + 1) h (by omega) (fun i hi => by
            by_cases w : i = k
            · subst w; exact e
            · exact hI i (by omega))
        · rw [if_pos rfl, an_yes h e, if_pos rfl]
      · have : k = N := by omega
        subst this
        rw [fin n, an_no hI, if_neg (by decide)]
  exact key FU 0 (Nat.zero_le N) (by show N - 0 < 65536; omega) (fun i hi => by omega)
section TK
variable {F C K M T U j : Nat} {σ ρ v : Sg} {r : Nat → Int32}
/-- a noted bid that is better than the car's own -/
def W_pb (v : Sg) (c k : Nat) (q : Nat) : Bool := decide (v 18 c (4 * k + q) ≠ -1 ∧ (v 18 c (4 * k + q) < v 16 c k ∨ (v 18 c (4 * k + q) = v 16 c k ∧ nI q < nI c)))
theorem a_best (h : LU F C K M T U (vw j σ) r) {c k : Nat} (hc : c < C) (hk : k < K) : f_X0_hasBestBid σ j (nI c) (nI k) = some (W_b (!an (W_pb (vw j σ) c k) C), σ) := by
  have hC := D_C h
  have hK := D_K h
  unfold f_X0_hasBestBid
  rw [if_neg (by rw [gN (by omega) (by decide)]; exact id), ni_cl (by omega)]
  refine (lpAny (fun n i => f_X0_hasBestBid_11 n σ j (nI c) (nI k) (4 * j + c) i) C (by omega) (W_pb (vw j σ) c k) (0, σ) (1, σ) (fun n q hq => ?_) (fun n => ?_)).trans ?_
  · simp (disch := omega) only [f_X0_hasBestBid_11_s, A_C h, ni_le, p_nle, if_false, a_noted, p_bi, ni_nn, ni_cl, false_or, a_bef, W_b0, f_X0_hasBestBid_55, f_X0_hasBestBid_53, ni_1]
    unfold W_pb
    rw [show vw j σ 18 c (4 * k + q) = σ 18 (4 * j + c) (4 * k + q) from rfl, show vw j σ 16 c k = σ 16 (4 * j + c) k from rfl]
    rcases (h.2.2.2.2.2.2.2.1 c hc k hk).2.2.2.2.2 q (by omega) with e | ⟨n9, e1, e2⟩
    · have e' : σ 18 (4 * j + c) (4 * k + q) = -1 := e
      rw [e', if_pos (by decide), decide_eq_false (fun z => z.1 rfl), if_neg (by decide)]
    · have e2' : σ 18 (4 * j + c) (4 * k + q) = nI n9 := e2
      rw [e2', if_neg (by rw [ni_nn (by omega)]; exact id)]
      by_cases w : nI n9 < σ 16 (4 * j + c) k ∨ nI n9 = σ 16 (4 * j + c) k ∧ nI q < nI c
      · rw [decide_eq_true w, decide_eq_true ⟨by rw [Ne, nm_1 (by omega)]; exact id, w⟩, if_neg (by decide), if_pos rfl]
      · rw [decide_eq_false w, decide_eq_false (fun z => w z.2), if_pos rfl, if_neg (by decide)]
  · simp (disch := omega) only [f_X0_hasBestBid_11_s, A_C h, ni_le, Nat.le_refl, if_true, f_X0_hasBestBid_61]
  · cases an (W_pb (vw j σ) c k) C <;> rfl
/-- the reference's loop over the bids -/
theorem b_best (h : LU F C K M T U v (ρ 30 0)) {c k : Nat} (hc : c < C) (hk : k < K) (x : Int32) (k2 : Sg → Int32 → Int32 → Option Sg) : f_X8_decides_88 k2 FU ρ (nI c) (nI k) x (v 16 c k) 0 = f_X8_decides_140 k2 ρ (nI c) (nI k) (if an (W_pb v c k) C = true then 0 else x) (v 16 c k) := by
  have hC := D_C h
  have hK := D_K h
  obtain ⟨n, y, hy, e⟩ := lpE1 (fun n (y : Int32) q => f_X8_decides_88 k2 n ρ (nI c) (nI k) y (v 16 c k) q) C (by omega) (fun q y => y = if an (W_pb v c k) q = true then 0 else x) (a := x) (fun n q y hq hy => by
    refine ⟨if W_pb v c k q = true then 0 else y, ?_, ?_⟩
    · rw [hy, an_s]
      cases an (W_pb v c k) q <;> cases W_pb v c k q <;> rfl
    · simp (disch := omega) only [f_X8_decides_88_s, B_C h, ni_le, p_nle, if_false, b_at, p_bi, ni_nn, ni_cl, false_or, b_noted h hc hk, b_bef, W_b0, f_X8_decides_134, ni_1]
      unfold W_pb
      by_cases w1 : v 18 c (4 * k + q) = -1
      · rw [if_pos w1, decide_eq_false (fun z => z.1 w1), if_neg (by decide)]
      · rw [if_neg w1]
        by_cases w : v 18 c (4 * k + q) < v 16 c k ∨ v 18 c (4 * k + q) = v 16 c k ∧ nI q < nI c
        · rw [decide_eq_true w, decide_eq_true ⟨w1, w⟩, if_neg (by decide), if_pos rfl]
        · rw [decide_eq_false w, decide_eq_false (fun z => w z.2), if_pos rfl, if_neg (by decide)]) rfl
  refine e.trans ?_
  simp (disch := omega) only [f_X8_decides_88_s, B_C h, ni_le, Nat.le_refl, if_true, hy]
theorem t_decide (h : LU F C K M T U (vw j σ) (ρ 30 0)) (hT : T < 400000) {c : Nat} (hc : c < C) (hM : M + K ≤ 240) :
    ∃ σ' ρ', f_X0_decide σ j (nI c) = some σ' ∧ f_X8_decides ρ (nI c) = some ρ' ∧ ∃ M', LU F C K M' T U (vw j σ') (ρ' 30 0) ∧ SP j σ ρ σ' ρ' ∧ NX K M (vw j σ) M' (vw j σ') := by
  have hC := D_C h
  have hK := D_K h
  unfold f_X0_decide
  rw [if_neg (by rw [gN (by omega) (by decide)]; exact id), ni_cl (by omega)]
  refine lpTF (fun n (a : Sg) i => f_X0_decide_10 n a j (nI c) (4 * j + c) i) (fun n (b : Sg) i => f_X8_decides_2 n b (nI c) i) K (by omega) (fun k a b => ∃ M', LU F C K M' T U (vw j a) (b 30 0) ∧ SP j σ ρ a b ∧ NX k M (vw j σ) M' (vw j a)) (fun a b => ∃ M', LU F C K M' T U (vw j a) (b 30 0) ∧ SP j σ ρ a b ∧ NX K M (vw j σ) M' (vw j a)) ?_ ?_ ⟨M, h, SP.rf j σ ρ, NX.rf M _⟩
  · rintro n m k a b hk ⟨M1, hL, hS, hX⟩
    refine Or.inl ?_
    have hM1 : M1 < 240 := by have := hX.1; omega
    have hdec := (hL.2.2.2.2.2.2.2.1 c hc k hk)
    have e17 : b 30 0 (511 + 24 * c + k) = a 17 (4 * j + c) k := hdec.1
    obtain ⟨-, -, -, e3, -⟩ := B_call hL hk
    have e3' : b 30 0 (127 + k) = a 1 (24 * j + k) 3 := e3
    simp (disch := omega) only [f_X0_decide_10_s, f_X8_decides_2_s, A_K hL, B_K hL, A_T hL, B_T hL, ni_le, p_nle, if_false, ni_nn, ni_cl, false_or, b_of511, p_bi, e17, f_X0_decide_94, f_X8_decides_170, ni_1]
    by_cases w : a 17 (4 * j + c) k = nI T
    · rw [if_pos w, if_pos w]
      have hq := hdec.2.2.2.1 (Or.inr (by rw [show vw j a 17 c k = a 17 (4 * j + c) k from rfl, w, Ne, nm_1 (by omega)]; exact id))
      have g1 := S_dec hL hc hk (y := -1) (Or.inl rfl) (fun q => absurd rfl q)
      rw [← vs_17, ← s_ru] at g1
      have s1 : SP j a b (sup a 17 (4 * j + c) k (-1)) (sup b 30 0 (511 + 24 * c + k) (-1)) := SP.r (SP.c (SP.rf j a b) (O_17 (by omega)) _ _) _ _
      have x1 : NX 0 M1 (vw j a) M1 (vw j (sup a 17 (4 * j + c) k (-1))) := NX.of1 (by rw [vs_17, s_ne (by decide)]) (by rw [vs_17, s_ne (by decide)])
      obtain ⟨hq1, nn, hnn, hq2⟩ := hq
      have e16 : (sup b 30 0 (511 + 24 * c + k) (-1)) 30 0 (415 + 24 * c + k) = vw j (sup a 17 (4 * j + c) k (-1)) 16 c k := by
        rw [s_nf (by omega), vs_17, s_ne (by decide)]
        exact hq1
      have e16n : (sup a 17 (4 * j + c) k (-1)) 16 (4 * j + c) k = nI nn := by
        rw [s_ne (by decide)]
        exact hq2
      have e16m : vw j (sup a 17 (4 * j + c) k (-1)) 16 c k = nI nn := e16n
      simp (disch := omega) only [p_st, s_ne, s_nf, l_127, ni_nn, ni_cl, p_nle, false_or, if_false, e3', f_X8_decides_69, b_of415, p_bi]
      have e16b : b 30 0 (415 + 24 * c + k) = vw j (sup a 17 (4 * j + c) k (-1)) 16 c k := by rw [vs_17, s_ne (by decide)]; exact hq1
      simp only [e16b, b_best g1 hc hk, f_X8_decides_140, f_X8_decides_170]
      by_cases w3 : a 1 (24 * j + k) 3 = 1
      · rw [if_pos w3, if_pos w3]
        rw [a_best g1 hc hk, p_bi]
        cases hb : an (W_pb (vw j (sup a 17 (4 * j + c) k (-1))) c k) C
        · simp only [Bool.not_false, W_b0, Bool.true_eq_false, Bool.false_eq_true, if_false, p_10]
          have g2 := S_hset g1 hc hk ⟨e16, nn, hnn, e16m⟩
          rw [← vs_2, ← s_ru] at g2
          have s2 : SP j (sup a 17 (4 * j + c) k (-1)) (sup b 30 0 (511 + 24 * c + k) (-1)) _ _ := SP.r (SP.c (SP.rf j _ _) (O_2 (j := j) (k := c) (by omega)) 8 (vw j (sup a 17 (4 * j + c) k (-1)) 2 c 8 ||| (1 <<< (nI k &&& 31)))) (319 + 24 * c + k) 1
          obtain ⟨σ', ρ', k1, k2, k3, k4, k5, k6⟩ := t_send g2 (d := 2) (s := nI c) (by decide) hk hnn hM1 (Or.inr ⟨by decide, c, hc, rfl⟩)
          refine ⟨σ', ρ', ⟨M1 + 1, k3, hS.trans (s1.trans (s2.trans k4)), (hX.trans (m := 1) ?_)⟩, ?_, ?_⟩
          · refine x1.trans (m := 1) ⟨Nat.le_refl _, ?_, ?_, ?_⟩
            · rw [k5, if_neg (by decide), vs_2]
              unfold V_ann
              rw [s_ne (by decide)]
              rfl
            · intro q f _
              rw [k6 1 (by decide) (by decide) (by decide), vs_2, s_ne (by decide)]
            · intro q
              rw [k6 1 (by decide) (by decide) (by decide), vs_2, s_ne (by decide)]
          · have k1' : f_X4_send (sup (sup a 17 (4 * j + c) k (-1)) 2 (4 * j + c) 8 ((sup a 17 (4 * j + c) k (-1)) 2 (4 * j + c) 8 ||| (1 <<< (nI k &&& 31)))) j (nI c) 2 (nI k) (nI nn) = some σ' := k1
            simp (disch := omega) only [s_ne] at k1' ⊢
            rw [show a 16 (4 * j + c) k = nI nn from hq2, k1']
            rfl
          · have k2' : f_X8_sends (sup (sup b 30 0 (511 + 24 * c + k) (-1)) 30 0 (319 + 24 * c + k) 1) 2 (nI k) (nI c) (nI nn) = some ρ' := k2
            simp (disch := omega) only [b_of319, p_bi, p_st, ni_nn, ni_cl, p_nle, false_or, if_false, e16m, k2', p_bv, ni_1]
        · simp only [Bool.not_true, W_b0, if_true]
          exact ⟨_, _, ⟨M1, g1, hS.trans s1, (hX.trans x1).mono (by omega)⟩, rfl, by rw [ni_1]⟩
      · rw [if_neg w3, if_neg w3]
        refine ⟨_, _, ⟨M1, g1, hS.trans s1, (hX.trans x1).mono (by omega)⟩, rfl, ?_⟩
        rw [show (if an (W_pb (vw j (sup a 17 (4 * j + c) k (-1))) c k) C = true then (0 : Int32) else 0) = 0 from ite_self 0, if_pos rfl, ni_1]
    · rw [if_neg w, if_neg w]
      exact ⟨a, b, ⟨M1, hL, hS, hX.mono (Nat.le_succ k)⟩, rfl, rfl⟩
  · rintro n m a b ⟨M1, hL, hS, hX⟩
    refine ⟨a, b, ?_, ?_, M1, hL, hS, hX⟩
    · simp (disch := omega) only [f_X0_decide_10_s, A_K hL, ni_le, Nat.le_refl, if_true, f_X0_decide_100]
    · simp (disch := omega) only [f_X8_decides_2_s, B_K hL, ni_le, Nat.le_refl, if_true, f_X8_decides_176]
end TK
