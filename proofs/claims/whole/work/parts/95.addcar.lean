/-! cleared lifts, and a car more -/
theorem gq {α : Type} {N q : Nat} (h : q < N) (hN : N ≤ 2147483648) {f g : α} : (if nI q < 0 ∨ N ≤ (nI q).toNatClampNeg then f else g) = g := by
  rw [if_neg (by rw [gN h hN]; exact id)]
theorem gr {α : Type} {N q : Nat} (h : q < N) (hN : N ≤ 2147483648) {f g : α} : (if nI q < 0 ∨ N ≤ q then f else g) = g := by
  rw [if_neg (by rw [ni_nn (by omega)]; exact fun z => z.elim id (fun z => by omega))]
theorem a_clr (σ : Sg) (j : Nat) (x : Int32) : ∃ σ', f_X4_clear σ j x = some σ' ∧ Fr j σ σ' ∧ (σ' 4 j 0 = x ∧ σ' 4 j 1 = 0 ∧ σ' 4 j 2 = 0 ∧ σ' 4 j 3 = 0 ∧ σ' 4 j 4 = 1 ∧ σ' 5 j 0 = 0) ∧ (∀ i, i < 5 → σ' 12 j i = stab 2 i) ∧ (∀ i, i < 4 → σ' 13 j i = 0 ∧ σ' 14 j i = 0) ∧ ∀ i, i < 5 → σ' 15 j i = 0 := by
  have start : ∃ X, f_X4_clear σ j x = f_X4_clear_48 FU X j 0 ∧ X = sup (sft (sup (sup (sup (sup (sup σ 4 j 0 x) 4 j 1 0) 4 j 2 0) 4 j 3 0) 4 j 4 1) 2 12 j 5) 5 j 0 0 := by
    refine ⟨_, ?_, rfl⟩
    unfold f_X4_clear
    rw [p_st, p_st, p_st, p_st, p_st, p_st, p_st]
  obtain ⟨X, x1, x2⟩ := start
  have xf : Fr j σ X := by
    intro k o i hn
    have h4 : ¬ (k = 4 ∧ o = j) := fun z => hn (by obtain ⟨rfl, rfl⟩ := z; exact (rfl : o = o))
    have h5 : ¬ (k = 5 ∧ o = j) := fun z => hn (by obtain ⟨rfl, rfl⟩ := z; exact (rfl : o = o))
    have h12 : ¬ (k = 12 ∧ o = j) := fun z => hn (by obtain ⟨rfl, rfl⟩ := z; exact (rfl : o = o))
    rw [x2, FrO h5]
    unfold sft
    rw [if_neg (fun z => h12 ⟨z.1, z.2.1⟩), FrO h4, FrO h4, FrO h4, FrO h4, FrO h4]
  have xs : ∀ k o i, k ≠ 12 → sft (sup (sup (sup (sup (sup σ 4 j 0 x) 4 j 1 0) 4 j 2 0) 4 j 3 0) 4 j 4 1) 2 12 j 5 k o i = sup (sup (sup (sup (sup σ 4 j 0 x) 4 j 1 0) 4 j 2 0) 4 j 3 0) 4 j 4 1 k o i := fun k o i hk => if_neg (fun z => hk z.1)
  obtain ⟨n, Y, ⟨y1, y2⟩, y3⟩ := lpE1 (fun n (b : Sg) i => f_X4_clear_48 n b j i) 4 (by decide) (fun c b => (∀ k o i, ¬ ((k = 13 ∨ k = 14) ∧ o = j) → b k o i = X k o i) ∧ ∀ i, i < c → b 13 j i = 0 ∧ b 14 j i = 0) (a := X) (by
    rintro n c b hc ⟨j1, j2⟩
    refine ⟨sup (sup b 13 j c 0) 14 j c 0, ⟨fun k o i hn => ?_, fun i hi => ?_⟩, ?_⟩
    · rw [FrO (fun z => hn ⟨Or.inr z.1, z.2⟩), FrO (fun z => hn ⟨Or.inl z.1, z.2⟩)]
      exact j1 k o i hn
    · by_cases w : i = c
      · subst w
        exact ⟨by rw [s_ne (by decide), s_at], s_at _ _ _ _ _⟩
      · have := j2 i (by omega)
        exact ⟨by rw [s_ne (by decide), s_nf w]; exact this.1, by rw [s_nf w, s_ne (by decide)]; exact this.2⟩
    · show f_X4_clear_48 (n + 1) b j (nI c) = _
      rw [f_X4_clear_48_s, if_neg (by rw [show (4 : Int32) = nI 4 from rfl, ni_le (by omega) (by omega)]; omega), gq (by omega) (by decide), ni_cl (by omega), p_st, gr (by omega) (by decide), p_st, ni_1]) ⟨fun _ _ _ _ => rfl, fun i hi => absurd hi (Nat.not_lt_zero i)⟩
  obtain ⟨m, Z, ⟨z1, z2⟩, z3⟩ := lpE1 (fun n (b : Sg) i => f_X4_clear_75 n b j i) 5 (by decide) (fun c b => (∀ k o i, ¬ (k = 15 ∧ o = j) → b k o i = Y k o i) ∧ ∀ i, i < c → b 15 j i = 0) (a := Y) (by
    rintro n c b hc ⟨j1, j2⟩
    refine ⟨sup b 15 j c 0, ⟨fun k o i hn => ?_, fun i hi => ?_⟩, ?_⟩
    · rw [FrO hn]
      exact j1 k o i hn
    · by_cases w : i = c
      · subst w
        exact s_at _ _ _ _ _
      · rw [s_nf w]; exact j2 i (by omega)
    · show f_X4_clear_75 (n + 1) b j (nI c) = _
      rw [f_X4_clear_75_s, if_neg (by rw [show (4 : Int32) = nI 4 from rfl, ni_lt (by omega) (by omega)]; omega), gq (by omega) (by decide), ni_cl (by omega), p_st, ni_1]) ⟨fun _ _ _ _ => rfl, fun i hi => absurd hi (Nat.not_lt_zero i)⟩
  have zx : ∀ k o i, k ≠ 13 → k ≠ 14 → k ≠ 15 → Z k o i = X k o i := fun k o i h1 h2 h3 => (z1 k o i (fun q => h3 q.1)).trans (y1 k o i (fun q => q.1.elim h1 h2))
  refine ⟨Z, ?_, ?_, ⟨?_, ?_, ?_, ?_, ?_, ?_⟩, ?_, ?_, z2⟩
  · rw [x1]
    refine Eq.trans y3 ?_
    show f_X4_clear_48 (n + 1) Y j (nI 4) = _
    rw [f_X4_clear_48_s, if_pos (by decide)]
    unfold f_X4_clear_73
    refine Eq.trans z3 ?_
    show f_X4_clear_75 (m + 1) Z j (nI 5) = _
    rw [f_X4_clear_75_s, if_pos (by decide)]
    rfl
  · intro k o i hn
    rw [z1 k o i (fun z => hn (by obtain ⟨rfl, rfl⟩ := z; exact (rfl : o = o))), y1 k o i (fun z => hn (by
      obtain ⟨h, rfl⟩ := z
      rcases h with rfl | rfl <;> exact (rfl : o = o)))]
    exact xf k o i hn
  · rw [zx _ _ _ (by decide) (by decide) (by decide), x2, s_ne (by decide), xs _ _ _ (by decide), s_nf (by decide), s_nf (by decide), s_nf (by decide), s_nf (by decide), s_at]
  · rw [zx _ _ _ (by decide) (by decide) (by decide), x2, s_ne (by decide), xs _ _ _ (by decide), s_nf (by decide), s_nf (by decide), s_nf (by decide), s_at]
  · rw [zx _ _ _ (by decide) (by decide) (by decide), x2, s_ne (by decide), xs _ _ _ (by decide), s_nf (by decide), s_nf (by decide), s_at]
  · rw [zx _ _ _ (by decide) (by decide) (by decide), x2, s_ne (by decide), xs _ _ _ (by decide), s_nf (by decide), s_at]
  · rw [zx _ _ _ (by decide) (by decide) (by decide), x2, s_ne (by decide), xs _ _ _ (by decide), s_at]
  · rw [zx _ _ _ (by decide) (by decide) (by decide), x2, s_at]
  · intro i hi
    rw [zx _ _ _ (by decide) (by decide) (by decide), x2, s_ne (by decide)]
    exact if_pos ⟨rfl, rfl, hi⟩
  · intro i hi
    rw [z1 13 j i (fun q => absurd q.1 (by decide)), z1 14 j i (fun q => absurd q.1 (by decide))]
    exact y2 i hi
/-- a row cleared by the reference -/
def B0 (r : Nat → Int32) : Prop := r 5 = 6 ∧ r 6 = 2 ∧ r 7 = 1 ∧ r 8 = 30 ∧ r 9 = 1 ∧ ∀ i, i < 2111 → ¬ (5 ≤ i ∧ i ≤ 9) → r i = 0
theorem b_clr (ρ : Sg) : ∃ ρ', f_X8_clear ρ = some ρ' ∧ (∀ k, k ≠ 30 → ρ' k = ρ k) ∧ B0 (ρ' 30 0) := by
  obtain ⟨n, Y, ⟨y1, y2⟩, y3⟩ := lpE1 (fun n (b : Sg) i => f_X8_clear_2 n b i) 2111 (by decide) (fun c b => (∀ k, k ≠ 30 → b k = ρ k) ∧ ∀ i, i < c → b 30 0 i = 0) (a := ρ) (by
    rintro n c b hc ⟨j1, j2⟩
    refine ⟨sup b 30 0 c 0, ⟨fun k hk => (s_ne hk).trans (j1 k hk), fun i hi => ?_⟩, ?_⟩
    · by_cases w : i = c
      · subst w
        exact s_at _ _ _ _ _
      · rw [s_nf w]; exact j2 i (by omega)
    · show f_X8_clear_2 (n + 1) b (nI c) = _
      rw [f_X8_clear_2_s, if_neg (by rw [show (2111 : Int32) = nI 2111 from rfl, ni_le (by omega) (by omega)]; omega), g_st hc, ni_1]) ⟨fun _ _ => rfl, fun i hi => absurd hi (Nat.not_lt_zero i)⟩
  refine ⟨sup (sup (sup (sup (sup Y 30 0 5 6) 30 0 6 2) 30 0 7 1) 30 0 8 30) 30 0 9 1, ?_, fun k hk => ?_, ?_, ?_, ?_, ?_, ?_, fun i hi hn => ?_⟩
  · unfold f_X8_clear
    refine Eq.trans y3 ?_
    show f_X8_clear_2 (n + 1) Y (nI 2111) = _
    rw [f_X8_clear_2_s, if_pos (by decide)]
    unfold f_X8_clear_22
    rw [p_st, p_st, p_st, p_st, p_st]
  · rw [s_ne hk, s_ne hk, s_ne hk, s_ne hk, s_ne hk]
    exact y1 k hk
  · rw [s_nf (by decide), s_nf (by decide), s_nf (by decide), s_nf (by decide), s_at]
  · rw [s_nf (by decide), s_nf (by decide), s_nf (by decide), s_at]
  · rw [s_nf (by decide), s_nf (by decide), s_at]
  · rw [s_nf (by decide), s_at]
  · rw [s_at]
  · rw [s_nf (by omega), s_nf (by omega), s_nf (by omega), s_nf (by omega), s_nf (by omega)]
    exact y2 i hi
/-- rows of cars that are still to come; no call has appeared -/
def FR (C K : Nat) (r : Nat → Int32) : Prop := (∀ k, k < K → r (127 + k) = 0) ∧ ∀ c, C ≤ c → c < 4 → (∀ f, 2 ≤ f → f < 8 → r (23 + 4 * f + c) = 0) ∧ ∀ k, k < K → r (319 + 24 * c + k) = 0 ∧ r (511 + 24 * c + k) = -1 ∧ r (607 + 24 * c + k) = 0 ∧ ∀ q, q < 4 → r (703 + 4 * (24 * c + k) + q) = -1
theorem t_clear (σ ρ : Sg) (j : Nat) {F : Nat} (h2 : 2 ≤ F) (h30 : F ≤ 30) (hB : B0 (ρ 30 0)) : ∃ σ', f_X4_clear σ j (nI F) = some σ' ∧ Fr j σ σ' ∧ LV F 0 0 0 0 (vw j σ') ((sup ρ 30 0 0 (nI F)) 30 0) ∧ FR 0 0 ((sup ρ 30 0 0 (nI F)) 30 0) := by
  obtain ⟨σ', e1, e2, ⟨a0, a1, a2, a3, a4, a5⟩, a12, a13, a15⟩ := a_clr σ j (nI F)
  obtain ⟨b5, b6, b7, b8, b9, b0⟩ := hB
  have c0 : ∀ i, i ≠ 0 → i < 2111 → ¬ (5 ≤ i ∧ i ≤ 9) → sup ρ 30 0 0 (nI F) 30 0 i = 0 := fun i h1 h2 h3 => by rw [s_nf h1]; exact b0 i h2 h3
  refine ⟨σ', e1, e2, ⟨⟨⟨a0, a1, a2, a3, a5, s_at _ _ _ _ _, ?_, ?_, ?_, ?_, ?_, h2, h30, by decide, by decide, by decide⟩, ⟨fun i hi => ?_, 6, 2, 1, a12 1 (by decide), by decide, by decide, a12 2 (by decide), by decide, a12 3 (by decide), by decide⟩, fun i hi => ⟨?_, ?_, ?_, a15 0 (by decide)⟩, fun c hc => absurd hc (Nat.not_lt_zero c), fun c hc => absurd hc (Nat.not_lt_zero c), fun c hc => absurd hc (Nat.not_lt_zero c), fun c hc => absurd hc (Nat.not_lt_zero c), fun c hc => absurd hc (Nat.not_lt_zero c), fun c hc => absurd hc (Nat.not_lt_zero c), fun c hc => absurd hc (Nat.not_lt_zero c)⟩, Nat.zero_le _⟩, fun k hk => absurd hk (Nat.not_lt_zero k), fun c _ hc => ⟨fun f h2 h8 => c0 _ (by omega) (by omega) (by omega), fun k hk => absurd hk (Nat.not_lt_zero k)⟩⟩
  · exact c0 1 (by decide) (by decide) (by decide)
  · exact c0 2 (by decide) (by decide) (by decide)
  · exact c0 3 (by decide) (by decide) (by decide)
  · exact c0 10 (by decide) (by decide) (by decide)
  · rw [s_nf (by decide), b9]; exact a4.symm
  · rw [s_nf (by omega)]
    refine Eq.trans ?_ (a12 i hi).symm
    have hi2 : i = 0 ∨ i = 1 ∨ i = 2 ∨ i = 3 ∨ i = 4 := by omega
    rcases hi2 with rfl | rfl | rfl | rfl | rfl
    · exact b0 4 (by decide) (by decide)
    · exact b5
    · exact b6
    · exact b7
    · exact b8
  · exact (c0 _ (by omega) (by omega) (by omega)).trans (a13 i hi).1.symm
  · exact (c0 _ (by omega) (by omega) (by omega)).trans (a13 i hi).2.symm
  · exact (c0 _ (by omega) (by omega) (by omega)).trans (a15 (i + 1) (by omega)).symm
theorem a_drop (σ : Sg) (o : Nat) {k : Nat} (hk : k < 24) : ∃ σ', f_X2_dropBids σ o (nI k) = some σ' ∧ (∀ k' o' i, ¬ (k' = 18 ∧ o' = o) → σ' k' o' i = σ k' o' i) ∧ ∀ i, σ' 18 o i = if 4 * k ≤ i ∧ i < 4 * k + 4 then -1 else σ 18 o i := by
  unfold f_X2_dropBids
  obtain ⟨n, b, ⟨b1, b2⟩, b3⟩ := lpE1 (fun n (b : Sg) i => f_X2_dropBids_2 n b o (nI k) i) 4 (by decide) (fun q b => (∀ k' o' i, ¬ (k' = 18 ∧ o' = o) → b k' o' i = σ k' o' i) ∧ ∀ i, b 18 o i = if 4 * k ≤ i ∧ i < 4 * k + q then -1 else σ 18 o i) (a := σ) (by
    rintro n q b hq ⟨j1, j2⟩
    refine ⟨sup b 18 o (4 * k + q) (-1), ⟨fun k' o' i hn => (FrO hn).trans (j1 k' o' i hn), fun i => ?_⟩, ?_⟩
    · by_cases w : i = 4 * k + q
      · subst w
        rw [s_at, if_pos ⟨by omega, by omega⟩]
      · rw [s_nf w, j2 i]
        by_cases w2 : 4 * k ≤ i ∧ i < 4 * k + q
        · rw [if_pos w2, if_pos ⟨w2.1, by omega⟩]
        · rw [if_neg w2, if_neg (fun z => w2 ⟨z.1, by omega⟩)]
    · simp (disch := omega) only [f_X2_dropBids_2_s, f_X2_noteBid, q_4, p_nle, if_false, ni_4m, ni_add, ni_nn, ni_cl, false_or, p_st, p_bv, ni_1]) ⟨fun _ _ _ _ => rfl, fun i => (if_neg (fun z => by omega)).symm⟩
  refine ⟨b, b3.trans ?_, b1, b2⟩
  simp (disch := omega) only [f_X2_dropBids_2_s, q_4, Nat.le_refl, if_true, f_X2_dropBids_20]
theorem a_start (σ : Sg) (o : Nat) (x y : Int32) : ∃ σ', f_X2_start σ o x y = some σ' ∧ (∀ k o' i, ¬ ((k = 2 ∨ 16 ≤ k ∧ k ≤ 19) ∧ o' = o) → σ' k o' i = σ k o' i) ∧ σ' 2 o 0 = x ∧ σ' 2 o 1 = y ∧ (∀ f, 2 ≤ f → f < 10 → σ' 2 o f = 0) ∧ (∀ i, i < 24 → σ' 16 o i = -1 ∧ σ' 17 o i = -1 ∧ ∀ q, q < 4 → σ' 18 o (4 * i + q) = -1) ∧ ∀ i, i < 4 → σ' 19 o i = 0 := by
  have start : ∃ X, f_X2_start σ o x y = f_X2_start_52 FU X o 0 ∧ X = sup (sup (sup (sup (sup (sup (sup (sup (sup (sup σ 2 o 0 x) 2 o 1 y) 2 o 2 0) 2 o 3 0) 2 o 4 0) 2 o 5 0) 2 o 6 0) 2 o 7 0) 2 o 8 0) 2 o 9 0 := by
    refine ⟨_, ?_, rfl⟩
    unfold f_X2_start
    rw [p_st, p_st, p_st, p_st, p_st, p_st, p_st, p_st, p_st, p_st]
  obtain ⟨X, x1, x2⟩ := start
  obtain ⟨n, Y, ⟨y1, y2⟩, y3⟩ := lpE1 (fun n (b : Sg) i => f_X2_start_52 n b o i) 24 (by decide) (fun c b => (∀ k o' i, ¬ ((k = 16 ∨ k = 17 ∨ k = 18) ∧ o' = o) → b k o' i = X k o' i) ∧ ∀ i, i < c → b 16 o i = -1 ∧ b 17 o i = -1 ∧ ∀ q, q < 4 → b 18 o (4 * i + q) = -1) (a := X) (by
    rintro n c b hc ⟨j1, j2⟩
    obtain ⟨Z, z1, z2, z3⟩ := a_drop (sup (sup b 16 o c (-1)) 17 o c (-1)) o hc
    refine ⟨Z, ⟨fun k o' i hn => ?_, fun i hi => ?_⟩, ?_⟩
    · rw [z2 k o' i (fun z => hn ⟨Or.inr (Or.inr z.1), z.2⟩), FrO (fun z => hn ⟨Or.inr (Or.inl z.1), z.2⟩), FrO (fun z => hn ⟨Or.inl z.1, z.2⟩)]
      exact j1 k o' i hn
    · rw [z2 16 o i (fun z => absurd z.1 (by decide)), z2 17 o i (fun z => absurd z.1 (by decide)), s_ne (show (16 : Nat) ≠ 17 by decide)]
      by_cases w : i = c
      · subst w
        refine ⟨s_at _ _ _ _ _, s_at _ _ _ _ _, fun q hq => ?_⟩
        rw [z3, if_pos ⟨by omega, by omega⟩]
      · have := j2 i (by omega)
        refine ⟨(s_nf w).trans this.1, by rw [s_nf w, s_ne (by decide)]; exact this.2.1, fun q hq => ?_⟩
        rw [z3, if_neg (fun z => by omega), s_ne (by decide), s_ne (by decide)]
        exact this.2.2 q hq
    · show f_X2_start_52 (n + 1) b o (nI c) = _
      rw [f_X2_start_52_s, if_neg (by rw [show (24 : Int32) = nI 24 from rfl, ni_le (by omega) (by omega)]; omega), gq (by omega) (by decide), ni_cl (by omega), p_st, gr (by omega) (by decide), p_st, z1, p_bv, ni_1]) ⟨fun _ _ _ _ => rfl, fun i hi => absurd hi (Nat.not_lt_zero i)⟩
  obtain ⟨m, Z, ⟨z1, z2⟩, z3⟩ := lpE1 (fun n (b : Sg) i => f_X2_start_85 n b o i) 4 (by decide) (fun c b => (∀ k o' i, ¬ (k = 19 ∧ o' = o) → b k o' i = Y k o' i) ∧ ∀ i, i < c → b 19 o i = 0) (a := Y) (by
    rintro n c b hc ⟨j1, j2⟩
    refine ⟨sup b 19 o c 0, ⟨fun k o' i hn => ?_, fun i hi => ?_⟩, ?_⟩
    · rw [FrO hn]
      exact j1 k o' i hn
    · by_cases w : i = c
      · subst w
        exact s_at _ _ _ _ _
      · rw [s_nf w]; exact j2 i (by omega)
    · show f_X2_start_85 (n + 1) b o (nI c) = _
      rw [f_X2_start_85_s, if_neg (by rw [show (4 : Int32) = nI 4 from rfl, ni_le (by omega) (by omega)]; omega), gq (by omega) (by decide), ni_cl (by omega), p_st, ni_1]) ⟨fun _ _ _ _ => rfl, fun i hi => absurd hi (Nat.not_lt_zero i)⟩
  have zx : ∀ i, Z 2 o i = X 2 o i := fun i => (z1 2 o i (fun q => absurd q.1 (by decide))).trans (y1 2 o i (fun q => absurd q.1 (by decide)))
  refine ⟨Z, ?_, fun k o' i hn => ?_, ?_, ?_, fun f h2 h10 => ?_, fun i hi => ?_, z2⟩
  · rw [x1]
    refine Eq.trans y3 ?_
    show f_X2_start_52 (n + 1) Y o (nI 24) = _
    rw [f_X2_start_52_s, if_pos (by decide)]
    unfold f_X2_start_83
    refine Eq.trans z3 ?_
    show f_X2_start_85 (m + 1) Z o (nI 4) = _
    rw [f_X2_start_85_s, if_pos (by decide)]
    rfl
  · have h2 : ¬ (k = 2 ∧ o' = o) := fun z => hn ⟨Or.inl z.1, z.2⟩
    rw [z1 k o' i (fun z => hn ⟨Or.inr (by omega), z.2⟩), y1 k o' i (fun z => hn ⟨Or.inr (by omega), z.2⟩), x2, FrO h2, FrO h2, FrO h2, FrO h2, FrO h2, FrO h2, FrO h2, FrO h2, FrO h2, FrO h2]
  · rw [zx, x2]
    simp (disch := omega) only [s_nf, s_at]
  · rw [zx, x2]
    simp (disch := omega) only [s_nf, s_at]
  · rw [zx, x2]
    have hf : f = 2 ∨ f = 3 ∨ f = 4 ∨ f = 5 ∨ f = 6 ∨ f = 7 ∨ f = 8 ∨ f = 9 := by omega
    rcases hf with rfl | rfl | rfl | rfl | rfl | rfl | rfl | rfl <;> simp (disch := omega) only [s_nf, s_at]
  · rw [z1 16 o i (fun q => absurd q.1 (by decide)), z1 17 o i (fun q => absurd q.1 (by decide))]
    refine ⟨(y2 i hi).1, (y2 i hi).2.1, fun q hq => ?_⟩
    rw [z1 18 o _ (fun q => absurd q.1 (by decide))]
    exact (y2 i hi).2.2 q hq
