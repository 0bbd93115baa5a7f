/-! reading a text: the lifts being read; statements -/
theorem gq {α : Type} {N q : Nat} (h : q < N) (hN : N ≤ 2147483648) {f g : α} : (if nI q < 0 ∨ N ≤ (nI q).toNatClampNeg then f else g) = g := by
  rw [if_neg (by rw [gN h hN]; exact id)]
theorem gr {α : Type} {N q : Nat} (h : q < N) (hN : N ≤ 2147483648) {f g : α} : (if nI q < 0 ∨ N ≤ q then f else g) = g := by
  rw [if_neg (by rw [ni_nn (by omega)]; exact fun z => z.elim id (fun z => by omega))]
theorem a_clr (σ : Sg) (j : Nat) (x : Int32) : ∃ σ', f_X4_clear σ j x = some σ' ∧ Fr j σ σ' ∧ (σ' 4 j 0 = x ∧ σ' 4 j 1 = 0 ∧ σ' 4 j 2 = 0 ∧ σ' 4 j 3 = 0 ∧ σ' 4 j 4 = 1 ∧ σ' 5 j 0 = 0) ∧ (∀ i, i < 5 → σ' 12 j i = stab 2 i) ∧ (∀ i, i < 4 → σ' 13 j i = 0 ∧ σ' 14 j i = 0) ∧ ∀ i, i < 5 → σ' 15 j i = 0 := by
  have start : ∃ X, f_X4_clear σ j x = f_X4_clear_48 FU X j 0 ∧ X = sup (sft (sup (sup (sup (sup (sup σ 4 j 0 x) 4 j 1 0) 4 j 2 0) 4 j 3 0) 4 j 4 1) 2 12 j 5) 5 j 0 0 := by
    refine ⟨_, ?_, rfl⟩
    unfold f_X4_clear
    rw [p_st, p_st, p_st, p_st, p_st, p_st, p_st]
  obtain ⟨X, x1, x2⟩ := start
  have xf : Fr j σ X := by
    intro k o i hn
    have h4 : ¬ (k = 4 ∧ o = j) := fun z => hn (by obtain ⟨rfl, rfl⟩ := z; exact (rfl : o = o))
    have h5 : ¬ (k = 5 ∧ o = j) := fun z => hn (by obtain ⟨rfl, rfl⟩ := z; exact (rfl : o = o))
    have h12 : ¬ (k = 12 ∧ o = j) := fun z => hn (by obtain ⟨rfl, rfl⟩ := z; exact (rfl : o = o))
    rw [x2, FrO h5]
    unfold sft
    rw [if_neg (fun z => h12 ⟨z.1, z.2.1⟩), FrO h4, FrO h4, FrO h4, FrO h4, FrO h4]
  have xs : ∀ k o i, k ≠ 12 → sft (sup (sup (sup (sup (sup σ 4 j 0 x) 4 j 1 0) 4 j 2 0) 4 j 3 0) 4 j 4 1) 2 12 j 5 k o i = sup (sup (sup (sup (sup σ 4 j 0 x) 4 j 1 0) 4 j 2 0) 4 j 3 0) 4 j 4 1 k o i := fun k o i hk => if_neg (fun z => hk z.1)
  obtain ⟨n, Y, ⟨y1, y2⟩, y3⟩ := lpE1 (fun n (b : Sg) i => f_X4_clear_48 n b j i) 4 (by decide) (fun c b => (∀ k o i, ¬ ((k = 13 ∨ k = 14) ∧ o = j) → b k o i = X k o i) ∧ ∀ i, i < c → b 13 j i = 0 ∧ b 14 j i = 0) (a := X) (by
    rintro n c b hc ⟨j1, j2⟩
    refine ⟨sup (sup b 13 j c 0) 14 j c 0, ⟨fun k o i hn => ?_, fun i hi => ?_⟩, ?_⟩
    · rw [FrO (fun z => hn ⟨Or.inr z.1, z.2⟩), FrO (fun z => hn ⟨Or.inl z.1, z.2⟩)]
      exact j1 k o i hn
    · by_cases w : i = c
      · subst w
        exact ⟨by rw [s_ne (by decide), s_at], s_at _ _ _ _ _⟩
      · have := j2 i (by omega)
        exact ⟨by rw [s_ne (by decide), s_nf w]; exact this.1, by rw [s_nf w, s_ne (by decide)]; exact this.2⟩
    · show f_X4_clear_48 (n + 1) b j (nI c) = _
      rw [f_X4_clear_48_s, if_neg (by rw [show (4 : Int32) = nI 4 from rfl, ni_le (by omega) (by omega)]; omega), gq (by omega) (by decide), ni_cl (by omega), p_st, gr (by omega) (by decide), p_st, ni_1]) ⟨fun _ _ _ _ => rfl, fun i hi => absurd hi (Nat.not_lt_zero i)⟩
  obtain ⟨m, Z, ⟨z1, z2⟩, z3⟩ := lpE1 (fun n (b : Sg) i => f_X4_clear_75 n b j i) 5 (by decide) (fun c b => (∀ k o i, ¬ (k = 15 ∧ o = j) → b k o i = Y k o i) ∧ ∀ i, i < c → b 15 j i = 0) (a := Y) (by
    rintro n c b hc ⟨j1, j2⟩
    refine ⟨sup b 15 j c 0, ⟨fun k o i hn => ?_, fun i hi => ?_⟩, ?_⟩
    · rw [FrO hn]
      exact j1 k o i hn
    · by_cases w : i = c
      · subst w
        exact s_at _ _ _ _ _
      · rw [s_nf w]; exact j2 i (by omega)
    · show f_X4_clear_75 (n + 1) b j (nI c) = _
      rw [f_X4_clear_75_s, if_neg (by rw [show (4 : Int32) = nI 4 from rfl, ni_lt (by omega) (by omega)]; omega), gq (by omega) (by decide), ni_cl (by omega), p_st, ni_1]) ⟨fun _ _ _ _ => rfl, fun i hi => absurd hi (Nat.not_lt_zero i)⟩
  have zx : ∀ k o i, k ≠ 13 → k ≠ 14 → k ≠ 15 → Z k o i = X k o i := fun k o i h1 h2 h3 => (z1 k o i (fun q => h3 q.1)).trans (y1 k o i (fun q => q.1.elim h1 h2))
  refine ⟨Z, ?_, ?_, ⟨?_, ?_, ?_, ?_, ?_, ?_⟩, ?_, ?_, z2⟩
  · rw [x1]
    refine Eq.trans y3 ?_
    show f_X4_clear_48 (n + 1) Y j (nI 4) = _
    rw [f_X4_clear_48_s, if_pos (by decide)]
    unfold f_X4_clear_73
    refine Eq.trans z3 ?_
    show f_X4_clear_75 (m + 1) Z j (nI 5) = _
    rw [f_X4_clear_75_s, if_pos (by decide)]
    rfl
  · intro k o i hn
    rw [z1 k o i (fun z => hn (by obtain ⟨rfl, rfl⟩ := z; exact (rfl : o = o))), y1 k o i (fun z => hn (by
      obtain ⟨h, rfl⟩ := z
      rcases h with rfl | rfl <;> exact (rfl : o = o)))]
    exact xf k o i hn
  · rw [zx _ _ _ (by decide) (by decide) (by decide), x2, s_ne (by decide), xs _ _ _ (by decide), s_nf (by decide), s_nf (by decide), s_nf (by decide), s_nf (by decide), s_at]
  · rw [zx _ _ _ (by decide) (by decide) (by decide), x2, s_ne (by decide), xs _ _ _ (by decide), s_nf (by decide), s_nf (by decide), s_nf (by decide), s_at]
  · rw [zx _ _ _ (by decide) (by decide) (by decide), x2, s_ne (by decide), xs _ _ _ (by decide), s_nf (by decide), s_nf (by decide), s_at]
  · rw [zx _ _ _ (by decide) (by decide) (by decide), x2, s_ne (by decide), xs _ _ _ (by decide), s_nf (by decide), s_at]
  · rw [zx _ _ _ (by decide) (by decide) (by decide), x2, s_ne (by decide), xs _ _ _ (by decide), s_at]
  · rw [zx _ _ _ (by decide) (by decide) (by decide), x2, s_at]
  · intro i hi
    rw [zx _ _ _ (by decide) (by decide) (by decide), x2, s_ne (by decide)]
    exact if_pos ⟨rfl, rfl, hi⟩
  · intro i hi
    rw [z1 13 j i (fun q => absurd q.1 (by decide)), z1 14 j i (fun q => absurd q.1 (by decide))]
    exact y2 i hi
/-- rows of cars that are still to come; no call has appeared -/
def FR (C K : Nat) (r : Nat → Int32) : Prop := (∀ k, k < K → r (127 + k) = 0) ∧ ∀ c, C ≤ c → c < 4 → (∀ f, 2 ≤ f → f < 8 → r (23 + 4 * f + c) = 0) ∧ ∀ k, k < K → r (319 + 24 * c + k) = 0 ∧ r (511 + 24 * c + k) = -1 ∧ r (607 + 24 * c + k) = 0 ∧ ∀ q, q < 4 → r (703 + 4 * (24 * c + k) + q) = -1
theorem a_drop (σ : Sg) (o : Nat) {k : Nat} (hk : k < 24) : ∃ σ', f_X2_dropBids σ o (nI k) = some σ' ∧ (∀ k' o' i, ¬ (k' = 18 ∧ o' = o) → σ' k' o' i = σ k' o' i) ∧ ∀ i, σ' 18 o i = if 4 * k ≤ i ∧ i < 4 * k + 4 then -1 else σ 18 o i := by
  unfold f_X2_dropBids
  obtain ⟨n, b, ⟨b1, b2⟩, b3⟩ := lpE1 (fun n (b : Sg) i => f_X2_dropBids_2 n b o (nI k) i) 4 (by decide) (fun q b => (∀ k' o' i, ¬ (k' = 18 ∧ o' = o) → b k' o' i = σ k' o' i) ∧ ∀ i, b 18 o i = if 4 * k ≤ i ∧ i < 4 * k + q then -1 else σ 18 o i) (a := σ) (by
    rintro n q b hq ⟨j1, j2⟩
    refine ⟨sup b 18 o (4 * k + q) (-1), ⟨fun k' o' i hn => (FrO hn).trans (j1 k' o' i hn), fun i => ?_⟩, ?_⟩
    · by_cases w : i = 4 * k + q
      · subst w
        rw [s_at, if_pos ⟨by omega, by omega⟩]
      · rw [s_nf w, j2 i]
        by_cases w2 : 4 * k ≤ i ∧ i < 4 * k + q
        · rw [if_pos w2, if_pos ⟨w2.1, by omega⟩]
        · rw [if_neg w2, if_neg (fun z => w2 ⟨z.1, by omega⟩)]
    · simp (disch := omega) only [f_X2_dropBids_2_s, f_X2_noteBid, q_4, p_nle, if_false, ni_4m, ni_add, ni_nn, ni_cl, false_or, p_st, p_bv, ni_1]) ⟨fun _ _ _ _ => rfl, fun i => (if_neg (fun z => by omega)).symm⟩
  refine ⟨b, b3.trans ?_, b1, b2⟩
  simp (disch := omega) only [f_X2_dropBids_2_s, q_4, Nat.le_refl, if_true, f_X2_dropBids_20]
theorem a_start (σ : Sg) (o : Nat) (x y : Int32) : ∃ σ', f_X2_start σ o x y = some σ' ∧ (∀ k o' i, ¬ ((k = 2 ∨ 16 ≤ k ∧ k ≤ 19) ∧ o' = o) → σ' k o' i = σ k o' i) ∧ σ' 2 o 0 = x ∧ σ' 2 o 1 = y ∧ (∀ f, 2 ≤ f → f < 10 → σ' 2 o f = 0) ∧ (∀ i, i < 24 → σ' 16 o i = -1 ∧ σ' 17 o i = -1 ∧ ∀ q, q < 4 → σ' 18 o (4 * i + q) = -1) ∧ ∀ i, i < 4 → σ' 19 o i = 0 := by
  have start : ∃ X, f_X2_start σ o x y = f_X2_start_52 FU X o 0 ∧ X = sup (sup (sup (sup (sup (sup (sup (sup (sup (sup σ 2 o 0 x) 2 o 1 y) 2 o 2 0) 2 o 3 0) 2 o 4 0) 2 o 5 0) 2 o 6 0) 2 o 7 0) 2 o 8 0) 2 o 9 0 := by
    refine ⟨_, ?_, rfl⟩
    unfold f_X2_start
    rw [p_st, p_st, p_st, p_st, p_st, p_st, p_st, p_st, p_st, p_st]
  obtain ⟨X, x1, x2⟩ := start
  obtain ⟨n, Y, ⟨y1, y2⟩, y3⟩ := lpE1 (fun n (b : Sg) i => f_X2_start_52 n b o i) 24 (by decide) (fun c b => (∀ k o' i, ¬ ((k = 16 ∨ k = 17 ∨ k = 18) ∧ o' = o) → b k o' i = X k o' i) ∧ ∀ i, i < c → b 16 o i = -1 ∧ b 17 o i = -1 ∧ ∀ q, q < 4 → b 18 o (4 * i + q) = -1) (a := X) (by
    rintro n c b hc ⟨j1, j2⟩
    obtain ⟨Z, z1, z2, z3⟩ := a_drop (sup (sup b 16 o c (-1)) 17 o c (-1)) o hc
    refine ⟨Z, ⟨fun k o' i hn => ?_, fun i hi => ?_⟩, ?_⟩
    · rw [z2 k o' i (fun z => hn ⟨Or.inr (Or.inr z.1), z.2⟩), FrO (fun z => hn ⟨Or.inr (Or.inl z.1), z.2⟩), FrO (fun z => hn ⟨Or.inl z.1, z.2⟩)]
      exact j1 k o' i hn
    · rw [z2 16 o i (fun z => absurd z.1 (by decide)), z2 17 o i (fun z => absurd z.1 (by decide)), s_ne (show (16 : Nat) ≠ 17 by decide)]
      by_cases w : i = c
      · subst w
        refine ⟨s_at _ _ _ _ _, s_at _ _ _ _ _, fun q hq => ?_⟩
        rw [z3, if_pos ⟨by omega, by omega⟩]
      · have := j2 i (by omega)
        refine ⟨(s_nf w).trans this.1, by rw [s_nf w, s_ne (by decide)]; exact this.2.1, fun q hq => ?_⟩
        rw [z3, if_neg (fun z => by omega), s_ne (by decide), s_ne (by decide)]
        exact this.2.2 q hq
    · show f_X2_start_52 (n + 1) b o (nI c) = _
      rw [f_X2_start_52_s, if_neg (by rw [show (24 : Int32) = nI 24 from rfl, ni_le (by omega) (by omega)]; omega), gq (by omega) (by decide), ni_cl (by omega), p_st, gr (by omega) (by decide), p_st, z1, p_bv, ni_1]) ⟨fun _ _ _ _ => rfl, fun i hi => absurd hi (Nat.not_lt_zero i)⟩
  obtain ⟨m, Z, ⟨z1, z2⟩, z3⟩ := lpE1 (fun n (b : Sg) i => f_X2_start_85 n b o i) 4 (by decide) (fun c b => (∀ k o' i, ¬ (k = 19 ∧ o' = o) → b k o' i = Y k o' i) ∧ ∀ i, i < c → b 19 o i = 0) (a := Y) (by
    rintro n c b hc ⟨j1, j2⟩
    refine ⟨sup b 19 o c 0, ⟨fun k o' i hn => ?_, fun i hi => ?_⟩, ?_⟩
    · rw [FrO hn]
      exact j1 k o' i hn
    · by_cases w : i = c
      · subst w
        exact s_at _ _ _ _ _
      · rw [s_nf w]; exact j2 i (by omega)
    · show f_X2_start_85 (n + 1) b o (nI c) = _
      rw [f_X2_start_85_s, if_neg (by rw [show (4 : Int32) = nI 4 from rfl, ni_le (by omega) (by omega)]; omega), gq (by omega) (by decide), ni_cl (by omega), p_st, ni_1]) ⟨fun _ _ _ _ => rfl, fun i hi => absurd hi (Nat.not_lt_zero i)⟩
  have zx : ∀ i, Z 2 o i = X 2 o i := fun i => (z1 2 o i (fun q => absurd q.1 (by decide))).trans (y1 2 o i (fun q => absurd q.1 (by decide)))
  refine ⟨Z, ?_, fun k o' i hn => ?_, ?_, ?_, fun f h2 h10 => ?_, fun i hi => ?_, z2⟩
  · rw [x1]
    refine Eq.trans y3 ?_
    show f_X2_start_52 (n + 1) Y o (nI 24) = _
    rw [f_X2_start_52_s, if_pos (by decide)]
    unfold f_X2_start_83
    refine Eq.trans z3 ?_
    show f_X2_start_85 (m + 1) Z o (nI 4) = _
    rw [f_X2_start_85_s, if_pos (by decide)]
    rfl
  · have h2 : ¬ (k = 2 ∧ o' = o) := fun z => hn ⟨Or.inl z.1, z.2⟩
    rw [z1 k o' i (fun z => hn ⟨Or.inr (by omega), z.2⟩), y1 k o' i (fun z => hn ⟨Or.inr (by omega), z.2⟩), x2, FrO h2, FrO h2, FrO h2, FrO h2, FrO h2, FrO h2, FrO h2, FrO h2, FrO h2, FrO h2]
  · rw [zx, x2]
    simp (disch := omega) only [s_nf, s_at]
  · rw [zx, x2]
    simp (disch := omega) only [s_nf, s_at]
  · rw [zx, x2]
    have hf : f = 2 ∨ f = 3 ∨ f = 4 ∨ f = 5 ∨ f = 6 ∨ f = 7 ∨ f = 8 ∨ f = 9 := by omega
    rcases hf with rfl | rfl | rfl | rfl | rfl | rfl | rfl | rfl <;> simp (disch := omega) only [s_nf, s_at]
  · rw [z1 16 o i (fun q => absurd q.1 (by decide)), z1 17 o i (fun q => absurd q.1 (by decide))]
    refine ⟨(y2 i hi).1, (y2 i hi).2.1, fun q hq => ?_⟩
    rw [z1 18 o _ (fun q => absurd q.1 (by decide))]
    exact (y2 i hi).2.2 q hq
theorem S_car {F C K M T U : Nat} {v v' : Sg} {r r' : Nat → Int32} (h : LU F C K M T U v r) (hC : C < 4) (hR : FR C K r) {a p : Nat} (ha : a < F) (hp1 : 1 ≤ p) (hp8 : p ≤ 8)
    (e4 : ∀ i, i ≠ 1 → v' 4 0 i = v 4 0 i) (e4c : v' 4 0 1 = nI (C + 1))
    (eo : ∀ k, k ≠ 2 → k ≠ 4 → ¬ (16 ≤ k ∧ k ≤ 19) → ∀ o i, v' k o i = v k o i)
    (ec : ∀ k, (k = 2 ∨ 16 ≤ k ∧ k ≤ 19) → ∀ c, c ≠ C → ∀ i, v' k c i = v k c i)
    (n0 : v' 2 C 0 = nI a) (n1 : v' 2 C 1 = nI p) (nf : ∀ f, 2 ≤ f → f < 10 → v' 2 C f = 0)
    (nk : ∀ i, i < 24 → v' 16 C i = -1 ∧ v' 17 C i = -1 ∧ ∀ q, q < 4 → v' 18 C (4 * i + q) = -1) (n19 : ∀ i, i < 4 → v' 19 C i = 0)
    (r1 : r' 1 = nI (C + 1)) (r2 : r' (23 + C) = nI a) (r3 : r' (27 + C) = nI p) (r4 : ∀ i, i ≠ 1 → i ≠ 23 + C → i ≠ 27 + C → r' i = r i) : LU F (C + 1) K M T U v' r' ∧ FR (C + 1) K r' := by
  have dK := D_K h
  have dC := D_C h
  have dM := D_M h
  obtain ⟨f1, f2⟩ := hR
  obtain ⟨g1, g2⟩ := f2 C (Nat.le_refl _) hC
  refine ⟨⟨?_, V_set.ext h.2.1 (fun i => eo 12 (by decide) (by decide) (by decide) 0 i) (fun i h1 h2 => r4 i (by omega) (by omega) (by omega)), V_cnt.ext h.2.2.1 (fun i => eo 13 (by decide) (by decide) (by decide) 0 i) (fun i => eo 14 (by decide) (by decide) (by decide) 0 i) (fun i => eo 15 (by decide) (by decide) (by decide) 0 i) (fun i h1 h2 => r4 i (by omega) (by omega) (by omega)), fun c hc => ?_, fun k hk => ?_, fun c hc => ?_, fun c hc k => ?_, fun c hc k hk => ?_, fun c hc k hk hk2 => ?_, fun i hi => ?_⟩, fun k hk => ?_, fun c hc hc4 => ⟨fun f h2 h8 => ?_, fun k hk => ?_⟩⟩
  · obtain ⟨a1, a2, a3, a4, a5, a6, a7, a8, a9, a10, a11, a12, a13, a14, a15, a16⟩ := h.1
    exact ⟨(e4 0 (by decide)).trans a1, e4c, (e4 2 (by decide)).trans a3, (e4 3 (by decide)).trans a4, (eo 5 (by decide) (by decide) (by decide) 0 0).trans a5, (r4 0 (by omega) (by omega) (by omega)).trans a6, r1, (r4 2 (by omega) (by omega) (by omega)).trans a8, (r4 3 (by omega) (by omega) (by omega)).trans a9, (r4 10 (by omega) (by omega) (by omega)).trans a10, ((r4 9 (by omega) (by omega) (by omega)).trans a11).trans (e4 4 (by decide)).symm, a12, a13, by omega, a15, a16⟩
  · by_cases w : c = C
    · subst w
      refine ⟨fun f hf => ?_, ⟨a, ha, n0⟩, ⟨p, hp1, hp8, n1⟩, ⟨0, by decide, nf 2 (by decide) (by decide)⟩, Or.inl (nf 3 (by decide) (by decide)), Or.inl (nf 4 (by decide) (by decide))⟩
      by_cases f0 : f = 0
      · subst f0
        exact r2.trans n0.symm
      · by_cases f1 : f = 1
        · subst f1
          exact r3.trans n1.symm
        · rw [nf f (by omega) (by omega), r4 _ (by omega) (by omega) (by omega)]
          exact g1 f (by omega) hf
    · obtain ⟨a1, a2, a3, a4, a5, a6⟩ := h.2.2.2.1 c (by omega)
      have z : ∀ f, v' 2 c f = v 2 c f := ec 2 (Or.inl rfl) c w
      exact ⟨fun f hf => by rw [z, r4 _ (by omega) (by omega) (by omega)]; exact a1 f hf, by rw [z]; exact a2, by rw [z]; exact a3, by rw [z]; exact a4, by rw [z]; exact a5, by rw [z]; exact a6⟩
  · obtain ⟨a1, a2, a3, a4, a5, a6⟩ := V_call.ext h.2.2.2.2.1 dK (fun k f => eo 1 (by decide) (by decide) (by decide) k f) (fun i h1 h2 => r4 i (by omega) (by omega) (by omega)) k hk
    exact ⟨a1, a2, a3, a4, a5.imp id (fun ⟨c, h1, h2⟩ => ⟨c, by omega, h2⟩), a6⟩
  · by_cases w : c = C
    · subst w
      refine ⟨fun k hk => ?_, fun k _ => by rw [nf 8 (by decide) (by decide)]; exact b_0 k⟩
      rw [r4 _ (by omega) (by omega) (by omega), (g2 k hk).1, nf 8 (by decide) (by decide), b_0, if_neg (by decide)]
    · have a := h.2.2.2.2.2.1 c (by omega)
      have z : ∀ f, v' 2 c f = v 2 c f := ec 2 (Or.inl rfl) c w
      exact ⟨fun k hk => by rw [z, r4 _ (by omega) (by omega) (by omega)]; exact a.1 k hk, fun k hk => by rw [z]; exact a.2 k hk⟩
  · have e1 : ∀ f, v' 1 k f = v 1 k f := fun f => eo 1 (by decide) (by decide) (by decide) k f
    by_cases w : c = C
    · subst w
      rw [nf 9 (by decide) (by decide), b_0, decide_eq_false]
      intro q
      have a := (h.2.2.2.2.1 k q.1).1 3 (by decide) (by decide)
      have b := f1 k q.1
      rw [show 55 + 24 * 3 + k = 127 + k by omega, b] at a
      rw [e1, ← a] at q
      exact absurd q.2.1 (by decide)
    · rw [ec 2 (Or.inl rfl) c w, e1, e1]
      exact h.2.2.2.2.2.2.1 c (by omega) k
  · by_cases w : c = C
    · subst w
      obtain ⟨k1, k2, k3, k4⟩ := g2 k hk
      obtain ⟨m1, m2, m3⟩ := nk k (by omega)
      refine ⟨?_, fun q hq => ?_, fun t ht => ?_, fun q => ?_, Or.inl m2, fun q hq => Or.inl (m3 q hq)⟩
      · rw [r4 _ (by omega) (by omega) (by omega), k2, m2]
      · rw [r4 _ (by omega) (by omega) (by omega), k4 q hq, m3 q hq]
      · rw [r4 _ (by omega) (by omega) (by omega), k3, n19 t ht, b_0, b_0]
      · rw [nf 8 (by decide) (by decide), b_0, m2] at q
        exact q.elim (fun q => absurd q (by decide)) (fun q => absurd rfl q)
    · have a := h.2.2.2.2.2.2.2.1 c (by omega) k hk
      rw [r4 _ (by omega) (by omega) (by omega), r4 (607 + 24 * c + k) (by omega) (by omega) (by omega), r4 (415 + 24 * c + k) (by omega) (by omega) (by omega), ec 17 (by decide) c w, ec 2 (by decide) c w, ec 16 (by decide) c w]
      refine ⟨a.1, fun q hq => ?_, fun t ht => ?_, a.2.2.2.1, a.2.2.2.2.1, fun q hq => ?_⟩
      · rw [r4 _ (by omega) (by omega) (by omega), ec 18 (by decide) c w]; exact a.2.1 q hq
      · rw [ec 19 (by decide) c w]; exact a.2.2.1 t ht
      · rw [ec 18 (by decide) c w]; exact a.2.2.2.2.2 q hq
  · by_cases w : c = C
    · subst w
      obtain ⟨m1, m2, m3⟩ := nk k hk2
      exact ⟨m2, m3, fun t ht => by rw [n19 t ht]; exact b_0 k⟩
    · have a := h.2.2.2.2.2.2.2.2.1 c (by omega) k hk hk2
      exact ⟨(ec 17 (by decide) c w k).trans a.1, fun q hq => (ec 18 (by decide) c w _).trans (a.2.1 q hq), fun t ht => by rw [ec 19 (by decide) c w]; exact a.2.2 t ht⟩
  · obtain ⟨a1, a2, a3, a4, a5, a6, a7⟩ := V_msg.ext h.2.2.2.2.2.2.2.2.2 (fun i => eo 20 (by decide) (by decide) (by decide) 0 i) (fun i => eo 21 (by decide) (by decide) (by decide) 0 i) (fun i => eo 22 (by decide) (by decide) (by decide) 0 i) (fun i => eo 23 (by decide) (by decide) (by decide) 0 i) (fun i h1 => r4 i (by omega) (by omega) (by omega)) i hi
    exact ⟨a1, a2, a3, a4, a5, a6.imp id (fun ⟨d, c, h1, h2, h3, h4⟩ => ⟨d, c, h1, h2, by omega, h4⟩), a7⟩
  · rw [r4 _ (by omega) (by omega) (by omega)]; exact f1 k hk
  · rw [r4 _ (by omega) (by omega) (by omega)]; exact (f2 c (by omega) hc4).1 f h2 h8
  · obtain ⟨k1, k2, k3, k4⟩ := (f2 c (by omega) hc4).2 k hk
    exact ⟨by rw [r4 _ (by omega) (by omega) (by omega)]; exact k1, by rw [r4 _ (by omega) (by omega) (by omega)]; exact k2, by rw [r4 _ (by omega) (by omega) (by omega)]; exact k3, fun q hq => by rw [r4 _ (by omega) (by omega) (by omega)]; exact k4 q hq⟩
theorem LU.kf {F C K M T U j : Nat} {σ σ' : Sg} {r : Nat → Int32} (h : LU F C K M T U (vw j σ) r) (hf : KFT σ σ') : LU F C K M T U (vw j σ') r :=
  h.both (Veq.lk (D_C h) (D_K h) (fun k o i hk => hf k o i (fun z => by unfold LK at hk; omega))) (fun _ _ => rfl)
/-- what reading a statement leaves alone -/
def GY (σ σ' : Sg) : Prop := ∀ k i, (k = 3 ∨ k = 7 ∨ k = 10) → σ' k 0 i = σ k 0 i
theorem GY.rf (σ : Sg) : GY σ σ := fun _ _ _ => rfl
theorem GY.trans {a b c : Sg} (h : GY a b) (h' : GY b c) : GY a c := fun k i q => (h' k i q).trans (h k i q)
theorem KFT.gy {σ σ' : Sg} (h : KFT σ σ') : GY σ σ' := fun k i q => h k 0 i (fun z => by omega)
/-- what a change of the lifts being read leaves alone -/
def GX (σ σ' : Sg) : Prop := ∀ k i, (k = 3 ∨ k = 6 ∨ k = 7 ∨ k = 10) → σ' k 0 i = σ k 0 i
theorem GX.gy {σ σ' : Sg} (h : GX σ σ') : GY σ σ' := fun k i q => h k i (by omega)
theorem GX.fr {σ σ' : Sg} (h : Fr 1 σ σ') : GX σ σ' := fun k i q => h k 0 i (by rcases q with rfl | rfl | rfl | rfl <;> first | exact fun z => False.elim z | exact fun z => absurd (show (0 : Nat) = 1 from z) (by decide))
/-- the reader stands at p -/
def RD (n : Nat) (inp : Nat → Nat) (p : Nat) (σ : Sg) : Prop := CX n inp σ ∧ σ 6 0 4 = nI p
theorem RD.gx {n p : Nat} {inp : Nat → Nat} {σ σ' : Sg} (h : RD n inp p σ) (hg : GX σ σ') : RD n inp p σ' := by
  obtain ⟨⟨a, b, c, d⟩, e⟩ := h
  exact ⟨⟨(hg 6 2 (by omega)).trans a, (hg 6 3 (by omega)).trans b, c, fun i hi => ⟨(d i hi).1, (hg 10 i (by omega)).trans (d i hi).2⟩⟩, (hg 6 4 (by omega)).trans e⟩
/-- a blank and the number v stand at p, L digits -/
def N_at (inp : Nat → Nat) (n p L v : Nat) : Prop := 0 < L ∧ L ≤ 4 ∧ inp p = 32 ∧ p + 1 + L < n ∧ lxD (inp (p + 1 + L)) = false ∧ ∃ c : Nat → Nat, (∀ j, j < L → inp (p + 1 + j) = 48 + c j ∧ c j < 10) ∧ dvs c L = v
/-- a word stands at p, a blank behind it -/
def W_at (inp : Nat → Nat) (n p w : Nat) : Prop := w_at inp p w ∧ p + Wln w < n ∧ inp (p + Wln w) = 32
section RDX
variable {n p L v : Nat} {inp : Nat → Nat} {σ τ τ' : Sg} {F C K : Nat}
theorem r_num (h : RD n inp p σ) (hN : N_at inp n p L v) {lo hi : Int32} (h1 : ¬ nI v < lo) (h2 : nI v ≤ hi) : ∃ σ', f_X6_readNumber σ lo hi = some (1, σ') ∧ KFT σ σ' ∧ RD n inp (p + 1 + L) σ' ∧ σ' 6 0 7 = nI v := by
  obtain ⟨hL, hL4, hb, hn, he, c, hc, hv⟩ := hN
  obtain ⟨t1, t2, t3, t4, t5⟩ := k_numT hL hL4 hb hc hn he
  obtain ⟨σ', e1, e2, e3, e4, e5, e6⟩ := a_next h.1 h.2 (by omega)
  have e7 : σ' 6 0 7 = nI v := by rw [e6 t4, t5, hv]
  refine ⟨σ', ?_, e2, ⟨h.1.kf e2, by rw [e3, t2]⟩, e7⟩
  unfold f_X6_readNumber
  rw [e1, p_bv, e4, t4, if_pos (show nI 2 = 2 from rfl), e7, if_neg h1, if_pos h2]
theorem r_semi (h : RD n inp p σ) (hp : p < n) (hb : inp p = 59) : ∃ σ', f_X6_readSemicolon σ = some (1, σ') ∧ KFT σ σ' ∧ RD n inp (p + 1) σ' := by
  obtain ⟨t1, t2⟩ := k_semiT hp hb
  obtain ⟨σ', e1, e2, e3, e4, e5, e6⟩ := a_next h.1 h.2 (by omega)
  refine ⟨σ', ?_, e2, ⟨h.1.kf e2, by rw [e3, t1]⟩⟩
  unfold f_X6_readSemicolon f_X6_readSemicolon_20 f_X6_readSemicolon_25
  rw [e1, p_bv, e4, t2, if_pos (show nI 3 = 3 from rfl)]
  rfl
/-- the word of a statement is read -/
theorem r_word (h : RD n inp p σ) {w : Nat} (hw : w < 9) (hW : W_at inp n p w) : ∃ σ', f_X6_nextToken σ = some σ' ∧ KFT σ σ' ∧ RD n inp (p + Wln w) σ' ∧ σ' 6 0 5 = 1 ∧ ∀ w', w' < 9 → f_X6_isWord σ' w' = some (W_b (decide (w' = w)), σ') := by
  obtain ⟨x1, x2, x3⟩ := hW
  obtain ⟨⟨t1, t2, t3, t4⟩, t5⟩ := k_wordW hw x1 (fun j hj => (h.1.2.2.2 _ (by omega)).1) x2 x3
  obtain ⟨σ', e1, e2, e3, e4, e5, e6⟩ := a_next h.1 h.2 (by omega)
  refine ⟨σ', e1, e2, ⟨h.1.kf e2, by rw [e3, t2]⟩, by rw [e4, t4]; rfl, fun w' hw' => ?_⟩
  rw [a_word (p := p) ⟨h.1.kf e2, by omega, e3, e4, e5, e6⟩ hw', t5 w' hw']
theorem r_addCar (h : LU F C 0 0 0 0 (vw 1 σ) (rwL τ)) (hC : C < 4) (hR : FR C 0 (rwL τ)) {a p : Nat} (ha : a < F) (hp1 : 1 ≤ p) (hp8 : p ≤ 8) (e1 : rwL τ' 1 = nI (C + 1)) (e2 : rwL τ' (23 + C) = nI a) (e3 : rwL τ' (27 + C) = nI p) (e4 : ∀ i, i ≠ 1 → i ≠ 23 + C → i ≠ 27 + C → rwL τ' i = rwL τ i) : ∃ σ', f_X4_addCar σ 1 (nI a) (nI p) = some σ' ∧ LU F (C + 1) 0 0 0 0 (vw 1 σ') (rwL τ') ∧ FR (C + 1) 0 (rwL τ') ∧ GX σ σ' := by
  obtain ⟨X, x1, x2, x3, x4, x5, x6, x7⟩ := a_start σ (4 * 1 + C) (nI a) (nI p)
  have hX : X 4 1 1 = nI C := (x2 4 1 1 (fun z => absurd z.1 (by decide))).trans (A_C h)
  have ho : ∀ k o i, k ≠ 4 → ¬ ((k = 2 ∨ 16 ≤ k ∧ k ≤ 19) ∧ o = 4 * 1 + C) → sup X 4 1 1 (nI (C + 1)) k o i = σ k o i := fun k o i h1 h2 => by
    rw [s_ne h1]; exact x2 k o i h2
  have hs : ∀ k o i, k ≠ 4 → sup X 4 1 1 (nI (C + 1)) k o i = X k o i := fun k o i h => by rw [s_ne h]
  have s := S_car (v' := vw 1 (sup X 4 1 1 (nI (C + 1)))) (r' := rwL τ') h hC hR ha hp1 hp8
    (fun i hi => by
      show sup X 4 1 1 (nI (C + 1)) 4 1 i = σ 4 1 i
      rw [s_nf hi]; exact x2 4 1 i (fun z => absurd z.1 (by decide)))
    (s_at _ _ _ _ _)
    (fun k h2 h4 h16 o i => by
      unfold vw
      split <;> exact ho _ _ _ (by omega) (fun z => by omega))
    (fun k hk c hc i => by
      unfold vw
      rcases hk with rfl | ⟨h1, h2⟩
      · exact ho _ _ _ (by omega) (fun z => hc (by omega))
      · have hk2 : k = 16 ∨ k = 17 ∨ k = 18 ∨ k = 19 := by omega
        rcases hk2 with rfl | rfl | rfl | rfl <;> exact ho _ _ _ (by omega) (fun z => hc (by omega)))
    ((hs 2 (4 * 1 + C) 0 (by decide)).trans x3) ((hs 2 (4 * 1 + C) 1 (by decide)).trans x4) (fun f h2 h10 => (hs 2 (4 * 1 + C) f (by decide)).trans (x5 f h2 h10))
    (fun i hi => ⟨(hs 16 (4 * 1 + C) i (by decide)).trans (x6 i hi).1, (hs 17 (4 * 1 + C) i (by decide)).trans (x6 i hi).2.1, fun q hq => (hs 18 (4 * 1 + C) (4 * i + q) (by decide)).trans ((x6 i hi).2.2 q hq)⟩)
    (fun i hi => (hs 19 (4 * 1 + C) i (by decide)).trans (x7 i hi))
    e1 e2 e3 e4
  refine ⟨sup X 4 1 1 (nI (C + 1)), ?_, s.1, s.2, ?_⟩
  · unfold f_X4_addCar f_X4_addCar_32
    rw [A_C h, if_neg (by rw [show (4 : Int32) = nI 4 from rfl, ni_le (by omega) (by omega)]; omega), gq hC (by decide), ni_cl (by omega), x1, p_bv, hX, ni_1, p_st]
  · intro k i q
    rw [s_ne (show k ≠ 4 by omega)]
    exact x2 k 0 i (fun z => by omega)
/-- a car of the text -/
theorem r_car (h : RD n inp p σ) (hl : LU F C 0 0 0 0 (vw 1 σ) (rwL τ)) (hC : C < 4) (hR : FR C 0 (rwL τ)) {a L1 c L2 : Nat} (ha : a < F) (hp1 : 1 ≤ c) (hp8 : c ≤ 8) (n1 : N_at inp n p L1 a) (n2 : N_at inp n (p + 1 + L1) L2 c) (hs : p + 1 + L1 + 1 + L2 < n ∧ inp (p + 1 + L1 + 1 + L2) = 59) (e1 : rwL τ' 1 = nI (C + 1)) (e2 : rwL τ' (23 + C) = nI a) (e3 : rwL τ' (27 + C) = nI c) (e4 : ∀ i, i ≠ 1 → i ≠ 23 + C → i ≠ 27 + C → rwL τ' i = rwL τ i) :
    ∃ σ', f_X6_readCar σ 1 = some (1, σ') ∧ RD n inp (p + 1 + L1 + 1 + L2 + 1) σ' ∧ LU F (C + 1) 0 0 0 0 (vw 1 σ') (rwL τ') ∧ FR (C + 1) 0 (rwL τ') ∧ GY σ σ' := by
  have hF := D_F hl
  obtain ⟨σ1, a1, a2, a3, a4⟩ := r_num h n1 (lo := 0) (hi := nI (F - 1)) (by rw [ni_nn (by omega)]; exact id) (by rw [ni_le (by omega) (by omega)]; omega)
  obtain ⟨σ2, b1, b2, b3, b4⟩ := r_num a3 n2 (lo := 1) (hi := 8) (by rw [show (1 : Int32) = nI 1 from rfl, ni_lt (by omega) (by omega)]; omega) (by rw [show (8 : Int32) = nI 8 from rfl, ni_le (by omega) (by omega)]; exact hp8)
  obtain ⟨σ3, c1, c2, c3, c4⟩ := r_addCar ((hl.kf a2).kf b2) hC hR ha hp1 hp8 e1 e2 e3 e4
  obtain ⟨σ4, d1, d2, d3⟩ := r_semi (b3.gx c4) hs.1 hs.2
  refine ⟨σ4, ?_, d3, c2.kf d2, c3, a2.gy.trans (b2.gy.trans (c4.gy.trans d2.gy))⟩
  unfold f_X6_readCar
  rw [A_C hl, if_pos (by rw [show (4 : Int32) = nI 4 from rfl, ni_lt (by omega) (by omega)]; exact hC), A_F hl, show nI F - 1 = nI (F - 1) from ni_sub (b := 1) (by omega), a1, p_bi, if_neg (by decide), b1, p_bi, if_neg (by decide), a4, b4, c1, p_bv, d1, p_bi]
  rfl
end RDX
