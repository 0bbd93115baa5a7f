/-! copying one Lifts into another; what a copy and ticks leave alone -/
theorem FrO {σ : Sg} {k o i : Nat} {x : Int32} {k' o' i' : Nat} (h : ¬ (k' = k ∧ o' = o)) : sup σ k o i x k' o' i' = σ k' o' i' := if_neg (fun q => h ⟨q.1, q.2.1⟩)
theorem a_cpCar (a : Sg) {d s : Nat} (hds : d ≠ s) (h3 : a 2 s 3 = 0 ∨ a 2 s 3 = 1) (h4 : a 2 s 4 = 0 ∨ a 2 s 4 = 1) :
    ∃ X, f_X2_copyFrom a d s = some X ∧ (∀ k o i, ¬ ((k = 2 ∨ (16 ≤ k ∧ k ≤ 19)) ∧ o = d) → X k o i = a k o i) ∧ (∀ f, f < 10 → X 2 d f = a 2 s f) ∧ (∀ i, i < 24 → X 16 d i = a 16 s i ∧ X 17 d i = a 17 s i) ∧ (∀ i, i < 96 → X 18 d i = a 18 s i) ∧ ∀ i, i < 4 → X 19 d i = a 19 s i := by
  have hsd : s ≠ d := fun q => hds q.symm
  have e3 : (¬ (a 2 s 3 = 0 ∨ a 2 s 3 = 1)) = False := eq_false (fun q => q h3)
  have e4 : (¬ (a 2 s 4 = 0 ∨ a 2 s 4 = 1)) = False := eq_false (fun q => q h4)
  refine ⟨scp (scp (scp (scp (sup (sup (sup (sup (sup (sup (sup (sup (sup (sup a 2 d 0 (a 2 s 0)) 2 d 1 (a 2 s 1)) 2 d 2 (a 2 s 2)) 2 d 3 (a 2 s 3)) 2 d 4 (a 2 s 4)) 2 d 5 (a 2 s 5)) 2 d 6 (a 2 s 6)) 2 d 7 (a 2 s 7)) 2 d 8 (a 2 s 8)) 2 d 9 (a 2 s 9)) 16 s 0 16 d 0 24) 17 s 0 17 d 0 24) 18 s 0 18 d 0 96) 19 s 0 19 d 0 4, ?_, ?_, ?_, ?_, ?_, ?_⟩
  · unfold f_X2_copyFrom
    simp (disch := first | exact hsd | omega) only [p_st, s_no, e3, e4, if_false]
    rfl
  · intro k o i h
    have h2 : ¬ (k = 2 ∧ o = d) := fun q => h ⟨Or.inl q.1, q.2⟩
    unfold scp
    rw [if_neg (fun q => h ⟨Or.inr (by omega), q.2.1⟩), if_neg (fun q => h ⟨Or.inr (by omega), q.2.1⟩), if_neg (fun q => h ⟨Or.inr (by omega), q.2.1⟩), if_neg (fun q => h ⟨Or.inr (by omega), q.2.1⟩)]
    rw [FrO h2, FrO h2, FrO h2, FrO h2, FrO h2, FrO h2, FrO h2, FrO h2, FrO h2, FrO h2]
  · intro f hf
    rw [c_ne (by decide), c_ne (by decide), c_ne (by decide), c_ne (by decide)]
    have hf2 : f = 0 ∨ f = 1 ∨ f = 2 ∨ f = 3 ∨ f = 4 ∨ f = 5 ∨ f = 6 ∨ f = 7 ∨ f = 8 ∨ f = 9 := by omega
    rcases hf2 with rfl | rfl | rfl | rfl | rfl | rfl | rfl | rfl | rfl | rfl <;> simp (disch := omega) only [s_nf, s_at]
  · intro i hi
    refine ⟨?_, ?_⟩
    · simp (disch := omega) only [c_ne, c_in0, s_ne]
    · simp (disch := omega) only [c_ne, c_in0, s_ne]
  · intro i hi
    simp (disch := omega) only [c_ne, c_in0, s_ne]
  · intro i hi
    simp (disch := omega) only [c_ne, c_in0, s_ne]
theorem a_cpCall (a : Sg) {d s : Nat} (hds : d ≠ s) :
    ∃ X, f_X1_copyFrom a d s = some X ∧ (∀ k o i, ¬ (k = 1 ∧ o = d) → X k o i = a k o i) ∧ ∀ f, f < 11 → X 1 d f = a 1 s f := by
  have hsd : s ≠ d := fun q => hds q.symm
  refine ⟨sup (sup (sup (sup (sup (sup (sup (sup (sup (sup (sup a 1 d 0 (a 1 s 0)) 1 d 1 (a 1 s 1)) 1 d 2 (a 1 s 2)) 1 d 3 (a 1 s 3)) 1 d 4 (a 1 s 4)) 1 d 5 (a 1 s 5)) 1 d 6 (a 1 s 6)) 1 d 7 (a 1 s 7)) 1 d 8 (a 1 s 8)) 1 d 9 (a 1 s 9)) 1 d 10 (a 1 s 10), ?_, ?_, ?_⟩
  · unfold f_X1_copyFrom
    simp (disch := first | exact hsd | omega) only [p_st, s_no]
  · intro k o i h
    rw [FrO h, FrO h, FrO h, FrO h, FrO h, FrO h, FrO h, FrO h, FrO h, FrO h, FrO h]
  · intro f hf
    have hf2 : f = 0 ∨ f = 1 ∨ f = 2 ∨ f = 3 ∨ f = 4 ∨ f = 5 ∨ f = 6 ∨ f = 7 ∨ f = 8 ∨ f = 9 ∨ f = 10 := by omega
    rcases hf2 with rfl | rfl | rfl | rfl | rfl | rfl | rfl | rfl | rfl | rfl | rfl <;> simp (disch := omega) only [s_nf, s_at]
theorem a_cpMsg (a : Sg) {d s M : Nat} (hds : d ≠ s) (h5 : a 5 s 0 = nI M) (hM : M ≤ 240) :
    ∃ X, f_X5_copyFrom a d s = some X ∧ (∀ k o i, ¬ ((k = 5 ∨ (20 ≤ k ∧ k ≤ 23)) ∧ o = d) → X k o i = a k o i) ∧ X 5 d 0 = nI M ∧ ∀ i, i < M → X 20 d i = a 20 s i ∧ X 21 d i = a 21 s i ∧ X 22 d i = a 22 s i ∧ X 23 d i = a 23 s i := by
  refine ⟨scp (scp (scp (scp (sup a 5 d 0 (nI M)) 20 s 0 20 d 0 M) 21 s 0 21 d 0 M) 22 s 0 22 d 0 M) 23 s 0 23 d 0 M, ?_, ?_, ?_, ?_⟩
  · unfold f_X5_copyFrom
    simp (disch := omega) only [h5, p_st, c_ne, s_at, ni_nn, ni_cl, p_nl, false_or, if_false]
  · intro k o i h
    unfold scp
    rw [if_neg (fun q => h ⟨Or.inr (by omega), q.2.1⟩), if_neg (fun q => h ⟨Or.inr (by omega), q.2.1⟩), if_neg (fun q => h ⟨Or.inr (by omega), q.2.1⟩), if_neg (fun q => h ⟨Or.inr (by omega), q.2.1⟩), FrO (fun q => h ⟨Or.inl q.1, q.2⟩)]
  · simp (disch := omega) only [c_ne, s_at]
  · intro i hi
    refine ⟨?_, ?_, ?_, ?_⟩ <;> simp (disch := omega) only [c_ne, c_in0, s_ne]
theorem Own_no {p q k o : Nat} (h : p ≠ q) (ho : Own p k o) : ¬ Own q k o := by
  unfold Own at *
  split at ho <;> first | (intro h2; exact h (ho.symm.trans h2)) | exact absurd ho id
section CP
variable {F C K M T U p q : Nat} {σ : Sg} {r : Nat → Int32}
theorem t_copy (h : LU F C K M T U (vw p σ) r) (hpq : p ≠ q) :
    ∃ σ', f_X4_copyFrom σ q p = some σ' ∧ Fr q σ σ' ∧ Veq C K M (vw p σ) (vw q σ') := by
  have hC := D_C h
  have hK := D_K h
  have hM := D_M h
  -- the part ahead of the loops
  have z0 : ∃ X, (∀ k o i, ¬ ((k = 4 ∨ k = 12) ∧ o = q) → X k o i = σ k o i) ∧ (∀ i, i < 5 → X 4 q i = σ 4 p i) ∧ (∀ i, i < 5 → X 12 q i = σ 12 p i) ∧ f_X4_copyFrom σ q p = f_X4_copyFrom_56 FU X q p 0 := by
    refine ⟨scp (sup (sup (sup (sup (sup σ 4 q 0 (σ 4 p 0)) 4 q 1 (σ 4 p 1)) 4 q 2 (σ 4 p 2)) 4 q 3 (σ 4 p 3)) 4 q 4 (σ 4 p 4)) 12 p 0 12 q 0 5, ?_, ?_, ?_, ?_⟩
    · intro k o i hn
      have h4 : ¬ (k = 4 ∧ o = q) := fun z => hn ⟨Or.inl z.1, z.2⟩
      unfold scp
      rw [if_neg (fun z => hn ⟨Or.inr z.1, z.2.1⟩), FrO h4, FrO h4, FrO h4, FrO h4, FrO h4]
    · intro i hi
      rw [c_ne (by decide)]
      have hi2 : i = 0 ∨ i = 1 ∨ i = 2 ∨ i = 3 ∨ i = 4 := by omega
      rcases hi2 with rfl | rfl | rfl | rfl | rfl <;> simp (disch := omega) only [s_nf, s_at]
    · intro i hi
      simp (disch := omega) only [c_in0, s_ne]
    · unfold f_X4_copyFrom
      simp (disch := first | exact hpq | omega) only [p_st, s_no]
      rfl
  obtain ⟨X0, x1, x2, x3, x4⟩ := z0
  have fr0 : Fr q σ X0 := fun k o i hn => x1 k o i (fun z => hn (by
    rcases z with ⟨rfl | rfl, rfl⟩
    · exact (rfl : o = o)
    · exact (rfl : o = o)))
  have keep : ∀ {a : Sg}, Fr q σ a → ∀ k o i, Own p k o → a k o i = σ k o i := fun hf k o i ho => hf k o i (Own_no hpq ho)
  have XC : X0 4 q 1 = nI C := (x2 1 (by decide)).trans (A_C h)
  have XK : X0 4 q 2 = nI K := (x2 2 (by decide)).trans (A_K h)
  obtain ⟨n1, a1, ⟨i1, i2, i3⟩, i4⟩ := lpE1 (fun n (a : Sg) i => f_X4_copyFrom_56 n a q p i) C (by omega) (fun c a => Fr q σ a ∧ (∀ k i, (k = 4 ∨ k = 12) → a k q i = X0 k q i) ∧ ∀ c', c' < c → (∀ f, f < 10 → a 2 (4 * q + c') f = σ 2 (4 * p + c') f) ∧ (∀ i, i < 24 → a 16 (4 * q + c') i = σ 16 (4 * p + c') i ∧ a 17 (4 * q + c') i = σ 17 (4 * p + c') i) ∧ (∀ i, i < 96 → a 18 (4 * q + c') i = σ 18 (4 * p + c') i) ∧ ∀ i, i < 4 → a 19 (4 * q + c') i = σ 19 (4 * p + c') i) (a := X0) (by
    rintro n c a hc ⟨j1, j2, j3⟩
    have e3 : σ 2 (4 * p + c) 3 = 0 ∨ σ 2 (4 * p + c) 3 = 1 := (h.2.2.2.1 c hc).2.2.2.2.1
    have e4 : σ 2 (4 * p + c) 4 = 0 ∨ σ 2 (4 * p + c) 4 = 1 := (h.2.2.2.1 c hc).2.2.2.2.2
    have k2 : ∀ f, a 2 (4 * p + c) f = σ 2 (4 * p + c) f := fun f => keep j1 _ _ _ (O_2 (by omega))
    obtain ⟨Y, y1, y2, y3, y4, y5, y6⟩ := a_cpCar a (d := 4 * q + c) (s := 4 * p + c) (by omega) (by rw [k2]; exact e3) (by rw [k2]; exact e4)
    refine ⟨Y, ⟨j1.trans (fun k o i hn => y2 k o i (fun z => hn ?_)), fun k i hk => (y2 k q i (by omega)).trans (j2 k i hk), fun c' hc' => ?_⟩, ?_⟩
    · obtain ⟨z1, rfl⟩ := z
      rcases (show k = 2 ∨ k = 16 ∨ k = 17 ∨ k = 18 ∨ k = 19 by omega) with rfl | rfl | rfl | rfl | rfl
      · exact O_2 (by omega)
      · exact O_16 (by omega)
      · exact O_17 (by omega)
      · exact O_18 (by omega)
      · exact O_19 (by omega)
    · by_cases w : c' = c
      · subst w
        exact ⟨fun f hf => (y3 f hf).trans (k2 f), fun i hi => ⟨(y4 i hi).1.trans (keep j1 _ _ _ (O_16 (by omega))), (y4 i hi).2.trans (keep j1 _ _ _ (O_17 (by omega)))⟩, fun i hi => (y5 i hi).trans (keep j1 _ _ _ (O_18 (by omega))), fun i hi => (y6 i hi).trans (keep j1 _ _ _ (O_19 (by omega)))⟩
      · obtain ⟨w1, w2, w3, w4⟩ := j3 c' (by omega)
        have ne : ∀ k i, Y k (4 * q + c') i = a k (4 * q + c') i := fun k i => y2 k _ i (by omega)
        exact ⟨fun f hf => (ne _ _).trans (w1 f hf), fun i hi => ⟨(ne _ _).trans (w2 i hi).1, (ne _ _).trans (w2 i hi).2⟩, fun i hi => (ne _ _).trans (w3 i hi), fun i hi => (ne _ _).trans (w4 i hi)⟩
    · simp (disch := omega) only [f_X4_copyFrom_56_s, j2 4 1 (Or.inl rfl), XC, ni_le, p_nle, if_false, ni_nn, ni_cl, false_or, y1, p_bv, ni_1]) ⟨fr0, fun _ _ _ => rfl, fun c' hc' => absurd hc' (Nat.not_lt_zero c')⟩
  obtain ⟨n2, a2, ⟨l1, l2, l3⟩, l4⟩ := lpE1 (fun n (a : Sg) i => f_X4_copyFrom_87 n a q p i) K (by omega) (fun c a => Fr q σ a ∧ (∀ k o i, k ≠ 1 → a k o i = a1 k o i) ∧ ∀ c', c' < c → ∀ f, f < 11 → a 1 (24 * q + c') f = σ 1 (24 * p + c') f) (a := a1) (by
    rintro n c a hc ⟨j1, j2, j3⟩
    obtain ⟨Y, y1, y2, y3⟩ := a_cpCall a (d := 24 * q + c) (s := 24 * p + c) (by omega)
    refine ⟨Y, ⟨j1.trans (fun k o i hn => y2 k o i (fun z => hn ?_)), fun k o i hk => (y2 k o i (fun z => hk z.1)).trans (j2 k o i hk), fun c' hc' f hf => ?_⟩, ?_⟩
    · obtain ⟨rfl, rfl⟩ := z
      exact O_1 (by omega)
    · by_cases w : c' = c
      · subst w
        exact (y3 f hf).trans (keep j1 _ _ _ (O_1 (by omega)))
      · exact (y2 1 _ f (by omega)).trans (j3 c' (by omega) f hf)
    · have aK : a 4 q 2 = nI K := (j2 4 q 2 (by decide)).trans ((i2 4 2 (Or.inl rfl)).trans XK)
      simp (disch := omega) only [f_X4_copyFrom_87_s, aK, ni_le, p_nle, if_false, ni_nn, ni_cl, false_or, y1, p_bv, ni_1]) ⟨i1, fun _ _ _ _ => rfl, fun c' hc' => absurd hc' (Nat.not_lt_zero c')⟩
  have a5 : a2 5 p 0 = nI M := (keep l1 5 p 0 (rfl : p = p)).trans (A_M h)
  obtain ⟨Y, y1, y2, y3, y4⟩ := a_cpMsg a2 (d := q) (s := p) (fun z => hpq z.symm) a5 hM
  have fY : Fr q σ Y := l1.trans (fun k o i hn => y2 k o i (fun z => hn (by
    obtain ⟨z1, rfl⟩ := z
    rcases (show k = 5 ∨ k = 20 ∨ k = 21 ∨ k = 22 ∨ k = 23 by omega) with rfl | rfl | rfl | rfl | rfl <;> exact (rfl : o = o))))
  have fZ : Fr q σ (scp (scp (scp Y 13 p 0 13 q 0 4) 14 p 0 14 q 0 4) 15 p 0 15 q 0 5) := fY.trans (fun k o i hn => by
    unfold scp
    rw [if_neg (fun z => hn (by obtain ⟨rfl, rfl, -⟩ := z; exact (rfl : o = o))), if_neg (fun z => hn (by obtain ⟨rfl, rfl, -⟩ := z; exact (rfl : o = o))), if_neg (fun z => hn (by obtain ⟨rfl, rfl, -⟩ := z; exact (rfl : o = o)))])
  refine ⟨scp (scp (scp Y 13 p 0 13 q 0 4) 14 p 0 14 q 0 4) 15 p 0 15 q 0 5, ?_, fZ, ?_⟩
  · rw [x4]
    refine Eq.trans i4 ?_
    rw [f_X4_copyFrom_56_s, i2 4 1 (Or.inl rfl), XC, if_pos (by rw [ni_le (by omega) (by omega)]; exact Nat.le_refl C)]
    unfold f_X4_copyFrom_85
    refine Eq.trans l4 ?_
    rw [f_X4_copyFrom_87_s, l2 4 q 2 (by decide), i2 4 2 (Or.inl rfl), XK, if_pos (by rw [ni_le (by omega) (by omega)]; exact Nat.le_refl K)]
    unfold f_X4_copyFrom_116
    rw [y1, p_bv]
    rfl
  · have Yk : ∀ k o i, k ≠ 5 → ¬ (20 ≤ k ∧ k ≤ 23) → k ≠ 13 → k ≠ 14 → k ≠ 15 → (scp (scp (scp Y 13 p 0 13 q 0 4) 14 p 0 14 q 0 4) 15 p 0 15 q 0 5) k o i = a2 k o i := fun k o i h1 h2 h3 h4 h5 => by
      rw [c_ne h5, c_ne h4, c_ne h3]
      exact y2 k o i (fun z => z.1.elim h1 h2)
    have Y1 : ∀ k o i, k ≠ 1 → k ≠ 5 → ¬ (20 ≤ k ∧ k ≤ 23) → k ≠ 13 → k ≠ 14 → k ≠ 15 → (scp (scp (scp Y 13 p 0 13 q 0 4) 14 p 0 14 q 0 4) 15 p 0 15 q 0 5) k o i = a1 k o i := fun k o i h0 h1 h2 h3 h4 h5 => (Yk k o i h1 h2 h3 h4 h5).trans (l2 k o i h0)
    have Yp : ∀ k i, (k = 13 ∨ k = 14 ∨ k = 15) → Y k p i = σ k p i := fun k i hk => fY k p i (by
      rcases hk with rfl | rfl | rfl <;> (show ¬ (p = q); exact hpq))
    refine ⟨fun i hi => ?_, ?_, fun i hi => ?_, fun i hi => ⟨?_, ?_⟩, fun i hi => ?_, fun c hc => ?_, fun k hk f hf => ?_, fun i hi => ?_⟩
    · exact (Y1 4 q i (by decide) (by decide) (by decide) (by decide) (by decide) (by decide)).trans ((i2 4 i (Or.inl rfl)).trans (x2 i hi))
    · have e : (scp (scp (scp Y 13 p 0 13 q 0 4) 14 p 0 14 q 0 4) 15 p 0 15 q 0 5) 5 q 0 = nI M := by
        rw [c_ne (by decide), c_ne (by decide), c_ne (by decide)]
        exact y3
      exact e.trans (A_M h).symm
    · exact (Y1 12 q i (by decide) (by decide) (by decide) (by decide) (by decide) (by decide)).trans ((i2 12 i (Or.inr rfl)).trans (x3 i hi))
    · show (scp (scp (scp Y 13 p 0 13 q 0 4) 14 p 0 14 q 0 4) 15 p 0 15 q 0 5) 13 q i = σ 13 p i
      rw [c_ne (by decide), c_ne (by decide), c_in0 hi]
      exact Yp 13 i (by decide)
    · show (scp (scp (scp Y 13 p 0 13 q 0 4) 14 p 0 14 q 0 4) 15 p 0 15 q 0 5) 14 q i = σ 14 p i
      rw [c_ne (by decide), c_in0 hi, c_ne (by decide)]
      exact Yp 14 i (by decide)
    · show (scp (scp (scp Y 13 p 0 13 q 0 4) 14 p 0 14 q 0 4) 15 p 0 15 q 0 5) 15 q i = σ 15 p i
      rw [c_in0 hi, c_ne (by decide), c_ne (by decide)]
      exact Yp 15 i (by decide)
    · obtain ⟨w1, w2, w3, w4⟩ := i3 c hc
      refine ⟨fun f hf => ?_, fun i hi => ⟨?_, ?_⟩, fun i hi => ?_, fun i hi => ?_⟩
      · exact (Y1 2 _ f (by decide) (by decide) (by decide) (by decide) (by decide) (by decide)).trans (w1 f hf)
      · exact (Y1 16 _ i (by decide) (by decide) (by decide) (by decide) (by decide) (by decide)).trans (w2 i hi).1
      · exact (Y1 17 _ i (by decide) (by decide) (by decide) (by decide) (by decide) (by decide)).trans (w2 i hi).2
      · exact (Y1 18 _ i (by decide) (by decide) (by decide) (by decide) (by decide) (by decide)).trans (w3 i hi)
      · exact (Y1 19 _ i (by decide) (by decide) (by decide) (by decide) (by decide) (by decide)).trans (w4 i hi)
    · exact (Yk 1 _ f (by decide) (by decide) (by decide) (by decide) (by decide)).trans (l3 k hk f hf)
    · have m4 := y4 i hi
      have kp : ∀ k, (k = 20 ∨ k = 21 ∨ k = 22 ∨ k = 23) → a2 k p i = σ k p i := fun k hk => keep l1 k p i (by
        rcases hk with rfl | rfl | rfl | rfl <;> exact (rfl : p = p))
      have cc : ∀ k, (k = 20 ∨ k = 21 ∨ k = 22 ∨ k = 23) → (scp (scp (scp Y 13 p 0 13 q 0 4) 14 p 0 14 q 0 4) 15 p 0 15 q 0 5) k q i = Y k q i := fun k hk => by
        rw [c_ne (by omega), c_ne (by omega), c_ne (by omega)]
      exact ⟨(cc 20 (by decide)).trans (m4.1.trans (kp 20 (by decide))), (cc 21 (by decide)).trans (m4.2.1.trans (kp 21 (by decide))), (cc 22 (by decide)).trans (m4.2.2.1.trans (kp 22 (by decide))), (cc 23 (by decide)).trans (m4.2.2.2.trans (kp 23 (by decide)))⟩
end CP
