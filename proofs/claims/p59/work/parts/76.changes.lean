/-! copies, the history; what changes write -/
section PX
variable {F C K M T U j p q : Nat} {σ ρ v v' : Sg} {r r' : Nat → Int32}
theorem FrO {σ : Sg} {k o i : Nat} {x : Int32} {k' o' i' : Nat} (h : ¬ (k' = k ∧ o' = o)) : sup σ k o i x k' o' i' = σ k' o' i' := if_neg (fun q => h ⟨q.1, q.2.1⟩)
theorem a_cpCar (a : Sg) {d s : Nat} (hds : d ≠ s) (h3 : a 2 s 3 = 0 ∨ a 2 s 3 = 1) (h4 : a 2 s 4 = 0 ∨ a 2 s 4 = 1) :
    ∃ X, f_X2_copyFrom a d s = some X ∧ (∀ k o i, ¬ ((k = 2 ∨ (16 ≤ k ∧ k ≤ 19)) ∧ o = d) → X k o i = a k o i) ∧ (∀ f, f < 10 → X 2 d f = a 2 s f) ∧ (∀ i, i < 24 → X 16 d i = a 16 s i ∧ X 17 d i = a 17 s i) ∧ (∀ i, i < 96 → X 18 d i = a 18 s i) ∧ ∀ i, i < 4 → X 19 d i = a 19 s i := by
  have hsd : s ≠ d := fun q => hds q.symm
  have e3 : (¬ (a 2 s 3 = 0 ∨ a 2 s 3 = 1)) = False := eq_false (fun q => q h3)
  have e4 : (¬ (a 2 s 4 = 0 ∨ a 2 s 4 = 1)) = False := eq_false (fun q => q h4)
  refine ⟨scp (scp (scp (scp (sup (sup (sup (sup (sup (sup (sup (sup (sup (sup a 2 d 0 (a 2 s 0)) 2 d 1 (a 2 s 1)) 2 d 2 (a 2 s 2)) 2 d 3 (a 2 s 3)) 2 d 4 (a 2 s 4)) 2 d 5 (a 2 s 5)) 2 d 6 (a 2 s 6)) 2 d 7 (a 2 s 7)) 2 d 8 (a 2 s 8)) 2 d 9 (a 2 s 9)) 16 s 0 16 d 0 24) 17 s 0 17 d 0 24) 18 s 0 18 d 0 96) 19 s 0 19 d 0 4, ?_, ?_, ?_, ?_, ?_, ?_⟩
  · unfold f_X2_copyFrom
    simp (disch := first | exact hsd | omega) only [p_st, s_no, e3, e4, if_false]
    rfl
  · intro k o i h
    have h2 : ¬ (k = 2 ∧ o = d) := fun q => h ⟨Or.inl q.1, q.2⟩
    unfold scp
    rw [if_neg (fun q => h ⟨Or.inr (by omega), q.2.1⟩), if_neg (fun q => h ⟨Or.inr (by omega), q.2.1⟩), if_neg (fun q => h ⟨Or.inr (by omega), q.2.1⟩), if_neg (fun q => h ⟨Or.inr (by omega), q.2.1⟩)]
    rw [FrO h2, FrO h2, FrO h2, FrO h2, FrO h2, FrO h2, FrO h2, FrO h2, FrO h2, FrO h2]
  · intro f hf
    rw [c_ne (by decide), c_ne (by decide), c_ne (by decide), c_ne (by decide)]
    have hf2 : f = 0 ∨ f = 1 ∨ f = 2 ∨ f = 3 ∨ f = 4 ∨ f = 5 ∨ f = 6 ∨ f = 7 ∨ f = 8 ∨ f = 9 := by omega
    rcases hf2 with rfl | rfl | rfl | rfl | rfl | rfl | rfl | rfl | rfl | rfl <;> simp (disch := omega) only [s_nf, s_at]
  · intro i hi
    refine ⟨?_, ?_⟩
    · simp (disch := omega) only [c_ne, c_in0, s_ne]
    · simp (disch := omega) only [c_ne, c_in0, s_ne]
  · intro i hi
    simp (disch := omega) only [c_ne, c_in0, s_ne]
  · intro i hi
    simp (disch := omega) only [c_ne, c_in0, s_ne]
theorem a_cpCall (a : Sg) {d s : Nat} (hds : d ≠ s) :
    ∃ X, f_X1_copyFrom a d s = some X ∧ (∀ k o i, ¬ (k = 1 ∧ o = d) → X k o i = a k o i) ∧ ∀ f, f < 11 → X 1 d f = a 1 s f := by
  have hsd : s ≠ d := fun q => hds q.symm
  refine ⟨sup (sup (sup (sup (sup (sup (sup (sup (sup (sup (sup a 1 d 0 (a 1 s 0)) 1 d 1 (a 1 s 1)) 1 d 2 (a 1 s 2)) 1 d 3 (a 1 s 3)) 1 d 4 (a 1 s 4)) 1 d 5 (a 1 s 5)) 1 d 6 (a 1 s 6)) 1 d 7 (a 1 s 7)) 1 d 8 (a 1 s 8)) 1 d 9 (a 1 s 9)) 1 d 10 (a 1 s 10), ?_, ?_, ?_⟩
  · unfold f_X1_copyFrom
    simp (disch := first | exact hsd | omega) only [p_st, s_no]
  · intro k o i h
    rw [FrO h, FrO h, FrO h, FrO h, FrO h, FrO h, FrO h, FrO h, FrO h, FrO h, FrO h]
  · intro f hf
    have hf2 : f = 0 ∨ f = 1 ∨ f = 2 ∨ f = 3 ∨ f = 4 ∨ f = 5 ∨ f = 6 ∨ f = 7 ∨ f = 8 ∨ f = 9 ∨ f = 10 := by omega
    rcases hf2 with rfl | rfl | rfl | rfl | rfl | rfl | rfl | rfl | rfl | rfl | rfl <;> simp (disch := omega) only [s_nf, s_at]
theorem a_cpMsg (a : Sg) {d s M : Nat} (hds : d ≠ s) (h5 : a 5 s 0 = nI M) (hM : M ≤ 240) :
    ∃ X, f_X5_copyFrom a d s = some X ∧ (∀ k o i, ¬ ((k = 5 ∨ (20 ≤ k ∧ k ≤ 23)) ∧ o = d) → X k o i = a k o i) ∧ X 5 d 0 = nI M ∧ ∀ i, i < M → X 20 d i = a 20 s i ∧ X 21 d i = a 21 s i ∧ X 22 d i = a 22 s i ∧ X 23 d i = a 23 s i := by
  refine ⟨scp (scp (scp (scp (sup a 5 d 0 (nI M)) 20 s 0 20 d 0 M) 21 s 0 21 d 0 M) 22 s 0 22 d 0 M) 23 s 0 23 d 0 M, ?_, ?_, ?_, ?_⟩
  · unfold f_X5_copyFrom
    simp (disch := omega) only [h5, p_st, c_ne, s_at, ni_nn, ni_cl, p_nl, false_or, if_false]
  · intro k o i h
    unfold scp
    rw [if_neg (fun q => h ⟨Or.inr (by omega), q.2.1⟩), if_neg (fun q => h ⟨Or.inr (by omega), q.2.1⟩), if_neg (fun q => h ⟨Or.inr (by omega), q.2.1⟩), if_neg (fun q => h ⟨Or.inr (by omega), q.2.1⟩), FrO (fun q => h ⟨Or.inl q.1, q.2⟩)]
  · simp (disch := omega) only [c_ne, s_at]
  · intro i hi
    refine ⟨?_, ?_, ?_, ?_⟩ <;> simp (disch := omega) only [c_ne, c_in0, s_ne]
theorem Own_no {p q k o : Nat} (h : p ≠ q) (ho : Own p k o) : ¬ Own q k o := by
  unfold Own at *
  split at ho <;> first | (intro h2; exact h (ho.symm.trans h2)) | exact absurd ho id
theorem t_copy (h : LU F C K M T U (vw p σ) r) (hpq : p ≠ q) :
    ∃ σ', f_X4_copyFrom σ q p = some σ' ∧ Fr q σ σ' ∧ Veq C K M (vw p σ) (vw q σ') := by
  have hC := D_C h
  have hK := D_K h
  have hM := D_M h
  -- the part ahead of the loops
  have z0 : ∃ X, (∀ k o i, ¬ ((k = 4 ∨ k = 12) ∧ o = q) → X k o i = σ k o i) ∧ (∀ i, i < 5 → X 4 q i = σ 4 p i) ∧ (∀ i, i < 5 → X 12 q i = σ 12 p i) ∧ f_X4_copyFrom σ q p = f_X4_copyFrom_56 FU X q p 0 := by
    refine ⟨scp (sup (sup (sup (sup (sup σ 4 q 0 (σ 4 p 0)) 4 q 1 (σ 4 p 1)) 4 q 2 (σ 4 p 2)) 4 q 3 (σ 4 p 3)) 4 q 4 (σ 4 p 4)) 12 p 0 12 q 0 5, ?_, ?_, ?_, ?_⟩
    · intro k o i hn
      have h4 : ¬ (k = 4 ∧ o = q) := fun z => hn ⟨Or.inl z.1, z.2⟩
      unfold scp
      rw [if_neg (fun z => hn ⟨Or.inr z.1, z.2.1⟩), FrO h4, FrO h4, FrO h4, FrO h4, FrO h4]
    · intro i hi
      rw [c_ne (by decide)]
      have hi2 : i = 0 ∨ i = 1 ∨ i = 2 ∨ i = 3 ∨ i = 4 := by omega
      rcases hi2 with rfl | rfl | rfl | rfl | rfl <;> simp (disch := omega) only [s_nf, s_at]
    · intro i hi
      simp (disch := omega) only [c_in0, s_ne]
    · unfold f_X4_copyFrom
      simp (disch := first | exact hpq | omega) only [p_st, s_no]
      rfl
  obtain ⟨X0, x1, x2, x3, x4⟩ := z0
  have fr0 : Fr q σ X0 := fun k o i hn => x1 k o i (fun z => hn (by
    rcases z with ⟨rfl | rfl, rfl⟩
    · exact (rfl : o = o)
    · exact (rfl : o = o)))
  have keep : ∀ {a : Sg}, Fr q σ a → ∀ k o i, Own p k o → a k o i = σ k o i := fun hf k o i ho => hf k o i (Own_no hpq ho)
  have XC : X0 4 q 1 = nI C := (x2 1 (by decide)).trans (A_C h)
  have XK : X0 4 q 2 = nI K := (x2 2 (by decide)).trans (A_K h)
  obtain ⟨n1, a1, ⟨i1, i2, i3⟩, i4⟩ := lpE1 (fun n (a : Sg) i => f_X4_copyFrom_56 n a q p i) C (by omega) (fun c a => Fr q σ a ∧ (∀ k i, (k = 4 ∨ k = 12) → a k q i = X0 k q i) ∧ ∀ c', c' < c → (∀ f, f < 10 → a 2 (4 * q + c') f = σ 2 (4 * p + c') f) ∧ (∀ i, i < 24 → a 16 (4 * q + c') i = σ 16 (4 * p + c') i ∧ a 17 (4 * q + c') i = σ 17 (4 * p + c') i) ∧ (∀ i, i < 96 → a 18 (4 * q + c') i = σ 18 (4 * p + c') i) ∧ ∀ i, i < 4 → a 19 (4 * q + c') i = σ 19 (4 * p + c') i) (a := X0) (by
    rintro n c a hc ⟨j1, j2, j3⟩
    have e3 : σ 2 (4 * p + c) 3 = 0 ∨ σ 2 (4 * p + c) 3 = 1 := (h.2.2.2.1 c hc).2.2.2.2.1
    have e4 : σ 2 (4 * p + c) 4 = 0 ∨ σ 2 (4 * p + c) 4 = 1 := (h.2.2.2.1 c hc).2.2.2.2.2
    have k2 : ∀ f, a 2 (4 * p + c) f = σ 2 (4 * p + c) f := fun f => keep j1 _ _ _ (O_2 (by omega))
    obtain ⟨Y, y1, y2, y3, y4, y5, y6⟩ := a_cpCar a (d := 4 * q + c) (s := 4 * p + c) (by omega) (by rw [k2]; exact e3) (by rw [k2]; exact e4)
    refine ⟨Y, ⟨j1.trans (fun k o i hn => y2 k o i (fun z => hn ?_)), fun k i hk => (y2 k q i (by omega)).trans (j2 k i hk), fun c' hc' => ?_⟩, ?_⟩
    · obtain ⟨z1, rfl⟩ := z
      rcases (show k = 2 ∨ k = 16 ∨ k = 17 ∨ k = 18 ∨ k = 19 by omega) with rfl | rfl | rfl | rfl | rfl
      · exact O_2 (by omega)
      · exact O_16 (by omega)
      · exact O_17 (by omega)
      · exact O_18 (by omega)
      · exact O_19 (by omega)
    · by_cases w : c' = c
      · subst w
        exact ⟨fun f hf => (y3 f hf).trans (k2 f), fun i hi => ⟨(y4 i hi).1.trans (keep j1 _ _ _ (O_16 (by omega))), (y4 i hi).2.trans (keep j1 _ _ _ (O_17 (by omega)))⟩, fun i hi => (y5 i hi).trans (keep j1 _ _ _ (O_18 (by omega))), fun i hi => (y6 i hi).trans (keep j1 _ _ _ (O_19 (by omega)))⟩
      · obtain ⟨w1, w2, w3, w4⟩ := j3 c' (by omega)
        have ne : ∀ k i, Y k (4 * q + c') i = a k (4 * q + c') i := fun k i => y2 k _ i (by omega)
        exact ⟨fun f hf => (ne _ _).trans (w1 f hf), fun i hi => ⟨(ne _ _).trans (w2 i hi).1, (ne _ _).trans (w2 i hi).2⟩, fun i hi => (ne _ _).trans (w3 i hi), fun i hi => (ne _ _).trans (w4 i hi)⟩
    · simp (disch := omega) only [f_X4_copyFrom_56_s, j2 4 1 (Or.inl rfl), XC, ni_le, p_nle, if_false, ni_nn, ni_cl, false_or, y1, p_bv, ni_1]) ⟨fr0, fun _ _ _ => rfl, fun c' hc' => absurd hc' (Nat.not_lt_zero c')⟩
  obtain ⟨n2, a2, ⟨l1, l2, l3⟩, l4⟩ := lpE1 (fun n (a : Sg) i => f_X4_copyFrom_87 n a q p i) K (by omega) (fun c a => Fr q σ a ∧ (∀ k o i, k ≠ 1 → a k o i = a1 k o i) ∧ ∀ c', c' < c → ∀ f, f < 11 → a 1 (24 * q + c') f = σ 1 (24 * p + c') f) (a := a1) (by
    rintro n c a hc ⟨j1, j2, j3⟩
    obtain ⟨Y, y1, y2, y3⟩ := a_cpCall a (d := 24 * q + c) (s := 24 * p + c) (by omega)
    refine ⟨Y, ⟨j1.trans (fun k o i hn => y2 k o i (fun z => hn ?_)), fun k o i hk => (y2 k o i (fun z => hk z.1)).trans (j2 k o i hk), fun c' hc' f hf => ?_⟩, ?_⟩
    · obtain ⟨rfl, rfl⟩ := z
      exact O_1 (by omega)
    · by_cases w : c' = c
      · subst w
        exact (y3 f hf).trans (keep j1 _ _ _ (O_1 (by omega)))
      · exact (y2 1 _ f (by omega)).trans (j3 c' (by omega) f hf)
    · have aK : a 4 q 2 = nI K := (j2 4 q 2 (by decide)).trans ((i2 4 2 (Or.inl rfl)).trans XK)
      simp (disch := omega) only [f_X4_copyFrom_87_s, aK, ni_le, p_nle, if_false, ni_nn, ni_cl, false_or, y1, p_bv, ni_1]) ⟨i1, fun _ _ _ _ => rfl, fun c' hc' => absurd hc' (Nat.not_lt_zero c')⟩
  have a5 : a2 5 p 0 = nI M := (keep l1 5 p 0 (rfl : p = p)).trans (A_M h)
  obtain ⟨Y, y1, y2, y3, y4⟩ := a_cpMsg a2 (d := q) (s := p) (fun z => hpq z.symm) a5 hM
  have fY : Fr q σ Y := l1.trans (fun k o i hn => y2 k o i (fun z => hn (by
    obtain ⟨z1, rfl⟩ := z
    rcases (show k = 5 ∨ k = 20 ∨ k = 21 ∨ k = 22 ∨ k = 23 by omega) with rfl | rfl | rfl | rfl | rfl <;> exact (rfl : o = o))))
  have fZ : Fr q σ (scp (scp (scp Y 13 p 0 13 q 0 4) 14 p 0 14 q 0 4) 15 p 0 15 q 0 5) := fY.trans (fun k o i hn => by
    unfold scp
    rw [if_neg (fun z => hn (by obtain ⟨rfl, rfl, -⟩ := z; exact (rfl : o = o))), if_neg (fun z => hn (by obtain ⟨rfl, rfl, -⟩ := z; exact (rfl : o = o))), if_neg (fun z => hn (by obtain ⟨rfl, rfl, -⟩ := z; exact (rfl : o = o)))])
  refine ⟨scp (scp (scp Y 13 p 0 13 q 0 4) 14 p 0 14 q 0 4) 15 p 0 15 q 0 5, ?_, fZ, ?_⟩
  · rw [x4]
    refine Eq.trans i4 ?_
    rw [f_X4_copyFrom_56_s, i2 4 1 (Or.inl rfl), XC, if_pos (by rw [ni_le (by omega) (by omega)]; exact Nat.le_refl C)]
    unfold f_X4_copyFrom_85
    refine Eq.trans l4 ?_
    rw [f_X4_copyFrom_87_s, l2 4 q 2 (by decide), i2 4 2 (Or.inl rfl), XK, if_pos (by rw [ni_le (by omega) (by omega)]; exact Nat.le_refl K)]
    unfold f_X4_copyFrom_116
    rw [y1, p_bv]
    rfl
  · have Yk : ∀ k o i, k ≠ 5 → ¬ (20 ≤ k ∧ k ≤ 23) → k ≠ 13 → k ≠ 14 → k ≠ 15 → (scp (scp (scp Y 13 p 0 13 q 0 4) 14 p 0 14 q 0 4) 15 p 0 15 q 0 5) k o i = a2 k o i := fun k o i h1 h2 h3 h4 h5 => by
      rw [c_ne h5, c_ne h4, c_ne h3]
      exact y2 k o i (fun z => z.1.elim h1 h2)
    have Y1 : ∀ k o i, k ≠ 1 → k ≠ 5 → ¬ (20 ≤ k ∧ k ≤ 23) → k ≠ 13 → k ≠ 14 → k ≠ 15 → (scp (scp (scp Y 13 p 0 13 q 0 4) 14 p 0 14 q 0 4) 15 p 0 15 q 0 5) k o i = a1 k o i := fun k o i h0 h1 h2 h3 h4 h5 => (Yk k o i h1 h2 h3 h4 h5).trans (l2 k o i h0)
    have Yp : ∀ k i, (k = 13 ∨ k = 14 ∨ k = 15) → Y k p i = σ k p i := fun k i hk => fY k p i (by
      rcases hk with rfl | rfl | rfl <;> (show ¬ (p = q); exact hpq))
    refine ⟨fun i hi => ?_, ?_, fun i hi => ?_, fun i hi => ⟨?_, ?_⟩, fun i hi => ?_, fun c hc => ?_, fun k hk f hf => ?_, fun i hi => ?_⟩
    · exact (Y1 4 q i (by decide) (by decide) (by decide) (by decide) (by decide) (by decide)).trans ((i2 4 i (Or.inl rfl)).trans (x2 i hi))
    · have e : (scp (scp (scp Y 13 p 0 13 q 0 4) 14 p 0 14 q 0 4) 15 p 0 15 q 0 5) 5 q 0 = nI M := by
        rw [c_ne (by decide), c_ne (by decide), c_ne (by decide)]
        exact y3
      exact e.trans (A_M h).symm
    · exact (Y1 12 q i (by decide) (by decide) (by decide) (by decide) (by decide) (by decide)).trans ((i2 12 i (Or.inr rfl)).trans (x3 i hi))
    · show (scp (scp (scp Y 13 p 0 13 q 0 4) 14 p 0 14 q 0 4) 15 p 0 15 q 0 5) 13 q i = σ 13 p i
      rw [c_ne (by decide), c_ne (by decide), c_in0 hi]
      exact Yp 13 i (by decide)
    · show (scp (scp (scp Y 13 p 0 13 q 0 4) 14 p 0 14 q 0 4) 15 p 0 15 q 0 5) 14 q i = σ 14 p i
      rw [c_ne (by decide), c_in0 hi, c_ne (by decide)]
      exact Yp 14 i (by decide)
    · show (scp (scp (scp Y 13 p 0 13 q 0 4) 14 p 0 14 q 0 4) 15 p 0 15 q 0 5) 15 q i = σ 15 p i
      rw [c_in0 hi, c_ne (by decide), c_ne (by decide)]
      exact Yp 15 i (by decide)
    · obtain ⟨w1, w2, w3, w4⟩ := i3 c hc
      refine ⟨fun f hf => ?_, fun i hi => ⟨?_, ?_⟩, fun i hi => ?_, fun i hi => ?_⟩
      · exact (Y1 2 _ f (by decide) (by decide) (by decide) (by decide) (by decide) (by decide)).trans (w1 f hf)
      · exact (Y1 16 _ i (by decide) (by decide) (by decide) (by decide) (by decide) (by decide)).trans (w2 i hi).1
      · exact (Y1 17 _ i (by decide) (by decide) (by decide) (by decide) (by decide) (by decide)).trans (w2 i hi).2
      · exact (Y1 18 _ i (by decide) (by decide) (by decide) (by decide) (by decide) (by decide)).trans (w3 i hi)
      · exact (Y1 19 _ i (by decide) (by decide) (by decide) (by decide) (by decide) (by decide)).trans (w4 i hi)
    · exact (Yk 1 _ f (by decide) (by decide) (by decide) (by decide) (by decide)).trans (l3 k hk f hf)
    · have m4 := y4 i hi
      have kp : ∀ k, (k = 20 ∨ k = 21 ∨ k = 22 ∨ k = 23) → a2 k p i = σ k p i := fun k hk => keep l1 k p i (by
        rcases hk with rfl | rfl | rfl | rfl <;> exact (rfl : p = p))
      have cc : ∀ k, (k = 20 ∨ k = 21 ∨ k = 22 ∨ k = 23) → (scp (scp (scp Y 13 p 0 13 q 0 4) 14 p 0 14 q 0 4) 15 p 0 15 q 0 5) k q i = Y k q i := fun k hk => by
        rw [c_ne (by omega), c_ne (by omega), c_ne (by omega)]
      exact ⟨(cc 20 (by decide)).trans (m4.1.trans (kp 20 (by decide))), (cc 21 (by decide)).trans (m4.2.1.trans (kp 21 (by decide))), (cc 22 (by decide)).trans (m4.2.2.1.trans (kp 22 (by decide))), (cc 23 (by decide)).trans (m4.2.2.2.trans (kp 23 (by decide)))⟩
theorem Veq.trans {C K M : Nat} {a b c : Sg} (h : Veq C K M a b) (h' : Veq C K M b c) : Veq C K M a c := by
  obtain ⟨h1, h2, h3, h4, h5, h6, h7, h8⟩ := h
  obtain ⟨k1, k2, k3, k4, k5, k6, k7, k8⟩ := h'
  refine ⟨fun i hi => (k1 i hi).trans (h1 i hi), k2.trans h2, fun i hi => (k3 i hi).trans (h3 i hi), fun i hi => ⟨(k4 i hi).1.trans (h4 i hi).1, (k4 i hi).2.trans (h4 i hi).2⟩, fun i hi => (k5 i hi).trans (h5 i hi), fun q hq => ⟨fun f hf => ((k6 q hq).1 f hf).trans ((h6 q hq).1 f hf), fun i hi => ⟨((k6 q hq).2.1 i hi).1.trans ((h6 q hq).2.1 i hi).1, ((k6 q hq).2.1 i hi).2.trans ((h6 q hq).2.1 i hi).2⟩, fun i hi => ((k6 q hq).2.2.1 i hi).trans ((h6 q hq).2.2.1 i hi), fun i hi => ((k6 q hq).2.2.2 i hi).trans ((h6 q hq).2.2.2 i hi)⟩, fun k hk f hf => (k7 k hk f hf).trans (h7 k hk f hf), fun i hi => ?_⟩
  obtain ⟨a1, a2, a3, a4⟩ := h8 i hi
  obtain ⟨b1, b2, b3, b4⟩ := k8 i hi
  exact ⟨b1.trans a1, b2.trans a2, b3.trans a3, b4.trans a4⟩
/-- the kinds of which a Lifts is made -/
def LK (k : Nat) : Prop := k = 1 ∨ k = 2 ∨ k = 4 ∨ k = 5 ∨ (12 ≤ k ∧ k ≤ 23)
theorem Veq.cells {C K M p : Nat} {σ σ' : Sg} (hC : C ≤ 4) (hK : K ≤ 24) (h : ∀ k o i, Own p k o → σ' k o i = σ k o i) : Veq C K M (vw p σ) (vw p σ') := by
  have r0 : ∀ k, (k = 4 ∨ k = 5 ∨ k = 12 ∨ k = 13 ∨ k = 14 ∨ k = 15 ∨ k = 20 ∨ k = 21 ∨ k = 22 ∨ k = 23) → ∀ i, vw p σ' k 0 i = vw p σ k 0 i := by
    intro k hk i
    rcases hk with rfl | rfl | rfl | rfl | rfl | rfl | rfl | rfl | rfl | rfl <;> exact h _ _ _ (rfl : p = p)
  exact ⟨fun i _ => r0 4 (by decide) i, r0 5 (by decide) 0, fun i _ => r0 12 (by decide) i, fun i _ => ⟨r0 13 (by decide) i, r0 14 (by decide) i⟩, fun i _ => r0 15 (by decide) i, fun c hc => ⟨fun f _ => h 2 _ f (O_2 (by omega)), fun i _ => ⟨h 16 _ i (O_16 (by omega)), h 17 _ i (O_17 (by omega))⟩, fun i _ => h 18 _ i (O_18 (by omega)), fun i _ => h 19 _ i (O_19 (by omega))⟩, fun k hk f _ => h 1 _ f (O_1 (by omega)), fun i _ => ⟨r0 20 (by decide) i, r0 21 (by decide) i, r0 22 (by decide) i, r0 23 (by decide) i⟩⟩
theorem Own_lk {p k o : Nat} (h : Own p k o) : LK k := by
  unfold Own at h
  unfold LK
  split at h <;> first | omega | exact absurd h id
theorem Veq.lk {C K M p : Nat} {σ σ' : Sg} (hC : C ≤ 4) (hK : K ≤ 24) (h : ∀ k o i, LK k → σ' k o i = σ k o i) : Veq C K M (vw p σ) (vw p σ') := Veq.cells hC hK (fun k o i ho => h k o i (Own_lk ho))
theorem Fr.veq {C K M p q : Nat} {σ σ' : Sg} (hf : Fr q σ σ') (hp : p ≠ q) (hC : C ≤ 4) (hK : K ≤ 24) : Veq C K M (vw p σ) (vw p σ') := Veq.cells hC hK (fun k o i ho => hf k o i (Own_no hp ho))
theorem h_nx : ∀ x, x < 10 → jrem (nI x + 1) 10 = nI ((x + 1) % 10) := by decide
theorem q_24 {q : Nat} (h : q < 2147483648) : ((24 : Int32) ≤ nI q) = (24 ≤ q) := by
  rw [show (24 : Int32) = nI 24 from rfl, ni_le (by omega) h]
theorem S_stp {F C K M T U : Nat} {v : Sg} {r : Nat → Int32} (h : LU F C K M T U v r) {c : Nat} (hc : c < C) {x : Int32} (hx : x = 0 ∨ x = 1) : LU F C K M T U (sup v 2 c 3 x) (ru r (35 + c) x) := by
  have dC := D_C h
  have dK := D_K h
  have dM := D_M h
  refine ⟨V_hd.ext h.1 (fun _ => by first | rfl | simp [sup]) (by first | rfl | simp [sup]) (fun i h1 => by simp (disch := omega) only [ru_ne]), V_set.ext h.2.1 (fun _ => by first | rfl | simp [sup]) (fun i h1 h2 => by simp (disch := omega) only [ru_ne]), V_cnt.ext h.2.2.1 (fun _ => by first | rfl | simp [sup]) (fun _ => by first | rfl | simp [sup]) (fun _ => by first | rfl | simp [sup]) (fun i h1 h2 => by simp (disch := omega) only [ru_ne]), ?_, V_call.ext h.2.2.2.2.1 dK (fun _ _ => by first | rfl | simp [sup]) (fun i h1 h2 => by simp (disch := omega) only [ru_ne]), V_held.ext h.2.2.2.2.2.1 dC dK (fun _ => by first | rfl | simp [sup]) (fun i h1 h2 => by simp (disch := omega) only [ru_ne]), V_abd.ext h.2.2.2.2.2.2.1 (fun _ => by first | rfl | simp [sup]) (fun _ => by first | rfl | simp [sup]) (fun _ => by first | rfl | simp [sup]), V_kn1.ext h.2.2.2.2.2.2.2.1 dC dK (fun _ => by first | rfl | simp [sup]) (fun _ _ => by first | rfl | simp [sup]) (fun _ _ => by first | rfl | simp [sup]) (fun _ _ => by first | rfl | simp [sup]) (fun _ _ => by first | rfl | simp [sup]) (fun i h1 h2 => by simp (disch := omega) only [ru_ne]), V_kn0.ext h.2.2.2.2.2.2.2.2.1 (fun _ _ => by first | rfl | simp [sup]) (fun _ _ => by first | rfl | simp [sup]) (fun _ _ => by first | rfl | simp [sup]), V_msg.ext h.2.2.2.2.2.2.2.2.2 (fun _ => by first | rfl | simp [sup]) (fun _ => by first | rfl | simp [sup]) (fun _ => by first | rfl | simp [sup]) (fun _ => by first | rfl | simp [sup]) (fun i h1 => by simp (disch := omega) only [ru_ne])⟩
  · intro c' hc'
    obtain ⟨a1, a2, a3, a4, a5, a6⟩ := h.2.2.2.1 c' hc'
    by_cases w : c' = c
    · subst w
      have z : ∀ f, f ≠ 3 → (sup v 2 c' 3 x) 2 c' f = v 2 c' f := fun f hf => s_nf hf
      refine ⟨fun f hf => ?_, by rw [z 0 (by decide)]; exact a2, by rw [z 1 (by decide)]; exact a3, by rw [z 2 (by decide)]; exact a4, by rw [s_at]; exact hx, by rw [z 4 (by decide)]; exact a6⟩
      by_cases wf : f = 3
      · subst wf
        rw [show 23 + 4 * 3 + c' = 35 + c' by omega, ru_eq, s_at]
      · rw [ru_ne (by omega), z f wf]; exact a1 f hf
    · have z : ∀ f, (sup v 2 c 3 x) 2 c' f = v 2 c' f := fun f => s_no w
      refine ⟨fun f hf => by rw [ru_ne (by omega), z f]; exact a1 f hf, by rw [z]; exact a2, by rw [z]; exact a3, by rw [z]; exact a4, by rw [z]; exact a5, by rw [z]; exact a6⟩
theorem S_jam {F C K M T U : Nat} {v : Sg} {r : Nat → Int32} (h : LU F C K M T U v r) {c : Nat} (hc : c < C) {x : Int32} (hx : x = 0 ∨ x = 1) : LU F C K M T U (sup v 2 c 4 x) (ru r (39 + c) x) := by
  have dC := D_C h
  have dK := D_K h
  have dM := D_M h
  refine ⟨V_hd.ext h.1 (fun _ => by first | rfl | simp [sup]) (by first | rfl | simp [sup]) (fun i h1 => by simp (disch := omega) only [ru_ne]), V_set.ext h.2.1 (fun _ => by first | rfl | simp [sup]) (fun i h1 h2 => by simp (disch := omega) only [ru_ne]), V_cnt.ext h.2.2.1 (fun _ => by first | rfl | simp [sup]) (fun _ => by first | rfl | simp [sup]) (fun _ => by first | rfl | simp [sup]) (fun i h1 h2 => by simp (disch := omega) only [ru_ne]), ?_, V_call.ext h.2.2.2.2.1 dK (fun _ _ => by first | rfl | simp [sup]) (fun i h1 h2 => by simp (disch := omega) only [ru_ne]), V_held.ext h.2.2.2.2.2.1 dC dK (fun _ => by first | rfl | simp [sup]) (fun i h1 h2 => by simp (disch := omega) only [ru_ne]), V_abd.ext h.2.2.2.2.2.2.1 (fun _ => by first | rfl | simp [sup]) (fun _ => by first | rfl | simp [sup]) (fun _ => by first | rfl | simp [sup]), V_kn1.ext h.2.2.2.2.2.2.2.1 dC dK (fun _ => by first | rfl | simp [sup]) (fun _ _ => by first | rfl | simp [sup]) (fun _ _ => by first | rfl | simp [sup]) (fun _ _ => by first | rfl | simp [sup]) (fun _ _ => by first | rfl | simp [sup]) (fun i h1 h2 => by simp (disch := omega) only [ru_ne]), V_kn0.ext h.2.2.2.2.2.2.2.2.1 (fun _ _ => by first | rfl | simp [sup]) (fun _ _ => by first | rfl | simp [sup]) (fun _ _ => by first | rfl | simp [sup]), V_msg.ext h.2.2.2.2.2.2.2.2.2 (fun _ => by first | rfl | simp [sup]) (fun _ => by first | rfl | simp [sup]) (fun _ => by first | rfl | simp [sup]) (fun _ => by first | rfl | simp [sup]) (fun i h1 => by simp (disch := omega) only [ru_ne])⟩
  · intro c' hc'
    obtain ⟨a1, a2, a3, a4, a5, a6⟩ := h.2.2.2.1 c' hc'
    by_cases w : c' = c
    · subst w
      have z : ∀ f, f ≠ 4 → (sup v 2 c' 4 x) 2 c' f = v 2 c' f := fun f hf => s_nf hf
      refine ⟨fun f hf => ?_, by rw [z 0 (by decide)]; exact a2, by rw [z 1 (by decide)]; exact a3, by rw [z 2 (by decide)]; exact a4, by rw [z 3 (by decide)]; exact a5, by rw [s_at]; exact hx⟩
      by_cases wf : f = 4
      · subst wf
        rw [show 23 + 4 * 4 + c' = 39 + c' by omega, ru_eq, s_at]
      · rw [ru_ne (by omega), z f wf]; exact a1 f hf
    · have z : ∀ f, (sup v 2 c 4 x) 2 c' f = v 2 c' f := fun f => s_no w
      refine ⟨fun f hf => by rw [ru_ne (by omega), z f]; exact a1 f hf, by rw [z]; exact a2, by rw [z]; exact a3, by rw [z]; exact a4, by rw [z]; exact a5, by rw [z]; exact a6⟩
theorem S_set {F C K M T U : Nat} {v : Sg} {r : Nat → Int32} (h : LU F C K M T U v r) {w y : Nat} (hw : w < 5) (h1 : w = 1 → 3 ≤ y ∧ y ≤ 50) (h2 : w = 2 → y ≤ 20) (h3 : w = 3 → y ≤ 5) : LU F C K M T U (sup v 12 0 w (nI y)) (ru r (4 + w) (nI y)) := by
  have dC := D_C h
  have dK := D_K h
  have dM := D_M h
  refine ⟨?_, ?_, V_cnt.ext h.2.2.1 (fun _ => by first | rfl | simp [sup]) (fun _ => by first | rfl | simp [sup]) (fun _ => by first | rfl | simp [sup]) (fun i h1 h2 => by simp (disch := omega) only [ru_ne]), V_car.ext h.2.2.2.1 dC (fun _ f hf => by first | rfl | (simp [sup]; done) | (unfold sup; repeat rw [if_neg (fun q => absurd q.2.2 (by omega))])) (fun i h1 h2 => by simp (disch := omega) only [ru_ne]), V_call.ext h.2.2.2.2.1 dK (fun _ _ => by first | rfl | simp [sup]) (fun i h1 h2 => by simp (disch := omega) only [ru_ne]), V_held.ext h.2.2.2.2.2.1 dC dK (fun _ => by first | rfl | simp [sup]) (fun i h1 h2 => by simp (disch := omega) only [ru_ne]), V_abd.ext h.2.2.2.2.2.2.1 (fun _ => by first | rfl | simp [sup]) (fun _ => by first | rfl | simp [sup]) (fun _ => by first | rfl | simp [sup]), V_kn1.ext h.2.2.2.2.2.2.2.1 dC dK (fun _ => by first | rfl | simp [sup]) (fun _ _ => by first | rfl | simp [sup]) (fun _ _ => by first | rfl | simp [sup]) (fun _ _ => by first | rfl | simp [sup]) (fun _ _ => by first | rfl | simp [sup]) (fun i h1 h2 => by simp (disch := omega) only [ru_ne]), V_kn0.ext h.2.2.2.2.2.2.2.2.1 (fun _ _ => by first | rfl | simp [sup]) (fun _ _ => by first | rfl | simp [sup]) (fun _ _ => by first | rfl | simp [sup]), V_msg.ext h.2.2.2.2.2.2.2.2.2 (fun _ => by first | rfl | simp [sup]) (fun _ => by first | rfl | simp [sup]) (fun _ => by first | rfl | simp [sup]) (fun _ => by first | rfl | simp [sup]) (fun i h1 => by simp (disch := omega) only [ru_ne])⟩
  · obtain ⟨a1, a2, a3, a4, a5, a6, a7, a8, a9, a10, a11, a12⟩ := h.1
    exact ⟨a1, a2, a3, a4, a5, by rw [ru_ne (by omega)]; exact a6, by rw [ru_ne (by omega)]; exact a7, by rw [ru_ne (by omega)]; exact a8, by rw [ru_ne (by omega)]; exact a9, by rw [ru_ne (by omega)]; exact a10, by rw [ru_ne (by omega)]; exact a11, a12⟩
  · obtain ⟨a, P, W, D, b1, b2, b3, b4, b5, b6, b7⟩ := h.2.1
    refine ⟨fun i hi => ?_, if w = 1 then y else P, if w = 2 then y else W, if w = 3 then y else D, ?_, ?_, ?_, ?_, ?_, ?_, ?_⟩
    · by_cases e : i = w
      · subst e; rw [ru_eq, s_at]
      · rw [ru_ne (by omega), s_nf e]; exact a i hi
    · by_cases e : w = 1
      · subst e; rw [if_pos rfl, s_at]
      · rw [if_neg e, s_nf (fun q => e q.symm)]; exact b1
    · split
      · exact (h1 (by assumption)).1
      · exact b2
    · split
      · exact (h1 (by assumption)).2
      · exact b3
    · by_cases e : w = 2
      · subst e; rw [if_pos rfl, s_at]
      · rw [if_neg e, s_nf (fun q => e q.symm)]; exact b4
    · split
      · exact h2 (by assumption)
      · exact b5
    · by_cases e : w = 3
      · subst e; rw [if_pos rfl, s_at]
      · rw [if_neg e, s_nf (fun q => e q.symm)]; exact b6
    · split
      · exact h3 (by assumption)
      · exact b7
theorem S_drop (h : LU F C K M T U v r) {c : Nat} (hv : ∀ k o i, ¬ (k = 17 ∧ o = c) → v' k o i = v k o i) (h17 : ∀ i, i < 24 → v' 17 c i = -1) (hr1 : ∀ k, k < K → r' (511 + 24 * c + k) = -1) (hr : ∀ i, i < 511 ∨ 607 ≤ i → r' i = r i) (hr3 : ∀ c' k, c' ≠ c → k < K → r' (511 + 24 * c' + k) = r (511 + 24 * c' + k)) : LU F C K M T U v' r' := by
  have dC := D_C h
  have dK := D_K h
  have dM := D_M h
  refine ⟨V_hd.ext h.1 (fun _ => hv _ _ _ (by omega)) (hv _ _ _ (by omega)) (fun i h1 => hr i (by omega)), V_set.ext h.2.1 (fun _ => hv _ _ _ (by omega)) (fun i h1 h2 => hr i (by omega)), V_cnt.ext h.2.2.1 (fun _ => hv _ _ _ (by omega)) (fun _ => hv _ _ _ (by omega)) (fun _ => hv _ _ _ (by omega)) (fun i h1 h2 => hr i (by omega)), V_car.ext h.2.2.2.1 dC (fun _ f hf => hv _ _ _ (by omega)) (fun i h1 h2 => hr i (by omega)), V_call.ext h.2.2.2.2.1 dK (fun _ _ => hv _ _ _ (by omega)) (fun i h1 h2 => hr i (by omega)), V_held.ext h.2.2.2.2.2.1 dC dK (fun _ => hv _ _ _ (by omega)) (fun i h1 h2 => hr i (by omega)), V_abd.ext h.2.2.2.2.2.2.1 (fun _ => hv _ _ _ (by omega)) (fun _ => hv _ _ _ (by omega)) (fun _ => hv _ _ _ (by omega)), ?_, ?_, V_msg.ext h.2.2.2.2.2.2.2.2.2 (fun _ => hv _ _ _ (by omega)) (fun _ => hv _ _ _ (by omega)) (fun _ => hv _ _ _ (by omega)) (fun _ => hv _ _ _ (by omega)) (fun i h1 => hr i (by omega))⟩
  · intro c' hc' k hk
    obtain ⟨a, b, d, e, f, g⟩ := h.2.2.2.2.2.2.2.1 c' hc' k hk
    have z16 : v' 16 c' k = v 16 c' k := hv _ _ _ (by omega)
    have z2 : v' 2 c' 8 = v 2 c' 8 := hv _ _ _ (by omega)
    refine ⟨?_, fun q hq => ?_, fun t ht => ?_, fun z => ?_, ?_, fun q hq => ?_⟩
    · by_cases w : c' = c
      · subst w; rw [hr1 k hk, h17 k (by omega)]
      · rw [hr3 c' k w hk, hv _ _ _ (fun q => w q.2)]; exact a
    · rw [hv _ _ _ (by omega), hr _ (by omega)]; exact b q hq
    · rw [hv _ _ _ (by omega), hr _ (by omega)]; exact d t ht
    · rw [z16, hr _ (by omega)]
      refine e ?_
      rcases z with z | z
      · exact Or.inl (by rw [← z2]; exact z)
      · by_cases w : c' = c
        · subst w; exact absurd (h17 k (by omega)) z
        · exact Or.inr (by rw [← hv 17 c' k (fun q => w q.2)]; exact z)
    · by_cases w : c' = c
      · subst w; exact Or.inl (h17 k (by omega))
      · rw [hv _ _ _ (fun q => w q.2)]; exact f
    · rw [hv _ _ _ (by omega)]; exact g q hq
  · intro c' hc' k hk hk2
    obtain ⟨a, b, d⟩ := h.2.2.2.2.2.2.2.2.1 c' hc' k hk hk2
    refine ⟨?_, fun q hq => ?_, fun t ht => ?_⟩
    · by_cases w : c' = c
      · subst w; exact h17 k hk2
      · rw [hv _ _ _ (fun q => w q.2)]; exact a
    · rw [hv _ _ _ (by omega)]; exact b q hq
    · rw [hv _ _ _ (by omega)]; exact d t ht
def l_lo (w : Nat) : Nat := if w = 1 then 3 else if w = 4 then 1 else 0
def l_hi (w : Nat) : Nat := if w = 0 then 90 else if w = 1 then 50 else if w = 2 then 20 else if w = 3 then 5 else 999
theorem st_lo : ∀ w, w < 5 → stab 0 w = nI (l_lo w) := by decide
theorem st_hi : ∀ w, w < 5 → stab 1 w = nI (l_hi w) := by decide
/-- a call more: the cells -/
theorem S_call (h : LU F C K M T U v r) (hK : K < 24) {a b m : Nat} (ha : a < F) (hb : b < F) (hab : a ≠ b) (hm : m ≤ 400000)
    (hv : ∀ k o i, ¬ (k = 1 ∧ o = K) → ¬ (k = 4 ∧ i = 2) → v' k o i = v k o i) (v2 : v' 4 0 2 = nI (K + 1))
    (v10 : v' 1 K 0 = nI a ∧ v' 1 K 1 = nI b ∧ v' 1 K 2 = nI m ∧ v' 1 K 3 = 0 ∧ v' 1 K 4 = -1 ∧ v' 1 K 5 = -1 ∧ v' 1 K 6 = -1 ∧ v' 1 K 7 = 0 ∧ v' 1 K 8 = -1 ∧ v' 1 K 10 = -1)
    (r2 : r' 2 = nI (K + 1)) (rc : r' (55 + K) = nI a ∧ r' (79 + K) = nI b ∧ r' (103 + K) = nI m ∧ r' (127 + K) = 0 ∧ r' (151 + K) = -1 ∧ r' (175 + K) = -1 ∧ r' (199 + K) = -1 ∧ r' (223 + K) = 0 ∧ r' (247 + K) = -1 ∧ r' (295 + K) = -1)
    (rk : ∀ c, c < 4 → r' (319 + 24 * c + K) = 0 ∧ r' (511 + 24 * c + K) = -1 ∧ r' (607 + 24 * c + K) = 0 ∧ ∀ q, q < 4 → r' (703 + 4 * (24 * c + K) + q) = -1)
    (hr1 : ∀ i, i < 55 → i ≠ 2 → r' i = r i) (hr9 : ∀ i, 1087 ≤ i → r' i = r i) (hrk : ∀ f k, f < 11 → k < K → r' (55 + 24 * f + k) = r (55 + 24 * f + k)) (hrg : ∀ g c k, g < 4 → c < 4 → k < K → r' (319 + 96 * g + 24 * c + k) = r (319 + 96 * g + 24 * c + k)) (hrb : ∀ c k q, c < 4 → k < K → q < 4 → r' (703 + 4 * (24 * c + k) + q) = r (703 + 4 * (24 * c + k) + q)) : LU F C (K + 1) M T U v' r' := by
  have dC := D_C h
  have dM := D_M h
  obtain ⟨h1, h2, h3, h4, h5, h6, h7, h8, h9, h10⟩ := h
  refine ⟨?_, V_set.ext h2 (fun _ => hv _ _ _ (by omega) (by omega)) (fun i h1 h2 => hr1 i (by omega) (by omega)), V_cnt.ext h3 (fun _ => hv _ _ _ (by omega) (by omega)) (fun _ => hv _ _ _ (by omega) (by omega)) (fun _ => hv _ _ _ (by omega) (by omega)) (fun i h1 h2 => hr1 i (by omega) (by omega)), V_car.ext h4 dC (fun _ f hf => hv _ _ _ (by omega) (by omega)) (fun i h1 h2 => hr1 i (by omega) (by omega)), ?_, ?_, ?_, ?_, ?_, ?_⟩
  · obtain ⟨a1, a2, a3, a4, a5, a6, a7, a8, a9, a10, a11, a12, a13, a14, a15, a16⟩ := h1
    exact ⟨(hv 4 0 0 (by omega) (by omega)).trans a1, (hv 4 0 1 (by omega) (by omega)).trans a2, v2, (hv 4 0 3 (by omega) (by omega)).trans a4, (hv 5 0 0 (by omega) (by omega)).trans a5, (hr1 0 (by omega) (by omega)).trans a6, (hr1 1 (by omega) (by omega)).trans a7, r2, (hr1 3 (by omega) (by omega)).trans a9, (hr1 10 (by omega) (by omega)).trans a10, ((hr1 9 (by omega) (by omega)).trans a11).trans (hv 4 0 4 (by omega) (by omega)).symm, a12, a13, a14, by omega, a16⟩
  · intro k hk
    by_cases w : k = K
    · subst w
      obtain ⟨x0, x1, x2, x3, x4, x5, x6, x7, x8, x10⟩ := v10
      obtain ⟨y0, y1, y2, y3, y4, y5, y6, y7, y8, y10⟩ := rc
      refine ⟨fun f hf h9 => ?_, fun q => absurd x8 q, ⟨a, b, ha, hb, hab, x0, x1⟩, ⟨m, 0, hm, by decide, x2, x3, fun q => absurd q (by decide), fun q => absurd q (by decide), fun _ => x10⟩, Or.inl x8, Or.inl x10⟩
      rcases (show f = 0 ∨ f = 1 ∨ f = 2 ∨ f = 3 ∨ f = 4 ∨ f = 5 ∨ f = 6 ∨ f = 7 ∨ f = 8 ∨ f = 10 by omega) with rfl | rfl | rfl | rfl | rfl | rfl | rfl | rfl | rfl | rfl
      · exact y0.trans x0.symm
      · exact y1.trans x1.symm
      · exact y2.trans x2.symm
      · exact y3.trans x3.symm
      · exact y4.trans x4.symm
      · exact y5.trans x5.symm
      · exact y6.trans x6.symm
      · exact y7.trans x7.symm
      · exact y8.trans x8.symm
      · exact y10.trans x10.symm
    · have hkK : k < K := by omega
      obtain ⟨a1, b1, c1, d1, e1, f1⟩ := h5 k hkK
      have z : ∀ f, v' 1 k f = v 1 k f := fun f => hv 1 k f (by omega) (by omega)
      refine ⟨fun f hf h9 => by rw [z f, hrk f k hf hkK]; exact a1 f hf h9, fun q => ?_, ?_, ?_, ?_, ?_⟩
      · rw [z 9, show 271 + k = 55 + 24 * 9 + k by omega, hrk 9 k (by decide) hkK, show 55 + 24 * 9 + k = 271 + k by omega]
        exact b1 (by rw [← z 8]; exact q)
      · rw [z 0, z 1]; exact c1
      · unfold V_time at d1 ⊢
        rw [z 2, z 3, z 5, z 10]; exact d1
      · rw [z 8]; exact e1
      · rw [z 10]; exact f1
  · intro c hc
    obtain ⟨a1, b1⟩ := h6 c hc
    rw [hv 2 c 8 (by omega) (by omega)]
    refine ⟨fun k hk => ?_, fun k hk => b1 k (by omega)⟩
    by_cases w : k = K
    · subst w
      rw [(rk c (by omega)).1, b1 k (Nat.le_refl k)]
      rfl
    · rw [show r' (319 + 24 * c + k) = r (319 + 24 * c + k) from hrg 0 c k (by decide) (by omega) (by omega)]
      exact a1 k (by omega)
  · intro c hc k
    rw [hv 2 c 9 (by omega) (by omega), h7 c hc k]
    by_cases w : k = K
    · subst w
      rw [decide_eq_false (fun q => absurd q.1 (Nat.lt_irrefl k)), decide_eq_false (fun q => absurd (v10.2.2.2.1.symm.trans q.2.1) (by decide))]
    · rw [hv 1 k 3 (by omega) (by omega), hv 1 k 4 (by omega) (by omega)]
      exact decide_eq_decide.mpr ⟨fun q => ⟨by omega, q.2⟩, fun q => ⟨by omega, q.2⟩⟩
  · intro c hc k hk
    have z16 : ∀ k i, k ≠ 1 → k ≠ 4 → v' k c i = v k c i := fun k i h1 h2 => hv k c i (by omega) (by omega)
    by_cases w : k = K
    · subst w
      obtain ⟨a1, b1, d1⟩ := h9 c hc k (Nat.le_refl k) hK
      obtain ⟨y0, y1, y2, y3⟩ := rk c (by omega)
      refine ⟨?_, fun q hq => ?_, fun t ht => ?_, fun q => ?_, ?_, fun q hq => ?_⟩
      · rw [z16 17 k (by decide) (by decide), y1, a1]
      · rw [z16 18 _ (by decide) (by decide), y3 q hq, b1 q hq]
      · rw [z16 19 t (by decide) (by decide), y2, d1 t ht, b_0]
      · rw [z16 2 8 (by decide) (by decide), z16 17 k (by decide) (by decide), (h6 c hc).2 k (Nat.le_refl k), a1] at q
        rcases q with q | q
        · exact absurd q (by decide)
        · exact absurd rfl q
      · rw [z16 17 k (by decide) (by decide)]; exact Or.inl a1
      · rw [z16 18 _ (by decide) (by decide)]; exact Or.inl (b1 q hq)
    · have hkK : k < K := by omega
      obtain ⟨a1, b1, d1, e1, f1, g1⟩ := h8 c hc k hkK
      have zr : ∀ B, (B = 415 ∨ B = 511 ∨ B = 607) → r' (B + 24 * c + k) = r (B + 24 * c + k) := fun B hB => by
        rcases hB with rfl | rfl | rfl
        · exact hrg 1 c k (by decide) (by omega) hkK
        · exact hrg 2 c k (by decide) (by omega) hkK
        · exact hrg 3 c k (by decide) (by omega) hkK
      refine ⟨?_, fun q hq => ?_, fun t ht => ?_, fun q => ?_, ?_, fun q hq => ?_⟩
      · rw [z16 17 k (by decide) (by decide), zr 511 (by decide)]; exact a1
      · rw [z16 18 _ (by decide) (by decide), hrb c k q (by omega) hkK hq]; exact b1 q hq
      · rw [z16 19 t (by decide) (by decide), zr 607 (by decide)]; exact d1 t ht
      · rw [z16 2 8 (by decide) (by decide), z16 17 k (by decide) (by decide)] at q
        rw [z16 16 k (by decide) (by decide), zr 415 (by decide)]; exact e1 q
      · rw [z16 17 k (by decide) (by decide)]; exact f1
      · rw [z16 18 _ (by decide) (by decide)]; exact g1 q hq
  · intro c hc k hk hk2
    obtain ⟨a1, b1, d1⟩ := h9 c hc k (by omega) hk2
    refine ⟨?_, fun q hq => ?_, fun t ht => ?_⟩
    · rw [hv 17 c k (by omega) (by omega)]; exact a1
    · rw [hv 18 c _ (by omega) (by omega)]; exact b1 q hq
    · rw [hv 19 c t (by omega) (by omega)]; exact d1 t ht
  · intro i hi
    obtain ⟨e1, e2, e3, e4, ⟨k, hk, e5⟩, e6, e7⟩ := h10 i hi
    rw [hv 20 0 i (by omega) (by omega), hv 21 0 i (by omega) (by omega), hv 22 0 i (by omega) (by omega), hv 23 0 i (by omega) (by omega), hr9 _ (by omega), hr9 _ (by omega), hr9 _ (by omega), hr9 _ (by omega)]
    exact ⟨e1, e2, e3, e4, ⟨k, by omega, e5⟩, e6, e7⟩
theorem FrI {σ : Sg} {k o i : Nat} {x : Int32} {k' o' i' : Nat} (h : ¬ (k' = k ∧ i' = i)) : sup σ k o i x k' o' i' = σ k' o' i' := if_neg (fun q => h ⟨q.1, q.2.2⟩)
theorem q_l24 {K : Nat} (h : K < 2147483648) : (nI K < (24 : Int32)) = (K < 24) := by
  rw [show (24 : Int32) = nI 24 from rfl, ni_lt h (by omega)]
end PX
/-! the acts of the law, beside the class -/
theorem x_car (σ : Sg) {C c : Nat} (hC : σ 4 0 1 = nI C) (h4 : C ≤ 4) (hc : c < C) : f_X7_checkCar σ (nI c) = some σ := by
  unfold f_X7_checkCar
  simp (disch := omega) only [hC, ni_nn, ni_lt, if_false, hc, if_true]
theorem x_call (σ : Sg) {C c : Nat} (hC : σ 4 0 2 = nI C) (h4 : C ≤ 24) (hc : c < C) : f_X7_checkCall σ (nI c) = some σ := by
  unfold f_X7_checkCall
  simp (disch := omega) only [hC, ni_nn, ni_lt, if_false, hc, if_true]
theorem x_floor (σ : Sg) {C c : Nat} (hC : σ 4 0 0 = nI C) (h4 : C ≤ 30) (hc : c < C) : f_X7_checkFloor σ (nI c) = some σ := by
  unfold f_X7_checkFloor
  simp (disch := omega) only [hC, ni_nn, ni_lt, if_false, hc, if_true]
theorem x_range (σ : Sg) {a b c : Nat} (h1 : a ≤ b) (h2 : b ≤ c) (h3 : c < 2147483648) : f_X7_checkRange σ (nI b) (nI a) (nI c) = some σ := by
  unfold f_X7_checkRange
  rw [if_neg (by rw [ni_lt (by omega) (by omega)]; omega), if_pos (by rw [ni_le (by omega) (by omega)]; exact h2)]
def JJ (F C K M T : Nat) (σ τ : Sg) : Prop := LL F C K M T T 0 σ τ ∧ V_ann (vw 0 σ) M ≤ K ∧ (∃ x, x < 10 ∧ σ 3 0 1 = nI x) ∧ q_cc τ 1 ≤ 10 + 2 * K
/-- a part of a number's bits -/
theorem jb_ex (x : Int32) {f m : Nat} (hm : m < 13) : ∃ b, b < 2 ^ m ∧ jbits x (nI f) (nI m) = nI b := by
  obtain ⟨n, hn⟩ : ∃ n : Nat, jush x (nI f) = nI n := ⟨(jush x (nI f)).toBitVec.toNat, Int32.toBitVec_inj.mp (by show _ = BitVec.ofNat 32 _; simp)⟩
  refine ⟨n % 2 ^ m, Nat.mod_lt _ (Nat.pow_pos (by decide)), ?_⟩
  have e : ∀ m, m < 13 → (1 : Int32) <<< (nI m &&& 31) - 1 = nI (2 ^ m - 1) := by decide +kernel
  unfold jbits
  rw [hn, e m hm, nx_and, Nat.and_two_pow_sub_one_eq_mod]
theorem jr_mod : ∀ b, b < 32 → ∀ C, C < 32 → 0 < C → jrem (nI b) (nI C) = nI (b % C) := by decide +kernel
section TK
variable {F C K M T U j : Nat} {σ τ v : Sg} {r : Nat → Int32}
theorem l_done (h : LU F C K M T U v (rwL τ)) : f_L_done τ = some (W_cnt v K 3, τ, 1) := by
  have hK := D_K h
  obtain ⟨n, y, hy, e⟩ := lpN (fun n (y : Int32) k => f_L_done_12 n τ y k (τ 50 1 0)) K (by omega) (fun k y => y = fo (fun k a => if v 1 k 3 = 3 then a + 1 else a) k 0) (a := 0) (fun n k y hk hy => by
    refine ⟨fo (fun k a => if v 1 k 3 = 3 then a + 1 else a) (k + 1) 0, rfl, ?_⟩
    have e3 : τ 42 k 3 = v 1 k 3 := L_call h hk (by decide) (by decide)
    rw [f_L_done_12_s, L_K h, if_neg (by rw [it_no hk (by omega)]; exact id), N_K h, if_neg (fun z => z ⟨hk, rfl⟩), e3, hy]
    unfold f_L_done_45
    show _ = f_L_done_12 n τ (if v 1 k 3 = 3 then fo (fun k a => if v 1 k 3 = 3 then a + 1 else a) k 0 + 1 else fo (fun k a => if v 1 k 3 = 3 then a + 1 else a) k 0) (k + 1) (τ 50 1 0)
    by_cases w : v 1 k 3 = 3
    · rw [if_pos w, if_pos w]
    · rw [if_neg w, if_neg w, Int32.add_zero]) rfl
  unfold f_L_done
  rw [e, f_L_done_12_s, L_K h, if_pos (it_y _), hy]
  rfl
/-- the history takes the state -/
theorem l_hist (h : JJ F C K M T σ τ) : ∃ σ', f_X3_remember σ 0 = some σ' ∧ JJ F C K M T σ' τ := by
  obtain ⟨⟨hL, hb⟩, hA, ⟨x, hx, h3⟩, h1⟩ := h
  have hC := D_C hL
  have hK := D_K hL
  obtain ⟨σ1, c1, c2, c3⟩ := t_copy (q := 3 + x) hL (by omega)
  have e3 : σ1 3 = σ 3 := by
    funext o i
    exact c2 3 o i id
  have s3 : ∀ (y z : Int32) (k : Nat), k ≠ 3 → sup (sup σ1 3 0 1 y) 3 0 0 z k = σ1 k := fun y z k hk => by rw [s_ne hk, s_ne hk]
  have vq : ∀ y z, Veq C K M (vw 0 σ) (vw 0 (sup (sup σ1 3 0 1 y) 3 0 0 z)) := fun y z => (c2.veq (by omega) hC hK).trans (Veq.lk hC hK (fun k o i hk => by rw [s3 y z k (by unfold LK at hk; omega)]))
  refine ⟨sup (sup σ1 3 0 1 (nI ((x + 1) % 10))) 3 0 0 (jmin (sup σ1 3 0 1 (nI ((x + 1) % 10)) 3 0 0 + 1) 10), ?_, ⟨⟨hL.both (vq _ _) (fun _ _ => rfl), hb⟩, by rw [V_ann_eq (vq _ _)]; exact hA, ⟨(x + 1) % 10, by omega, ?_⟩, h1⟩⟩
  · unfold f_X3_remember
    simp (disch := omega) only [h3, ni_nn, ni_cl, p_nle, false_or, if_false, c1, p_bv, p_st]
    rw [e3, h3, h_nx x hx]
  · rw [s_nf (by decide), s_at]
/-- what a write of one cell in each keeps -/
theorem JJ.put (h : JJ F C K M T σ τ) {σ' τ' : Sg} (hL : LU F C K M T T (vw 0 σ') (rwL τ')) (hb : CB τ') (h21 : vw 0 σ' 21 = vw 0 σ 21) (h3 : σ' 3 = σ 3) (h1 : τ' 50 1 = τ 50 1) : JJ F C K M T σ' τ' := by
  refine ⟨⟨hL, hb⟩, ?_, ?_, ?_⟩
  · unfold V_ann
    rw [h21]
    exact h.2.1
  · rw [h3]
    exact h.2.2.1
  · unfold q_cc
    rw [h1]
    exact h.2.2.2
theorem l_jam' (h : JJ F C K M T σ τ) {c : Nat} (hc : c < C) {x : Int32} (hx : x = 0 ∨ x = 1) : ∃ σ' τ', f_L_act__265 σ τ (nI c) (τ 41 c 4) c x = some (1, σ', τ', 0) ∧ JJ F C K M T σ' τ' := by
  have hC := D_C h.1.1
  obtain ⟨σ1, a1, a2⟩ := l_hist h
  have e4 : τ 41 c 4 = σ1 2 (4 * 0 + c) 4 := L_car a2.1.1 hc (by decide)
  have e : σ1 2 (4 * 0 + c) 4 = 0 ∨ σ1 2 (4 * 0 + c) 4 = 1 := (a2.1.1.2.2.2.1 c hc).2.2.2.2.2
  have g := S_jam a2.1.1 hc hx
  have u := u_41 τ (c := c) (f := 4) (by omega) (by decide) x
  rw [← vs_2, ← u] at g
  refine ⟨sup σ1 2 (4 * 0 + c) 4 x, sup τ 41 c 4 x, ?_, a2.put g (cb_put (by decide) h.1.2 _ _ _) (by rw [vs_2, s_ne (by decide)]) (s_ne (by decide)) (congrFun (s_ne (by decide)) _)⟩
  have hj : f_X7_setJammed σ (nI c) x = some (σ1 2 (4 * 0 + c) 4, sup σ1 2 (4 * 0 + c) 4 x) := by
    unfold f_X7_setJammed
    rw [x_car σ (A_C h.1.1) hC hc, p_bv, a1, p_bv]
    simp (disch := omega) only [ni_nn, ni_cl, p_nle, false_or, if_false, p_st]
    rw [if_neg (fun q => q hx), if_neg (fun q => q e)]
  unfold f_L_act__265
  rw [if_neg (fun q => q hx), p_st, nn_put (by decide), N_C h.1.1, if_neg (show ¬ (nI c < 0 ∨ C ≤ (nI c).toNatClampNeg) by rw [gN hc (by omega)]; exact id), ni_cl (by omega), s_at, hj, p_bi, if_pos e4.symm]
  rfl
theorem l_set' (h : JJ F C K M T σ τ) {y : Nat} (hy : y < 64) : ∃ σ' τ', (st (sup τ 40 0 8 (nI y)) fun τ1 => bi (f_X7_set σ 0 (τ1 40 0 8)) fun r2 σ3 => if r2 = τ 40 0 8 then f_L_act__337 σ3 τ1 1 else f_L_act__337 σ3 τ1 0) = some (1, σ', τ', 0) ∧ JJ F C K M T σ' τ' := by
  obtain ⟨σ1, a1, a2⟩ := l_hist h
  have e8 : τ 40 0 8 = σ1 12 0 0 := (L_set a2.1.1).1
  have g := S_set a2.1.1 (w := 0) (y := y) (by decide) (fun q => absurd q (by decide)) (fun q => absurd q (by decide)) (fun q => absurd q (by decide))
  have u := u_40 τ (p := 4) (f := 8) (by decide) (by decide) (by decide) rfl (nI y)
  rw [← vs_12] at g
  refine ⟨sup σ1 12 0 0 (nI y), sup τ 40 0 8 (nI y), ?_, a2.put (by rw [u]; exact g) (cb_p40 (by decide) h.1.2 _) (by rw [vs_12, s_ne (by decide)]) (s_ne (by decide)) (congrFun (s_ne (by decide)) _)⟩
  have hs : f_X7_set σ 0 (nI y) = some (σ1 12 0 0, sup σ1 12 0 0 (nI y)) := by
    unfold f_X7_set
    rw [show (0 : Int32) = nI 0 from rfl, show (4 : Int32) = nI 4 from rfl, x_range σ (a := 0) (b := 0) (c := 4) (by decide) (by decide) (by decide), p_bv]
    simp (disch := omega) only [ni_nn, ni_cl, p_nle, false_or, if_false]
    rw [st_lo 0 (by decide), st_hi 0 (by decide), show l_lo 0 = 0 from rfl, show l_hi 0 = 90 from rfl, x_range σ (a := 0) (b := y) (c := 90) (by omega) (by omega) (by decide), p_bv, a1, p_bv]
    rfl
  rw [p_st, s_at, hs, p_bi, if_pos e8.symm]
  rfl
theorem l_forget (h : JJ F C K M T σ τ) {c k : Nat} (hc : c < C) (hk : k < K) (hh : ¬ τ 43 (4 * k + c) 0 = 0) : ∃ σ' τ', (st (sup τ 43 (4 * k + c) 0 0) fun τ4 => st (sup τ4 43 (4 * k + c) 2 (-1)) fun τ5 => bi (f_X7_forget σ (nI c) (nI k)) fun r6 σ7 => bqx (f_L_held τ5 (nI c)) fun r8 τ9 => if r6 = r8 then f_L_act__420 σ7 τ9 1 else f_L_act__420 σ7 τ9 0) = some (1, σ', τ', 1) ∧ JJ F C K M T σ' τ' := by
  have hC := D_C h.1.1
  have hK := D_K h.1.1
  have hbt : bt (vw 0 σ 2 c 8) k = true := by
    rw [L_held h.1.1 hc hk, W_b0] at hh
    exact eq_true_of_ne_false hh
  obtain ⟨σ1, a1, a2⟩ := l_hist h
  have g1 := S_hclr (S_dec a2.1.1 hc hk (y := -1) (Or.inl rfl) (fun q => absurd rfl q)) hc hk
  rw [← vs_17, ← vs_2, ru_cm (show 511 + 24 * c + k ≠ 319 + 24 * c + k by omega)] at g1
  have u1 : rwL (sup τ 43 (4 * k + c) 0 0) = ru (rwL τ) (319 + 24 * c + k) 0 := u_43 τ (c := c) (k := k) (f := 0) (by omega) (by omega) (by decide) 0
  have u2 : rwL (sup (sup τ 43 (4 * k + c) 0 0) 43 (4 * k + c) 2 (-1)) = ru (rwL (sup τ 43 (4 * k + c) 0 0)) (511 + 24 * c + k) (-1) := u_43 _ (c := c) (k := k) (f := 2) (by omega) (by omega) (by decide) (-1)
  rw [← u1, ← u2] at g1
  have eh := l_held g1 hc
  have hr : f_X2_hearReport σ1 (4 * 0 + c) (nI k) = some (sup (sup σ1 17 (4 * 0 + c) k (-1)) 2 (4 * 0 + c) 8 (vw 0 (sup σ1 17 (4 * 0 + c) k (-1)) 2 c 8 &&& ((1 <<< (nI k &&& 31)) ^^^ (-1)))) := by
    unfold f_X2_hearReport f_X2_dropCall
    simp (disch := omega) only [ni_nn, ni_cl, p_nle, false_or, if_false, p_st, p_bv]
    rfl
  generalize hσ2 : sup (sup σ1 17 (4 * 0 + c) k (-1)) 2 (4 * 0 + c) 8 (vw 0 (sup σ1 17 (4 * 0 + c) k (-1)) 2 c 8 &&& ((1 <<< (nI k &&& 31)) ^^^ (-1))) = σ2 at g1 eh hr
  have g4 : ¬ (nI c < 0 ∨ 4 ≤ (nI c).toNatClampNeg) := by rw [gN (by omega) (by decide)]; exact id
  have hf : f_X7_forget σ (nI c) (nI k) = some (nI (ct (bt (vw 0 σ2 2 c 8)) 32), σ2) := by
    unfold f_X7_forget
    rw [x_car σ (A_C h.1.1) hC hc, p_bv, x_call σ (A_K h.1.1) hK hk, p_bv, if_neg g4, ni_cl (show c < 2147483648 by omega), a_isH σ _ (show k < 32 by omega), show bt (σ 2 (4 * 0 + c) 8) k = true from hbt, p_bi, if_neg (show ¬ W_b true = 0 by decide), a1, p_bv]
    rw [if_neg (show ¬ (nI c < 0 ∨ 4 ≤ c) by rw [ni_nn (by omega)]; exact fun q => q.elim id (fun q => by omega)), hr, p_bv, if_neg (show ¬ (nI c < 0 ∨ 4 ≤ c) by rw [ni_nn (by omega)]; exact fun q => q.elim id (fun q => by omega)), c_cnt, p_bi]
    rfl
  refine ⟨σ2, sup (sup τ 43 (4 * k + c) 0 0) 43 (4 * k + c) 2 (-1), ?_, a2.put g1 (cb_put (by decide) (cb_put (by decide) h.1.2 _ _ _) _ _ _) ?_ ?_ ?_⟩
  · rw [p_st, p_st, hf, p_bi, eh, bqx_some, if_pos rfl]
    rfl
  · rw [← hσ2, vs_2, vs_17, s_ne (by decide), s_ne (by decide)]
  · rw [← hσ2, s_ne (by decide), s_ne (by decide)]
  · rw [s_ne (by decide), s_ne (by decide)]
theorem r_congr {a b : Sg} (h : ∀ k o i, ¬ (k = 43 ∧ i = 2) → b k o i = a k o i) : ∀ q, (q < 511 ∨ 607 ≤ q) → rwL b q = rwL a q := by
  intro q hq
  have h0 : rw0 b q = rw0 a q := by
    unfold rw0
    split <;> exact h _ _ _ (by decide)
  unfold rwL
  rw [h0]
  repeat' split
  all_goals first | rfl | exact h _ _ _ (by omega)
theorem l_stop' (h : JJ F C K M T σ τ) {c : Nat} (hc : c < C) {x : Int32} (hx : x = 0 ∨ x = 1) : ∃ σ' τ' d, f_L_act__112 σ τ (nI c) (τ 41 c 3) c x = some (1, σ', τ', d) ∧ d ≤ 1 ∧ JJ F C K M T σ' τ' := by
  have hC := D_C h.1.1
  have hK := D_K h.1.1
  obtain ⟨σ1, a1, a2⟩ := l_hist h
  have e4 : τ 41 c 3 = σ1 2 (4 * 0 + c) 3 := L_car a2.1.1 hc (by decide)
  have e : σ1 2 (4 * 0 + c) 3 = 0 ∨ σ1 2 (4 * 0 + c) 3 = 1 := (a2.1.1.2.2.2.1 c hc).2.2.2.2.1
  have g := S_stp a2.1.1 hc hx
  have u := u_41 τ (c := c) (f := 3) (by omega) (by decide) x
  rw [← vs_2] at g
  have g0 : LU F C K M T T (vw 0 (sup σ1 2 (4 * 0 + c) 3 x)) (rwL (sup τ 41 c 3 x)) := by rw [u]; exact g
  have cb1 : CB (sup τ 41 c 3 x) := cb_put (by decide) h.1.2 _ _ _
  have fin : ∀ (σ2 τ2 : Sg), f_X7_setStopped σ (nI c) (τ2 41 c 3) = some (σ1 2 (4 * 0 + c) 3, σ2) → q_nn τ2 0 = C → f_L_act__181 σ τ2 (nI c) (τ 41 c 3) = some (1, σ2, τ2, 0) := by
    intro σ2 τ2 h1 h2
    unfold f_L_act__181 f_L_act__212
    rw [h2, if_neg (show ¬ (nI c < 0 ∨ C ≤ (nI c).toNatClampNeg) by rw [gN hc (by omega)]; exact id), ni_cl (by omega), h1, p_bi, if_pos e4.symm, if_neg (by decide)]
  have nn : q_nn (sup τ 41 c 3 x) 0 = C := by rw [nn_put (by decide), N_C h.1.1]
  unfold f_L_act__112
  rw [if_neg (fun q => q hx), p_st, nn, if_neg (show ¬ (nI c < 0 ∨ C ≤ (nI c).toNatClampNeg) by rw [gN hc (by omega)]; exact id), ni_cl (by omega), s_at]
  have hS : ∀ (σ2 : Sg), (if x = 0 then f_X7_setStopped_45 (sup σ1 2 (4 * 0 + c) 3 x) (σ1 2 (4 * 0 + c) 3) else bv (f_X2_dropDecisions (sup σ1 2 (4 * 0 + c) 3 x) (4 * 0 + c)) fun σ5 => f_X7_setStopped_45 σ5 (σ1 2 (4 * 0 + c) 3)) = some (σ1 2 (4 * 0 + c) 3, σ2) → f_X7_setStopped σ (nI c) x = some (σ1 2 (4 * 0 + c) 3, σ2) := by
    intro σ2 hq
    unfold f_X7_setStopped
    rw [x_car σ (A_C h.1.1) hC hc, p_bv, a1, p_bv, if_neg (show ¬ (nI c < 0 ∨ 4 ≤ (nI c).toNatClampNeg) by rw [gN (by omega) (by decide)]; exact id), ni_cl (show c < 2147483648 by omega), if_neg (fun q => q hx), p_st]
    exact hq
  rcases hx with rfl | rfl
  · rw [if_pos rfl]
    refine ⟨sup σ1 2 (4 * 0 + c) 3 0, sup τ 41 c 3 0, 0, fin _ _ ?_ nn, by decide, a2.put g0 cb1 (by rw [vs_2, s_ne (by decide)]) (s_ne (by decide)) (congrFun (s_ne (by decide)) _)⟩
    rw [s_at]
    refine hS _ ?_
    rw [if_pos rfl]
    unfold f_X7_setStopped_45
    rw [if_neg (fun q => q e)]
  · rw [if_neg (by decide)]
    obtain ⟨n1, A, ⟨A1, A2⟩, A3⟩ := lpE1 (fun n (a : Sg) i => f_X2_dropDecisions_2 n a (4 * 0 + c) i) 24 (by decide) (fun k a => (∀ k' o i, ¬ (k' = 17 ∧ o = 4 * 0 + c) → a k' o i = sup σ1 2 (4 * 0 + c) 3 1 k' o i) ∧ ∀ i, i < k → a 17 (4 * 0 + c) i = -1) (a := sup σ1 2 (4 * 0 + c) 3 1) (by
      rintro n k a hk ⟨j1, j2⟩
      refine ⟨sup a 17 (4 * 0 + c) k (-1), ⟨fun k' o i hn => (FrO hn).trans (j1 k' o i hn), fun i hi => ?_⟩, ?_⟩
      · by_cases w : i = k
        · subst w; exact s_at _ _ _ _ _
        · rw [s_nf w]; exact j2 i (by omega)
      · simp (disch := omega) only [f_X2_dropDecisions_2_s, q_24, p_nle, if_false, ni_nn, ni_cl, false_or, p_st, ni_1]) ⟨fun _ _ _ _ => rfl, fun i hi => absurd hi (Nat.not_lt_zero i)⟩
    obtain ⟨n2, B, ⟨B1, B2, B3⟩, B4⟩ := lpN (fun n (b : Sg) k => f_L_act__145 n σ b (nI c) (τ 41 c 3) k ((sup τ 41 c 3 1) 50 1 0)) K (by omega) (fun k b => (∀ kk o i, ¬ (kk = 43 ∧ i = 2) → b kk o i = (sup τ 41 c 3 1) kk o i) ∧ (∀ k' c', k' < K → c' < 4 → c' ≠ c → b 43 (4 * k' + c') 2 = (sup τ 41 c 3 1) 43 (4 * k' + c') 2) ∧ ∀ k', k' < k → b 43 (4 * k' + c) 2 = -1) (a := sup τ 41 c 3 1) (by
      rintro n k b hk ⟨j1, j2, j3⟩
      have bK : b 50 1 2 = nI K := by rw [j1 50 1 2 (by decide), s_ne (by decide)]; exact L_K h.1.1
      have bn : q_nn b 1 = K := by unfold q_nn; rw [bK, ni_cl (by omega)]
      refine ⟨sup b 43 (4 * k + c) 2 (-1), ⟨fun kk o i hn => (FrI hn).trans (j1 kk o i hn), fun k' c' h1 h2 h3 => ?_, fun k' hk' => ?_⟩, ?_⟩
      · rw [s_no (by omega)]
        exact j2 k' c' h1 h2 h3
      · by_cases w : k' = k
        · subst w; exact s_at _ _ _ _ _
        · rw [s_no (by omega)]; exact j3 k' (by omega)
      · rw [f_L_act__145_s, bK, if_neg (by rw [it_no hk (by omega)]; exact id), bn, if_neg (fun z => z ⟨hk, (j1 50 1 0 (by decide)).symm⟩)]
        simp (disch := omega) only [ni_nn, ni_cl, p_nle, false_or, if_false, p_st]) ⟨fun _ _ _ _ => rfl, fun _ _ _ _ _ => rfl, fun i hi => absurd hi (Nat.not_lt_zero i)⟩
    have BK : B 50 1 2 = nI K := by rw [B1 50 1 2 (by decide), s_ne (by decide)]; exact L_K h.1.1
    have hr := r_congr (a := sup τ 41 c 3 1) (b := B) B1
    have gA : LU F C K M T T (vw 0 A) (rwL B) := by
      refine S_drop (c := c) g0 (fun k o i hn => ?_) (fun i hi => A2 i hi) (fun k hk => ?_) hr (fun c' k hc' hk => ?_)
      · by_cases w : k = 17
        · subst w
          exact A1 17 (4 * 0 + o) i (fun q => hn ⟨rfl, by omega⟩)
        · exact vw_pt (fun o i => A1 k o i (fun q => w q.1)) 0 o i
      · exact (g_43 B (c := c) (k := k) (f := 2) (by omega) (by omega) (by decide)).trans (B3 k hk)
      · by_cases w4 : c' < 4
        · exact (g_43 B (c := c') (k := k) (f := 2) w4 (by omega) (by decide)).trans ((B2 k c' hk w4 hc').trans (g_43 _ (c := c') (k := k) (f := 2) w4 (by omega) (by decide)).symm)
        · exact hr _ (Or.inr (by omega))
    have cbB : CB B := by
      obtain ⟨b1, b2, b3⟩ := cb1
      unfold CB q_nn q_cc at *
      rw [B1 50 2 3 (by decide), B1 50 2 2 (by decide), B1 40 0 12 (by decide)]
      exact ⟨b1, b2, b3⟩
    have B50 : B 50 = sup τ 41 c 3 1 50 := by
      funext o i
      exact B1 50 o i (fun z => absurd z.1 (by decide))
    have nB : q_nn B 0 = C := by
      unfold q_nn
      rw [B50]
      exact nn
    have eB : B 41 c 3 = 1 := by rw [B1 41 c 3 (by decide), s_at]
    refine ⟨A, B, 1 + 0, ?_, by decide, a2.put gA cbB ?_ ?_ ?_⟩
    · rw [show f_L_act__145 FU σ (sup τ 41 c 3 1) (nI c) (τ 41 c 3) 0 (sup τ 41 c 3 1 50 1 0) = f_L_act__145 (n2 + 1) σ B (nI c) (τ 41 c 3) K ((sup τ 41 c 3 1) 50 1 0) from B4, f_L_act__145_s, BK, if_pos (it_y _), fin A B ?_ nB, acx_some]
      rw [eB]
      refine hS A ?_
      rw [if_neg (by decide)]
      unfold f_X2_dropDecisions
      have A3' : f_X2_dropDecisions_2 FU (sup σ1 2 (4 * 0 + c) 3 1) (4 * 0 + c) 0 = _ := A3
      rw [A3', f_X2_dropDecisions_2_s, if_pos (by decide)]
      unfold f_X2_dropDecisions_21
      rw [p_bv]
      unfold f_X7_setStopped_45
      rw [if_neg (fun q => q e)]
    · funext o i
      show A 21 (0 + o) i = σ1 21 (0 + o) i
      rw [A1 21 _ i (by omega), s_ne (by decide)]
    · funext o i
      rw [A1 3 o i (by omega), s_ne (by decide)]
    · rw [B50]
      exact congrFun (s_ne (by decide)) _
theorem l_run (h : JJ F C K M T σ τ) {n : Nat} (h1 : 1 ≤ n) (h2 : n ≤ 4) (hT : T < 390000) : ∃ σ' τ' d M' , (bqx (f_L_done τ) fun r10 τ11 => f_L_act__550 FU σ τ11 (nI n) r10 0) = some (1, σ', τ', d) ∧ d ≤ 12002 ∧ JJ F C K M' (T + n) σ' τ' := by
  obtain ⟨σ1, a1, a2⟩ := l_hist h
  obtain ⟨⟨hL, hb⟩, hA, hx, hcc⟩ := a2
  obtain ⟨σ2, τ2, D, m, p1, p2, M', p3, p4, p5, p6, p7⟩ := l_pass (n := n) ⟨hL, hb⟩ hA (by decide) (by omega) (by omega) (fun m b i => f_L_act__550 m σ b (nI n) (W_cnt (vw 0 σ1) K 3) (nI i)) (fun m b i hi => by
    show f_L_act__550 (m + 1) σ b (nI n) (W_cnt (vw 0 σ1) K 3) (nI i) = _
    rw [f_L_act__550_s, if_neg (by rw [ni_le (by omega) (by omega)]; omega), ni_1])
  have hrun : f_X7_run σ (nI n) = some (W_cnt (vw 0 σ2) K 3 - W_cnt (vw 0 σ1) K 3, σ2) := by
    unfold f_X7_run f_X7_checkTicks
    rw [show (1 : Int32) = nI 1 from rfl, show (500 : Int32) = nI 500 from rfl, x_range σ (a := 1) (b := n) (c := 500) h1 (by omega) (by decide), p_bv, p_bv, a1, p_bv, a_cnt hL, p_bi, p1, p_bv, a_cnt p3.1, p_bi]
  refine ⟨σ2, τ2, 1 + (D + (1 + 0)), M', ?_, by omega, ⟨p3, p4, ?_, ?_⟩⟩
  · rw [l_done hL, bqx_some]
    rw [show f_L_act__550 FU σ τ (nI n) (W_cnt (vw 0 σ1) K 3) 0 = acx D (f_L_act__550 (m + 1) σ τ2 (nI n) (W_cnt (vw 0 σ1) K 3) (nI n)) from p2, f_L_act__550_s, if_pos (Int32.le_refl _)]
    unfold f_L_act__567 f_L_act__588
    rw [hrun, p_bi, l_done p3.1, bqx_some, if_pos rfl, if_neg (by decide), acx_some, acx_some, acx_some]
  · rw [show σ2 3 0 1 = σ1 3 0 1 from p5 3 0 1 id (fun z => absurd z.1 (by decide))]
    exact hx
  · unfold q_cc
    rw [p6.2]
    exact hcc
end TK
