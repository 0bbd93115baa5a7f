/-! reading the law's text -/
section RDZ
variable {n p L v : Nat} {inp : Nat → Nat} {σ τ τ' : Sg} {F C K : Nat}
theorem s_set (h : RD n inp p σ) {w i : Nat} (hw : w < 4) (hi : i ≤ n) (hW : W_at inp n p (w + 3)) (hm : (jush (σ 6 0 8) (nI w)) &&& 1 = 0) (hN : N_at inp n (p + Wln (w + 3)) L v) (b1 : ¬ nI v < stab 0 w) (b2 : nI v ≤ stab 1 w) (hs : p + Wln (w + 3) + 1 + L < n ∧ inp (p + Wln (w + 3) + 1 + L) = 59) :
    ∃ σ', (∀ f, f_X6_read_52 (f + 1) σ 1 (nI i) = f_X6_read_52 f σ' 1 (nI (i + 1))) ∧ RD n inp (p + Wln (w + 3) + 1 + L + 1) σ' ∧ σ' 6 0 8 = (σ 6 0 8) ||| (1 <<< (nI w &&& 31)) ∧ ∀ k, k ≠ 6 → σ' k = sup σ 12 1 w (nI v) k := by
  obtain ⟨σ1, a1, a2, a3, a4⟩ := r_loop h (show w + 3 < 9 by omega) hi hW
  obtain ⟨σ2, b3, b4, b5, b6⟩ := r_set a2 (show w < 5 by omega) (by rw [a1.m (by omega)]; exact hm) hN b1 b2 hs
  refine ⟨σ2, fun f => a4 f σ2 (st_set hw a3 b3), b4, by rw [b5, a1.m (by omega)], fun k hk => ?_⟩
  rw [b6 k hk]
  funext o x
  unfold sup
  split
  · rfl
  · rw [a1.k hk]
theorem s_seed (h : RD n inp p σ) {i : Nat} (hi : i ≤ n) (hW : W_at inp n p 8) (hm : (jush (σ 6 0 8) (nI 5)) &&& 1 = 0) (hN : N_at inp n (p + Wln 8) L v) (b2 : v ≤ 9999) (hs : p + Wln 8 + 1 + L < n ∧ inp (p + Wln 8 + 1 + L) = 59) :
    ∃ σ', (∀ f, f_X6_read_52 (f + 1) σ 1 (nI i) = f_X6_read_52 f σ' 1 (nI (i + 1))) ∧ RD n inp (p + Wln 8 + 1 + L + 1) σ' ∧ ∀ k, k ≠ 6 → σ' k = sup σ 4 1 4 (nI v) k := by
  obtain ⟨σ1, a1, a2, a3, a4⟩ := r_loop h (show 8 < 9 by omega) hi hW
  obtain ⟨σ2, b3, b4, b6⟩ := r_seed a2 (by rw [a1.m (by omega)]; exact hm) hN b2 hs
  refine ⟨σ2, fun f => a4 f σ2 (st_seed a3 b3), b4, fun k hk => ?_⟩
  rw [b6 k hk]
  funext o x
  unfold sup
  split
  · rfl
  · rw [a1.k hk]
/-- the lifts being read, their settings read -/
def HDR (F N P W D S : Nat) (σ : Sg) : Prop := (σ 4 1 0 = nI F ∧ σ 4 1 1 = 0 ∧ σ 4 1 2 = 0 ∧ σ 4 1 3 = 0 ∧ σ 4 1 4 = nI S ∧ σ 5 1 0 = 0) ∧ (σ 12 1 0 = nI N ∧ σ 12 1 1 = nI P ∧ σ 12 1 2 = nI W ∧ σ 12 1 3 = nI D ∧ σ 12 1 4 = 30) ∧ (∀ i, i < 4 → σ 13 1 i = 0 ∧ σ 14 1 i = 0) ∧ ∀ i, i < 5 → σ 15 1 i = 0
theorem rd_hdr {N P W D S l0 l1 l2 l3 l4 l5 q0 q1 q2 q3 q4 q5 : Nat} (h : RD n inp 0 σ) (h8 : σ 6 0 8 = 0) (hF : 2 ≤ F ∧ F ≤ 30) (hN : N ≤ 90) (hP : 3 ≤ P ∧ P ≤ 50) (hW : W ≤ 20) (hD : D ≤ 5) (hS : S ≤ 9999)
    (t0 : W_at inp n 0 0 ∧ N_at inp n (0 + 6) l0 F ∧ (0 + 6 + 1 + l0 < n ∧ inp (0 + 6 + 1 + l0) = 59) ∧ q0 = 0 + 6 + 1 + l0 + 1)
    (t1 : W_at inp n q0 3 ∧ N_at inp n (q0 + Wln 3) l1 N ∧ (q0 + Wln 3 + 1 + l1 < n ∧ inp (q0 + Wln 3 + 1 + l1) = 59) ∧ q1 = q0 + Wln 3 + 1 + l1 + 1)
    (t2 : W_at inp n q1 4 ∧ N_at inp n (q1 + Wln 4) l2 P ∧ (q1 + Wln 4 + 1 + l2 < n ∧ inp (q1 + Wln 4 + 1 + l2) = 59) ∧ q2 = q1 + Wln 4 + 1 + l2 + 1)
    (t3 : W_at inp n q2 5 ∧ N_at inp n (q2 + Wln 5) l3 W ∧ (q2 + Wln 5 + 1 + l3 < n ∧ inp (q2 + Wln 5 + 1 + l3) = 59) ∧ q3 = q2 + Wln 5 + 1 + l3 + 1)
    (t4 : W_at inp n q3 6 ∧ N_at inp n (q3 + Wln 6) l4 D ∧ (q3 + Wln 6 + 1 + l4 < n ∧ inp (q3 + Wln 6 + 1 + l4) = 59) ∧ q4 = q3 + Wln 6 + 1 + l4 + 1)
    (t5 : W_at inp n q4 8 ∧ N_at inp n (q4 + Wln 8) l5 S ∧ (q4 + Wln 8 + 1 + l5 < n ∧ inp (q4 + Wln 8 + 1 + l5) = 59) ∧ q5 = q4 + Wln 8 + 1 + l5 + 1) :
    ∃ σ7 σ', f_X6_readFloors σ 1 = some (1, σ7) ∧ (∀ f, f_X6_read_52 (f + 5) σ7 1 (nI 0) = f_X6_read_52 f σ' 1 (nI 5)) ∧ RD n inp q5 σ' ∧ HDR F N P W D S σ' ∧ GY σ σ' := by
  obtain ⟨w0, n0, z0, rfl⟩ := t0
  obtain ⟨w1, n1, z1, rfl⟩ := t1
  obtain ⟨w2, n2, z2, rfl⟩ := t2
  obtain ⟨w3, n3, z3, rfl⟩ := t3
  obtain ⟨w4, n4, z4, rfl⟩ := t4
  obtain ⟨w5, n5, z5, rfl⟩ := t5
  have hn := z5.1
  obtain ⟨σ7, a1, a2, a3, a4, a5⟩ := r_floors h w0 n0 hF.1 hF.2 z0
  rw [h8] at a3
  obtain ⟨s1, b1, b2, b3, b4⟩ := s_set (w := 0) (i := 0) a2 (by decide) (by omega) w1 (by rw [a3]; decide) n1 (by rw [show stab 0 0 = nI 0 from rfl, ni_lt (by omega) (by omega)]; omega) (by rw [show stab 1 0 = nI 90 from rfl, ni_le (by omega) (by omega)]; exact hN) z1
  rw [a3] at b3
  obtain ⟨s2, c1, c2, c3, c4⟩ := s_set (w := 1) (i := 1) b2 (by decide) (by omega) w2 (by rw [b3]; decide) n2 (by rw [show stab 0 1 = nI 3 from rfl, ni_lt (by omega) (by omega)]; omega) (by rw [show stab 1 1 = nI 50 from rfl, ni_le (by omega) (by omega)]; exact hP.2) z2
  rw [b3] at c3
  obtain ⟨s3, d1, d2, d3, d4⟩ := s_set (w := 2) (i := 2) c2 (by decide) (by omega) w3 (by rw [c3]; decide) n3 (by rw [show stab 0 2 = nI 0 from rfl, ni_lt (by omega) (by omega)]; omega) (by rw [show stab 1 2 = nI 20 from rfl, ni_le (by omega) (by omega)]; exact hW) z3
  rw [c3] at d3
  obtain ⟨s4, e1, e2, e3, e4⟩ := s_set (w := 3) (i := 3) d2 (by decide) (by omega) w4 (by rw [d3]; decide) n4 (by rw [show stab 0 3 = nI 0 from rfl, ni_lt (by omega) (by omega)]; omega) (by rw [show stab 1 3 = nI 5 from rfl, ni_le (by omega) (by omega)]; exact hD) z4
  rw [d3] at e3
  obtain ⟨s5, f1, f2, f4⟩ := s_seed (i := 4) e2 (by omega) w5 (by rw [e3]; decide) n5 hS z5
  obtain ⟨⟨k0, k1, k2, k3, k4, k5⟩, m12, m13, m15⟩ := a4
  have e : ∀ k, k ≠ 6 → k ≠ 12 → k ≠ 4 → s5 k = σ7 k := fun k h6 h12 h4 => by
    rw [f4 k h6, s_ne h4, e4 k h6, s_ne h12, d4 k h6, s_ne h12, c4 k h6, s_ne h12, b4 k h6, s_ne h12]
  have g4 : ∀ i, i ≠ 4 → s5 4 1 i = σ7 4 1 i := fun i hi => by
    rw [f4 4 (by decide), s_nf hi, e4 4 (by decide), s_ne (by decide), d4 4 (by decide), s_ne (by decide), c4 4 (by decide), s_ne (by decide), b4 4 (by decide), s_ne (by decide)]
  refine ⟨σ7, s5, a1, fun f => ?_, f2, ⟨⟨(g4 0 (by decide)).trans k0, (g4 1 (by decide)).trans k1, (g4 2 (by decide)).trans k2, (g4 3 (by decide)).trans k3, ?_, by rw [e 5 (by decide) (by decide) (by decide)]; exact k5⟩, ⟨?_, ?_, ?_, ?_, ?_⟩, fun i hi => ?_, fun i hi => ?_⟩, ?_⟩
  · rw [b1 (f + 4), c1 (f + 3), d1 (f + 2), e1 (f + 1), f1 f]
  · rw [f4 4 (by decide), s_at]
  · rw [f4 12 (by decide), s_ne (by decide), e4 12 (by decide), s_nf (by decide), d4 12 (by decide), s_nf (by decide), c4 12 (by decide), s_nf (by decide), b4 12 (by decide), s_at]
  · rw [f4 12 (by decide), s_ne (by decide), e4 12 (by decide), s_nf (by decide), d4 12 (by decide), s_nf (by decide), c4 12 (by decide), s_at]
  · rw [f4 12 (by decide), s_ne (by decide), e4 12 (by decide), s_nf (by decide), d4 12 (by decide), s_at]
  · rw [f4 12 (by decide), s_ne (by decide), e4 12 (by decide), s_at]
  · rw [f4 12 (by decide), s_ne (by decide), e4 12 (by decide), s_nf (by decide), d4 12 (by decide), s_nf (by decide), c4 12 (by decide), s_nf (by decide), b4 12 (by decide), s_nf (by decide), m12 4 (by decide)]
    rfl
  · rw [e 13 (by decide) (by decide) (by decide), e 14 (by decide) (by decide) (by decide)]
    exact m13 i hi
  · rw [e 15 (by decide) (by decide) (by decide)]
    exact m15 i hi
  · refine a5.trans (fun k i hk => ?_)
    rw [e k (by omega) (by omega) (by omega)]
/-- what is read so far, beside the law's base -/
theorem rd_base {N P W D S : Nat} (h : HDR F N P W D S σ) (hF : 2 ≤ F ∧ F ≤ 30) (hP : 3 ≤ P ∧ P ≤ 50) (hW : W ≤ 20) (hD : D ≤ 5) (e3 : τ 40 0 3 = nI F) (e8 : τ 40 0 8 = nI N) (e9 : τ 40 0 9 = nI P) (e10 : τ 40 0 10 = nI W) (e11 : τ 40 0 11 = nI D) (e12 : τ 40 0 12 = 30) (e13 : τ 40 0 13 = nI S) (e7 : τ 40 0 7 = 0) (z : ∀ k o i, k ≠ 40 → τ k o i = 0) : LU F 0 0 0 0 0 (vw 1 σ) (rwL τ) ∧ FR 0 0 (rwL τ) := by
  obtain ⟨⟨k0, k1, k2, k3, k4, k5⟩, ⟨m0, m1, m2, m3, m4⟩, m13, m15⟩ := h
  refine ⟨⟨⟨k0, k1, k2, k3, k5, e3, z 50 0 2 (by decide), z 50 1 2 (by decide), e7, z 50 2 2 (by decide), e13.trans k4.symm, hF.1, hF.2, by decide, by decide, by decide⟩, ⟨fun i hi => ?_, P, W, D, m1, hP.1, hP.2, m2, hW, m3, hD⟩, fun i hi => ⟨?_, ?_, ?_, m15 0 (by decide)⟩, fun c hc => absurd hc (Nat.not_lt_zero c), fun c hc => absurd hc (Nat.not_lt_zero c), fun c hc => absurd hc (Nat.not_lt_zero c), fun c hc => absurd hc (Nat.not_lt_zero c), fun c hc => absurd hc (Nat.not_lt_zero c), fun c hc => absurd hc (Nat.not_lt_zero c), fun c hc => absurd hc (Nat.not_lt_zero c)⟩, ⟨fun k hk => absurd hk (Nat.not_lt_zero k), fun c _ hc => ⟨fun f h2 h8 => ?_, fun k hk => absurd hk (Nat.not_lt_zero k)⟩⟩⟩
  · rcases (show i = 0 ∨ i = 1 ∨ i = 2 ∨ i = 3 ∨ i = 4 by omega) with rfl | rfl | rfl | rfl | rfl
    · exact e8.trans m0.symm
    · exact e9.trans m1.symm
    · exact e10.trans m2.symm
    · exact e11.trans m3.symm
    · exact e12.trans m4.symm
  · rw [g_46 _ hi, z 46 0 i (by decide)]
    exact (m13 i hi).1.symm
  · rw [g_47 _ hi, z 47 0 i (by decide)]
    exact (m13 i hi).2.symm
  · rw [g_48 _ hi, z 48 0 (i + 1) (by decide)]
    exact (m15 (i + 1) (by omega)).symm
  · rw [g_41 _ hc h8]
    exact z 41 c f (by decide)
/-! the law's cars and calls, as they are made -/
theorem tc_41 (ns : Nat) (w : Nat → Int32) (X : Int32) (τ : Sg) (k i : Nat) : t_car ns w X τ k 41 k i = if i = 1 then 1 + jbits (t_cell ns w (1 + k)) 4 1 else if i = 0 then jrem (jbits (t_cell ns w (1 + k)) 0 4) X else 0 := by
  unfold t_car t_add
  rw [s_ne (by decide), s_ne (by decide), s_ne (by decide)]
  by_cases h1 : i = 1
  · subst h1
    rw [s_at, if_pos rfl]
  · rw [s_nf h1, if_neg h1]
    by_cases h0 : i = 0
    · subst h0
      rw [s_at, if_pos rfl]
    · rw [s_nf h0, if_neg h0]
      exact if_pos ⟨rfl, rfl⟩
theorem tc_o (ns : Nat) (w : Nat → Int32) (X : Int32) (τ : Sg) (k : Nat) {k' o i : Nat} (h : ¬ (k' = 50 ∧ o = 0)) (h1 : ¬ (k' = 41 ∧ o = k)) : t_car ns w X τ k k' o i = τ k' o i := by
  unfold t_car t_add
  rw [FrO h, FrO h, FrO h, FrO h1, FrO h1]
  exact if_neg h1
theorem tc_502 (ns : Nat) (w : Nat → Int32) (X : Int32) (τ : Sg) (k : Nat) : t_car ns w X τ k 50 0 2 = nI (q_nn τ 0 + 1) := by
  unfold t_car
  rw [t_add2, nn_put (by decide), nn_put (by decide)]
  rfl
/-- the row once a car more stands -/
theorem tc_row (ns : Nat) (w : Nat → Int32) (X : Int32) (hC : C < 4) (hq : q_nn τ 0 = C) (hR : FR C 0 (rwL τ)) : rwL (t_car ns w X τ C) 1 = nI (C + 1) ∧ rwL (t_car ns w X τ C) (23 + C) = jrem (jbits (t_cell ns w (1 + C)) 0 4) X ∧ rwL (t_car ns w X τ C) (27 + C) = 1 + jbits (t_cell ns w (1 + C)) 4 1 ∧ ∀ i, i ≠ 1 → i ≠ 23 + C → i ≠ 27 + C → rwL (t_car ns w X τ C) i = rwL τ i := by
  refine ⟨?_, ?_, ?_, fun i h1 h2 h3 => ?_⟩
  · show t_car ns w X τ C 50 0 2 = _
    rw [tc_502, hq]
  · exact (g_41 _ (c := C) (f := 0) hC (by decide)).trans (tc_41 ns w X τ C 0)
  · exact (g_41 _ (c := C) (f := 1) hC (by decide)).trans (tc_41 ns w X τ C 1)
  · by_cases hi : ∃ f, 2 ≤ f ∧ f < 8 ∧ i = 23 + 4 * f + C
    · obtain ⟨f, h4, h5, rfl⟩ := hi
      rw [g_41 _ hC h5, tc_41, if_neg (by omega), if_neg (by omega), (hR.2 C (Nat.le_refl C) hC).1 f h4 h5]
    · unfold rwL
      by_cases h9 : i < 11
      · rw [if_pos h9, if_pos h9]
        rcases (show i = 0 ∨ i = 2 ∨ i = 3 ∨ i = 4 ∨ i = 5 ∨ i = 6 ∨ i = 7 ∨ i = 8 ∨ i = 9 ∨ i = 10 by omega) with rfl | rfl | rfl | rfl | rfl | rfl | rfl | rfl | rfl | rfl <;> exact tc_o ns w X τ C (by decide) (fun z => absurd z.1 (by decide))
      · rw [if_neg h9, if_neg h9]
        repeat' split
        all_goals first | exact tc_o ns w X τ C (fun z => absurd z.1 (by decide)) (fun z => absurd z.1 (by decide)) | skip
        refine tc_o ns w X τ C (fun z => absurd z.1 (by decide)) (fun z => ?_)
        have z2 := z.2
        by_cases w8 : (i - 23) / 4 < 2
        · omega
        · exact hi ⟨(i - 23) / 4, by omega, by omega, by omega⟩
end RDZ
