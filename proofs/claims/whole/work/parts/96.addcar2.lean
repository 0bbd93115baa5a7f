/-! what the statements of a text do to the lifts being read -/
theorem S_car {F C K M T U : Nat} {v v' : Sg} {r r' : Nat → Int32} (h : LU F C K M T U v r) (hC : C < 4) (hR : FR C K r) {a p : Nat} (ha : a < F) (hp1 : 1 ≤ p) (hp8 : p ≤ 8)
    (e4 : ∀ i, i ≠ 1 → v' 4 0 i = v 4 0 i) (e4c : v' 4 0 1 = nI (C + 1))
    (eo : ∀ k, k ≠ 2 → k ≠ 4 → ¬ (16 ≤ k ∧ k ≤ 19) → ∀ o i, v' k o i = v k o i)
    (ec : ∀ k, (k = 2 ∨ 16 ≤ k ∧ k ≤ 19) → ∀ c, c ≠ C → ∀ i, v' k c i = v k c i)
    (n0 : v' 2 C 0 = nI a) (n1 : v' 2 C 1 = nI p) (nf : ∀ f, 2 ≤ f → f < 10 → v' 2 C f = 0)
    (nk : ∀ i, i < 24 → v' 16 C i = -1 ∧ v' 17 C i = -1 ∧ ∀ q, q < 4 → v' 18 C (4 * i + q) = -1) (n19 : ∀ i, i < 4 → v' 19 C i = 0)
    (r1 : r' 1 = nI (C + 1)) (r2 : r' (23 + C) = nI a) (r3 : r' (27 + C) = nI p) (r4 : ∀ i, i ≠ 1 → i ≠ 23 + C → i ≠ 27 + C → r' i = r i) : LU F (C + 1) K M T U v' r' ∧ FR (C + 1) K r' := by
  have dK := D_K h
  have dC := D_C h
  have dM := D_M h
  obtain ⟨f1, f2⟩ := hR
  obtain ⟨g1, g2⟩ := f2 C (Nat.le_refl _) hC
  refine ⟨⟨?_, V_set.ext h.2.1 (fun i => eo 12 (by decide) (by decide) (by decide) 0 i) (fun i h1 h2 => r4 i (by omega) (by omega) (by omega)), V_cnt.ext h.2.2.1 (fun i => eo 13 (by decide) (by decide) (by decide) 0 i) (fun i => eo 14 (by decide) (by decide) (by decide) 0 i) (fun i => eo 15 (by decide) (by decide) (by decide) 0 i) (fun i h1 h2 => r4 i (by omega) (by omega) (by omega)), fun c hc => ?_, fun k hk => ?_, fun c hc => ?_, fun c hc k => ?_, fun c hc k hk => ?_, fun c hc k hk hk2 => ?_, fun i hi => ?_⟩, fun k hk => ?_, fun c hc hc4 => ⟨fun f h2 h8 => ?_, fun k hk => ?_⟩⟩
  · obtain ⟨a1, a2, a3, a4, a5, a6, a7, a8, a9, a10, a11, a12, a13, a14, a15, a16⟩ := h.1
    exact ⟨(e4 0 (by decide)).trans a1, e4c, (e4 2 (by decide)).trans a3, (e4 3 (by decide)).trans a4, (eo 5 (by decide) (by decide) (by decide) 0 0).trans a5, (r4 0 (by omega) (by omega) (by omega)).trans a6, r1, (r4 2 (by omega) (by omega) (by omega)).trans a8, (r4 3 (by omega) (by omega) (by omega)).trans a9, (r4 10 (by omega) (by omega) (by omega)).trans a10, ((r4 9 (by omega) (by omega) (by omega)).trans a11).trans (e4 4 (by decide)).symm, a12, a13, by omega, a15, a16⟩
  · by_cases w : c = C
    · subst w
      refine ⟨fun f hf => ?_, ⟨a, ha, n0⟩, ⟨p, hp1, hp8, n1⟩, ⟨0, by decide, nf 2 (by decide) (by decide)⟩, Or.inl (nf 3 (by decide) (by decide)), Or.inl (nf 4 (by decide) (by decide))⟩
      by_cases f0 : f = 0
      · subst f0
        exact r2.trans n0.symm
      · by_cases f1 : f = 1
        · subst f1
          exact r3.trans n1.symm
        · rw [nf f (by omega) (by omega), r4 _ (by omega) (by omega) (by omega)]
          exact g1 f (by omega) hf
    · obtain ⟨a1, a2, a3, a4, a5, a6⟩ := h.2.2.2.1 c (by omega)
      have z : ∀ f, v' 2 c f = v 2 c f := ec 2 (Or.inl rfl) c w
      exact ⟨fun f hf => by rw [z, r4 _ (by omega) (by omega) (by omega)]; exact a1 f hf, by rw [z]; exact a2, by rw [z]; exact a3, by rw [z]; exact a4, by rw [z]; exact a5, by rw [z]; exact a6⟩
  · obtain ⟨a1, a2, a3, a4, a5, a6⟩ := V_call.ext h.2.2.2.2.1 dK (fun k f => eo 1 (by decide) (by decide) (by decide) k f) (fun i h1 h2 => r4 i (by omega) (by omega) (by omega)) k hk
    exact ⟨a1, a2, a3, a4, a5.imp id (fun ⟨c, h1, h2⟩ => ⟨c, by omega, h2⟩), a6⟩
  · by_cases w : c = C
    · subst w
      refine ⟨fun k hk => ?_, fun k _ => by rw [nf 8 (by decide) (by decide)]; exact b_0 k⟩
      rw [r4 _ (by omega) (by omega) (by omega), (g2 k hk).1, nf 8 (by decide) (by decide), b_0, if_neg (by decide)]
    · have a := h.2.2.2.2.2.1 c (by omega)
      have z : ∀ f, v' 2 c f = v 2 c f := ec 2 (Or.inl rfl) c w
      exact ⟨fun k hk => by rw [z, r4 _ (by omega) (by omega) (by omega)]; exact a.1 k hk, fun k hk => by rw [z]; exact a.2 k hk⟩
  · have e1 : ∀ f, v' 1 k f = v 1 k f := fun f => eo 1 (by decide) (by decide) (by decide) k f
    by_cases w : c = C
    · subst w
      rw [nf 9 (by decide) (by decide), b_0, decide_eq_false]
      intro q
      have a := (h.2.2.2.2.1 k q.1).1 3 (by decide) (by decide)
      have b := f1 k q.1
      rw [show 55 + 24 * 3 + k = 127 + k by omega, b] at a
      rw [e1, ← a] at q
      exact absurd q.2.1 (by decide)
    · rw [ec 2 (Or.inl rfl) c w, e1, e1]
      exact h.2.2.2.2.2.2.1 c (by omega) k
  · by_cases w : c = C
    · subst w
      obtain ⟨k1, k2, k3, k4⟩ := g2 k hk
      obtain ⟨m1, m2, m3⟩ := nk k (by omega)
      refine ⟨?_, fun q hq => ?_, fun t ht => ?_, fun q => ?_, Or.inl m2, fun q hq => Or.inl (m3 q hq)⟩
      · rw [r4 _ (by omega) (by omega) (by omega), k2, m2]
      · rw [r4 _ (by omega) (by omega) (by omega), k4 q hq, m3 q hq]
      · rw [r4 _ (by omega) (by omega) (by omega), k3, n19 t ht, b_0, b_0]
      · rw [nf 8 (by decide) (by decide), b_0, m2] at q
        exact q.elim (fun q => absurd q (by decide)) (fun q => absurd rfl q)
    · have a := h.2.2.2.2.2.2.2.1 c (by omega) k hk
      rw [r4 _ (by omega) (by omega) (by omega), r4 (607 + 24 * c + k) (by omega) (by omega) (by omega), r4 (415 + 24 * c + k) (by omega) (by omega) (by omega), ec 17 (by decide) c w, ec 2 (by decide) c w, ec 16 (by decide) c w]
      refine ⟨a.1, fun q hq => ?_, fun t ht => ?_, a.2.2.2.1, a.2.2.2.2.1, fun q hq => ?_⟩
      · rw [r4 _ (by omega) (by omega) (by omega), ec 18 (by decide) c w]; exact a.2.1 q hq
      · rw [ec 19 (by decide) c w]; exact a.2.2.1 t ht
      · rw [ec 18 (by decide) c w]; exact a.2.2.2.2.2 q hq
  · by_cases w : c = C
    · subst w
      obtain ⟨m1, m2, m3⟩ := nk k hk2
      exact ⟨m2, m3, fun t ht => by rw [n19 t ht]; exact b_0 k⟩
    · have a := h.2.2.2.2.2.2.2.2.1 c (by omega) k hk hk2
      exact ⟨(ec 17 (by decide) c w k).trans a.1, fun q hq => (ec 18 (by decide) c w _).trans (a.2.1 q hq), fun t ht => by rw [ec 19 (by decide) c w]; exact a.2.2 t ht⟩
  · obtain ⟨a1, a2, a3, a4, a5, a6, a7⟩ := V_msg.ext h.2.2.2.2.2.2.2.2.2 (fun i => eo 20 (by decide) (by decide) (by decide) 0 i) (fun i => eo 21 (by decide) (by decide) (by decide) 0 i) (fun i => eo 22 (by decide) (by decide) (by decide) 0 i) (fun i => eo 23 (by decide) (by decide) (by decide) 0 i) (fun i h1 => r4 i (by omega) (by omega) (by omega)) i hi
    exact ⟨a1, a2, a3, a4, a5, a6.imp id (fun ⟨d, c, h1, h2, h3, h4⟩ => ⟨d, c, h1, h2, by omega, h4⟩), a7⟩
  · rw [r4 _ (by omega) (by omega) (by omega)]; exact f1 k hk
  · rw [r4 _ (by omega) (by omega) (by omega)]; exact (f2 c (by omega) hc4).1 f h2 h8
  · obtain ⟨k1, k2, k3, k4⟩ := (f2 c (by omega) hc4).2 k hk
    exact ⟨by rw [r4 _ (by omega) (by omega) (by omega)]; exact k1, by rw [r4 _ (by omega) (by omega) (by omega)]; exact k2, by rw [r4 _ (by omega) (by omega) (by omega)]; exact k3, fun q hq => by rw [r4 _ (by omega) (by omega) (by omega)]; exact k4 q hq⟩
section TC
variable {F C K M T j : Nat} {σ ρ : Sg}
theorem t_addCar (h : LV F C K M T (vw j σ) (ρ 30 0)) (hC : C < 4) (hR : FR C K (ρ 30 0)) {a p : Nat} (ha : a < F) (hp1 : 1 ≤ p) (hp8 : p ≤ 8) : ∃ σ' ρ', f_X4_addCar σ j (nI a) (nI p) = some σ' ∧ f_X8_addCar ρ (nI a) (nI p) = some ρ' ∧ LV F (C + 1) K M T (vw j σ') (ρ' 30 0) ∧ FR (C + 1) K (ρ' 30 0) ∧ SP j σ ρ σ' ρ' := by
  obtain ⟨X, x1, x2, x3, x4, x5, x6, x7⟩ := a_start σ (4 * j + C) (nI a) (nI p)
  have hX : X 4 j 1 = nI C := (x2 4 j 1 (fun z => absurd z.1 (by decide))).trans (A_C h.1)
  have ho : ∀ k o i, k ≠ 4 → ¬ ((k = 2 ∨ 16 ≤ k ∧ k ≤ 19) ∧ o = 4 * j + C) → sup X 4 j 1 (nI (C + 1)) k o i = σ k o i := fun k o i h1 h2 => by
    rw [s_ne h1]; exact x2 k o i h2
  have hs : ∀ k o i, k ≠ 4 → sup X 4 j 1 (nI (C + 1)) k o i = X k o i := fun k o i h => by rw [s_ne h]
  have s := S_car (v' := vw j (sup X 4 j 1 (nI (C + 1)))) (r' := (sup (sup (sup ρ 30 0 (23 + C) (nI a)) 30 0 (27 + C) (nI p)) 30 0 1 (nI (C + 1))) 30 0) h.1 hC hR ha hp1 hp8
    (fun i hi => by
      show sup X 4 j 1 (nI (C + 1)) 4 j i = σ 4 j i
      rw [s_nf hi]; exact x2 4 j i (fun z => absurd z.1 (by decide)))
    (s_at _ _ _ _ _)
    (fun k h2 h4 h16 o i => by
      unfold vw
      split <;> exact ho _ _ _ (by omega) (fun z => by omega))
    (fun k hk c hc i => by
      unfold vw
      rcases hk with rfl | ⟨h1, h2⟩
      · exact ho _ _ _ (by omega) (fun z => hc (by omega))
      · have hk2 : k = 16 ∨ k = 17 ∨ k = 18 ∨ k = 19 := by omega
        rcases hk2 with rfl | rfl | rfl | rfl <;> exact ho _ _ _ (by omega) (fun z => hc (by omega)))
    ((hs 2 (4 * j + C) 0 (by decide)).trans x3) ((hs 2 (4 * j + C) 1 (by decide)).trans x4) (fun f h2 h10 => (hs 2 (4 * j + C) f (by decide)).trans (x5 f h2 h10))
    (fun i hi => ⟨(hs 16 (4 * j + C) i (by decide)).trans (x6 i hi).1, (hs 17 (4 * j + C) i (by decide)).trans (x6 i hi).2.1, fun q hq => (hs 18 (4 * j + C) (4 * i + q) (by decide)).trans ((x6 i hi).2.2 q hq)⟩)
    (fun i hi => (hs 19 (4 * j + C) i (by decide)).trans (x7 i hi))
    (s_at _ _ _ _ _) (by rw [s_nf (by omega), s_nf (by omega), s_at]) (by rw [s_nf (by omega), s_at]) (fun i h1 h2 h3 => by rw [s_nf h1, s_nf h3, s_nf h2])
  refine ⟨sup X 4 j 1 (nI (C + 1)), sup (sup (sup ρ 30 0 (23 + C) (nI a)) 30 0 (27 + C) (nI p)) 30 0 1 (nI (C + 1)), ?_, ?_, ⟨s.1, ?_⟩, s.2, ?_, fun k hk => by rw [s_ne hk, s_ne hk, s_ne hk]⟩
  · unfold f_X4_addCar f_X4_addCar_32
    rw [A_C h.1, if_neg (by rw [show (4 : Int32) = nI 4 from rfl, ni_le (by omega) (by omega)]; omega), gq hC (by decide), ni_cl (by omega), x1, p_bv, hX, ni_1, p_st]
  · unfold f_X8_addCar
    have z1 : (sup (sup ρ 30 0 (23 + C) (nI a)) 30 0 (27 + C) (nI p)) 30 0 1 = nI C := by rw [s_nf (by omega), s_nf (by omega)]; exact B_C h.1
    rw [B_C h.1, l_23, g_st (by omega), show (sup ρ 30 0 (23 + C) (nI a)) 30 0 1 = nI C from by rw [s_nf (by omega)]; exact B_C h.1, l_27, g_st (by omega), z1, ni_1, p_st]
  · have z : V_ann (vw j (sup X 4 j 1 (nI (C + 1)))) M = V_ann (vw j σ) M := ct_congr (fun i hi => by
      show decide (sup X 4 j 1 (nI (C + 1)) 21 j i = 0) = decide (σ 21 j i = 0)
      rw [ho 21 j i (by decide) (fun z => absurd z.1 (by decide))])
    rw [z]
    exact h.2
  · intro k o i hn
    have hn2 : ¬ ((k = 2 ∨ 16 ≤ k ∧ k ≤ 19) ∧ o = 4 * j + C) := fun z => hn (by
      obtain ⟨z, rfl⟩ := z
      have hk2 : k = 2 ∨ k = 16 ∨ k = 17 ∨ k = 18 ∨ k = 19 := by omega
      rcases hk2 with rfl | rfl | rfl | rfl | rfl
      · exact O_2 hC
      · exact O_16 hC
      · exact O_17 hC
      · exact O_18 hC
      · exact O_19 hC)
    rw [FrO (fun z => hn (by obtain ⟨rfl, rfl⟩ := z; exact (rfl : o = o)))]
    exact x2 k o i hn2
theorem t_addCall2 (h : LV F C K M T (vw j σ) (ρ 30 0)) (hK : K < 24) (hR : FR C K (ρ 30 0)) {a b m : Nat} (ha : a < F) (hb : b < F) (hab : a ≠ b) (hm : m ≤ 400000) :
    ∃ σ' ρ', f_X4_addCall σ j (nI m) (nI a) (nI b) = some (nI K, σ') ∧ f_X8_addCall ρ (nI m) (nI a) (nI b) = some ρ' ∧ LV F C (K + 1) M T (vw j σ') (ρ' 30 0) ∧ FR C (K + 1) (ρ' 30 0) ∧ SP j σ ρ σ' ρ' := by
  obtain ⟨σ', ρ', e1, e2, e3, e4⟩ := t_addCall h hK ha hb hab hm
  obtain ⟨ρ2, r1, r2, r3, r4, r5, r6⟩ := b_addCall ρ (a := a) (b := b) (m := m) hK (B_K h.1)
  have e : ρ2 = ρ' := Option.some.inj (r1.symm.trans e2)
  subst e
  refine ⟨σ', ρ2, e1, e2, e3, ⟨fun k hk => ?_, fun c hc hc4 => ⟨fun f h2 h8 => ?_, fun k hk => ?_⟩⟩, e4⟩
  · by_cases w : k = K
    · subst w; exact r4.2.2.2.1
    · rw [r6 _ (by omega) (fun f hf => by omega) (fun c hc => by omega)]; exact hR.1 k (by omega)
  · rw [r6 _ (by omega) (fun f hf => by omega) (fun c hc => by omega)]; exact (hR.2 c hc hc4).1 f h2 h8
  · by_cases w : k = K
    · subst w; exact r5 c hc4
    · obtain ⟨k1, k2, k3, k4⟩ := (hR.2 c hc hc4).2 k (by omega)
      refine ⟨?_, ?_, ?_, fun q hq => ?_⟩
      · rw [r6 _ (by omega) (fun f hf => by omega) (fun c hc => by omega)]; exact k1
      · rw [r6 _ (by omega) (fun f hf => by omega) (fun c hc => by omega)]; exact k2
      · rw [r6 _ (by omega) (fun f hf => by omega) (fun c hc => by omega)]; exact k3
      · rw [r6 _ (by omega) (fun f hf => by omega) (fun c hc => by omega)]; exact k4 q hq
theorem FR.ext {C K : Nat} {r r' : Nat → Int32} (h : FR C K r) (hC : C ≤ 4) (hK : K ≤ 24) (e : ∀ i, 23 ≤ i → r' i = r i) : FR C K r' := by
  refine ⟨fun k hk => by rw [e _ (by omega)]; exact h.1 k hk, fun c hc hc4 => ⟨fun f h2 h8 => by rw [e _ (by omega)]; exact (h.2 c hc hc4).1 f h2 h8, fun k hk => ?_⟩⟩
  obtain ⟨k1, k2, k3, k4⟩ := (h.2 c hc hc4).2 k hk
  exact ⟨by rw [e _ (by omega)]; exact k1, by rw [e _ (by omega)]; exact k2, by rw [e _ (by omega)]; exact k3, fun q hq => by rw [e _ (by omega)]; exact k4 q hq⟩
end TC
