/-! bestNoise -/
theorem t_mix {j k1 k2 : Nat} {σ ρ : Sg} (h1 : ST j σ ρ (itA j σ k1) (itB ρ k1)) (h2 : ST j σ ρ (itA j σ k2) (itB ρ k2)) : ST j σ ρ (itA j σ k1) (itB ρ k2) := ⟨h1.1, h2.2⟩
theorem E1_bestNoise : E_bestNoise RelN := by
  intro nn σ ρ v1 hn hR
  rcases x_ticks σ ρ v1 with ⟨n, h1, h2, rfl, e1, e2⟩ | ⟨e1, e2⟩
  · obtain ⟨⟨F, C, K, M, T, hC1, hT, hL⟩, -⟩ := id hR
    have hLr : LV F C K M T (vw 0 σ) ((sup ρ 8 0 8 0) 30 0) := by rw [s_30]; exact hL
    obtain ⟨m1, m2, ⟨a, best, least⟩, ⟨b, best', least'⟩, ⟨i1, i2, i3, i4, i5⟩, i6, i7⟩ := lpE (fun m (s : Sg × Int32 × Int32) i => f_X7_bestNoise_12 m s.1 s.2.1 s.2.2 (10 * i)) (fun m (s : Sg × Int32 × Int32) i => f_X8_bestNoise_17 m s.1 (nI n) s.2.1 s.2.2 (10 * i)) 10 (by decide)
      (fun _ s t => LV F C K M T (vw 0 s.1) (t.1 30 0) ∧ RestN nn s.1 t.1 ∧ t.1 8 0 8 = 0 ∧ s.2.1 = t.2.1 ∧ ((s.2.1 = -1 ∧ s.2.2 = nI n) ∨ ∃ m l, m < 1000 ∧ l ≤ n ∧ s.2.1 = nI m ∧ s.2.2 = nI l ∧ t.2.2 = nI l)) (a := (σ, -1, nI n)) (b := (sup ρ 8 0 8 0, -1, 0)) (by
      rintro m1 m2 k ⟨a, best, least⟩ ⟨b, best', least'⟩ hk ⟨i1, i2, i3, i4, i5⟩
      dsimp only at i1 i2 i3 i4 i5 ⊢
      subst i4
      obtain ⟨σ1, ρ1, a1, a2, a3, -, a4⟩ := t_peek i1 i2
      have g := S_set a3.1 (w := 0) (y := 10 * k) (by decide) (fun q => absurd q (by decide)) (fun q => absurd q (by decide)) (fun q => absurd q (by decide))
      rw [← vs_12, ← s_ru] at g
      have g' : LV F C K M T (vw 1 (sup σ1 12 1 0 (nI (10 * k)))) ((sup ρ1 30 0 4 (nI (10 * k))) 30 0) := ⟨g, by
        rw [vs_12]
        unfold V_ann
        rw [s_ne (by decide)]
        exact a3.2⟩
      have sp : SP 1 σ1 ρ1 (sup σ1 12 1 0 (nI (10 * k))) (sup ρ1 30 0 4 (nI (10 * k))) := SP.r (SP.c (SP.rf 1 σ1 ρ1) (show Own 1 12 1 from (rfl : 1 = 1)) _ _) _ _
      have hl : ∃ l, l ≤ n ∧ least = nI l ∧ (best = -1 → l = n) := by
        rcases i5 with ⟨x1, x2⟩ | ⟨m, l, x1, x2, x3, x4, x5⟩
        · exact ⟨n, Nat.le_refl n, x2, fun _ => rfl⟩
        · exact ⟨l, x2, x4, fun q => absurd (x3.symm.trans q) (nm_n (by omega))⟩
      obtain ⟨l, hl1, rfl, hl3⟩ := hl
      obtain ⟨r1, k1, c1, c2⟩ := a_untilD g' (L := l) (by omega) (by omega)
      obtain ⟨r2, k2, d1, d2⟩ := b_untilD g' (by decide) (L := n) (by omega) (by omega)
      have hk1 := c2.1
      have hk2 := d2.1
      have it1 := (t_it g' (by decide) k1 (by omega)).2
      have it2 := (t_it g' (by decide) k2 (by omega)).2
      obtain ⟨ρ3, b1, b2, b3, b4⟩ := a4 _ _ (sp.st.trans (t_mix it1 it2))
      have eA : f_X7_bestNoise_12 (m1 + 1) a best (nI l) (10 * nI k) = if r1 < 0 then f_X7_bestNoise_12 m1 (itA 1 (sup σ1 12 1 0 (nI (10 * k))) k1) best (nI l) (10 * nI (k + 1)) else if best < 0 then f_X7_bestNoise_12 m1 (itA 1 (sup σ1 12 1 0 (nI (10 * k))) k1) (nI (10 * k)) r1 (10 * nI (k + 1)) else if nI l ≤ r1 then f_X7_bestNoise_12 m1 (itA 1 (sup σ1 12 1 0 (nI (10 * k))) k1) best (nI l) (10 * nI (k + 1)) else f_X7_bestNoise_12 m1 (itA 1 (sup σ1 12 1 0 (nI (10 * k))) k1) (nI (10 * k)) r1 (10 * nI (k + 1)) := by
        rw [f_X7_bestNoise_12_s, show (10 : Int32) * nI k = nI (10 * k) from ni_mul 10 k, show (10 : Int32) * nI (k + 1) = nI (10 * k + 10) from ni_mul 10 (k + 1), if_neg (show ¬ stab 1 (0 : Int32).toNatClampNeg < nI (10 * k) by rw [show stab 1 (0 : Int32).toNatClampNeg = nI 90 from rfl, ni_lt (by omega) (by omega)]; omega), a1, p_bv, p_st, c1, p_bi]
        unfold f_X7_bestNoise_72 f_X7_bestNoise_66 f_X7_bestNoise_72
        rw [show nI (10 * k) + 10 = nI (10 * k + 10) from ni_add (10 * k) 10]
      have eB : f_X8_bestNoise_17 (m2 + 1) b (nI n) best least' (10 * nI k) = if r2 = -1 then f_X8_bestNoise_17 m2 ρ3 (nI n) best least' (10 * nI (k + 1)) else if best = -1 then f_X8_bestNoise_17 m2 ρ3 (nI n) (nI (10 * k)) r2 (10 * nI (k + 1)) else if r2 < least' then f_X8_bestNoise_17 m2 ρ3 (nI n) (nI (10 * k)) r2 (10 * nI (k + 1)) else f_X8_bestNoise_17 m2 ρ3 (nI n) best least' (10 * nI (k + 1)) := by
        rw [f_X8_bestNoise_17_s, show (10 : Int32) * nI k = nI (10 * k) from ni_mul 10 k, show (10 : Int32) * nI (k + 1) = nI (10 * k + 10) from ni_mul 10 (k + 1), if_neg (show ¬ (90 : Int32) < nI (10 * k) by rw [show (90 : Int32) = nI 90 from rfl, ni_lt (by omega) (by omega)]; omega), a2, p_bv, p_st, d1, p_bi, b1, p_bv]
        unfold f_X8_bestNoise_74 f_X8_bestNoise_68 f_X8_bestNoise_74
        rw [show nI (10 * k) + 10 = nI (10 * k + 10) from ni_add (10 * k) 10]
      rw [eA, eB]
      have b4' : ρ3 8 0 8 = 0 := b4.trans i3
      rcases c2.two d2 hl1 with ⟨x1, x2, x3, x4⟩ | ⟨x1, x2⟩
      · subst x1
        rw [x2, if_neg (by rw [ni_nn (by omega)]; exact id), if_neg (nm_n (by omega))]
        rcases i5 with ⟨y1, y2⟩ | ⟨m, l', y1, y2, y3, y4, y5⟩
        · rw [y1, if_pos (by decide), if_pos rfl]
          exact ⟨(itA 1 (sup σ1 12 1 0 (nI (10 * k))) k1, nI (10 * k), nI k1), (ρ3, nI (10 * k), nI k1), ⟨b2, b3, b4', rfl, Or.inr ⟨10 * k, k1, by omega, by omega, rfl, rfl, rfl⟩⟩, rfl, rfl⟩
        · rw [ni_eq (by omega) (by omega)] at y4
          subst y4
          rw [y3, if_neg (by rw [ni_nn (by omega)]; exact id), if_neg (nm_n (by omega)), y5]
          by_cases w : l ≤ k1
          · rw [if_pos (by rw [ni_le (by omega) (by omega)]; exact w), if_neg (by rw [ni_lt (by omega) (by omega)]; omega)]
            exact ⟨(itA 1 (sup σ1 12 1 0 (nI (10 * k))) k1, nI m, nI l), (ρ3, nI m, nI l), ⟨b2, b3, b4', rfl, Or.inr ⟨m, l, y1, y2, rfl, rfl, rfl⟩⟩, rfl, rfl⟩
          · rw [if_neg (by rw [ni_le (by omega) (by omega)]; exact w), if_pos (by rw [ni_lt (by omega) (by omega)]; omega)]
            exact ⟨(itA 1 (sup σ1 12 1 0 (nI (10 * k))) k1, nI (10 * k), nI k1), (ρ3, nI (10 * k), nI k1), ⟨b2, b3, b4', rfl, Or.inr ⟨10 * k, k1, by omega, by omega, rfl, rfl, rfl⟩⟩, rfl, rfl⟩
      · subst x1
        rw [if_pos (by decide)]
        refine ⟨(itA 1 (sup σ1 12 1 0 (nI (10 * k))) k1, best, nI l), (ρ3, best, least'), ⟨b2, b3, b4', rfl, i5⟩, rfl, ?_⟩
        rcases x2 with rfl | ⟨rfl, x3, x4⟩
        · rw [if_pos rfl]
        · rcases i5 with ⟨y1, y2⟩ | ⟨m, l', y1, y2, y3, y4, y5⟩
          · have := hl3 y1
            omega
          · rw [ni_eq (by omega) (by omega)] at y4
            subst y4
            rw [if_neg (nm_n (by omega)), y3, if_neg (nm_n (by omega)), y5, if_neg (by rw [ni_lt (by omega) (by omega)]; omega)]) ⟨hLr, hR.cut 0, s_thr ρ 0, rfl, Or.inl ⟨rfl, rfl⟩⟩
    dsimp only at i1 i2 i3 i4 i5 i6 i7
    subst i4
    refine ⟨(0, best, a), best, b, ?_, Or.inl rfl, ?_, ⟨⟨F, C, K, M, T, hC1, by omega, i1⟩, i2.up⟩, ?_, fun _ => rfl⟩
    · unfold f_X7_bestNoise
      rw [e1, p_bx0]
      refine Eq.trans i6 ?_
      rw [f_X7_bestNoise_12_s, if_pos (by decide)]
      rfl
    · unfold f_X8_bestNoise
      rw [e2, p_bi, if_pos rfl]
      refine Eq.trans i7 ?_
      rw [f_X8_bestNoise_17_s, if_pos (by decide)]
      rfl
    · rw [i3]
      rfl
  · refine ⟨(2, 0, σ), 0, sup ρ 8 0 8 1, ?_, Or.inr rfl, ?_, hR.thr 1, s_thr ρ 1, fun h => absurd (show (2 : Nat) = 0 from h) (by decide)⟩
    · unfold f_X7_bestNoise
      rw [e1]
      rfl
    · unfold f_X8_bestNoise
      rw [e2, p_bi, if_neg (by decide)]
