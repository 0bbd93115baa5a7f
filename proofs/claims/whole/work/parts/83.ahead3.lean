/-! nobodyIn, aboardIn, wouldWait, bestNoise -/
theorem V_n0 {F C K M T U : Nat} {v : Sg} {r : Nat → Int32} (h : LU F C K M T U v r) : v 15 0 0 = 0 := (h.2.2.1 0 (by decide)).2.2.2
def W_nob (v : Sg) : Int32 := v 15 0 1 + v 15 0 2 + v 15 0 3 + v 15 0 4
section IT
variable {F C K M T U j : Nat} {σ ρ v : Sg} {r : Nat → Int32}
theorem a_nob (h : LU F C K M T U (vw j σ) r) : f_X7_sum σ 15 j 5 = some (W_nob (vw j σ), σ) := by
  have e0 : σ 15 j 0 = 0 := V_n0 h
  rw [a_sum5, e0, Int32.add_zero, Int32.zero_add]
  rfl
theorem b_nob (h : LU F C K M T U v (ρ 30 0)) : f_X8_nobodyMany ρ = some (W_nob v, ρ) := by
  unfold f_X8_nobodyMany W_nob
  rw [show ρ 30 0 19 = v 15 0 1 from (h.2.2.1 0 (by decide)).2.2.1, show ρ 30 0 20 = v 15 0 2 from (h.2.2.1 1 (by decide)).2.2.1, show ρ 30 0 21 = v 15 0 3 from (h.2.2.1 2 (by decide)).2.2.1, show ρ 30 0 22 = v 15 0 4 from (h.2.2.1 3 (by decide)).2.2.1]
end IT
theorem E1_nobodyIn : E_nobodyIn RelN := by
  intro nn σ ρ v1 hn hR
  rcases x_ticks σ ρ v1 with ⟨n, h1, h2, rfl, e1, e2⟩ | ⟨e1, e2⟩
  · obtain ⟨⟨F, C, K, M, T, hC1, hT, hL⟩, -⟩ := id hR
    have hLr : LV F C K M T (vw 0 σ) ((sup ρ 8 0 8 0) 30 0) := by rw [s_30]; exact hL
    obtain ⟨σ1, ρ1, a1, a2, a3, -, a4⟩ := t_peek hLr (hR.cut 0)
    obtain ⟨⟨M', i1⟩, i2⟩ := t_it a3 (by decide) n (by omega)
    obtain ⟨ρ3, b1, b2, b3, b4⟩ := a4 _ _ i2
    have same : W_nob (vw 0 (itA 1 σ1 n)) = W_nob (vw 0 σ) := by
      have x := b_nob b2.1
      have y := b_nob (ρ := ρ3) (v := vw 0 (itA 1 σ1 n)) b2.1
      have z : ∀ i, i < 4 → vw 0 (itA 1 σ1 n) 15 0 (i + 1) = vw 0 σ 15 0 (i + 1) := fun i hi => by
        have w1 := (b2.1.2.2.1 i hi).2.2.1
        have q1 : itA 1 σ1 n 15 0 (i + 1) = σ1 15 0 (i + 1) := i2.1 15 0 (i + 1) (show ¬ (0 = 1) by decide) (by omega)
        obtain ⟨σ9, c1, c2, c3⟩ := t_copy (q := 1) hL.1 (by decide)
        have : σ9 = σ1 := Option.some.inj (c1.symm.trans a1)
        subst this
        exact q1.trans (c2 15 0 (i + 1) (show ¬ (0 = 1) by decide))
      unfold W_nob
      rw [z 0 (by decide), z 1 (by decide), z 2 (by decide), z 3 (by decide)]
    refine ⟨(0, W_nob (vw 1 (itA 1 σ1 n)) - W_nob (vw 0 σ), itA 1 σ1 n), W_nob (vw 1 (itA 1 σ1 n)) - W_nob (vw 0 σ), ρ3, ?_, Or.inl rfl, ?_, ⟨⟨F, C, K, M, T, hC1, by omega, b2⟩, b3.up⟩, ?_, fun _ => rfl⟩
    · unfold f_X7_nobodyIn
      rw [e1, p_bx0, a1, p_bv, a_pass a3 (by decide) h2 (by omega), p_bv, a_nob i1.1, p_bi, a_nob b2.1, p_bi, same]
    · unfold f_X8_nobodyIn f_X8_nobodyIn_39
      rw [e2, p_bi, if_pos rfl, b_nob hLr.1, p_bi, a2, p_bv, b_passes a3 (by decide) h2 (by omega), p_bi, if_pos (t_nneg a3 (by decide) n (by omega)), b_nob i1.1, p_bi, b1, p_bv]
    · rw [b4, s_thr]
      rfl
  · refine ⟨(2, 0, σ), 0, sup ρ 8 0 8 1, ?_, Or.inr rfl, ?_, hR.thr 1, s_thr ρ 1, fun h => absurd (show (2 : Nat) = 0 from h) (by decide)⟩
    · unfold f_X7_nobodyIn
      rw [e1]
      rfl
    · unfold f_X8_nobodyIn
      rw [e2, p_bi, if_neg (by decide)]
theorem E1_aboardIn : E_aboardIn RelN := by
  intro nn σ ρ v1 v2 hn hR
  obtain ⟨⟨F, C, K, M, T, hC1, hT, hL⟩, -⟩ := id hR
  have dK := D_K hL.1
  have hLr : LV F C K M T (vw 0 σ) ((sup ρ 8 0 8 0) 30 0) := by rw [s_30]; exact hL
  rcases x_idx v1 (show K < 2147483648 by omega) with ⟨c, hc, rfl⟩ | hb
  · have bad : (v2 < 1 ∨ 500 < v2) → ∃ (q : Xr) (w : Int32) (ρ' : Sg), f_X7_aboardIn σ (nI c) v2 = some q ∧ (q.1 = 0 ∨ q.1 = 1 ∨ q.1 = 2) ∧ f_X8_aboardIn ρ (nI c) v2 = some (w, ρ') ∧ RelN (nn + 1) q.2.2 ρ' ∧ ρ' 8 0 8 = L_k [(1, 1), (2, 2)] q.1 ∧ (q.1 = 0 → q.2.1 = w) := fun hb => by
      refine ⟨(2, 0, σ), 0, sup ρ 8 0 8 2, ?_, Or.inr (Or.inr rfl), ?_, hR.thr 2, s_thr ρ 2, fun h => absurd (show (2 : Nat) = 0 from h) (by decide)⟩
      · unfold f_X7_aboardIn f_X7_checkTicks
        rw [x_call0 (A_K hL.1) dK hc, p_bx0, x_rg1 hb]
        rfl
      · unfold f_X8_aboardIn f_X8_aboardIn_25 f_X8_aboardIn_32
        rw [x_nk0 (B_K hL.1) dK hc, p_bi, if_pos rfl, x_in0 _ hb, p_bi, if_pos rfl, x_f1, p_bi, if_neg (by decide), s_ss]
    rcases x_ticks σ (sup ρ 8 0 8 0) v2 with ⟨n, h1, h2, rfl, e1, -⟩ | ⟨e1, -⟩
    · obtain ⟨σ1, ρ1, a1, a2, a3, -, a4⟩ := t_peek hLr (hR.cut 0)
      obtain ⟨r, k, c1, c2⟩ := a_untilB a3 hc h2 (by omega)
      obtain ⟨r2, k2, d1, d2⟩ := b_untilB a3 (by decide) hc h2 (by omega)
      obtain ⟨rfl, rfl⟩ := c2.uniq d2
      have hk := c2.1
      obtain ⟨-, i2⟩ := t_it a3 (by decide) k (by omega)
      obtain ⟨ρ3, b1, b2, b3, b4⟩ := a4 _ _ i2
      refine ⟨(0, r, itA 1 σ1 k), r, ρ3, ?_, Or.inl rfl, ?_, ⟨⟨F, C, K, M, T, hC1, by omega, b2⟩, b3.up⟩, ?_, fun _ => rfl⟩
      · unfold f_X7_aboardIn
        rw [x_call0 (A_K hL.1) dK hc, p_bx0, e1, p_bx0, a1, p_bv, c1, p_bi]
      · unfold f_X8_aboardIn f_X8_aboardIn_25 f_X8_until
        rw [x_nk0 (B_K hL.1) dK hc, p_bi, if_pos rfl, x_in1 _ (by rw [show (1 : Int32) = nI 1 from rfl, ni_lt (by omega) (by omega)]; omega) (by rw [show (500 : Int32) = nI 500 from rfl, ni_lt (by omega) (by omega)]; omega), p_bi, if_neg (by decide), x_f0, p_bi, if_pos rfl, a2, p_bv, d1, p_bi, b1, p_bv, p_bi]
      · rw [b4, s_thr]
        rfl
    · refine bad ?_
      by_cases q1 : v2 < 1
      · exact Or.inl q1
      · by_cases q2 : 500 < v2
        · exact Or.inr q2
        · unfold f_X7_checkTicks at e1
          rw [x_rg0 q1 q2, p_bx0] at e1
          exact absurd (show (0 : Nat) = 2 from congrArg Prod.fst (Option.some.inj e1)) (by decide)
  · refine ⟨(1, 0, σ), 0, sup ρ 8 0 8 1, ?_, Or.inr (Or.inl rfl), ?_, hR.thr 1, s_thr ρ 1, fun h => absurd (show (1 : Nat) = 0 from h) (by decide)⟩
    · unfold f_X7_aboardIn
      rw [x_call1 (A_K hL.1) hb]
      rfl
    · unfold f_X8_aboardIn f_X8_aboardIn_32
      rw [y_nk1 (B_K hL.1) dK hb, p_bi, if_neg (by decide)]
theorem E1_wouldWait : E_wouldWait RelN := by
  intro nn σ ρ v1 v2 hn hR
  obtain ⟨⟨F, C, K, M, T, hC1, hT, hL⟩, -⟩ := id hR
  have dK := D_K hL.1
  have hLr : LV F C K M T (vw 0 σ) ((sup ρ 8 0 8 0) 30 0) := by rw [s_30]; exact hL
  rcases x_way hL.1 v1 v2 with ⟨a, b, ha, hb, hab, rfl, rfl, e1, e2⟩ | ⟨e1, e2⟩
  · by_cases w : K < 24
    · obtain ⟨σ1, ρ1, a1, a2, a3, -, a4⟩ := t_peek hLr (hR.cut 0)
      obtain ⟨σ2, ρ2, g1, g2, g3, g4⟩ := t_addCall a3 w ha hb hab (m := T) (by omega)
      obtain ⟨r, k, c1, c2⟩ := a_untilB g3 (c := K) (by omega) (L := 500) (by decide) (by omega)
      obtain ⟨r2, k2, d1, d2⟩ := b_untilB g3 (by decide) (c := K) (by omega) (L := 500) (by decide) (by omega)
      obtain ⟨rfl, rfl⟩ := c2.uniq d2
      have hk := c2.1
      obtain ⟨⟨M', i1⟩, i2⟩ := t_it g3 (by decide) k (by omega)
      obtain ⟨ρ3, b1, b2, b3, b4⟩ := a4 _ _ (g4.st.trans i2)
      have hc1 : f_X7_ticksUntilAboard σ2 (nI K) 500 = some (r, itA 1 σ2 k) := c1
      have hd1 : f_X8_thoughtUntil ρ2 (nI K) 500 = some (r, itB ρ2 k) := d1
      have hK1 : ρ2 30 0 2 - 1 = nI K := by rw [B_K g3.1]; exact ni_sub (b := 1) (by omega)
      refine ⟨(0, if r = -1 then -1 else W_wait (vw 1 (itA 1 σ2 k)) K, itA 1 σ2 k), if r = -1 then -1 else W_wait (vw 1 (itA 1 σ2 k)) K, ρ3, ?_, Or.inl rfl, ?_, ⟨⟨F, C, K, M, T, hC1, by omega, b2⟩, b3.up⟩, ?_, fun _ => rfl⟩
      · unfold f_X7_wouldWait f_X7_wouldWait_71
        rw [e1, p_bx0, A_K hL.1, if_pos (by rw [q_l24 (by omega)]; exact w), a1, p_bv, A_T a3.1, g1, p_bi, hc1, p_bi]
        obtain ⟨-, ⟨rfl, -, -⟩ | ⟨rfl, -, -⟩⟩ := c2
        · rw [if_pos (by rw [ni_ge0 (by omega)]; trivial), if_neg (nm_n (by omega)), a_wait i1.1 (by omega), p_bi]
        · rw [if_neg (by decide), if_pos rfl]
      · unfold f_X8_wouldWait f_X8_wouldWait_70
        rw [e2, p_bi, if_pos rfl, s_30, B_K hL.1, if_neg (by rw [show (24 : Int32) = nI 24 from rfl, ni_eq (by omega) (by omega)]; omega), a2, p_bv, B_T a3.1, g2, p_bv, hK1, hd1, p_bi]
        obtain ⟨-, ⟨rfl, -, -⟩ | ⟨rfl, -, -⟩⟩ := c2
        · rw [if_neg (nm_n (by omega)), if_neg (nm_n (by omega)), b_wait i1.1 (by omega), p_bi, b1, p_bv]
        · rw [if_pos rfl, if_pos rfl, b1, p_bv]
      · rw [b4, s_thr]
        rfl
    · have hK24 : K = 24 := by omega
      subst hK24
      refine ⟨(0, -1, σ), -1, sup ρ 8 0 8 0, ?_, Or.inl rfl, ?_, hR.thr 0, s_thr ρ 0, fun _ => rfl⟩
      · unfold f_X7_wouldWait
        rw [e1, p_bx0, A_K hL.1, if_neg (by decide)]
      · unfold f_X8_wouldWait
        rw [e2, p_bi, if_pos rfl, s_30, B_K hL.1, if_pos (by decide)]
  · refine ⟨(2, 0, σ), 0, sup ρ 8 0 8 1, ?_, Or.inr rfl, ?_, hR.thr 1, s_thr ρ 1, fun h => absurd (show (2 : Nat) = 0 from h) (by decide)⟩
    · unfold f_X7_wouldWait
      rw [e1]
      rfl
    · unfold f_X8_wouldWait
      rw [e2, p_bi, if_neg (by decide)]
