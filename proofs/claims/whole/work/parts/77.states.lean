/-! undo, saveState, restoreState -/
theorem c_in0' {σ : Sg} {k1 o1 sp k2 o2 n i' : Nat} (h2 : i' < n) : scp σ k1 o1 sp k2 o2 0 n k2 o2 i' = σ k1 o1 (sp + i') := by
  rw [c_in (Nat.zero_le _) (by omega), Nat.sub_zero]
theorem E1_undo : E_undo RelN := by
  intro nn σ ρ hn hR
  obtain ⟨hN, h1, h2, h3, h4, hh, x, h6, h7, h8, h9, h10, h11⟩ := id hR
  by_cases w : hh = 0
  · subst w
    refine ⟨-1, σ, sup ρ 8 0 8 0, ?_, ?_, hR.thr 0⟩
    · unfold f_X7_undo
      rw [h8, if_pos (show nI 0 = 0 from rfl)]
    · unfold f_X8_undo
      rw [p_st, s_nf (by decide), h10, if_pos (show nI 0 = 0 from rfl)]
  · have hl := h11 (hh - 1) (by omega)
    rw [show (x + 10 - hh + (hh - 1)) % 10 = (x + 9) % 10 by congr 1; omega] at hl
    have nz : ¬ nI hh = 0 := by rw [show (0 : Int32) = nI 0 from rfl, ni_eq (by omega) (by omega)]; exact w
    have s3 : ∀ k, k ≠ 3 → sup σ 3 0 1 (nI ((x + 9) % 10)) k = σ k := fun k hk => s_ne hk
    obtain ⟨F, C, K, M, T, hC1, hT, hL⟩ := hl
    have hC := D_C hL.1
    have hK := D_K hL.1
    have hL1 := hL.both (Veq.lk (σ' := sup σ 3 0 1 (nI ((x + 9) % 10))) hC hK (fun k o i hk => by rw [s3 k (by unfold LK at hk; omega)])) (fun q _ => rfl)
    obtain ⟨σ2, c1, c2, c3⟩ := t_copy (q := 0) hL1.1 (by omega)
    have ek : ∀ k, (k = 3 ∨ k = 7 ∨ k = 10 ∨ k = 11) → σ2 k = sup σ 3 0 1 (nI ((x + 9) % 10)) k := by
      intro k hk
      funext o i
      refine c2 k o i ?_
      rcases hk with rfl | rfl | rfl | rfl <;> exact id
    have vq : ∀ p C K M, p ≠ 0 → C ≤ 4 → K ≤ 24 → Veq C K M (vw p σ) (vw p (sup σ2 3 0 0 (nI (hh - 1)))) := fun p C K M hp hC hK => (Veq.lk hC hK (fun k o i hk => by rw [s3 k (by unfold LK at hk; omega)])).trans ((c2.veq hp hC hK).trans (Veq.lk hC hK (fun k o i hk => by rw [s_ne (by unfold LK at hk; omega)])))
    obtain ⟨k1, k2, k3⟩ := R3.keep h1 h2 h3 (σ' := sup σ2 3 0 0 (nI (hh - 1))) (ρ' := scp (sup (sup ρ 8 0 8 0) 8 0 6 (nI (hh - 1))) 34 0 (2111 * (hh - 1)) 30 0 0 2111) (fun i _ => by rw [s_ne (by decide), ek 7 (by decide), s_ne (by decide)]) (by rw [s_ne (by decide), ek 10 (by decide), s_ne (by decide)]) (by rw [s_ne (by decide), ek 11 (by decide), s_ne (by decide)]) (fun i hi => by rw [c_ne (by decide), s_nf (by omega), s_nf (by omega)]) (by rw [c_ne (by decide), s_ne (by decide), s_ne (by decide)]) (by rw [c_ne (by decide), s_ne (by decide), s_ne (by decide)])
    refine ⟨nI (hh - 1), sup σ2 3 0 0 (nI (hh - 1)), scp (sup (sup ρ 8 0 8 0) 8 0 6 (nI (hh - 1))) 34 0 (2111 * (hh - 1)) 30 0 0 2111, ?_, ?_, ?_, (RestN.up ⟨k1, k2, k3, ?_, hh - 1, (x + 9) % 10, ?_, ?_, ?_, ?_, ?_, fun i hi => ?_⟩)⟩
    · unfold f_X7_undo f_X3_takeBack f_X3_takeBack_46
      rw [h8, if_neg nz, if_neg (show ¬ nI hh ≤ 0 by rw [show (0 : Int32) = nI 0 from rfl, ni_le (by omega) (by omega)]; omega), h9, h_pv x h7, p_st, s_at]
      simp (disch := omega) only [ni_nn, ni_cl, p_nle, false_or, if_false, c1, p_bv, p_st]
      have e2 : σ2 3 0 0 = nI hh := by rw [ek 3 (by decide), s_nf (by decide), h8]
      rw [e2, show nI hh - 1 = nI (hh - 1) from ni_sub (b := 1) (by omega), s_at]
    · unfold f_X8_undo
      rw [p_st, s_nf (by decide), h10, if_neg nz, show nI hh - 1 = nI (hh - 1) from ni_sub (b := 1) (by omega), p_st, s_at, m_2111, show f_X8_copies (sup (sup ρ 8 0 8 0) 8 0 6 (nI (hh - 1))) 34 0 21110 (nI (2111 * (hh - 1))) 30 0 2111 0 2111 = _ from b_copies _ (p := 2111 * (hh - 1)) (q := 0) (n := 2111) (by omega) (by decide) (by decide) (by decide) (Or.inl (by decide)), p_bv, c_ne (by decide), s_at]
    · refine ⟨F, C, K, M, T, hC1, by omega, hL1.both (c3.trans (Veq.lk hC hK (fun k o i hk => by rw [s_ne (by unfold LK at hk; omega)]))) (fun q hq => ?_)⟩
      rw [c_in0' hq, s_ne (by decide), s_ne (by decide)]
    · unfold R_sav at h4 ⊢
      rw [s_ne (by decide), ek 7 (by decide), s_ne (by decide), c_ne (by decide), s_nf (by decide), s_nf (by decide), c_ne (by decide), s_ne (by decide), s_ne (by decide)]
      rcases h4 with h4 | ⟨a, b, c⟩
      · exact Or.inl h4
      · exact Or.inr ⟨a, b, c.both (fun C K M hC hK => vq 2 C K M (by decide) hC hK) (fun _ _ => rfl)⟩
    · omega
    · omega
    · exact s_at _ _ _ _ _
    · rw [s_nf (by decide), ek 3 (by decide), s_at]
    · rw [c_ne (by decide), s_at]
    · rw [c_ne (by decide), s_ne (by decide), s_ne (by decide), show 3 + ((x + 9) % 10 + 10 - (hh - 1) + i) % 10 = 3 + (x + 10 - hh + i) % 10 by omega]
      exact (h11 i (by omega)).both (fun C K M hC hK => vq _ C K M (by omega) hC hK) (fun _ _ => rfl)
theorem E1_saveState : E_saveState RelN := by
  intro nn σ ρ hn hR
  obtain ⟨⟨F, C, K, M, T, hC1, hT, hL⟩, h1, h2, h3, h4, hh, x, h6, h7, h8, h9, h10, h11⟩ := id hR
  have hC := D_C hL.1
  have hK := D_K hL.1
  obtain ⟨σ2, c1, c2, c3⟩ := t_copy (q := 2) hL.1 (by omega)
  have ek : ∀ k, (k = 3 ∨ k = 7 ∨ k = 10 ∨ k = 11) → σ2 k = σ k := by
    intro k hk
    funext o i
    refine c2 k o i ?_
    rcases hk with rfl | rfl | rfl | rfl <;> exact id
  have vz : ∀ p C K M, C ≤ 4 → K ≤ 24 → Veq C K M (vw p σ2) (vw p (sup σ2 7 0 9 1)) := fun p C K M hC hK => Veq.lk hC hK (fun k o i hk => by rw [s_ne (by unfold LK at hk; omega)])
  have r0 : ∀ k, k ≠ 8 → k ≠ 33 → sup (scp (sup ρ 8 0 8 0) 30 0 0 33 0 0 2111) 8 0 7 1 k = ρ k := fun k h1 h2 => by rw [s_ne h1, c_ne h2, s_ne h1]
  have r8 : ∀ i, i ≠ 7 → i ≠ 8 → sup (scp (sup ρ 8 0 8 0) 30 0 0 33 0 0 2111) 8 0 7 1 8 0 i = ρ 8 0 i := fun i h1 h2 => by rw [s_nf h1, c_ne (by decide), s_nf h2]
  obtain ⟨k1, k2, k3⟩ := R3.keep h1 h2 h3 (σ' := sup σ2 7 0 9 1) (ρ' := sup (scp (sup ρ 8 0 8 0) 30 0 0 33 0 0 2111) 8 0 7 1) (fun i hi => by rw [s_nf (by omega), ek 7 (by decide)]) (by rw [s_ne (by decide), ek 10 (by decide)]) (by rw [s_ne (by decide), ek 11 (by decide)]) (fun i hi => r8 i (by omega) (by omega)) (r0 36 (by decide) (by decide)) (r0 38 (by decide) (by decide))
  refine ⟨nI T, sup σ2 7 0 9 1, sup (scp (sup ρ 8 0 8 0) 30 0 0 33 0 0 2111) 8 0 7 1, ?_, ?_, ?_, (RestN.up ⟨k1, k2, k3, ?_, hh, x, h6, h7, ?_, ?_, ?_, fun i hi => ?_⟩)⟩
  · unfold f_X7_saveState
    rw [c1, p_bv, p_st, s_ne (by decide), show σ2 4 0 3 = nI T from (c2 4 0 3 (by show ¬ (0 = 2); decide)).trans (A_T hL.1)]
  · unfold f_X8_saveState
    rw [p_st, show f_X8_copies (sup ρ 8 0 8 0) 30 0 2111 0 33 0 2111 0 2111 = _ from b_copies _ (p := 0) (q := 0) (n := 2111) (by decide) (by decide) (by decide) (by decide) (Or.inl (by decide)), p_bv, p_st, s_ne (by decide), c_ne (by decide), s_ne (by decide), B_T hL.1]
  · exact ⟨F, C, K, M, T, hC1, by omega, hL.both ((c2.veq (by decide) hC hK).trans (vz 0 C K M hC hK)) (fun q _ => by rw [r0 30 (by decide) (by decide)])⟩
  · refine Or.inr ⟨s_at _ _ _ _ _, s_at _ _ _ _ _, F, C, K, M, T, hC1, hT, hL.both (c3.trans (vz 2 C K M hC hK)) (fun q hq => ?_)⟩
    rw [s_ne (by decide), c_in0 hq, s_ne (by decide)]
  · rw [s_ne (by decide), ek 3 (by decide)]; exact h8
  · rw [s_ne (by decide), ek 3 (by decide)]; exact h9
  · rw [r8 6 (by decide) (by decide)]; exact h10
  · rw [r0 34 (by decide) (by decide)]
    exact (h11 i hi).both (fun C K M hC hK => (c2.veq (by omega) hC hK).trans (vz _ C K M hC hK)) (fun _ _ => rfl)
theorem E1_restoreState : E_restoreState RelN := by
  intro nn σ ρ hn hR
  obtain ⟨hN, h1, h2, h3, h4, hh, x, h6, h7, h8, h9, h10, h11⟩ := id hR
  rcases h4 with ⟨a, b⟩ | ⟨a, b, F, C, K, M, T, hC1, hT, hL⟩
  · refine ⟨(3, 0, σ), 0, sup (sup ρ 8 0 8 0) 8 0 8 1, ?_, Or.inr rfl, ?_, hR.thr2 0 1, ?_, fun q => absurd q (show ¬ (3 : Nat) = 0 by decide)⟩
    · unfold f_X7_restoreState
      rw [a, if_pos rfl]
    · unfold f_X8_restoreState f_X8_restoreState_18
      rw [p_st, s_nf (by decide), b, if_pos rfl, x_f1, p_bi, if_neg (by decide)]
    · rw [s_at]
      rfl
  · have hC := D_C hL.1
    have hK := D_K hL.1
    obtain ⟨σ2, c1, c2, c3⟩ := t_copy (q := 0) hL.1 (by omega)
    have ek : ∀ k, (k = 3 ∨ k = 7 ∨ k = 10 ∨ k = 11) → σ2 k = σ k := by
      intro k hk
      funext o i
      refine c2 k o i ?_
      rcases hk with rfl | rfl | rfl | rfl <;> exact id
    have vz : ∀ p C K M, C ≤ 4 → K ≤ 24 → Veq C K M (vw p σ2) (vw p (sup σ2 3 0 0 0)) := fun p C K M hC hK => Veq.lk hC hK (fun k o i hk => by rw [s_ne (by unfold LK at hk; omega)])
    have r0 : ∀ k, k ≠ 8 → k ≠ 30 → sup (scp (sup ρ 8 0 8 0) 33 0 0 30 0 0 2111) 8 0 6 0 k = ρ k := fun k h1 h2 => by rw [s_ne h1, c_ne h2, s_ne h1]
    have r8 : ∀ i, i ≠ 6 → i ≠ 8 → sup (scp (sup ρ 8 0 8 0) 33 0 0 30 0 0 2111) 8 0 6 0 8 0 i = ρ 8 0 i := fun i h1 h2 => by rw [s_nf h1, c_ne (by decide), s_nf h2]
    obtain ⟨k1, k2, k3⟩ := R3.keep h1 h2 h3 (σ' := sup σ2 3 0 0 0) (ρ' := sup (scp (sup ρ 8 0 8 0) 33 0 0 30 0 0 2111) 8 0 6 0) (fun i hi => by rw [s_ne (by decide), ek 7 (by decide)]) (by rw [s_ne (by decide), ek 10 (by decide)]) (by rw [s_ne (by decide), ek 11 (by decide)]) (fun i hi => r8 i (by omega) (by omega)) (r0 36 (by decide) (by decide)) (r0 38 (by decide) (by decide))
    have hT0 : (sup σ2 3 0 0 0) 4 0 3 = nI T := by
      rw [s_ne (by decide)]
      exact (c3.1 3 (by decide)).trans (A_T (j := 2) (σ := σ) hL.1)
    refine ⟨(0, nI T, sup σ2 3 0 0 0), nI T, sup (scp (sup ρ 8 0 8 0) 33 0 0 30 0 0 2111) 8 0 6 0, ?_, Or.inl rfl, ?_, ⟨?_, (RestN.up ⟨k1, k2, k3, ?_, 0, x, Nat.zero_le _, h7, (show sup σ2 3 0 0 0 3 0 0 = 0 from s_at _ _ _ _ _), ?_, (show sup (scp (sup ρ 8 0 8 0) 33 0 0 30 0 0 2111) 8 0 6 0 8 0 6 = 0 from s_at _ _ _ _ _), fun i hi => absurd hi (Nat.not_lt_zero i)⟩)⟩, ?_, fun _ => rfl⟩
    · unfold f_X7_restoreState f_X3_clear
      rw [a, if_neg (by decide), c1, p_bv, p_st, p_bv, hT0]
    · unfold f_X8_restoreState f_X8_restoreState_18
      rw [p_st, s_nf (by decide), b, if_neg (by decide), x_f0, p_bi, if_pos rfl, show f_X8_copies (sup ρ 8 0 8 0) 33 0 2111 0 30 0 2111 0 2111 = _ from b_copies _ (p := 0) (q := 0) (n := 2111) (by decide) (by decide) (by decide) (by decide) (Or.inl (by decide)), p_bv, p_st, s_ne (by decide), c_in0 (by decide), s_ne (by decide), B_T hL.1]
    · refine ⟨F, C, K, M, T, hC1, by omega, hL.both (c3.trans (vz 0 C K M hC hK)) (fun q hq => ?_)⟩
      rw [s_ne (by decide), c_in0 hq, s_ne (by decide)]
    · refine Or.inr ⟨?_, ?_, F, C, K, M, T, hC1, hT, hL.both ((c2.veq (by decide) hC hK).trans (vz 2 C K M hC hK)) (fun q hq => by rw [r0 33 (by decide) (by decide)])⟩
      · show sup σ2 3 0 0 0 7 0 9 = 1
        rw [s_ne (by decide), ek 7 (by decide)]; exact a
      · rw [r8 7 (by decide) (by decide)]; exact b
    · show sup σ2 3 0 0 0 3 0 1 = nI x
      rw [s_nf (by decide), ek 3 (by decide)]; exact h9
    · rw [s_nf (by decide), c_ne (by decide), s_at]
      rfl
