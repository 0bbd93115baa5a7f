/-! a tick of both: phases 1 and 3 -/
section TK
variable {F C K M T U j : Nat} {σ τ : Sg}
theorem l_comes (h : LL F C K 0 T (T + 1) j σ τ) (hT : T < 400000) :
    ∃ σ' τ' D, f_X0_makeComing σ j = some σ' ∧ f_L_tick_16 τ = ac D (f_L_tick_82 τ') ∧ ∃ M, LL F C K M T (T + 1) j σ' τ' ∧ SQ j σ τ σ' τ' ∧ (M ≤ K ∧ M ≤ V_ann (vw j σ') M) ∧ V_ann (vw j σ') M ≤ NQ (vw j σ') K T ∧ PG T K (vw j σ) (vw j σ') ∧ D + pt τ ≤ pt τ' := by
  have hK := D_K h.1
  obtain ⟨n, m, a, b, D, ⟨M, hL, hS, hM, hA, hG, hD⟩, i4, i5⟩ := lpL (fun n (a : Sg) k => f_X0_makeComing_2 n a j (nI k)) (fun n (b : Sg) k => f_L_tick_18 n b (nI k)) K (by omega) (fun k a b D => ∃ M, LL F C K M T (T + 1) j a b ∧ SQ j σ τ a b ∧ (M ≤ k ∧ M ≤ V_ann (vw j a) M) ∧ V_ann (vw j a) M ≤ NQ (vw j a) K T ∧ PG T K (vw j σ) (vw j a) ∧ D + pt τ ≤ pt b) (a := σ) (b := τ) (by
    rintro n m k a b D hk ⟨M, hL, hS, hM, hA, hG, hD⟩
    have e2' : b 42 k 2 = a 1 (24 * j + k) 2 := L_call hL.1 hk (by decide) (by decide)
    have e3' : b 42 k 3 = a 1 (24 * j + k) 3 := L_call hL.1 hk (by decide) (by decide)
    obtain ⟨m0, s, t1, t2, t3, t4, t5, t6, t7⟩ := (hL.1.2.2.2.2.1 k hk).2.2.2.1
    have t3' : a 1 (24 * j + k) 2 = nI m0 := t3
    have t4' : a 1 (24 * j + k) 3 = nI s := t4
    simp (disch := omega) only [f_X0_makeComing_2_s, f_X0_makeComing_46, f_L_tick_18_s, f_L_tick_76, A_K hL.1, A_T hL.1, L_K hL.1, N_K hL.1, L_T hL.1, ni_le, ni_lt, p_nle, if_false, ni_nn, ni_cl, false_or, p_st, ni_1, e2', e3', t3']
    by_cases h3 : a 1 (24 * j + k) 3 = 0
    · rw [if_pos h3, if_pos h3]
      by_cases hm : m0 ≤ T
      · rw [if_neg (by omega), if_pos hm]
        have s0 : s = 0 := by
          have e9 : nI s = nI 0 := t4.symm.trans h3
          rw [ni_eq (by omega) (by omega)] at e9
          exact e9
        have g1 := S_wait hL.1 hk h3 (fun m hm9 he => by
          have e9 : nI m = nI m0 := he.symm.trans t3
          rw [ni_eq (by omega) (by omega)] at e9
          omega)
        have e1 := u_42 b (k := k) (f := 3) (by omega) (by decide) 1
        rw [← vs_1] at g1
        have g2 : LL F C K M T (T + 1) j (sup a 1 (24 * j + k) 3 1) (sup b 42 k 3 1) := ⟨by rw [e1]; exact g1, cb_put (by decide) hL.2 _ _ _⟩
        obtain ⟨σ', τ', e, i1, i2, i3, i4, i8, i5, i6, i7⟩ := l_announce g2 hk (by omega) (by omega) (by rw [vs_1, s_at]; decide)
        rw [pt_put (by decide)] at i8
        have n1 : NQ (vw j σ') K T = NQ (vw j a) K T + 1 := by
          refine ct_set hk ?_ ?_ (fun i hi => ?_)
          · have t8 := t7 s0
            rw [t8]
            exact decide_eq_false (by rw [nm_2 (by omega)]; exact id)
          · rw [i6 k 10 (by decide), if_pos ⟨rfl, rfl⟩]
            exact decide_eq_true rfl
          · rw [i6 i 10 (by decide), if_neg (fun q => hi q.1), vs_1, s_no hi]
        have n2 : V_ann (vw j (sup a 1 (24 * j + k) 3 1)) M = V_ann (vw j a) M := by
          unfold V_ann
          rw [vs_1, s_ne (by decide)]
        refine ⟨σ', τ', e, ⟨M + 1, i3, hS.trans ((SQ.l (SQ.c (SQ.rf j a b) (O_1 (by omega)) _ _) (by decide) (by decide) _ _ _).trans i4), ⟨by omega, ?_⟩, ?_, hG.trans ?_, by omega⟩, by rw [i1]; rfl, by rw [i2]; rfl⟩
        · rw [i5, n2]
          omega
        · rw [i5, n1, n2]
          omega
        · intro k' hk'
          rw [i6 k' 2 (by decide), i6 k' 3 (by decide), i6 k' 5 (by decide), if_neg (fun q => absurd q.2 (by decide)), if_neg (fun q => absurd q.2 (by decide)), if_neg (fun q => absurd q.2 (by decide)), vs_1, s_nf (show (2 : Nat) ≠ 3 by decide), s_nf (show (5 : Nat) ≠ 3 by decide)]
          refine ⟨rfl, ?_⟩
          by_cases w : k' = k
          · subst w
            exact Or.inr (Or.inl ⟨h3, s_at _ _ _ _ _, rfl⟩)
          · rw [s_no w]
            exact Or.inl ⟨rfl, rfl⟩
      · rw [if_pos (by omega), if_neg hm]
        exact ⟨a, b, 0, ⟨M, hL, hS, ⟨by omega, hM.2⟩, hA, hG, hD⟩, rfl, (ac_0 _).symm⟩
    · rw [if_neg h3, if_neg h3]
      exact ⟨a, b, 0, ⟨M, hL, hS, ⟨by omega, hM.2⟩, hA, hG, hD⟩, rfl, (ac_0 _).symm⟩) ⟨0, h, SQ.rf j σ τ, ⟨Nat.le_refl 0, Nat.zero_le _⟩, Nat.zero_le _, PG.rf T K _, by omega⟩
  refine ⟨a, b, D, ?_, ?_, M, hL, hS, hM, hA, hG, hD⟩
  · unfold f_X0_makeComing
    refine Eq.trans i4 ?_
    simp (disch := omega) only [f_X0_makeComing_2_s, A_K hL.1, ni_le, Nat.le_refl, if_true, f_X0_makeComing_52]
  · unfold f_L_tick_16
    refine Eq.trans i5 ?_
    simp (disch := omega) only [f_L_tick_18_s, L_K hL.1, ni_le, Nat.le_refl, if_true]
/-- what phase 3 does at one call behind the look at the claim -/
theorem l_mind (h : LL F C K M T (T + 1) j σ τ) (hT : T < 400000) {k B P : Nat} (hk : k < K) (h1 : vw j σ 1 k 3 = 1) (hB : B ≤ 200) (hM : M ≤ V_ann (vw j σ) M + B) (hA : V_ann (vw j σ) M ≤ NQ (vw j σ) K T) (hP : vw j σ 12 0 1 = nI P) (hP2 : 3 ≤ P ∧ P ≤ 50) (k9 : Sg → Nat → Int32 → Int32 → Option Sg) (k2 : Sg → Int32 → Option (Int32 × Sg × Nat)) :
    ∃ σ' τ' e, (∃ M', LL F C K M' T (T + 1) j σ' τ' ∧ SQ j σ τ σ' τ' ∧ vw j σ' 12 0 1 = nI P ∧ M' ≤ V_ann (vw j σ') M' + B ∧ V_ann (vw j σ') M' ≤ NQ (vw j σ') K T ∧ PG T K (vw j σ) (vw j σ') ∧ e + pt τ ≤ pt τ') ∧ f_X0_announceAgain_65 k9 σ j (nI P) (nI k) (24 * j + k) = k9 σ' j (nI P) (nI (k + 1)) ∧ f_L_tick_345 k2 τ (nI k) k = ac e (k2 τ' (nI (k + 1))) := by
  have hK := D_K h.1
  have e8' : τ 42 k 8 = σ 1 (24 * j + k) 8 := L_call h.1 hk (by decide) (by decide)
  have e10' : τ 42 k 10 = σ 1 (24 * j + k) 10 := L_call h.1 hk (by decide) (by decide)
  have eP : τ 40 0 9 = nI P := (L_set h.1).2.1.trans hP
  unfold f_X0_announceAgain_65 f_L_tick_345
  simp (disch := omega) only [f_X0_announceAgain_93, f_L_tick_373, A_T h.1, L_T h.1, if_false, ni_nn, ni_cl, p_nle, false_or, ni_1, e8', e10', eP]
  rcases (h.1.2.2.2.2.1 k hk).2.2.2.2.1 with f8 | ⟨c, hc, f8⟩
  · have f8' : σ 1 (24 * j + k) 8 = -1 := f8
    simp only [f8', m1_1, if_false]
    by_cases w : nI T - σ 1 (24 * j + k) 10 < nI P
    · rw [if_pos w, if_pos w]
      exact ⟨σ, τ, 0, ⟨M, h, SQ.rf j σ τ, hP, hM, hA, PG.rf T K _, by omega⟩, rfl, (ac_0 _).symm⟩
    · rw [if_neg w, if_neg w]
      have n0 : decide (vw j σ 1 k 10 = nI T) = false := by
        refine decide_eq_false (fun q => w ?_)
        rw [show σ 1 (24 * j + k) 10 = nI T from q, ni_sub (Nat.le_refl T), ni_lt (by omega) (by omega)]
        omega
      have n9 : NQ (vw j σ) K T < K := by
        have := ct_set (P := fun i => decide (vw j σ 1 i 10 = nI T)) (P' := fun i => if i = k then true else decide (vw j σ 1 i 10 = nI T)) hk n0 (if_pos rfl) (fun i hi => if_neg hi)
        have h9 := ct_le (fun i => if i = k then true else decide (vw j σ 1 i 10 = nI T)) K
        unfold NQ
        omega
      obtain ⟨σ', τ', e, i1, i2, i3, i4, i8, i5, i6, i7⟩ := l_announce h hk (by omega) (by omega) (by rw [h1]; decide)
      refine ⟨σ', τ', e, ⟨M + 1, i3, i4, by rw [i7 12 (by decide) (by decide) (by decide) (by decide)]; exact hP, by omega, ?_, PG.of (fun k' _ f hf => by rw [i6 k' f (by omega), if_neg (fun q => by omega)]), i8⟩, by rw [i1]; rfl, by rw [i2]; rfl⟩
      have n1 : NQ (vw j σ') K T = NQ (vw j σ) K T + 1 := by
        refine ct_set hk n0 ?_ (fun i hi => ?_)
        · rw [i6 k 10 (by decide), if_pos ⟨rfl, rfl⟩]
          exact decide_eq_true rfl
        · rw [i6 i 10 (by decide), if_neg (fun q => hi q.1)]
      rw [i5, n1]
      omega
  · have hC := D_C h.1
    have f8' : σ 1 (24 * j + k) 8 = nI c := f8
    simp (disch := omega) only [f8', ni_ge0, if_true]
    exact ⟨σ, τ, 0, ⟨M, h, SQ.rf j σ τ, hP, hM, hA, PG.rf T K _, by omega⟩, rfl, (ac_0 _).symm⟩
theorem l_minds (h : LL F C K M T (T + 1) j σ τ) (hT : T < 400000) {B : Nat} (hB : B ≤ 200) (hM : M ≤ V_ann (vw j σ) M + B) (hA : V_ann (vw j σ) M ≤ NQ (vw j σ) K T) :
    ∃ σ' τ' D, f_X0_announceAgain σ j = some σ' ∧ f_L_tick_274 τ = ac D (f_L_tick_379 τ') ∧ ∃ M', LL F C K M' T (T + 1) j σ' τ' ∧ SQ j σ τ σ' τ' ∧ M' ≤ V_ann (vw j σ') M' + B ∧ V_ann (vw j σ') M' ≤ NQ (vw j σ') K T ∧ PG T K (vw j σ) (vw j σ') ∧ D + pt τ ≤ pt τ' := by
  have hK := D_K h.1
  obtain ⟨-, P, W, D, hP, hP1, hP2, -⟩ := h.1.2.1
  obtain ⟨n, m, a, b, D, ⟨M', hL, hS, -, hM', hA', hG, hD⟩, i4, i5⟩ := lpL (fun n (a : Sg) k => f_X0_announceAgain_9 n a j (nI P) (nI k)) (fun n (b : Sg) k => f_L_tick_276 n b (nI k)) K (by omega) (fun k a b D => ∃ M', LL F C K M' T (T + 1) j a b ∧ SQ j σ τ a b ∧ vw j a 12 0 1 = nI P ∧ M' ≤ V_ann (vw j a) M' + B ∧ V_ann (vw j a) M' ≤ NQ (vw j a) K T ∧ PG T K (vw j σ) (vw j a) ∧ D + pt τ ≤ pt b) (a := σ) (b := τ) (by
    rintro n m k a b D hk ⟨M, hL, hS, hP, hM, hA, hG, hD⟩
    have e3' : b 42 k 3 = a 1 (24 * j + k) 3 := L_call hL.1 hk (by decide) (by decide)
    have e8' : b 42 k 8 = a 1 (24 * j + k) 8 := L_call hL.1 hk (by decide) (by decide)
    have eP : b 40 0 9 = nI P := (L_set hL.1).2.1.trans hP
    simp (disch := omega) only [f_X0_announceAgain_9_s, f_L_tick_276_s, A_K hL.1, A_T hL.1, L_K hL.1, N_K hL.1, L_T hL.1, ni_le, p_nle, if_false, ni_nn, ni_cl, false_or, p_st, e3', e8', eP]
    by_cases h3 : a 1 (24 * j + k) 3 = 1
    · rw [if_pos h3, if_pos h3]
      have key := fun (a' b' : Sg) (hL' : LL F C K M T (T + 1) j a' b') (hP' : vw j a' 12 0 1 = nI P) (e1 : vw j a' 1 k 3 = 1) (e2 : V_ann (vw j a') M = V_ann (vw j a) M) (e3 : NQ (vw j a') K T = NQ (vw j a) K T) => l_mind hL' hT hk e1 hB (by rw [e2]; exact hM) (by rw [e2, e3]; exact hA) hP' ⟨hP1, hP2⟩ (f_X0_announceAgain_9 n) (f_L_tick_276 m)
      have fin := key a b hL hP h3 rfl rfl
      rcases (hL.1.2.2.2.2.1 k hk).2.2.2.2.1 with f8 | ⟨c, hc, f8⟩
      · have f8' : a 1 (24 * j + k) 8 = -1 := f8
        simp only [f8', m1_0, if_true]
        obtain ⟨σ', τ', e, ⟨M', j1, j2, j3, j4, j5, j8, j9⟩, j6, j7⟩ := fin
        exact ⟨σ', τ', e, ⟨M', j1, hS.trans j2, j3, j4, j5, hG.trans j8, by omega⟩, j6, j7⟩
      · have hC := D_C hL.1
        have f8' : a 1 (24 * j + k) 8 = nI c := f8
        have f9 : b 42 k 9 = a 1 (24 * j + k) 9 := (g_42 b (k := k) (f := 9) (by omega) (by decide)).symm.trans ((hL.1.2.2.2.2.1 k hk).2.1 (by rw [f8]; exact nm_n (by omega)))
        simp (disch := omega) only [f8', ni_nn, if_false, f9]
        by_cases w : nI T - a 1 (24 * j + k) 9 < 10 * nI P
        · rw [if_pos w, if_pos w]
          obtain ⟨σ', τ', e, ⟨M', j1, j2, j3, j4, j5, j8, j9⟩, j6, j7⟩ := fin
          exact ⟨σ', τ', e, ⟨M', j1, hS.trans j2, j3, j4, j5, hG.trans j8, by omega⟩, j6, j7⟩
        · rw [if_neg w, if_neg w]
          have g1 := S_clr hL.1 hk
          rw [← vs_1] at g1
          have e1 := u_42 b (k := k) (f := 8) (by omega) (by decide) (-1)
          have g2 : SQ j a b (sup a 1 (24 * j + k) 8 (-1)) (sup b 42 k 8 (-1)) := SQ.l (SQ.c (SQ.rf j a b) (O_1 (by omega)) _ _) (by decide) (by decide) _ _ _
          obtain ⟨σ', τ', e, ⟨M', j1, j2, j3, j4, j5, j8, j9⟩, j6, j7⟩ := key _ (sup b 42 k 8 (-1)) ⟨by rw [e1]; exact g1, cb_put (by decide) hL.2 _ _ _⟩ (by rw [vs_1, s_ne (by decide)]; exact hP) (by rw [vs_1, s_nf (by decide)]; exact h3) (by unfold V_ann; rw [vs_1, s_ne (by decide)]) (by unfold NQ; exact ct_congr (fun i _ => by rw [vs_1, s_nf (by decide)]))
          rw [pt_put (by decide)] at j9
          exact ⟨σ', τ', e, ⟨M', j1, hS.trans (g2.trans j2), j3, j4, j5, hG.trans (PG.trans (PG.of (fun k' _ f hf => by rw [vs_1, s_nf (show f ≠ 8 by omega)])) j8), by omega⟩, j6, j7⟩
    · rw [if_neg h3, if_neg h3]
      simp only [f_X0_announceAgain_93, f_L_tick_373, ni_1]
      exact ⟨a, b, 0, ⟨M, hL, hS, hP, hM, hA, hG, hD⟩, rfl, (ac_0 _).symm⟩) ⟨M, h, SQ.rf j σ τ, hP, hM, hA, PG.rf T K _, by omega⟩
  refine ⟨a, b, D, ?_, ?_, M', hL, hS, hM', hA', hG, hD⟩
  · unfold f_X0_announceAgain
    rw [show σ 12 j 1 = nI P from hP]
    refine Eq.trans i4 ?_
    simp (disch := omega) only [f_X0_announceAgain_9_s, A_K hL.1, ni_le, Nat.le_refl, if_true, f_X0_announceAgain_99]
  · unfold f_L_tick_274
    refine Eq.trans i5 ?_
    simp (disch := omega) only [f_L_tick_276_s, L_K hL.1, ni_le, Nat.le_refl, if_true]
end TK
