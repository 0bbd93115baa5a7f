/-! a tick: phases 1 and 3 -/
theorem nm_1 {n : Nat} (h : n < 2147483648) : (nI n = -1) = False := by
  apply eq_false
  intro q
  have e := congrArg Int32.toInt q
  rw [ni_int h] at e
  have : (-1 : Int32).toInt = -1 := by decide
  omega
theorem nm_2 {n : Nat} (h : n < 2147483648) : (-1 = nI n) = False := eq_false (fun q => (nm_1 h).mp q.symm)
theorem nm_n {n : Nat} (h : n < 2147483648) : nI n ≠ -1 := fun q => (nm_1 h).mp q
theorem m1_0 : ((-1 : Int32) < 0) = True := eq_true (by decide)
theorem m1_1 : ((0 : Int32) ≤ -1) = False := eq_false (by decide)
theorem NQ_le (v : Sg) (K T : Nat) : NQ v K T ≤ K := ct_le _ K
theorem NW_le (v : Sg) (K : Nat) : NW v K ≤ K := ct_le _ K
/-- what a call may do within one tick -/
def PG (T K : Nat) (v v' : Sg) : Prop := ∀ k, k < K → v' 1 k 2 = v 1 k 2 ∧ ((v' 1 k 3 = v 1 k 3 ∧ v' 1 k 5 = v 1 k 5) ∨ (v 1 k 3 = 0 ∧ v' 1 k 3 = 1 ∧ v' 1 k 5 = v 1 k 5) ∨ ((v 1 k 3 = 0 ∨ v 1 k 3 = 1) ∧ (v' 1 k 3 = 2 ∨ v' 1 k 3 = 3) ∧ v' 1 k 5 = nI T) ∨ (v 1 k 3 = 2 ∧ v' 1 k 3 = 3 ∧ v' 1 k 5 = v 1 k 5))
theorem PG.rf (T K : Nat) (v : Sg) : PG T K v v := fun _ _ => ⟨rfl, Or.inl ⟨rfl, rfl⟩⟩
theorem PG.of {T K : Nat} {v v' : Sg} (h : ∀ k, k < K → ∀ f, f ≤ 6 → v' 1 k f = v 1 k f) : PG T K v v' := fun k hk => ⟨h k hk 2 (by decide), Or.inl ⟨h k hk 3 (by decide), h k hk 5 (by decide)⟩⟩
theorem PG.trans {T K : Nat} {v v' v'' : Sg} (h : PG T K v v') (h' : PG T K v' v'') : PG T K v v'' := by
  intro k hk
  obtain ⟨a, b⟩ := h k hk
  obtain ⟨a', b'⟩ := h' k hk
  refine ⟨a'.trans a, ?_⟩
  have n01 : ¬ (0 : Int32) = 1 := by decide
  have n02 : ¬ (0 : Int32) = 2 := by decide
  have n03 : ¬ (0 : Int32) = 3 := by decide
  have n12 : ¬ (1 : Int32) = 2 := by decide
  have n13 : ¬ (1 : Int32) = 3 := by decide
  have n10 : ¬ (1 : Int32) = 0 := by decide
  have n20 : ¬ (2 : Int32) = 0 := by decide
  have n21 : ¬ (2 : Int32) = 1 := by decide
  have n23 : ¬ (2 : Int32) = 3 := by decide
  have n30 : ¬ (3 : Int32) = 0 := by decide
  have n31 : ¬ (3 : Int32) = 1 := by decide
  have n32 : ¬ (3 : Int32) = 2 := by decide
  rcases b with ⟨s, x⟩ | ⟨s0, s, x⟩ | ⟨s0, s | s, x⟩ | ⟨s0, s, x⟩ <;> rcases b' with ⟨s', x'⟩ | ⟨s0', s', x'⟩ | ⟨s0' | s0', s' | s', x'⟩ | ⟨s0', s', x'⟩ <;> simp_all
section TK
variable {F C K M T U j : Nat} {σ ρ : Sg}
theorem t_comes (h : LU F C K 0 T (T + 1) (vw j σ) (ρ 30 0)) (hT : T < 400000) :
    ∃ σ' ρ', f_X0_makeComing σ j = some σ' ∧ f_X8_comes ρ = some ρ' ∧ ∃ M, LU F C K M T (T + 1) (vw j σ') (ρ' 30 0) ∧ SP j σ ρ σ' ρ' ∧ (M ≤ K ∧ M ≤ V_ann (vw j σ') M) ∧ V_ann (vw j σ') M ≤ NQ (vw j σ') K T ∧ PG T K (vw j σ) (vw j σ') := by
  have hK := D_K h
  refine lpTF (fun n (a : Sg) i => f_X0_makeComing_2 n a j i) (fun n (b : Sg) i => f_X8_comes_2 n b i) K (by omega) (fun k a b => ∃ M, LU F C K M T (T + 1) (vw j a) (b 30 0) ∧ SP j σ ρ a b ∧ (M ≤ k ∧ M ≤ V_ann (vw j a) M) ∧ V_ann (vw j a) M ≤ NQ (vw j a) K T ∧ PG T K (vw j σ) (vw j a)) (fun a b => ∃ M, LU F C K M T (T + 1) (vw j a) (b 30 0) ∧ SP j σ ρ a b ∧ (M ≤ K ∧ M ≤ V_ann (vw j a) M) ∧ V_ann (vw j a) M ≤ NQ (vw j a) K T ∧ PG T K (vw j σ) (vw j a)) ?_ ?_ ⟨0, h, SP.rf j σ ρ, ⟨Nat.le_refl 0, Nat.zero_le _⟩, Nat.zero_le _, PG.rf T K _⟩
  · rintro n m k a b hk ⟨M, hL, hS, hM, hA, hG⟩
    refine Or.inl ?_
    obtain ⟨-, -, e2, e3, -⟩ := B_call hL hk
    have e2' : b 30 0 (103 + k) = a 1 (24 * j + k) 2 := e2
    have e3' : b 30 0 (127 + k) = a 1 (24 * j + k) 3 := e3
    obtain ⟨m0, s, t1, t2, t3, t4, t5, t6, t7⟩ := (hL.2.2.2.2.1 k hk).2.2.2.1
    have t3' : a 1 (24 * j + k) 2 = nI m0 := t3
    have t4' : a 1 (24 * j + k) 3 = nI s := t4
    simp (disch := omega) only [f_X0_makeComing_2_s, f_X0_makeComing_46, f_X8_comes_2_s, f_X8_comes_60, A_K hL, A_T hL, B_K hL, B_T hL, ni_le, ni_lt, p_nle, if_false, ni_nn, ni_cl, false_or, p_st, ni_1, l_127, l_103, e2', e3', t3']
    by_cases h3 : a 1 (24 * j + k) 3 = 0
    · rw [if_pos h3, if_pos h3]
      by_cases hm : m0 ≤ T
      · rw [if_neg (by omega), if_pos hm]
        have s0 : s = 0 := by
          have e9 : nI s = nI 0 := t4.symm.trans h3
          rw [ni_eq (by omega) (by omega)] at e9
          exact e9
        have g1 := S_wait hL hk h3 (fun m hm9 he => by
          have e9 : nI m = nI m0 := he.symm.trans t3
          rw [ni_eq (by omega) (by omega)] at e9
          omega)
        rw [← vs_1, ← s_ru] at g1
        obtain ⟨σ', ρ', i1, i2, i3, i4, i5, i6, i7⟩ := t_announce g1 hk (by omega) (by omega) (by rw [vs_1, s_at]; decide)
        have n1 : NQ (vw j σ') K T = NQ (vw j a) K T + 1 := by
          refine ct_set hk ?_ ?_ (fun i hi => ?_)
          · have t8 := t7 s0
            rw [t8]
            exact decide_eq_false (by rw [nm_2 (by omega)]; exact id)
          · rw [i6 k 10 (by decide), if_pos ⟨rfl, rfl⟩]
            exact decide_eq_true rfl
          · rw [i6 i 10 (by decide), if_neg (fun q => hi q.1), vs_1, s_no hi]
        have n2 : V_ann (vw j (sup a 1 (24 * j + k) 3 1)) M = V_ann (vw j a) M := by
          unfold V_ann
          rw [vs_1, s_ne (by decide)]
        refine ⟨σ', ρ', ⟨M + 1, i3, hS.trans ((SP.r (SP.c (SP.rf j a b) (O_1 (by omega)) _ _) _ _).trans i4), ⟨by omega, ?_⟩, ?_, hG.trans ?_⟩, by rw [i1]; rfl, by rw [i2]; rfl⟩
        · rw [i5, n2]
          omega
        · rw [i5, n1, n2]
          omega
        · intro k' hk'
          rw [i6 k' 2 (by decide), i6 k' 3 (by decide), i6 k' 5 (by decide), if_neg (fun q => absurd q.2 (by decide)), if_neg (fun q => absurd q.2 (by decide)), if_neg (fun q => absurd q.2 (by decide)), vs_1, s_nf (show (2 : Nat) ≠ 3 by decide), s_nf (show (5 : Nat) ≠ 3 by decide)]
          refine ⟨rfl, ?_⟩
          by_cases w : k' = k
          · subst w
            exact Or.inr (Or.inl ⟨h3, s_at _ _ _ _ _, rfl⟩)
          · rw [s_no w]
            exact Or.inl ⟨rfl, rfl⟩
      · rw [if_pos (by omega), if_neg hm]
        exact ⟨a, b, ⟨M, hL, hS, ⟨by omega, hM.2⟩, hA, hG⟩, rfl, rfl⟩
    · rw [if_neg h3, if_neg h3]
      exact ⟨a, b, ⟨M, hL, hS, ⟨by omega, hM.2⟩, hA, hG⟩, rfl, rfl⟩
  · rintro n m a b ⟨M, hL, hS, hM, hA, hG⟩
    refine ⟨a, b, ?_, ?_, M, hL, hS, hM, hA, hG⟩
    · simp (disch := omega) only [f_X0_makeComing_2_s, A_K hL, ni_le, Nat.le_refl, if_true, f_X0_makeComing_52]
    · simp (disch := omega) only [f_X8_comes_2_s, B_K hL, ni_le, Nat.le_refl, if_true, f_X8_comes_66]
/-- what phase 3 does at one call behind the look at the claim -/
theorem t_mind (h : LU F C K M T (T + 1) (vw j σ) (ρ 30 0)) (hT : T < 400000) {k B P : Nat} (hk : k < K) (h1 : vw j σ 1 k 3 = 1) (hB : B ≤ 200) (hM : M ≤ V_ann (vw j σ) M + B) (hA : V_ann (vw j σ) M ≤ NQ (vw j σ) K T) (hP : vw j σ 12 0 1 = nI P) (hP2 : 3 ≤ P ∧ P ≤ 50) (k9 : Sg → Nat → Int32 → Int32 → Option Sg) (k2 : Sg → Int32 → Option Sg) :
    ∃ σ' ρ', (∃ M', LU F C K M' T (T + 1) (vw j σ') (ρ' 30 0) ∧ SP j σ ρ σ' ρ' ∧ vw j σ' 12 0 1 = nI P ∧ M' ≤ V_ann (vw j σ') M' + B ∧ V_ann (vw j σ') M' ≤ NQ (vw j σ') K T ∧ PG T K (vw j σ) (vw j σ')) ∧ f_X0_announceAgain_65 k9 σ j (nI P) (nI k) (24 * j + k) = k9 σ' j (nI P) (nI (k + 1)) ∧ f_X8_minds_82 k2 ρ (nI k) = k2 ρ' (nI (k + 1)) := by
  have hK := D_K h
  obtain ⟨-, -, -, -, -, -, -, -, e8, e10⟩ := B_call h hk
  have e8' : ρ 30 0 (247 + k) = σ 1 (24 * j + k) 8 := e8
  have e10' : ρ 30 0 (295 + k) = σ 1 (24 * j + k) 10 := e10
  have eP : ρ 30 0 5 = nI P := (B_set h).2.1.trans hP
  unfold f_X0_announceAgain_65 f_X8_minds_82
  simp (disch := omega) only [f_X0_announceAgain_93, f_X8_minds_127, A_T h, B_T h, if_false, ni_nn, ni_cl, p_nle, false_or, ni_1, l_247, l_295, e8', e10', eP]
  rcases (h.2.2.2.2.1 k hk).2.2.2.2.1 with f8 | ⟨c, hc, f8⟩
  · have f8' : σ 1 (24 * j + k) 8 = -1 := f8
    simp only [f8', m1_1, if_false, if_true]
    by_cases w : nI T - σ 1 (24 * j + k) 10 < nI P
    · rw [if_pos w, if_pos w]
      exact ⟨σ, ρ, ⟨M, h, SP.rf j σ ρ, hP, hM, hA, PG.rf T K _⟩, rfl, rfl⟩
    · rw [if_neg w, if_neg w]
      have n0 : decide (vw j σ 1 k 10 = nI T) = false := by
        refine decide_eq_false (fun q => w ?_)
        rw [show σ 1 (24 * j + k) 10 = nI T from q, ni_sub (Nat.le_refl T), ni_lt (by omega) (by omega)]
        omega
      have n9 : NQ (vw j σ) K T < K := by
        have := ct_set (P := fun i => decide (vw j σ 1 i 10 = nI T)) (P' := fun i => if i = k then true else decide (vw j σ 1 i 10 = nI T)) hk n0 (if_pos rfl) (fun i hi => if_neg hi)
        have h9 := ct_le (fun i => if i = k then true else decide (vw j σ 1 i 10 = nI T)) K
        unfold NQ
        omega
      obtain ⟨σ', ρ', i1, i2, i3, i4, i5, i6, i7⟩ := t_announce h hk (by omega) (by omega) (by rw [h1]; decide)
      refine ⟨σ', ρ', ⟨M + 1, i3, i4, by rw [i7 12 (by decide) (by decide) (by decide) (by decide)]; exact hP, by omega, ?_, PG.of (fun k' _ f hf => by rw [i6 k' f (by omega), if_neg (fun q => by omega)])⟩, by rw [i1]; rfl, by rw [i2]; rfl⟩
      have n1 : NQ (vw j σ') K T = NQ (vw j σ) K T + 1 := by
        refine ct_set hk n0 ?_ (fun i hi => ?_)
        · rw [i6 k 10 (by decide), if_pos ⟨rfl, rfl⟩]
          exact decide_eq_true rfl
        · rw [i6 i 10 (by decide), if_neg (fun q => hi q.1)]
      rw [i5, n1]
      omega
  · have hC := D_C h
    have f8' : σ 1 (24 * j + k) 8 = nI c := f8
    simp (disch := omega) only [f8', ni_ge0, nm_1, if_true, if_false]
    exact ⟨σ, ρ, ⟨M, h, SP.rf j σ ρ, hP, hM, hA, PG.rf T K _⟩, rfl, rfl⟩
theorem t_minds (h : LU F C K M T (T + 1) (vw j σ) (ρ 30 0)) (hT : T < 400000) {B : Nat} (hB : B ≤ 200) (hM : M ≤ V_ann (vw j σ) M + B) (hA : V_ann (vw j σ) M ≤ NQ (vw j σ) K T) :
    ∃ σ' ρ', f_X0_announceAgain σ j = some σ' ∧ f_X8_minds ρ = some ρ' ∧ ∃ M', LU F C K M' T (T + 1) (vw j σ') (ρ' 30 0) ∧ SP j σ ρ σ' ρ' ∧ M' ≤ V_ann (vw j σ') M' + B ∧ V_ann (vw j σ') M' ≤ NQ (vw j σ') K T ∧ PG T K (vw j σ) (vw j σ') := by
  have hK := D_K h
  obtain ⟨-, P, W, D, hP, hP1, hP2, -⟩ := h.2.1
  unfold f_X0_announceAgain
  rw [show σ 12 j 1 = nI P from hP]
  refine lpTF (fun n (a : Sg) i => f_X0_announceAgain_9 n a j (nI P) i) (fun n (b : Sg) i => f_X8_minds_2 n b i) K (by omega) (fun k a b => ∃ M', LU F C K M' T (T + 1) (vw j a) (b 30 0) ∧ SP j σ ρ a b ∧ vw j a 12 0 1 = nI P ∧ M' ≤ V_ann (vw j a) M' + B ∧ V_ann (vw j a) M' ≤ NQ (vw j a) K T ∧ PG T K (vw j σ) (vw j a)) (fun a b => ∃ M', LU F C K M' T (T + 1) (vw j a) (b 30 0) ∧ SP j σ ρ a b ∧ M' ≤ V_ann (vw j a) M' + B ∧ V_ann (vw j a) M' ≤ NQ (vw j a) K T ∧ PG T K (vw j σ) (vw j a)) ?_ ?_ ⟨M, h, SP.rf j σ ρ, hP, hM, hA, PG.rf T K _⟩
  · rintro n m k a b hk ⟨M, hL, hS, hP, hM, hA, hG⟩
    refine Or.inl ?_
    obtain ⟨-, -, -, e3, -, -, -, -, e8, -⟩ := B_call hL hk
    have e3' : b 30 0 (127 + k) = a 1 (24 * j + k) 3 := e3
    have e8' : b 30 0 (247 + k) = a 1 (24 * j + k) 8 := e8
    have eP : b 30 0 5 = nI P := (B_set hL).2.1.trans hP
    simp (disch := omega) only [f_X0_announceAgain_9_s, f_X8_minds_2_s, A_K hL, A_T hL, B_K hL, B_T hL, ni_le, p_nle, if_false, ni_nn, ni_cl, false_or, p_st, l_127, l_247, l_271, e3', e8', eP]
    by_cases h3 : a 1 (24 * j + k) 3 = 1
    · rw [if_pos h3, if_pos h3]
      have key := fun (a' b' : Sg) (hL' : LU F C K M T (T + 1) (vw j a') (b' 30 0)) (hS' : SP j a b a' b') (hP' : vw j a' 12 0 1 = nI P) (e1 : vw j a' 1 k 3 = 1) (e2 : V_ann (vw j a') M = V_ann (vw j a) M) (e3 : NQ (vw j a') K T = NQ (vw j a) K T) => t_mind hL' hT hk e1 hB (by rw [e2]; exact hM) (by rw [e2, e3]; exact hA) hP' ⟨hP1, hP2⟩ (f_X0_announceAgain_9 n) (f_X8_minds_2 m)
      have fin := key a b hL (SP.rf j a b) hP h3 rfl rfl
      rcases (hL.2.2.2.2.1 k hk).2.2.2.2.1 with f8 | ⟨c, hc, f8⟩
      · have f8' : a 1 (24 * j + k) 8 = -1 := f8
        simp only [f8', m1_0, if_true]
        obtain ⟨σ', ρ', ⟨M', j1, j2, j3, j4, j5, j8⟩, j6, j7⟩ := fin
        exact ⟨σ', ρ', ⟨M', j1, hS.trans j2, j3, j4, j5, hG.trans j8⟩, j6, j7⟩
      · have hC := D_C hL
        have f8' : a 1 (24 * j + k) 8 = nI c := f8
        have f9 : b 30 0 (271 + k) = a 1 (24 * j + k) 9 := (hL.2.2.2.2.1 k hk).2.1 (by rw [f8]; exact nm_n (by omega))
        simp (disch := omega) only [f8', ni_nn, nm_1, if_false, f9]
        by_cases w : nI T - a 1 (24 * j + k) 9 < 10 * nI P
        · rw [if_pos w, if_pos w]
          obtain ⟨σ', ρ', ⟨M', j1, j2, j3, j4, j5, j8⟩, j6, j7⟩ := fin
          exact ⟨σ', ρ', ⟨M', j1, hS.trans j2, j3, j4, j5, hG.trans j8⟩, j6, j7⟩
        · rw [if_neg w, if_neg w]
          have g1 := S_clr hL hk
          rw [← vs_1, ← s_ru] at g1
          have g2 : SP j a b (sup a 1 (24 * j + k) 8 (-1)) (sup b 30 0 (247 + k) (-1)) := SP.r (SP.c (SP.rf j a b) (O_1 (by omega)) _ _) _ _
          obtain ⟨σ', ρ', ⟨M', j1, j2, j3, j4, j5, j8⟩, j6, j7⟩ := key _ _ g1 g2 (by rw [vs_1, s_ne (by decide)]; exact hP) (by rw [vs_1, s_nf (by decide)]; exact h3) (by unfold V_ann; rw [vs_1, s_ne (by decide)]) (by unfold NQ; exact ct_congr (fun i _ => by rw [vs_1, s_nf (by decide)]))
          exact ⟨σ', ρ', ⟨M', j1, hS.trans (g2.trans j2), j3, j4, j5, hG.trans (PG.trans (PG.of (fun k' _ f hf => by rw [vs_1, s_nf (show f ≠ 8 by omega)])) j8)⟩, j6, j7⟩
    · rw [if_neg h3, if_neg h3]
      simp only [f_X0_announceAgain_93, f_X8_minds_127, ni_1]
      exact ⟨a, b, ⟨M, hL, hS, hP, hM, hA, hG⟩, rfl, rfl⟩
  · rintro n m a b ⟨M, hL, hS, hP, hM, hA, hG⟩
    refine ⟨a, b, ?_, ?_, M, hL, hS, hM, hA, hG⟩
    · simp (disch := omega) only [f_X0_announceAgain_9_s, A_K hL, ni_le, Nat.le_refl, if_true, f_X0_announceAgain_99]
    · simp (disch := omega) only [f_X8_minds_2_s, B_K hL, ni_le, Nat.le_refl, if_true, f_X8_minds_133]
end TK
