/-! a tick: phase 5, a stop -/
def zz (c : Nat) (x y : Int32) (v : Sg) : Sg := sup (sup v 2 c 6 x) 2 c 2 y
theorem s_cm {v : Sg} {k o i k' o' i' : Nat} {x y : Int32} (h : ¬ (k = k' ∧ o = o' ∧ i = i')) : sup (sup v k o i x) k' o' i' y = sup (sup v k' o' i' y) k o i x := by
  funext a b d
  unfold sup
  by_cases h1 : a = k ∧ b = o ∧ d = i
  · by_cases h2 : a = k' ∧ b = o' ∧ d = i'
    · exact absurd ⟨h1.1.symm.trans h2.1, h1.2.1.symm.trans h2.2.1, h1.2.2.symm.trans h2.2.2⟩ h
    · rw [if_neg h2, if_pos h1, if_pos h1]
  · by_cases h2 : a = k' ∧ b = o' ∧ d = i'
    · rw [if_pos h2, if_neg h1, if_pos h2]
    · rw [if_neg h2, if_neg h1, if_neg h1, if_neg h2]
theorem zz_k {c k o i : Nat} {x y w : Int32} {v : Sg} (h : k ≠ 2) : zz c x y (sup v k o i w) = sup (zz c x y v) k o i w := by
  unfold zz
  rw [s_cm (k := k) (k' := 2) (fun q => h q.1), s_cm (k := k) (k' := 2) (fun q => h q.1)]
theorem zz_2 {c o i : Nat} {x y w : Int32} {v : Sg} (h6 : i ≠ 6) (h2 : i ≠ 2) : zz c x y (sup v 2 o i w) = sup (zz c x y v) 2 o i w := by
  unfold zz
  rw [s_cm (i := i) (i' := 6) (fun q => h6 q.2.2), s_cm (i := i) (i' := 2) (fun q => h2 q.2.2)]
theorem zr_k {c k : Nat} {x y : Int32} {v : Sg} (h : k ≠ 2) : zz c x y v k = v k := by
  unfold zz
  rw [s_ne h, s_ne h]
theorem zr_2 {c o i : Nat} {x y : Int32} {v : Sg} (h6 : i ≠ 6) (h2 : i ≠ 2) : zz c x y v 2 o i = v 2 o i := by
  unfold zz
  rw [s_nf h2, s_nf h6]
theorem ru_cm {r : Nat → Int32} {q q' : Nat} {x y : Int32} (h : q ≠ q') : ru (ru r q x) q' y = ru (ru r q' y) q x := by
  funext i
  unfold ru
  by_cases h1 : i = q
  · by_cases h2 : i = q'
    · exact absurd (h1.symm.trans h2) h
    · rw [if_neg h2, if_pos h1, if_pos h1]
  · by_cases h2 : i = q'
    · rw [if_pos h2, if_neg h1, if_pos h2]
    · rw [if_neg h2, if_neg h1, if_neg h1, if_neg h2]
theorem a_send {σ : Sg} {j M d : Nat} (h5 : σ 5 j 0 = nI M) (hM : M < 240) (hd : d < 4) (s kk nn : Int32) : f_X4_send σ j s (nI d) kk nn = some (sup (sup (sup (sup (sup (sup σ 20 j M s) 21 j M (nI d)) 22 j M kk) 23 j M nn) 5 j 0 (nI (M + 1))) 13 j d (σ 13 j d + 1)) := by
  unfold f_X4_send f_X5_append
  simp (disch := omega) only [h5, q_240, if_false, ni_nn, ni_cl, p_nle, false_or, p_st, p_bv, s_ne, ni_1, f_X5_append_61]
theorem b_send {ρ : Sg} {M d : Nat} {x0 : Int32} (h10 : ρ 30 0 10 = nI M) (hM : M < 240) (hd : d < 4) (hx : ρ 30 0 (11 + d) = x0) (s kk nn : Int32) : f_X8_sends ρ (nI d) kk s nn = some (sup (sup (sup (sup (sup (sup ρ 30 0 (1087 + 4 * M) (nI d)) 30 0 (1087 + 4 * M + 1) kk) 30 0 (1087 + 4 * M + 2) s) 30 0 (1087 + 4 * M + 3) nn) 30 0 10 (nI (M + 1))) 30 0 (11 + d) (x0 + 1)) := by
  unfold f_X8_sends
  simp (disch := omega) only [h10, m_4, l_1087, l_11, ni_1, ni_2, ni_3, if_false, ni_nn, ni_cl, p_nle, false_or, p_st, s_nf, hx]
def SI (F C K T U j c B A0 : Nat) (x y : Int32) (σ ρ a b : Sg) : Prop := ∃ M', LU F C K M' T U (zz c x y (vw j a)) (b 30 0) ∧ SP j σ ρ a b ∧ a 2 (4 * j + c) 6 = σ 2 (4 * j + c) 6 ∧ a 12 j 3 = σ 12 j 3 ∧ V_ann (vw j a) M' = A0 ∧ M' + NW (vw j a) K ≤ B ∧ PG T K (vw j σ) (vw j a)
section TK
variable {F C K M T U j c B A0 : Nat} {σ ρ a b : Sg} {r : Nat → Int32} {x y : Int32}
theorem zA_K (h : LU F C K M T U (zz c x y (vw j a)) r) : a 4 j 2 = nI K := by
  have e := h.1.2.2.1
  rw [zr_k (by decide)] at e
  exact e
theorem zA_T (h : LU F C K M T U (zz c x y (vw j a)) r) : a 4 j 3 = nI T := by
  have e := h.1.2.2.2.1
  rw [zr_k (by decide)] at e
  exact e
theorem zA_M (h : LU F C K M T U (zz c x y (vw j a)) r) : a 5 j 0 = nI M := by
  have e := h.1.2.2.2.2.1
  rw [zr_k (by decide)] at e
  exact e
theorem zW_off (k : Nat) : W_off (zz c x y (vw j a)) c k = (bt (a 2 (4 * j + c) 9) k && decide (a 1 (24 * j + k) 1 = a 2 (4 * j + c) 0)) := by
  unfold W_off
  rw [zr_2 (by decide) (by decide), zr_2 (by decide) (by decide), zr_k (by decide)]
  rfl
theorem zW_hh (k : Nat) : W_hh (zz c x y (vw j a)) c k = (bt (a 2 (4 * j + c) 8) k && decide (a 1 (24 * j + k) 0 = a 2 (4 * j + c) 0)) := by
  unfold W_hh
  rw [zr_2 (by decide) (by decide), zr_2 (by decide) (by decide), zr_k (by decide)]
  rfl
theorem NW_same {v v' : Sg} {k : Nat} (h : ∀ i, i ≠ k → v' 1 i 3 = v 1 i 3) (h0 : v 1 k 3 ≠ 1) (h1 : v' 1 k 3 ≠ 1) : NW v' K = NW v K := by
  refine ct_congr (fun i _ => ?_)
  by_cases w : i = k
  · subst w
    rw [decide_eq_false h0, decide_eq_false h1]
  · rw [h i w]
theorem t_offStep (hI : SI F C K T U j c B A0 x y σ ρ a b) (hT : T < 400000) (hc : c < C) {k : Nat} (hk : k < K) (n m : Nat) :
    ∃ a' b', SI F C K T U j c B A0 x y σ ρ a' b' ∧ f_X0_letOff_2 (n + 1) a j (4 * j + c) (nI k) = f_X0_letOff_2 n a' j (4 * j + c) (nI (k + 1)) ∧ f_X8_stopsAt_31 (m + 1) b (nI c) (nI k) = f_X8_stopsAt_31 m b' (nI c) (nI (k + 1)) := by
  obtain ⟨M', h, hS, h6, h12, hA, hM, hG⟩ := id hI
  have hC := D_C h
  have hK := D_K h
  simp (disch := omega) only [f_X0_letOff_2_s, f_X8_stopsAt_31_s, zA_K h, zA_T h, B_K h, B_T h, ni_le, p_nle, if_false, ni_nn, ni_cl, false_or, a_isC, b_off h hc hk, p_bi, W_b0, zW_off, p_st, s_ne, s_nf, l_127, l_199, f_X0_letOff_71, f_X8_stopsAt_79, ni_1]
  cases h9 : bt (a 2 (4 * j + c) 9) k
  · simp only [if_true, Bool.false_and]
    exact ⟨a, b, hI, rfl, rfl⟩
  · by_cases w : a 1 (24 * j + k) 1 = a 2 (4 * j + c) 0
    · simp only [Bool.true_eq_false, if_false, decide_eq_true w, Bool.and_self, if_pos w]
      have hab := D_abd h hc k
      rw [zr_2 (by decide) (by decide), zr_k (by decide), show bt (vw j a 2 c 9) k = true from h9] at hab
      obtain ⟨-, h2, h4⟩ := of_decide_eq_true hab.symm
      have g := S_off h hc hk (by rw [zr_k (by decide)]; exact h2) (by rw [zr_k (by decide)]; exact h4) (nI T)
      rw [zr_2 (by decide) (by decide)] at g
      refine ⟨_, _, ⟨M', ?_, ?_, ?_, ?_, ?_, ?_, hG.trans ?_⟩, rfl, rfl⟩
      · rw [vs_2, vs_1, vs_1, zz_2 (by decide) (by decide), zz_k (by decide), zz_k (by decide), s_ru, s_ru]
        exact g
      · exact hS.trans (SP.r (SP.r (SP.c (SP.c (SP.c (SP.rf j a b) (O_1 (by omega)) _ _) (O_1 (by omega)) _ _) (O_2 (by omega)) _ _) _ _) _ _)
      · rw [s_nf (by decide), s_ne (by decide), s_ne (by decide)]
        exact h6
      · rw [s_ne (by decide), s_ne (by decide), s_ne (by decide)]
        exact h12
      · rw [vs_2, vs_1, vs_1, ← hA]
        unfold V_ann
        rw [s_ne (by decide), s_ne (by decide), s_ne (by decide)]
      · rw [vs_2, vs_1, vs_1, NW_same (v := vw j a) (k := k) (fun i hi => by rw [s_ne (by decide), s_no hi, s_no hi]) (by rw [h2]; decide) (by rw [s_ne (by decide), s_nf (by decide), s_at]; decide)]
        exact hM
      · intro k' hk'
        rw [vs_2, vs_1, vs_1, s_ne (by decide), s_nf (show (2 : Nat) ≠ 6 by decide), s_nf (show (3 : Nat) ≠ 6 by decide), s_nf (show (5 : Nat) ≠ 6 by decide), s_nf (show (2 : Nat) ≠ 3 by decide), s_nf (show (5 : Nat) ≠ 3 by decide)]
        refine ⟨rfl, ?_⟩
        by_cases w' : k' = k
        · subst w'
          exact Or.inr (Or.inr (Or.inr ⟨h2, s_at _ _ _ _ _, rfl⟩))
        · rw [s_no w']
          exact Or.inl ⟨rfl, rfl⟩
    · simp only [Bool.true_eq_false, if_false, decide_eq_false w, Bool.and_false, if_true, if_neg w]
      exact ⟨a, b, hI, rfl, rfl⟩
theorem t_board (hI : SI F C K T U j c B A0 x y σ ρ a b) (hT : T < 400000) (hB : B ≤ 240) (hc : c < C) {k : Nat} (hk : k < K) (h1 : a 1 (24 * j + k) 3 = 1) :
    ∃ a' b', SI F C K T U j c B A0 x y σ ρ a' b' ∧ f_X0_takeAboard a j (nI c) (nI k) = some a' ∧ f_X8_sends (sup (sup (sup (sup b 30 0 (319 + 24 * c + k) 0) 30 0 (127 + k) 2) 30 0 (151 + k) (nI c)) 30 0 (175 + k) (nI T)) 3 (nI k) (nI c) 0 = some b' := by
  obtain ⟨M', h, hS, h6, h12, hA, hM, hG⟩ := id hI
  have hC := D_C h
  have hK := D_K h
  have hNW : NW (vw j a) K ≠ 0 := by
    have e := ct_set (P := fun i => if i = k then false else decide (vw j a 1 i 3 = 1)) (P' := fun i => decide (vw j a 1 i 3 = 1)) hk (if_pos rfl) (decide_eq_true h1) (fun i hi => (if_neg hi).symm)
    unfold NW
    omega
  have hM1 : M' < 240 := by omega
  have h1z : zz c x y (vw j a) 1 k 3 = 1 := by rw [zr_k (by decide)]; exact h1
  have hx : b 30 0 (11 + 3) = a 13 j 3 := by
    have e := (h.2.2.1 3 (by decide)).1
    rw [zr_k (by decide)] at e
    exact e
  have g3 := S_send (S_hclr (S_board h hc hk h1z) hc hk) (d := 3) (n := 0) (s := nI c) (by decide) hk (by decide) hM1 (Or.inr ⟨by decide, c, hc, rfl⟩) (a 13 j 3 + 1)
  rw [ru_cm (show 175 + k ≠ 319 + 24 * c + k by omega), ru_cm (show 151 + k ≠ 319 + 24 * c + k by omega), ru_cm (show 127 + k ≠ 319 + 24 * c + k by omega)] at g3
  simp (disch := omega) only [s_ne, s_nf, zr_2] at g3
  have e1 := a_send (σ := sup (sup (sup (sup (sup a 1 (24 * j + k) 3 2) 1 (24 * j + k) 4 (nI c)) 1 (24 * j + k) 5 (nI T)) 2 (4 * j + c) 9 (a 2 (4 * j + c) 9 ||| (1 <<< (nI k &&& 31)))) 2 (4 * j + c) 8 (a 2 (4 * j + c) 8 &&& ((1 <<< (nI k &&& 31)) ^^^ (-1)))) (j := j) (M := M') (d := 3) (by simp (disch := omega) only [s_ne]; exact zA_M h) hM1 (by decide) (nI c) (nI k) 0
  have e2 := b_send (ρ := sup (sup (sup (sup b 30 0 (319 + 24 * c + k) 0) 30 0 (127 + k) 2) 30 0 (151 + k) (nI c)) 30 0 (175 + k) (nI T)) (M := M') (d := 3) (x0 := a 13 j 3) (by simp (disch := omega) only [s_nf]; exact B_M h) hM1 (by decide) (by simp (disch := omega) only [s_nf]; exact hx) (nI c) (nI k) 0
  have e0 : f_X0_takeAboard a j (nI c) (nI k) = f_X4_send (sup (sup (sup (sup (sup a 1 (24 * j + k) 3 2) 1 (24 * j + k) 4 (nI c)) 1 (24 * j + k) 5 (nI T)) 2 (4 * j + c) 9 (a 2 (4 * j + c) 9 ||| (1 <<< (nI k &&& 31)))) 2 (4 * j + c) 8 (a 2 (4 * j + c) 8 &&& ((1 <<< (nI k &&& 31)) ^^^ (-1)))) j (nI c) (nI 3) (nI k) 0 := by
    unfold f_X0_takeAboard f_X2_dropCall
    simp (disch := omega) only [ni_nn, ni_cl, p_nle, false_or, if_false, p_st, p_bv, s_ne, s_nf, zA_T h]
    rw [show (3 : Int32) = nI 3 from rfl, e1]
    rfl
  refine ⟨_, _, ⟨M' + 1, ?_, ?_, ?_, ?_, ?_, ?_, hG.trans ?_⟩, e0.trans e1, e2⟩
  · simp only [vs_1, vs_2, vs_5, vs_13, vs_20, vs_21, vs_22, vs_23, s_ru]
    simp (disch := omega) only [zz_k, zz_2, s_ne]
    exact g3
  · refine hS.trans ?_
    refine SP.r (SP.r (SP.r (SP.r (SP.r (SP.r (SP.r (SP.r (SP.r (SP.r (SP.c (SP.c (SP.c (SP.c (SP.c (SP.c (SP.c (SP.c (SP.c (SP.c (SP.c (SP.rf j a b) (O_1 (by omega)) _ _) (O_1 (by omega)) _ _) (O_1 (by omega)) _ _) (O_2 (by omega)) _ _) (O_2 (by omega)) _ _) ?_ _ _) ?_ _ _) ?_ _ _) ?_ _ _) ?_ _ _) ?_ _ _) _ _) _ _) _ _) _ _) _ _) _ _) _ _) _ _) _ _) _ _ <;> exact (rfl : j = j)
  · simp (disch := omega) only [s_ne, s_nf]
    exact h6
  · simp (disch := omega) only [s_ne]
    exact h12
  · simp only [vs_1, vs_2, vs_5, vs_13, vs_20, vs_21, vs_22, vs_23]
    rw [A_send 3, if_neg (show ¬ nI 3 = 0 by decide), ← hA]
    unfold V_ann
    simp (disch := omega) only [s_ne]
    rfl
  · have e9 : NW (vw j a) K = NW (vw j (sup a 1 (24 * j + k) 3 2)) K + 1 := by
      refine ct_set hk ?_ (decide_eq_true h1) (fun i hi => ?_)
      · rw [vs_1, s_at]
        decide
      · rw [vs_1, s_no hi]
    rw [show NW (vw j _) K = NW (vw j (sup a 1 (24 * j + k) 3 2)) K from ct_congr (fun i _ => by
      simp only [vs_1, vs_2, vs_5, vs_13, vs_20, vs_21, vs_22, vs_23]
      simp (disch := omega) only [s_ne, s_nf])]
    omega
  · intro k' hk'
    simp only [vs_1, vs_2, vs_5, vs_13, vs_20, vs_21, vs_22, vs_23]
    simp (disch := omega) only [s_ne, s_nf]
    by_cases w' : k' = k
    · subst w'
      exact ⟨trivial, Or.inr (Or.inr (Or.inl ⟨Or.inr h1, Or.inl (s_at _ _ _ _ _), s_at _ _ _ _ _⟩))⟩
    · simp (disch := exact w') only [s_no]
      exact ⟨trivial, Or.inl ⟨trivial, trivial⟩⟩
end TK
