/-! a tick: phase 5, the class -/
section PX
variable {F C K M T U j c B A0 : Nat} {σ ρ a b : Sg} {r : Nat → Int32} {x y : Int32}
def zz (c : Nat) (x y : Int32) (v : Sg) : Sg := sup (sup v 2 c 6 x) 2 c 2 y
theorem s_cm {v : Sg} {k o i k' o' i' : Nat} {x y : Int32} (h : ¬ (k = k' ∧ o = o' ∧ i = i')) : sup (sup v k o i x) k' o' i' y = sup (sup v k' o' i' y) k o i x := by
  funext a b d
  unfold sup
  by_cases h1 : a = k ∧ b = o ∧ d = i
  · by_cases h2 : a = k' ∧ b = o' ∧ d = i'
    · exact absurd ⟨h1.1.symm.trans h2.1, h1.2.1.symm.trans h2.2.1, h1.2.2.symm.trans h2.2.2⟩ h
    · rw [if_neg h2, if_pos h1, if_pos h1]
  · by_cases h2 : a = k' ∧ b = o' ∧ d = i'
    · rw [if_pos h2, if_neg h1, if_pos h2]
    · rw [if_neg h2, if_neg h1, if_neg h1, if_neg h2]
theorem zz_k {c k o i : Nat} {x y w : Int32} {v : Sg} (h : k ≠ 2) : zz c x y (sup v k o i w) = sup (zz c x y v) k o i w := by
  unfold zz
  rw [s_cm (k := k) (k' := 2) (fun q => h q.1), s_cm (k := k) (k' := 2) (fun q => h q.1)]
theorem zz_2 {c o i : Nat} {x y w : Int32} {v : Sg} (h6 : i ≠ 6) (h2 : i ≠ 2) : zz c x y (sup v 2 o i w) = sup (zz c x y v) 2 o i w := by
  unfold zz
  rw [s_cm (i := i) (i' := 6) (fun q => h6 q.2.2), s_cm (i := i) (i' := 2) (fun q => h2 q.2.2)]
theorem zr_k {c k : Nat} {x y : Int32} {v : Sg} (h : k ≠ 2) : zz c x y v k = v k := by
  unfold zz
  rw [s_ne h, s_ne h]
theorem zr_2 {c o i : Nat} {x y : Int32} {v : Sg} (h6 : i ≠ 6) (h2 : i ≠ 2) : zz c x y v 2 o i = v 2 o i := by
  unfold zz
  rw [s_nf h2, s_nf h6]
theorem ru_cm {r : Nat → Int32} {q q' : Nat} {x y : Int32} (h : q ≠ q') : ru (ru r q x) q' y = ru (ru r q' y) q x := by
  funext i
  unfold ru
  by_cases h1 : i = q
  · by_cases h2 : i = q'
    · exact absurd (h1.symm.trans h2) h
    · rw [if_neg h2, if_pos h1, if_pos h1]
  · by_cases h2 : i = q'
    · rw [if_pos h2, if_neg h1, if_pos h2]
    · rw [if_neg h2, if_neg h1, if_neg h1, if_neg h2]
theorem zA_K (h : LU F C K M T U (zz c x y (vw j a)) r) : a 4 j 2 = nI K := by
  have e := h.1.2.2.1
  rw [zr_k (by decide)] at e
  exact e
theorem zA_T (h : LU F C K M T U (zz c x y (vw j a)) r) : a 4 j 3 = nI T := by
  have e := h.1.2.2.2.1
  rw [zr_k (by decide)] at e
  exact e
theorem zA_M (h : LU F C K M T U (zz c x y (vw j a)) r) : a 5 j 0 = nI M := by
  have e := h.1.2.2.2.2.1
  rw [zr_k (by decide)] at e
  exact e
theorem zW_off (k : Nat) : W_off (zz c x y (vw j a)) c k = (bt (a 2 (4 * j + c) 9) k && decide (a 1 (24 * j + k) 1 = a 2 (4 * j + c) 0)) := by
  unfold W_off
  rw [zr_2 (by decide) (by decide), zr_2 (by decide) (by decide), zr_k (by decide)]
  rfl
theorem zW_hh (k : Nat) : W_hh (zz c x y (vw j a)) c k = (bt (a 2 (4 * j + c) 8) k && decide (a 1 (24 * j + k) 0 = a 2 (4 * j + c) 0)) := by
  unfold W_hh
  rw [zr_2 (by decide) (by decide), zr_2 (by decide) (by decide), zr_k (by decide)]
  rfl
theorem NW_same {v v' : Sg} {k : Nat} (h : ∀ i, i ≠ k → v' 1 i 3 = v 1 i 3) (h0 : v 1 k 3 ≠ 1) (h1 : v' 1 k 3 ≠ 1) : NW v' K = NW v K := by
  refine ct_congr (fun i _ => ?_)
  by_cases w : i = k
  · subst w
    rw [decide_eq_false h0, decide_eq_false h1]
  · rw [h i w]
theorem ni_p1 {a : Nat} (h : 1 ≤ a) : nI a + -1 = nI (a - 1) := (Int32.sub_eq_add_neg (nI a) 1).symm.trans (ni_sub (b := 1) h)
theorem W_cs_lt (v : Sg) (c k : Nat) : W_cs v c k < 4 := by
  unfold W_cs
  split
  · decide
  · split
    · decide
    · split <;> decide
end PX
/-! a tick of both: phase 5, a stop; all of it -/
def SIL (F C K T U j c B A0 X : Nat) (x y : Int32) (σ τ a b : Sg) (D : Nat) : Prop := ∃ M', LU F C K M' T U (zz c x y (vw j a)) (rwL b) ∧ CB b ∧ SQ j σ τ a b ∧ a 2 (4 * j + c) 6 = σ 2 (4 * j + c) 6 ∧ a 12 j 3 = σ 12 j 3 ∧ V_ann (vw j a) M' = A0 ∧ M' + NW (vw j a) K ≤ B ∧ PG T K (vw j σ) (vw j a) ∧ D + pt τ ≤ pt b + X
theorem SIL.mono {F C K T U j c B A0 X X' : Nat} {x y : Int32} {σ τ a b : Sg} {D D' : Nat} (h : SIL F C K T U j c B A0 X x y σ τ a b D) (hX : D' + X ≤ D + X') : SIL F C K T U j c B A0 X' x y σ τ a b D' := by
  obtain ⟨M', h1, h2, h3, h4, h5, h6, h7, h8, h9⟩ := h
  exact ⟨M', h1, h2, h3, h4, h5, h6, h7, h8, by omega⟩
theorem jsig_go : ∀ g, g < 30 → ∀ a, a < 30 → g ≠ a → nI a + jsig (nI g - nI a) = nI (if g ≤ a then a - 1 else a + 1) := by decide +kernel
section TK
variable {F C K M T U j c B A0 X D : Nat} {σ τ a b v : Sg} {r : Nat → Int32} {x y : Int32}
theorem l_offStep (hI : SIL F C K T U j c B A0 X x y σ τ a b D) (hT : T < 400000) (hc : c < C) {k : Nat} (hk : k < K) (n m : Nat) :
    ∃ a' b', SIL F C K T U j c B A0 X x y σ τ a' b' D ∧ f_X0_letOff_2 (n + 1) a j (4 * j + c) (nI k) = f_X0_letOff_2 n a' j (4 * j + c) (nI (k + 1)) ∧ f_L_act_287 (m + 1) b (nI c) c k (τ 50 1 0) = f_L_act_287 m b' (nI c) c (k + 1) (τ 50 1 0) := by
  obtain ⟨M', h, hb, hS, h6, h12, hA, hM, hG, hD⟩ := id hI
  have hC := D_C h
  have hK := D_K h
  have m0 : τ 50 1 0 = b 50 1 0 := by rw [hS.2.2.2.2]
  have e1 : b 42 k 1 = a 1 (24 * j + k) 1 := by
    have e := L_call h hk (f := 1) (by decide) (by decide)
    rw [zr_k (by decide)] at e
    exact e
  have e0 : b 41 c 0 = a 2 (4 * j + c) 0 := by
    have e := L_car h hc (f := 0) (by decide)
    rw [zr_2 (by decide) (by decide)] at e
    exact e
  have e9 : bt (zz c x y (vw j a) 2 c 9) k = bt (a 2 (4 * j + c) 9) k := by rw [zr_2 (by decide) (by decide)]; rfl
  rw [f_L_act_287_s, L_K h, if_neg (by rw [it_no hk (by omega)]; exact id), N_K h, if_neg (fun z => z ⟨hk, m0⟩), l_ifab h hc hk, e9, e1, e0]
  simp (disch := omega) only [f_X0_letOff_2_s, zA_K h, zA_T h, ni_le, p_nle, if_false, ni_nn, ni_cl, false_or, a_isC, p_bi, W_b0, p_st, s_ne, s_nf, f_X0_letOff_71, ni_1, L_T h]
  cases h9 : bt (a 2 (4 * j + c) 9) k
  · simp only [if_true, Bool.false_eq_true, if_false]
    exact ⟨a, b, hI, rfl, rfl⟩
  · by_cases w : a 1 (24 * j + k) 1 = a 2 (4 * j + c) 0
    · simp only [Bool.true_eq_false, if_false, if_true, if_pos w]
      have hab := D_abd h hc k
      rw [e9, zr_k (by decide), h9] at hab
      obtain ⟨-, h2, h4⟩ := of_decide_eq_true hab.symm
      have g := S_off h hc hk (by rw [zr_k (by decide)]; exact h2) (by rw [zr_k (by decide)]; exact h4) (nI T)
      rw [zr_2 (by decide) (by decide)] at g
      have u1 := u_42 b (k := k) (f := 3) (by omega) (by decide) 3
      have u2 := u_42 (sup b 42 k 3 3) (k := k) (f := 6) (by omega) (by decide) (nI T)
      rw [u1] at u2
      refine ⟨sup (sup (sup a 1 (24 * j + k) 3 3) 1 (24 * j + k) 6 (nI T)) 2 (4 * j + c) 9 (vw j a 2 c 9 &&& ((1 <<< (nI k &&& 31)) ^^^ (-1))), sup (sup b 42 k 3 3) 42 k 6 (nI T), ⟨M', ?_, cb_put (by decide) (cb_put (by decide) hb _ _ _) _ _ _, ?_, ?_, ?_, ?_, ?_, hG.trans ?_, ?_⟩, rfl, rfl⟩
      · rw [vs_2, vs_1, vs_1, zz_2 (by decide) (by decide), zz_k (by decide), zz_k (by decide), u2]
        exact g
      · exact hS.trans (SQ.l (SQ.l (SQ.c (SQ.c (SQ.c (SQ.rf j a b) (O_1 (by omega)) _ _) (O_1 (by omega)) _ _) (O_2 (by omega)) _ _) (by decide) (by decide) _ _ _) (by decide) (by decide) _ _ _)
      · rw [s_nf (by decide), s_ne (by decide), s_ne (by decide)]
        exact h6
      · rw [s_ne (by decide), s_ne (by decide), s_ne (by decide)]
        exact h12
      · rw [vs_2, vs_1, vs_1, ← hA]
        unfold V_ann
        rw [s_ne (by decide), s_ne (by decide), s_ne (by decide)]
      · rw [vs_2, vs_1, vs_1, NW_same (v := vw j a) (k := k) (fun i hi => by rw [s_ne (by decide), s_no hi, s_no hi]) (by rw [h2]; decide) (by rw [s_ne (by decide), s_nf (by decide), s_at]; decide)]
        exact hM
      · intro k' hk'
        rw [vs_2, vs_1, vs_1, s_ne (by decide), s_nf (show (2 : Nat) ≠ 6 by decide), s_nf (show (3 : Nat) ≠ 6 by decide), s_nf (show (5 : Nat) ≠ 6 by decide), s_nf (show (2 : Nat) ≠ 3 by decide), s_nf (show (5 : Nat) ≠ 3 by decide)]
        refine ⟨rfl, ?_⟩
        by_cases w' : k' = k
        · subst w'
          exact Or.inr (Or.inr (Or.inr ⟨h2, s_at _ _ _ _ _, rfl⟩))
        · rw [s_no w']
          exact Or.inl ⟨rfl, rfl⟩
      · rw [pt_put (by decide), pt_put (by decide)]
        exact hD
    · simp only [Bool.true_eq_false, if_false, if_true, if_neg w]
      exact ⟨a, b, hI, rfl, rfl⟩
theorem l_board (hI : SIL F C K T U j c B A0 X x y σ τ a b D) (hT : T < 400000) (hB : B ≤ 240) (hc : c < C) {k : Nat} (hk : k < K) (h1 : a 1 (24 * j + k) 3 = 1) :
    ∃ a' b' e, SIL F C K T U j c B A0 X x y σ τ a' b' (D + e) ∧ f_X0_takeAboard a j (nI c) (nI k) = some a' ∧ f_L_send (sup (sup (sup (sup b 43 (4 * k + c) 0 0) 42 k 3 2) 42 k 4 (nI c)) 42 k 5 (nI T)) 3 (nI k) (nI c) 0 = some (0, b', e) := by
  obtain ⟨M', h, hb, hS, h6, h12, hA, hM, hG, hD⟩ := id hI
  have hC := D_C h
  have hK := D_K h
  have hNW : NW (vw j a) K ≠ 0 := by
    have e := ct_set (P := fun i => if i = k then false else decide (vw j a 1 i 3 = 1)) (P' := fun i => decide (vw j a 1 i 3 = 1)) hk (if_pos rfl) (decide_eq_true h1) (fun i hi => (if_neg hi).symm)
    unfold NW
    omega
  have hM1 : M' < 240 := by omega
  have h1z : zz c x y (vw j a) 1 k 3 = 1 := by rw [zr_k (by decide)]; exact h1
  have hx : b 46 0 3 = a 13 j 3 := by
    have e := L_sent h (i := 3) (by decide)
    rw [zr_k (by decide)] at e
    exact e
  have g3 := S_send (S_hclr (S_board h hc hk h1z) hc hk) (d := 3) (n := 0) (s := nI c) (by decide) hk (by decide) hM1 (Or.inr ⟨by decide, c, hc, rfl⟩) (a 13 j 3 + 1)
  rw [ru_cm (show 175 + k ≠ 319 + 24 * c + k by omega), ru_cm (show 151 + k ≠ 319 + 24 * c + k by omega), ru_cm (show 127 + k ≠ 319 + 24 * c + k by omega)] at g3
  simp (disch := omega) only [s_ne, s_nf, zr_2] at g3
  have e1 := a_send (σ := sup (sup (sup (sup (sup a 1 (24 * j + k) 3 2) 1 (24 * j + k) 4 (nI c)) 1 (24 * j + k) 5 (nI T)) 2 (4 * j + c) 9 (a 2 (4 * j + c) 9 ||| (1 <<< (nI k &&& 31)))) 2 (4 * j + c) 8 (a 2 (4 * j + c) 8 &&& ((1 <<< (nI k &&& 31)) ^^^ (-1)))) (j := j) (M := M') (d := 3) (by simp (disch := omega) only [s_ne]; exact zA_M h) hM1 (by decide) (nI c) (nI k) 0
  -- the law's side
  have u1 : rwL (sup b 43 (4 * k + c) 0 0) = ru (rwL b) (319 + 24 * c + k) 0 := u_43 b (c := c) (k := k) (f := 0) (by omega) (by omega) (by decide) 0
  have u2 := u_42 (sup b 43 (4 * k + c) 0 0) (k := k) (f := 3) (by omega) (by decide) 2
  have u3 := u_42 (sup (sup b 43 (4 * k + c) 0 0) 42 k 3 2) (k := k) (f := 4) (by omega) (by decide) (nI c)
  have u4 := u_42 (sup (sup (sup b 43 (4 * k + c) 0 0) 42 k 3 2) 42 k 4 (nI c)) (k := k) (f := 5) (by omega) (by decide) (nI T)
  rw [u1] at u2
  rw [u2] at u3
  rw [u3] at u4
  have cb4 := cb_put (k := 42) (by decide) (cb_put (k := 42) (by decide) (cb_put (k := 42) (by decide) (cb_put (k := 43) (by decide) hb (4 * k + c) 0 0) k 3 2) k 4 (nI c)) k 5 (nI T)
  have nm4 : q_nn (sup (sup (sup (sup b 43 (4 * k + c) 0 0) 42 k 3 2) 42 k 4 (nI c)) 42 k 5 (nI T)) 2 = M' := by
    rw [nn_put (by decide), nn_put (by decide), nn_put (by decide), nn_put (by decide), N_M h]
  have e46 : (sup (sup (sup (sup b 43 (4 * k + c) 0 0) 42 k 3 2) 42 k 4 (nI c)) 42 k 5 (nI T)) 46 0 3 = a 13 j 3 := by
    rw [s_ne (by decide), s_ne (by decide), s_ne (by decide), s_ne (by decide), hx]
  obtain ⟨e, i1, i2, i3, i4, i5⟩ := l_send0 cb4 nm4 hM1 (d := 3) (by decide) (nI k) (nI c) 0
  have u5 := u_snd nm4 (d := 3) (by decide) (nI k) (nI c) 0
  rw [u4, e46] at u5
  rw [pt_put (by decide), pt_put (by decide), pt_put (by decide), pt_put (by decide)] at i3
  generalize hb' : t_snd (sup (sup (sup (sup b 43 (4 * k + c) 0 0) 42 k 3 2) 42 k 4 (nI c)) 42 k 5 (nI T)) 3 (nI k) (nI c) 0 = b' at i1 i2 i3 i4 i5 u5
  have e0 : f_X0_takeAboard a j (nI c) (nI k) = f_X4_send (sup (sup (sup (sup (sup a 1 (24 * j + k) 3 2) 1 (24 * j + k) 4 (nI c)) 1 (24 * j + k) 5 (nI T)) 2 (4 * j + c) 9 (a 2 (4 * j + c) 9 ||| (1 <<< (nI k &&& 31)))) 2 (4 * j + c) 8 (a 2 (4 * j + c) 8 &&& ((1 <<< (nI k &&& 31)) ^^^ (-1)))) j (nI c) (nI 3) (nI k) 0 := by
    unfold f_X0_takeAboard f_X2_dropCall
    simp (disch := omega) only [ni_nn, ni_cl, p_nle, false_or, if_false, p_st, p_bv, s_ne, s_nf, zA_T h]
    rw [show (3 : Int32) = nI 3 from rfl, e1]
    rfl
  refine ⟨_, b', e, ⟨M' + 1, ?_, i2, ?_, ?_, ?_, ?_, ?_, hG.trans ?_, by omega⟩, e0.trans e1, i1⟩
  · rw [u5]
    simp only [vs_1, vs_2, vs_5, vs_13, vs_20, vs_21, vs_22, vs_23]
    simp (disch := omega) only [zz_k, zz_2, s_ne]
    exact g3
  · refine hS.trans ⟨?_, ?_⟩
    · refine Fr.trans (Fr.trans (Fr.trans (Fr.trans (Fr.trans (Fr.trans (Fr.trans (Fr.trans (Fr.trans (Fr.trans (Fr.put (O_1 (by omega)) a _ _) (Fr.put (O_1 (by omega)) _ _ _)) (Fr.put (O_1 (by omega)) _ _ _)) (Fr.put (O_2 (by omega)) _ _ _)) (Fr.put (O_2 (by omega)) _ _ _)) (Fr.put ?_ _ _ _)) (Fr.put ?_ _ _ _)) (Fr.put ?_ _ _ _)) (Fr.put ?_ _ _ _)) (Fr.put ?_ _ _ _)) (Fr.put ?_ _ _ _) <;> exact (rfl : j = j)
    · exact (((TP.put (k := 43) (by decide) (by decide) b _ _ _).trans (TP.put (k := 42) (by decide) (by decide) _ _ _ _)).trans ((TP.put (k := 42) (by decide) (by decide) _ _ _ _).trans (TP.put (k := 42) (by decide) (by decide) _ _ _ _))).trans i4
  · simp (disch := omega) only [s_ne, s_nf]
    exact h6
  · simp (disch := omega) only [s_ne]
    exact h12
  · simp only [vs_1, vs_2, vs_5, vs_13, vs_20, vs_21, vs_22, vs_23]
    rw [A_send 3, if_neg (show ¬ nI 3 = 0 by decide), ← hA]
    unfold V_ann
    simp (disch := omega) only [s_ne]
    rfl
  · have e9 : NW (vw j a) K = NW (vw j (sup a 1 (24 * j + k) 3 2)) K + 1 := by
      refine ct_set hk ?_ (decide_eq_true h1) (fun i hi => ?_)
      · rw [vs_1, s_at]
        decide
      · rw [vs_1, s_no hi]
    rw [show NW (vw j _) K = NW (vw j (sup a 1 (24 * j + k) 3 2)) K from ct_congr (fun i _ => by
      simp only [vs_1, vs_2, vs_5, vs_13, vs_20, vs_21, vs_22, vs_23]
      simp (disch := omega) only [s_ne, s_nf])]
    omega
  · intro k' hk'
    simp only [vs_1, vs_2, vs_5, vs_13, vs_20, vs_21, vs_22, vs_23]
    simp (disch := omega) only [s_ne, s_nf]
    by_cases w' : k' = k
    · subst w'
      exact ⟨trivial, Or.inr (Or.inr (Or.inl ⟨Or.inr h1, Or.inl (s_at _ _ _ _ _), s_at _ _ _ _ _⟩))⟩
    · simp (disch := exact w') only [s_no]
      exact ⟨trivial, Or.inl ⟨trivial, trivial⟩⟩
/-- the cause, as the law tells it -/
theorem l_cause {α : Type} (Z : Int32 → α) {z : Int32} {k : Nat} (hm : ∀ t, t < 4 → bt z t = bt (v 19 c t) k) : (if z &&& 8 = 0 then (if z &&& 4 = 0 then (if z &&& 2 = 0 then Z 4 else Z 3) else Z 2) else Z 1) = Z (nI (W_cs v c k + 1)) := by
  have e3 := k_and8 z
  have e2 := k_and4 z
  have e1 := k_and2 z
  rw [hm 3 (by decide)] at e3
  rw [hm 2 (by decide)] at e2
  rw [hm 1 (by decide)] at e1
  simp only [e3, e2, e1]
  unfold W_cs
  cases bt (v 19 c 3) k
  · cases bt (v 19 c 2) k
    · cases bt (v 19 c 1) k <;> rfl
    · rfl
  · rfl
theorem l_nob (hI : SIL F C K T U j c B A0 X x y σ τ a b D) (hc : c < C) {k : Nat} (hk : k < K) (kL : Sg → Int32 → Nat → Int32 → Option (Int32 × Sg × Nat)) :
    ∃ a' b', SIL F C K T U j c B A0 X x y σ τ a' b' D ∧ f_X0_stopForNobody a j (4 * j + c) (nI k) = some a' ∧ (∀ z, z = (sup (sup b 43 (4 * k + c) 0 0) 41 c 7 (b 41 c 7 + 1)) 43 (4 * k + c) 3 → (if z &&& 8 = 0 then (if z &&& 4 = 0 then (if z &&& 2 = 0 then f_L_act_502 kL (sup (sup b 43 (4 * k + c) 0 0) 41 c 7 (b 41 c 7 + 1)) (nI c) c (nI k) 4 else f_L_act_502 kL (sup (sup b 43 (4 * k + c) 0 0) 41 c 7 (b 41 c 7 + 1)) (nI c) c (nI k) 3) else f_L_act_502 kL (sup (sup b 43 (4 * k + c) 0 0) 41 c 7 (b 41 c 7 + 1)) (nI c) c (nI k) 2) else f_L_act_502 kL (sup (sup b 43 (4 * k + c) 0 0) 41 c 7 (b 41 c 7 + 1)) (nI c) c (nI k) 1) = kL b' (nI c) c (nI (k + 1))) := by
  obtain ⟨M', h, hb, hS, h6, h12, hA, hM, hG, hD⟩ := id hI
  have hC := D_C h
  have hK := D_K h
  have e51 : b 41 c 7 = a 2 (4 * j + c) 7 := by
    have e := L_car h hc (f := 7) (by decide)
    rw [zr_2 (by decide) (by decide)] at e
    exact e
  have hw := W_cs_lt (vw j a) c k
  have e19 : b 48 0 (W_cs (vw j a) c k + 1) = a 15 j (W_cs (vw j a) c k + 1) := by
    have e := L_nob h hw
    rw [zr_k (by decide)] at e
    exact e
  have g2 := S_nobc (S_hclr h hc hk) hc (a 2 (4 * j + c) 7 + 1)
  have g3 := S_nob g2 hw (a 15 j (W_cs (vw j a) c k + 1) + 1)
  have u1 : rwL (sup b 43 (4 * k + c) 0 0) = ru (rwL b) (319 + 24 * c + k) 0 := u_43 b (c := c) (k := k) (f := 0) (by omega) (by omega) (by decide) 0
  have u2 := u_41 (sup b 43 (4 * k + c) 0 0) (c := c) (f := 7) (by omega) (by decide) (a 2 (4 * j + c) 7 + 1)
  have u3 := u_48 (sup (sup b 43 (4 * k + c) 0 0) 41 c 7 (a 2 (4 * j + c) 7 + 1)) hw (a 15 j (W_cs (vw j a) c k + 1) + 1)
  rw [u1] at u2
  rw [u2] at u3
  have e0 : f_X0_stopForNobody a j (4 * j + c) (nI k) = some (sup (sup (sup a 2 (4 * j + c) 8 (a 2 (4 * j + c) 8 &&& ((1 <<< (nI k &&& 31)) ^^^ (-1)))) 2 (4 * j + c) 7 (a 2 (4 * j + c) 7 + 1)) 15 j (W_cs (vw j a) c k + 1) (a 15 j (W_cs (vw j a) c k + 1) + 1)) := by
    unfold f_X0_stopForNobody f_X2_dropCall
    simp (disch := omega) only [p_st, p_bv, s_nf, a_cause, s_ne, p_bi]
    rw [show (if bt (a 19 (4 * j + c) 3) k = true then 0 else if bt (a 19 (4 * j + c) 2) k = true then 1 else if bt (a 19 (4 * j + c) 1) k = true then 2 else 3) = W_cs (vw j a) c k from rfl]
    simp (disch := omega) only [ni_nn, ni_cl, p_nle, false_or, if_false]
  refine ⟨_, sup (sup (sup b 43 (4 * k + c) 0 0) 41 c 7 (a 2 (4 * j + c) 7 + 1)) 48 0 (W_cs (vw j a) c k + 1) (a 15 j (W_cs (vw j a) c k + 1) + 1), ⟨M', ?_, cb_put (by decide) (cb_put (by decide) (cb_put (by decide) hb _ _ _) _ _ _) _ _ _, ?_, ?_, ?_, ?_, ?_, hG.trans ?_, ?_⟩, e0, ?_⟩
  · rw [u3]
    simp only [vs_2, vs_15]
    simp (disch := omega) only [zz_k, zz_2]
    rw [zr_2 (by decide) (by decide)] at g3
    exact g3
  · refine hS.trans ?_
    refine SQ.l (SQ.l (SQ.l (SQ.c (SQ.c (SQ.c (SQ.rf j a b) (O_2 (by omega)) _ _) (O_2 (by omega)) _ _) ?_ _ _) (by decide) (by decide) _ _ _) (by decide) (by decide) _ _ _) (by decide) (by decide) _ _ _
    exact (rfl : j = j)
  · simp (disch := omega) only [s_ne, s_nf]
    exact h6
  · simp (disch := omega) only [s_ne]
    exact h12
  · simp only [vs_2, vs_15]
    rw [← hA]
    unfold V_ann
    simp (disch := omega) only [s_ne]
  · rw [show NW (vw j _) K = NW (vw j a) K from ct_congr (fun i _ => by
      simp only [vs_2, vs_15]
      simp (disch := omega) only [s_ne])]
    exact hM
  · refine PG.of (fun k' _ f hf => ?_)
    simp only [vs_2, vs_15]
    simp (disch := omega) only [s_ne]
  · rw [pt_put (by decide), pt_put (by decide), pt_put (by decide)]
    exact hD
  · intro z hz
    have hm : ∀ t, t < 4 → bt z t = bt (vw j a 19 c t) k := by
      intro t ht
      rw [hz, s_ne (by decide), s_nf (by decide), L_miss h hc hk ht, zr_k (by decide)]
    rw [l_cause (v := vw j a) (fun q => f_L_act_502 kL (sup (sup b 43 (4 * k + c) 0 0) 41 c 7 (b 41 c 7 + 1)) (nI c) c (nI k) q) hm, e51]
    unfold f_L_act_502 f_L_act_563
    simp (disch := omega) only [ni_nn, ni_cl, p_nle, false_or, if_false, p_st, s_ne, e19, ni_1]
theorem l_stopStep (hI : SIL F C K T U j c B A0 X x y σ τ a b D) (hT : T < 400000) (hB : B ≤ 240) (hc : c < C) {k : Nat} (hk : k < K) (n m : Nat) :
    ∃ a' b' d, SIL F C K T U j c B A0 (X + 1) x y σ τ a' b' (D + d) ∧ f_X0_makeStop_16 (n + 1) a j (nI c) (4 * j + c) (nI k) = f_X0_makeStop_16 n a' j (nI c) (4 * j + c) (nI (k + 1)) ∧ f_L_act_363 (m + 1) b (nI c) c (nI k) = ac d (f_L_act_363 m b' (nI c) c (nI (k + 1))) := by
  obtain ⟨M', h, hb, hS, h6, h12, hA, hM, hG, hD⟩ := id hI
  have hC := D_C h
  have hK := D_K h
  have e3 : b 42 k 3 = a 1 (24 * j + k) 3 := by
    have e := L_call h hk (f := 3) (by decide) (by decide)
    rw [zr_k (by decide)] at e
    exact e
  have e4 : b 42 k 0 = a 1 (24 * j + k) 0 := by
    have e := L_call h hk (f := 0) (by decide) (by decide)
    rw [zr_k (by decide)] at e
    exact e
  have e5 : b 41 c 0 = a 2 (4 * j + c) 0 := by
    have e := L_car h hc (f := 0) (by decide)
    rw [zr_2 (by decide) (by decide)] at e
    exact e
  have e1 : b 41 c 1 = a 2 (4 * j + c) 1 := by
    have e := L_car h hc (f := 1) (by decide)
    rw [zr_2 (by decide) (by decide)] at e
    exact e
  have hm : f_L_aboard b (nI c) = some (nI (ct (bt (a 2 (4 * j + c) 9)) 32), b, 1) := by
    have e := l_aboard h hc
    rw [zr_2 (by decide) (by decide)] at e
    exact e
  have eh : b 43 (4 * k + c) 0 = W_b (bt (a 2 (4 * j + c) 8) k) := by
    have e := L_held h hc hk
    rw [zr_2 (by decide) (by decide)] at e
    exact e
  have same : ∃ a' b' d, SIL F C K T U j c B A0 (X + 1) x y σ τ a' b' (D + d) ∧ f_X0_makeStop_16 n a j (nI c) (4 * j + c) (nI (k + 1)) = f_X0_makeStop_16 n a' j (nI c) (4 * j + c) (nI (k + 1)) ∧ f_L_act_363 m b (nI c) c (nI (k + 1)) = ac d (f_L_act_363 m b' (nI c) c (nI (k + 1))) := ⟨a, b, 0, hI.mono (by omega), rfl, (ac_0 _).symm⟩
  rw [f_X0_makeStop_16_s, f_L_act_363_s, zA_K h, L_K h, N_K h]
  rw [if_neg (show ¬ nI K ≤ nI k by rw [ni_le (by omega) (by omega)]; omega), if_neg (show ¬ nI K ≤ nI k by rw [ni_le (by omega) (by omega)]; omega), a_isH a _ (show k < 32 by omega), p_bi]
  rw [if_neg (show ¬ (nI k < 0 ∨ K ≤ (nI k).toNatClampNeg) by rw [gN hk (by omega)]; exact id)]
  simp (disch := omega) only [W_b0, ni_nn, ni_cl, p_nle, false_or, if_false, eh, e3, e4, e5, e1, hm, bq_some, f_X0_makeStop_91, f_L_act_563, ni_1]
  cases h8 : bt (a 2 (4 * j + c) 8) k
  · rw [if_pos rfl, if_pos rfl]
    exact same
  · rw [if_neg (show ¬ (true = false) by decide), if_neg (show ¬ (true = false) by decide)]
    by_cases w : a 1 (24 * j + k) 0 = a 2 (4 * j + c) 0
    · rw [if_pos w, if_pos w]
      by_cases w3 : a 1 (24 * j + k) 3 = 1
      · rw [if_pos w3, if_pos w3, a_room, p_bi]
        by_cases w4 : a 2 (4 * j + c) 1 ≤ nI (ct (bt (a 2 (4 * j + c) 9)) 32)
        · rw [if_pos w4, decide_eq_false (fun q => q w4), if_pos (show W_b false = 0 from rfl)]
          exact ⟨a, b, 1, hI.mono (by omega), rfl, rfl⟩
        · rw [if_neg w4, decide_eq_true w4, if_neg (show ¬ (W_b true = 0) by decide)]
          obtain ⟨a', b', e, i1, i2, i3⟩ := l_board hI hT hB hc hk w3
          refine ⟨a', b', 1 + e, i1.mono (by omega), ?_, ?_⟩
          · rw [i2, p_bv]
          · simp (disch := omega) only [p_st, s_ne, L_T h, i3, bq_some, ac_ac]
      · rw [if_neg w3, if_neg w3]
        obtain ⟨a', b', i1, i2, i3⟩ := l_nob hI hc hk (f_L_act_363 m)
        refine ⟨a', b', 0, i1.mono (by omega), ?_, ?_⟩
        · rw [i2, p_bv]
        · rw [ac_0]
          simp (disch := omega) only [p_st, s_ne]
          exact i3 _ (by simp (disch := omega) only [s_ne])
    · rw [if_neg w, if_neg w]
      exact same
theorem l_stop (h : LL F C K M T U j σ τ) (hT : T < 400000) (hB : B ≤ 240) (hc : c < C) (hM : M + NW (vw j σ) K ≤ B) :
    ∃ σ' τ' e, f_X0_makeStop σ j (nI c) = some σ' ∧ f_L_act_210 τ (nI c) c 1 = some (0, τ', e) ∧ ∃ M', LL F C K M' T U j σ' τ' ∧ SQ j σ τ σ' τ' ∧ V_ann (vw j σ') M' = V_ann (vw j σ) M ∧ M' + NW (vw j σ') K ≤ B ∧ PG T K (vw j σ) (vw j σ') ∧ e + pt τ ≤ pt τ' + 25 := by
  obtain ⟨h, hb⟩ := h
  have hC := D_C h
  have hK := D_K h
  have e6' : τ 41 c 6 = σ 2 (4 * j + c) 6 := L_car h hc (by decide)
  obtain ⟨-, P, W, Dd, -, -, -, -, -, d1, d2⟩ := h.2.1
  have d1' : σ 12 j 3 = nI Dd := d1
  have e7 : τ 40 0 11 = nI Dd := (L_set h).2.2.2.1.trans d1
  have g := S_door (S_stops h hc (σ 2 (4 * j + c) 6 + 1)) hc d2
  have u1 := u_41 τ (c := c) (f := 6) (by omega) (by decide) (σ 2 (4 * j + c) 6 + 1)
  have u2 := u_41 (sup τ 41 c 6 (σ 2 (4 * j + c) 6 + 1)) (c := c) (f := 2) (by omega) (by decide) (nI Dd)
  rw [u1] at u2
  have s0 : SQ j σ τ σ (sup (sup τ 41 c 6 (σ 2 (4 * j + c) 6 + 1)) 41 c 2 (nI Dd)) := SQ.l (SQ.l (SQ.rf j σ τ) (by decide) (by decide) _ _ _) (by decide) (by decide) _ _ _
  have I0 : SIL F C K T U j c B (V_ann (vw j σ) M) 0 (σ 2 (4 * j + c) 6 + 1) (nI Dd) σ τ σ (sup (sup τ 41 c 6 (σ 2 (4 * j + c) 6 + 1)) 41 c 2 (nI Dd)) 0 := ⟨M, by rw [u2]; exact g, cb_put (by decide) (cb_put (by decide) hb _ _ _) _ _ _, s0, rfl, rfl, rfl, hM, PG.rf T K _, by rw [pt_put (by decide), pt_put (by decide)]; omega⟩
  obtain ⟨n1, m1, a1, b1, D1, ⟨hD1, I1⟩, p1, p2⟩ := lpL (fun n (a : Sg) k => f_X0_letOff_2 n a j (4 * j + c) (nI k)) (fun n (b : Sg) k => f_L_act_287 n b (nI c) c k (τ 50 1 0)) K (by omega) (fun _ a b D => D = 0 ∧ SIL F C K T U j c B (V_ann (vw j σ) M) 0 (σ 2 (4 * j + c) 6 + 1) (nI Dd) σ τ a b 0) (fun n m k a b D hk hI => by
    obtain ⟨a', b', i1, i2, i3⟩ := l_offStep hI.2 hT hc hk n m
    exact ⟨a', b', 0, ⟨hI.1, i1⟩, i2, by rw [ac_0]; exact i3⟩) ⟨rfl, I0⟩
  subst hD1
  obtain ⟨n2, m2, a2, b2, D2, I2, p3, p4⟩ := lpL (fun n (a : Sg) k => f_X0_makeStop_16 n a j (nI c) (4 * j + c) (nI k)) (fun n (b : Sg) k => f_L_act_363 n b (nI c) c (nI k)) K (by omega) (fun k a b D => SIL F C K T U j c B (V_ann (vw j σ) M) k (σ 2 (4 * j + c) 6 + 1) (nI Dd) σ τ a b D) (fun n m k a b D hk hI => by
    obtain ⟨a', b', d, i1, i2, i3⟩ := l_stopStep hI hT hB hc hk n m
    exact ⟨a', b', d, i1, i2, i3⟩) I1
  obtain ⟨M2, h2, hb2, hS2, h26, h212, hA2, hM2, hG2, hD2⟩ := I2
  obtain ⟨M1, h1, -⟩ := I1
  refine ⟨sup (sup a2 2 (4 * j + c) 6 (σ 2 (4 * j + c) 6 + 1)) 2 (4 * j + c) 2 (nI Dd), b2, 1 + D2, ?_, ?_, M2, ⟨?_, hb2⟩, ?_, ?_, ?_, hG2.trans (PG.of (fun k' _ f hf => by rw [vs_2, vs_2, s_ne (by decide), s_ne (by decide)])), by omega⟩
  · unfold f_X0_makeStop f_X0_letOff
    rw [if_neg (by rw [gN (by omega) (by decide)]; exact id), ni_cl (by omega)]
    have p1' : f_X0_letOff_2 FU σ j (4 * j + c) 0 = f_X0_letOff_2 (n1 + 1) a1 j (4 * j + c) (nI K) := p1
    have p3' : f_X0_makeStop_16 FU a1 j (nI c) (4 * j + c) 0 = f_X0_makeStop_16 (n2 + 1) a2 j (nI c) (4 * j + c) (nI K) := p3
    rw [p1', f_X0_letOff_2_s, zA_K h1, if_pos (by rw [ni_le (by omega) (by omega)]; exact Nat.le_refl K)]
    unfold f_X0_letOff_77
    rw [p_bv, p3', f_X0_makeStop_16_s, zA_K h2, if_pos (by rw [ni_le (by omega) (by omega)]; exact Nat.le_refl K)]
    unfold f_X0_makeStop_97
    rw [p_st, p_st, s_ne (by decide), h26, h212, d1']
  · unfold f_L_act_210
    rw [if_neg (by decide), p_st, p_st, e6', s_ne (by decide), e7, s_ne (by decide), s_ne (by decide)]
    have p2' : f_L_act_287 FU (sup (sup τ 41 c 6 (σ 2 (4 * j + c) 6 + 1)) 41 c 2 (nI Dd)) (nI c) c 0 (τ 50 1 0) = ac 0 (f_L_act_287 (m1 + 1) b1 (nI c) c K (τ 50 1 0)) := p2
    have p4' : f_L_act_363 FU b1 (nI c) c 0 = ac D2 (f_L_act_363 (m2 + 1) b2 (nI c) c (nI K)) := p4
    rw [p2', ac_0, f_L_act_287_s, L_K h1, if_pos (it_y _)]
    unfold f_L_act_360
    rw [p4', ac_ac, f_L_act_363_s, L_K h2, if_pos (by rw [ni_le (by omega) (by omega)]; exact Nat.le_refl K)]
    rfl
  · rw [vs_2, vs_2]
    exact h2
  · exact SQ.c (SQ.c hS2 (O_2 (by omega)) _ _) (O_2 (by omega)) _ _
  · rw [vs_2, vs_2, ← hA2]
    unfold V_ann
    rw [s_ne (by decide), s_ne (by decide)]
  · rw [vs_2, vs_2, show NW (sup (sup (vw j a2) 2 c 6 (σ 2 (4 * j + c) 6 + 1)) 2 c 2 (nI Dd)) K = NW (vw j a2) K from ct_congr (fun i _ => by rw [s_ne (by decide), s_ne (by decide)])]
    exact hM2
theorem l_act (h : LL F C K M T U j σ τ) (hT : T < 400000) (hB : B ≤ 240) (hc : c < C) (hM : M + NW (vw j σ) K ≤ B) :
    ∃ σ' τ' e, f_X0_act σ j (nI c) = some σ' ∧ f_L_act τ (nI c) = some (0, τ', e) ∧ ∃ M', LL F C K M' T U j σ' τ' ∧ SQ j σ τ σ' τ' ∧ V_ann (vw j σ') M' = V_ann (vw j σ) M ∧ M' + NW (vw j σ') K ≤ B ∧ PG T K (vw j σ) (vw j σ') ∧ e + pt τ ≤ pt τ' + 60 := by
  have hC := D_C h.1
  have hK := D_K h.1
  have hF := D_F h.1
  have c0' : τ 41 c 0 = σ 2 (4 * j + c) 0 := L_car h.1 hc (by decide)
  have c2' : τ 41 c 2 = σ 2 (4 * j + c) 2 := L_car h.1 hc (by decide)
  have c3' : τ 41 c 3 = σ 2 (4 * j + c) 3 := L_car h.1 hc (by decide)
  have c5' : τ 41 c 5 = σ 2 (4 * j + c) 5 := L_car h.1 hc (by decide)
  obtain ⟨a, ha, f0⟩ := (h.1.2.2.2.1 c hc).2.1
  obtain ⟨d, hd, f2⟩ := (h.1.2.2.2.1 c hc).2.2.2.1
  have f3 : σ 2 (4 * j + c) 3 = 0 ∨ σ 2 (4 * j + c) 3 = 1 := (h.1.2.2.2.1 c hc).2.2.2.2.1
  have f0' : σ 2 (4 * j + c) 0 = nI a := f0
  have f2' : σ 2 (4 * j + c) 2 = nI d := f2
  unfold f_X0_act f_L_act
  rw [if_neg (show ¬ (nI c < 0 ∨ 4 ≤ (nI c).toNatClampNeg) by rw [gN (by omega) (by decide)]; exact id), ni_cl (show c < 2147483648 by omega), N_C h.1, if_neg (show ¬ (nI c < 0 ∨ C ≤ c) by rw [ni_nn (by omega)]; exact fun q => q.elim id (fun q => by omega)), c3']
  rcases f3 with f3 | f3
  · rw [f3, if_pos (show (0 : Int32) = 0 from rfl), if_pos (show (0 : Int32) = 0 from rfl), c2', f2']
    by_cases w : nI d ≤ 0
    · rw [if_pos w, if_pos w, a_wants h.1 hc, p_bi, l_offs h.1 hc]
      obtain ⟨D1, hD1, eD1⟩ := l_stops h.1 hc
      rw [eD1, ac_ac]
      cases hs : an (W_st (vw j σ) c) K
      · rw [if_pos (show W_b false = 0 from rfl)]
        obtain ⟨g1, i1, i2⟩ := a_goal h.1 hc ha f0
        obtain ⟨g2, i3, i4⟩ := l_goal h.1 hc ha f0
        have e := i2.uniq i4
        subst e
        unfold f_X0_move f_X0_move_36 f_X0_move_50 f_X0_act_59 f_L_act_210
        rw [i1, p_bi, if_pos (show W_b false = 0 from rfl), i3, bq_some]
        rcases i2 with ⟨rfl, -⟩ | ⟨g, hg, rfl, hgS, -⟩
        · rw [if_pos (show (-1 : Int32) < 0 by decide), if_neg (show ¬ (0 : Int32) ≤ -1 by decide)]
          exact ⟨σ, τ, 1 + D1 + (2 + 0), rfl, rfl, M, h, SQ.rf j σ τ, rfl, hM, PG.rf T K _, by omega⟩
        · have hne : g ≠ a := fun q => W_noGoal f0 hs (by rw [q] at hgS; exact hgS)
          have ej := jsig_go g (by omega) a (by omega) hne
          simp (disch := omega) only [ni_nn, ni_cl, p_nle, false_or, if_false, f0', ni_eq, hne, ni_le, p_st, s_nf, c0', c5', ej, ni_ge0, if_true]
          have fin : ∀ a', a' < F → LL F C K M T U j (sup (sup σ 2 (4 * j + c) 0 (nI a')) 2 (4 * j + c) 5 (σ 2 (4 * j + c) 5 + 1)) (sup (sup τ 41 c 0 (nI a')) 41 c 5 (σ 2 (4 * j + c) 5 + 1)) ∧ SQ j σ τ (sup (sup σ 2 (4 * j + c) 0 (nI a')) 2 (4 * j + c) 5 (σ 2 (4 * j + c) 5 + 1)) (sup (sup τ 41 c 0 (nI a')) 41 c 5 (σ 2 (4 * j + c) 5 + 1)) ∧ V_ann (vw j (sup (sup σ 2 (4 * j + c) 0 (nI a')) 2 (4 * j + c) 5 (σ 2 (4 * j + c) 5 + 1))) M = V_ann (vw j σ) M ∧ M + NW (vw j (sup (sup σ 2 (4 * j + c) 0 (nI a')) 2 (4 * j + c) 5 (σ 2 (4 * j + c) 5 + 1))) K ≤ B ∧ PG T K (vw j σ) (vw j (sup (sup σ 2 (4 * j + c) 0 (nI a')) 2 (4 * j + c) 5 (σ 2 (4 * j + c) 5 + 1))) ∧ pt (sup (sup τ 41 c 0 (nI a')) 41 c 5 (σ 2 (4 * j + c) 5 + 1)) = pt τ := by
            intro a' ha'
            have u1 := u_41 τ (c := c) (f := 0) (by omega) (by decide) (nI a')
            have u2 := u_41 (sup τ 41 c 0 (nI a')) (c := c) (f := 5) (by omega) (by decide) (σ 2 (4 * j + c) 5 + 1)
            rw [u1] at u2
            refine ⟨⟨?_, cb_put (by decide) (cb_put (by decide) h.2 _ _ _) _ _ _⟩, SQ.l (SQ.l (SQ.c (SQ.c (SQ.rf j σ τ) (O_2 (by omega)) _ _) (O_2 (by omega)) _ _) (by decide) (by decide) _ _ _) (by decide) (by decide) _ _ _, ?_, ?_, PG.of (fun k' _ f hf => by rw [vs_2, vs_2, s_ne (by decide), s_ne (by decide)]), by rw [pt_put (by decide), pt_put (by decide)]⟩
            · rw [vs_2, vs_2, u2]
              exact S_gone (S_floor h.1 hc ha') hc _
            · rw [vs_2, vs_2]
              unfold V_ann
              rw [s_ne (by decide), s_ne (by decide)]
            · rw [vs_2, vs_2, show NW (sup (sup (vw j σ) 2 c 0 (nI a')) 2 c 5 (σ 2 (4 * j + c) 5 + 1)) K = NW (vw j σ) K from ct_congr (fun i _ => by rw [s_ne (by decide), s_ne (by decide)])]
              exact hM
          by_cases w2 : g ≤ a
          · rw [if_pos w2, if_pos w2, show nI a + -1 = nI (a - 1) from ni_p1 (by omega)]
            obtain ⟨z1, z2, z3, z4, z5, z6⟩ := fin (a - 1) (by omega)
            exact ⟨_, sup (sup τ 41 c 0 (nI (a - 1))) 41 c 5 (σ 2 (4 * j + c) 5 + 1), 1 + D1 + (2 + 0), rfl, rfl, M, z1, z2, z3, z4, z5, by omega⟩
          · rw [if_neg w2, if_neg w2, ni_1]
            obtain ⟨z1, z2, z3, z4, z5, z6⟩ := fin (a + 1) (by omega)
            exact ⟨_, sup (sup τ 41 c 0 (nI (a + 1))) 41 c 5 (σ 2 (4 * j + c) 5 + 1), 1 + D1 + (2 + 0), rfl, rfl, M, z1, z2, z3, z4, z5, by omega⟩
      · rw [if_neg (show ¬ (W_b true = 0) by decide)]
        obtain ⟨σ', τ', e, i1, i2, M', i3, i4, i5, i6, i7, i8⟩ := l_stop h hT hB hc hM
        refine ⟨σ', τ', 1 + D1 + e, ?_, ?_, M', i3, i4, i5, i6, i7, ?_⟩
        · rw [i1]; rfl
        · rw [show W_b true = 1 from rfl, i2, ac_some]
        · omega
    · rw [if_neg w, if_neg w]
      have hd0 : 1 ≤ d := by
        rcases Nat.eq_zero_or_pos d with q | q
        · subst q; exact absurd (show nI 0 ≤ 0 by decide) w
        · exact q
      rw [show nI d - 1 = nI (d - 1) from ni_sub (b := 1) hd0, p_st, p_st]
      have u1 := u_41 τ (c := c) (f := 2) (by omega) (by decide) (nI (d - 1))
      refine ⟨_, sup τ 41 c 2 (nI (d - 1)), 0, rfl, rfl, M, ⟨?_, cb_put (by decide) h.2 _ _ _⟩, SQ.l (SQ.c (SQ.rf j σ τ) (O_2 (by omega)) _ _) (by decide) (by decide) _ _ _, ?_, ?_, PG.of (fun k' _ f hf => by rw [vs_2, s_ne (by decide)]), by rw [pt_put (by decide)]; omega⟩
      · rw [vs_2, u1]
        exact S_door h.1 hc (by omega)
      · rw [vs_2]
        unfold V_ann
        rw [s_ne (by decide)]
      · rw [vs_2, show NW (sup (vw j σ) 2 c 2 (nI (d - 1))) K = NW (vw j σ) K from ct_congr (fun i _ => by rw [s_ne (by decide)])]
        exact hM
  · rw [f3, if_neg (show ¬ ((1 : Int32) = 0) by decide), if_neg (show ¬ ((1 : Int32) = 0) by decide)]
    exact ⟨σ, τ, 0, rfl, rfl, M, h, SQ.rf j σ τ, rfl, hM, PG.rf T K _, by omega⟩
end TK
