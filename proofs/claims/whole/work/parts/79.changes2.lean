/-! set, forget, makeCall -/
theorem E1_forget : E_forget RelN := by
  intro nn σ ρ v1 v2 hn hR
  obtain ⟨⟨F, C, K, M, T, hC1, hT, hL⟩, -⟩ := id hR
  have dC := D_C hL.1
  have dK := D_K hL.1
  have hLr : LV F C K M T (vw 0 σ) ((sup ρ 8 0 8 0) 30 0) := by rw [s_30]; exact hL
  rcases x_idx v1 (show C < 2147483648 by omega) with ⟨c, hc, rfl⟩ | hb
  · rcases x_idx v2 (show K < 2147483648 by omega) with ⟨k, hk, rfl⟩ | hb
    · have hd := b_doesH hLr.1 hc hk
      have g4 : ¬ (nI c < 0 ∨ 4 ≤ (nI c).toNatClampNeg) := by rw [gN (by omega) (by decide)]; exact id
      cases hb : bt (vw 0 σ 2 c 8) k
      · rw [hb] at hd
        refine ⟨(3, 0, σ), 0, sup ρ 8 0 8 2, ?_, Or.inr (Or.inr rfl), ?_, hR.thr 2, s_thr ρ 2, fun h => absurd (show (3 : Nat) = 0 from h) (by decide)⟩
        · unfold f_X7_forget
          rw [x_car0 (A_C hL.1) dC hc, p_bx0, x_call0 (A_K hL.1) dK hk, p_bx0, if_neg g4, ni_cl (show c < 2147483648 by omega), a_isH σ _ (show k < 32 by omega), show bt (σ 2 (4 * 0 + c) 8) k = false from hb, p_bi, if_pos (show W_b false = 0 from rfl)]
        · unfold f_X8_forget f_X8_forget_24 f_X8_forget_31
          rw [y_np0 (B_C hL.1) dC hc (B_K hL.1) dK hk, p_bi, if_pos rfl, hd, p_bi, if_pos (show W_b false = 0 from rfl), x_f1, p_bi, if_neg (by decide), s_ss]
      · rw [hb] at hd
        obtain ⟨σ1, ρ1, a1, a2, a3, a4, a5⟩ := t_remember (hR.cut 0) hLr hT hC1
        obtain ⟨σ2, ρ2, b1, b2, b3, b4, b5⟩ := t_report a3.1 hc hk (nI c) 0
        have an' : V_ann (vw 0 σ2) M ≤ K := by
          unfold V_ann
          rw [b5 21 (by decide) (by decide)]
          exact a3.2
        refine ⟨(0, nI (ct (bt (vw 0 σ2 2 c 8)) 32), σ2), nI (ct (bt (vw 0 σ2 2 c 8)) 32), ρ2, ?_, Or.inl rfl, ?_, ⟨⟨F, C, K, M, T, hC1, by omega, b3, an'⟩, (a4.st b4.st (by decide)).up⟩, ?_, fun _ => rfl⟩
        · unfold f_X7_forget
          rw [x_car0 (A_C hL.1) dC hc, p_bx0, x_call0 (A_K hL.1) dK hk, p_bx0, if_neg g4, ni_cl (show c < 2147483648 by omega), a_isH σ _ (show k < 32 by omega), show bt (σ 2 (4 * 0 + c) 8) k = true from hb, p_bi, if_neg (show ¬ W_b true = 0 by decide), a1, p_bv]
          rw [if_neg (show ¬ (nI c < 0 ∨ 4 ≤ c) by rw [ni_nn (by omega)]; exact fun q => q.elim id (fun q => by omega)), b1, p_bv, if_neg (show ¬ (nI c < 0 ∨ 4 ≤ c) by rw [ni_nn (by omega)]; exact fun q => q.elim id (fun q => by omega)), c_cnt, p_bi]
          rfl
        · unfold f_X8_forget f_X8_forget_24 f_X8_forget_31
          rw [y_np0 (B_C hL.1) dC hc (B_K hL.1) dK hk, p_bi, if_pos rfl, hd, p_bi, if_neg (show ¬ W_b true = 0 by decide), x_f0, p_bi, if_pos rfl, a2, p_bv, b2, p_bv, b_heldM b3 hc, p_bi]
        · rw [b4.2 8 (by decide), a5, s_thr]
          rfl
    · refine ⟨(1, 0, σ), 0, sup ρ 8 0 8 1, ?_, Or.inr (Or.inl rfl), ?_, hR.thr 1, s_thr ρ 1, fun h => absurd (show (1 : Nat) = 0 from h) (by decide)⟩
      · unfold f_X7_forget
        rw [x_car0 (A_C hL.1) dC hc, p_bx0, x_call1 (A_K hL.1) hb]
        rfl
      · unfold f_X8_forget f_X8_forget_31
        rw [y_np2 (B_C hL.1) dC hc (B_K hL.1) dK hb, p_bi, if_neg (by decide)]
  · refine ⟨(1, 0, σ), 0, sup ρ 8 0 8 1, ?_, Or.inr (Or.inl rfl), ?_, hR.thr 1, s_thr ρ 1, fun h => absurd (show (1 : Nat) = 0 from h) (by decide)⟩
    · unfold f_X7_forget
      rw [x_car1 (A_C hL.1) hb]
      rfl
    · unfold f_X8_forget f_X8_forget_31
      rw [y_np1 (B_C hL.1) dC hb, p_bi, if_neg (by decide)]
def l_lo (w : Nat) : Nat := if w = 1 then 3 else if w = 4 then 1 else 0
def l_hi (w : Nat) : Nat := if w = 0 then 90 else if w = 1 then 50 else if w = 2 then 20 else if w = 3 then 5 else 999
theorem st_lo : ∀ w, w < 5 → stab 0 w = nI (l_lo w) := by decide
theorem st_hi : ∀ w, w < 5 → stab 1 w = nI (l_hi w) := by decide
theorem m_lo (ρ : Sg) : ∀ w, w < 5 → f_X8_least ρ (nI w) = some (nI (l_lo w), ρ) := by
  intro w hw
  unfold f_X8_least f_X8_least_19
  rcases (show w = 0 ∨ w = 1 ∨ w = 2 ∨ w = 3 ∨ w = 4 by omega) with rfl | rfl | rfl | rfl | rfl <;> rfl
theorem m_hi (ρ : Sg) : ∀ w, w < 5 → f_X8_most ρ (nI w) = some (nI (l_hi w), ρ) := by
  intro w hw
  unfold f_X8_most f_X8_most_41
  rcases (show w = 0 ∨ w = 1 ∨ w = 2 ∨ w = 3 ∨ w = 4 by omega) with rfl | rfl | rfl | rfl | rfl <;> rfl
theorem E1_set : E_set RelN := by
  intro nn σ ρ v1 v2 hn hR
  obtain ⟨⟨F, C, K, M, T, hC1, hT, hL⟩, -⟩ := id hR
  have hLr : LV F C K M T (vw 0 σ) ((sup ρ 8 0 8 0) 30 0) := by rw [s_30]; exact hL
  have bad2 : f_X8_set_35 (sup ρ 8 0 8 0) v1 v2 1 = some (0, sup ρ 8 0 8 1) := by
    unfold f_X8_set_35
    rw [x_f1, p_bi, if_neg (by decide), s_ss]
  rcases x_rng v1 4 (by decide) with ⟨w, hw, rfl⟩ | hb
  · have g0 : ¬ (nI w < 0) := by rw [ni_nn (by omega)]; exact id
    have g1 : ¬ ((4 : Int32) < nI w) := by rw [show (4 : Int32) = nI 4 from rfl, ni_lt (by omega) (by omega)]; omega
    have g5 : ¬ (nI w < 0 ∨ 5 ≤ (nI w).toNatClampNeg) := by rw [gN (by omega) (by decide)]; exact id
    by_cases hv : v2 < nI (l_lo w) ∨ nI (l_hi w) < v2
    · refine ⟨(2, 0, σ), 0, sup ρ 8 0 8 1, ?_, Or.inr rfl, ?_, hR.thr 1, s_thr ρ 1, fun h => absurd (show (2 : Nat) = 0 from h) (by decide)⟩
      · unfold f_X7_set
        rw [x_rg0 g0 g1, p_bx0, if_neg g5, if_neg g5, ni_cl (show w < 2147483648 by omega), st_lo w (by omega), st_hi w (by omega), x_rg1 hv]
        rfl
      · unfold f_X8_set f_X8_set_30
        rw [p_st, x_in1 _ g0 g1, p_bi, if_neg (by decide), m_lo _ w (by omega), p_bi, m_hi _ w (by omega), p_bi, x_in0 _ hv, p_bi, if_pos rfl]
        exact bad2
    · have hv1 : ¬ v2 < nI (l_lo w) := fun q => hv (Or.inl q)
      have hv2 : ¬ nI (l_hi w) < v2 := fun q => hv (Or.inr q)
      have hlo : l_lo w ≤ 3 := by unfold l_lo; split; decide; split <;> decide
      have hhi : l_hi w ≤ 999 := by unfold l_hi; split; decide; split; decide; split; decide; split <;> decide
      obtain ⟨y, hy, rfl⟩ : ∃ y, y < 2147483648 ∧ v2 = nI y := by
        refine ni_of ?_
        rw [Int32.lt_iff_toInt_lt, ni_int (by omega)] at hv1
        omega
      rw [ni_lt (by omega) (by omega)] at hv1 hv2
      obtain ⟨σ1, ρ1, a1, a2, a3, a4, a5⟩ := t_remember (hR.cut 0) hLr hT hC1
      have e4 : ρ1 30 0 (4 + w) = σ1 12 0 w := a3.1.2.1.1 w (by omega)
      have g := S_set a3.1 (w := w) (y := y) (by omega) (fun q => by subst q; have z1 : l_lo 1 = 3 := rfl; have z2 : l_hi 1 = 50 := rfl; omega) (fun q => by subst q; have z2 : l_hi 2 = 20 := rfl; omega) (fun q => by subst q; have z2 : l_hi 3 = 5 := rfl; omega)
      rw [← vs_12, ← s_ru] at g
      have sp : SP 0 σ1 ρ1 (sup σ1 12 0 w (nI y)) (sup ρ1 30 0 (4 + w) (nI y)) := SP.r (SP.c (SP.rf 0 σ1 ρ1) (show Own 0 12 0 from (rfl : 0 = 0)) _ _) _ _
      have an' : V_ann (vw 0 (sup σ1 12 0 w (nI y))) M ≤ K := by
        rw [vs_12]
        unfold V_ann
        rw [s_ne (by decide)]
        exact a3.2
      refine ⟨(0, σ1 12 0 w, sup σ1 12 0 w (nI y)), σ1 12 0 w, sup ρ1 30 0 (4 + w) (nI y), ?_, Or.inl rfl, ?_, ⟨⟨F, C, K, M, T, hC1, by omega, g, an'⟩, (a4.st sp.st (by decide)).up⟩, ?_, fun _ => rfl⟩
      · unfold f_X7_set
        rw [x_rg0 g0 g1, p_bx0, if_neg g5, if_neg g5, ni_cl (show w < 2147483648 by omega), st_lo w (by omega), st_hi w (by omega), x_rg0 (by rw [ni_lt (by omega) (by omega)]; exact hv1) (by rw [ni_lt (by omega) (by omega)]; exact hv2), p_bx0, a1, p_bv]
        simp (disch := omega) only [ni_nn, p_nle, false_or, if_false, p_st]
      · unfold f_X8_set f_X8_set_35
        rw [p_st, x_in1 _ g0 g1, p_bi, if_neg (by decide), m_lo _ w (by omega), p_bi, m_hi _ w (by omega), p_bi, x_in1 _ (by rw [ni_lt (by omega) (by omega)]; exact hv1) (by rw [ni_lt (by omega) (by omega)]; exact hv2), p_bi, if_neg (by decide), x_f0, p_bi, if_pos rfl, a2, p_bv]
        simp (disch := omega) only [l_4, ni_nn, ni_cl, p_nle, false_or, if_false, p_st, e4]
      · rw [sp.2 8 (by decide), a5, s_thr]
        rfl
  · refine ⟨(2, 0, σ), 0, sup ρ 8 0 8 1, ?_, Or.inr rfl, ?_, hR.thr 1, s_thr ρ 1, fun h => absurd (show (2 : Nat) = 0 from h) (by decide)⟩
    · unfold f_X7_set
      rw [x_rg1 (show v1 < 0 ∨ (4 : Int32) < v1 from hb)]
      rfl
    · unfold f_X8_set f_X8_set_30
      rw [p_st, x_in0 _ (show v1 < 0 ∨ (4 : Int32) < v1 from hb), p_bi, if_pos rfl]
      exact bad2
section CH
variable {F C K M T U j : Nat} {σ ρ v v' : Sg} {r r' : Nat → Int32}
theorem x_way (h : LU F C K M T U (vw 0 σ) (ρ 30 0)) (v1 v2 : Int32) : (∃ a b, a < F ∧ b < F ∧ a ≠ b ∧ v1 = nI a ∧ v2 = nI b ∧ f_X7_checkWay σ v1 v2 = some (0, 0, σ) ∧ f_X8_badRide ρ v1 v2 = some (0, sup ρ 8 0 8 0)) ∨ (f_X7_checkWay σ v1 v2 = some (2, 0, σ) ∧ f_X8_badRide ρ v1 v2 = some (1, sup ρ 8 0 8 1)) := by
  have dF := D_F h
  have dF2 := D_F2 h
  have rF : (sup ρ 8 0 8 0) 30 0 0 = nI F := by rw [s_30]; exact B_F h
  rcases x_idx v1 (show F < 2147483648 by omega) with ⟨a, ha, rfl⟩ | hb
  · rcases x_idx v2 (show F < 2147483648 by omega) with ⟨b, hb, rfl⟩ | hb
    · by_cases w : a = b
      · subst w
        refine Or.inr ⟨?_, ?_⟩
        · unfold f_X7_checkWay
          rw [x_floor0 (A_F h) dF ha, p_bx0, x_floor0 (A_F h) dF ha, p_bx0, if_pos rfl]
        · unfold f_X8_badRide f_X8_badRide_43 f_X8_badRide_48
          rw [p_st, rF, x_in1 _ (x_m1 ha (by omega)).1 (x_m1 ha (by omega)).2, p_bi, if_neg (by decide), rF, x_in1 _ (x_m1 ha (by omega)).1 (x_m1 ha (by omega)).2, p_bi, if_neg (by decide), if_pos rfl, x_f1, p_bi, if_neg (by decide), s_ss]
      · refine Or.inl ⟨a, b, ha, hb, w, rfl, rfl, ?_, ?_⟩
        · unfold f_X7_checkWay
          rw [x_floor0 (A_F h) dF ha, p_bx0, x_floor0 (A_F h) dF hb, p_bx0, if_neg (by rw [ni_eq (by omega) (by omega)]; exact w)]
        · unfold f_X8_badRide f_X8_badRide_48
          rw [p_st, rF, x_in1 _ (x_m1 ha (by omega)).1 (x_m1 ha (by omega)).2, p_bi, if_neg (by decide), rF, x_in1 _ (x_m1 hb (by omega)).1 (x_m1 hb (by omega)).2, p_bi, if_neg (by decide), if_neg (by rw [ni_eq (by omega) (by omega)]; exact w), x_f0, p_bi]
          rfl
    · refine Or.inr ⟨?_, ?_⟩
      · unfold f_X7_checkWay
        rw [x_floor0 (A_F h) dF ha, p_bx0, x_floor1 (A_F h) hb]
        rfl
      · unfold f_X8_badRide f_X8_badRide_43 f_X8_badRide_48
        rw [p_st, rF, x_in1 _ (x_m1 ha (by omega)).1 (x_m1 ha (by omega)).2, p_bi, if_neg (by decide), rF, x_in0 _ (x_m hb (by omega)), p_bi, if_pos rfl, x_f1, p_bi, if_neg (by decide), s_ss]
  · refine Or.inr ⟨?_, ?_⟩
    · unfold f_X7_checkWay
      rw [x_floor1 (A_F h) hb]
      rfl
    · unfold f_X8_badRide f_X8_badRide_43 f_X8_badRide_48
      rw [p_st, rF, x_in0 _ (x_m hb (by omega)), p_bi, if_pos rfl, x_f1, p_bi, if_neg (by decide), s_ss]
/-- a call more: the cells -/
theorem S_call (h : LU F C K M T U v r) (hK : K < 24) {a b m : Nat} (ha : a < F) (hb : b < F) (hab : a ≠ b) (hm : m ≤ 400000)
    (hv : ∀ k o i, ¬ (k = 1 ∧ o = K) → ¬ (k = 4 ∧ i = 2) → v' k o i = v k o i) (v2 : v' 4 0 2 = nI (K + 1))
    (v10 : v' 1 K 0 = nI a ∧ v' 1 K 1 = nI b ∧ v' 1 K 2 = nI m ∧ v' 1 K 3 = 0 ∧ v' 1 K 4 = -1 ∧ v' 1 K 5 = -1 ∧ v' 1 K 6 = -1 ∧ v' 1 K 7 = 0 ∧ v' 1 K 8 = -1 ∧ v' 1 K 10 = -1)
    (r2 : r' 2 = nI (K + 1)) (rc : r' (55 + K) = nI a ∧ r' (79 + K) = nI b ∧ r' (103 + K) = nI m ∧ r' (127 + K) = 0 ∧ r' (151 + K) = -1 ∧ r' (175 + K) = -1 ∧ r' (199 + K) = -1 ∧ r' (223 + K) = 0 ∧ r' (247 + K) = -1 ∧ r' (295 + K) = -1)
    (rk : ∀ c, c < 4 → r' (319 + 24 * c + K) = 0 ∧ r' (511 + 24 * c + K) = -1 ∧ r' (607 + 24 * c + K) = 0 ∧ ∀ q, q < 4 → r' (703 + 4 * (24 * c + K) + q) = -1)
    (hr : ∀ i, i ≠ 2 → (∀ f, f < 11 → i ≠ 55 + 24 * f + K) → (∀ c, c < 4 → i ≠ 319 + 24 * c + K ∧ i ≠ 415 + 24 * c + K ∧ i ≠ 511 + 24 * c + K ∧ i ≠ 607 + 24 * c + K ∧ ¬ (703 + 4 * (24 * c + K) ≤ i ∧ i < 703 + 4 * (24 * c + K) + 4)) → r' i = r i) : LU F C (K + 1) M T U v' r' := by
  have dC := D_C h
  have dM := D_M h
  have hr1 : ∀ i, i < 55 → i ≠ 2 → r' i = r i := fun i h1 h2 => hr i h2 (fun f _ => by omega) (fun c _ => by omega)
  have hr9 : ∀ i, 1087 ≤ i → r' i = r i := fun i h1 => hr i (by omega) (fun f _ => by omega) (fun c _ => by omega)
  have hrk : ∀ f k, f < 11 → k < K → r' (55 + 24 * f + k) = r (55 + 24 * f + k) := fun f k h1 h2 => hr _ (by omega) (fun f' _ => by omega) (fun c _ => by omega)
  obtain ⟨h1, h2, h3, h4, h5, h6, h7, h8, h9, h10⟩ := h
  refine ⟨?_, V_set.ext h2 (fun _ => hv _ _ _ (by omega) (by omega)) (fun i h1 h2 => hr1 i (by omega) (by omega)), V_cnt.ext h3 (fun _ => hv _ _ _ (by omega) (by omega)) (fun _ => hv _ _ _ (by omega) (by omega)) (fun _ => hv _ _ _ (by omega) (by omega)) (fun i h1 h2 => hr1 i (by omega) (by omega)), V_car.ext h4 dC (fun _ f hf => hv _ _ _ (by omega) (by omega)) (fun i h1 h2 => hr1 i (by omega) (by omega)), ?_, ?_, ?_, ?_, ?_, ?_⟩
  · obtain ⟨a1, a2, a3, a4, a5, a6, a7, a8, a9, a10, a11, a12, a13, a14, a15, a16⟩ := h1
    exact ⟨(hv 4 0 0 (by omega) (by omega)).trans a1, (hv 4 0 1 (by omega) (by omega)).trans a2, v2, (hv 4 0 3 (by omega) (by omega)).trans a4, (hv 5 0 0 (by omega) (by omega)).trans a5, (hr1 0 (by omega) (by omega)).trans a6, (hr1 1 (by omega) (by omega)).trans a7, r2, (hr1 3 (by omega) (by omega)).trans a9, (hr1 10 (by omega) (by omega)).trans a10, ((hr1 9 (by omega) (by omega)).trans a11).trans (hv 4 0 4 (by omega) (by omega)).symm, a12, a13, a14, by omega, a16⟩
  · intro k hk
    by_cases w : k = K
    · subst w
      obtain ⟨x0, x1, x2, x3, x4, x5, x6, x7, x8, x10⟩ := v10
      obtain ⟨y0, y1, y2, y3, y4, y5, y6, y7, y8, y10⟩ := rc
      refine ⟨fun f hf h9 => ?_, fun q => absurd x8 q, ⟨a, b, ha, hb, hab, x0, x1⟩, ⟨m, 0, hm, by decide, x2, x3, fun q => absurd q (by decide), fun q => absurd q (by decide), fun _ => x10⟩, Or.inl x8, Or.inl x10⟩
      rcases (show f = 0 ∨ f = 1 ∨ f = 2 ∨ f = 3 ∨ f = 4 ∨ f = 5 ∨ f = 6 ∨ f = 7 ∨ f = 8 ∨ f = 10 by omega) with rfl | rfl | rfl | rfl | rfl | rfl | rfl | rfl | rfl | rfl
      · exact y0.trans x0.symm
      · exact y1.trans x1.symm
      · exact y2.trans x2.symm
      · exact y3.trans x3.symm
      · exact y4.trans x4.symm
      · exact y5.trans x5.symm
      · exact y6.trans x6.symm
      · exact y7.trans x7.symm
      · exact y8.trans x8.symm
      · exact y10.trans x10.symm
    · have hkK : k < K := by omega
      obtain ⟨a1, b1, c1, d1, e1, f1⟩ := h5 k hkK
      have z : ∀ f, v' 1 k f = v 1 k f := fun f => hv 1 k f (by omega) (by omega)
      refine ⟨fun f hf h9 => by rw [z f, hrk f k hf hkK]; exact a1 f hf h9, fun q => ?_, ?_, ?_, ?_, ?_⟩
      · rw [z 9, show 271 + k = 55 + 24 * 9 + k by omega, hrk 9 k (by decide) hkK, show 55 + 24 * 9 + k = 271 + k by omega]
        exact b1 (by rw [← z 8]; exact q)
      · rw [z 0, z 1]; exact c1
      · unfold V_time at d1 ⊢
        rw [z 2, z 3, z 5, z 10]; exact d1
      · rw [z 8]; exact e1
      · rw [z 10]; exact f1
  · intro c hc
    obtain ⟨a1, b1⟩ := h6 c hc
    rw [hv 2 c 8 (by omega) (by omega)]
    refine ⟨fun k hk => ?_, fun k hk => b1 k (by omega)⟩
    by_cases w : k = K
    · subst w
      rw [(rk c (by omega)).1, b1 k (Nat.le_refl k)]
      rfl
    · rw [hr _ (by omega) (fun f hf => by omega) (fun c' hc' => by omega)]
      exact a1 k (by omega)
  · intro c hc k
    rw [hv 2 c 9 (by omega) (by omega), h7 c hc k]
    by_cases w : k = K
    · subst w
      rw [decide_eq_false (fun q => absurd q.1 (Nat.lt_irrefl k)), decide_eq_false (fun q => absurd (v10.2.2.2.1.symm.trans q.2.1) (by decide))]
    · rw [hv 1 k 3 (by omega) (by omega), hv 1 k 4 (by omega) (by omega)]
      exact decide_eq_decide.mpr ⟨fun q => ⟨by omega, q.2⟩, fun q => ⟨by omega, q.2⟩⟩
  · intro c hc k hk
    have z16 : ∀ k i, k ≠ 1 → k ≠ 4 → v' k c i = v k c i := fun k i h1 h2 => hv k c i (by omega) (by omega)
    by_cases w : k = K
    · subst w
      obtain ⟨a1, b1, d1⟩ := h9 c hc k (Nat.le_refl k) hK
      obtain ⟨y0, y1, y2, y3⟩ := rk c (by omega)
      refine ⟨?_, fun q hq => ?_, fun t ht => ?_, fun q => ?_, ?_, fun q hq => ?_⟩
      · rw [z16 17 k (by decide) (by decide), y1, a1]
      · rw [z16 18 _ (by decide) (by decide), y3 q hq, b1 q hq]
      · rw [z16 19 t (by decide) (by decide), y2, d1 t ht, b_0]
      · rw [z16 2 8 (by decide) (by decide), z16 17 k (by decide) (by decide), (h6 c hc).2 k (Nat.le_refl k), a1] at q
        rcases q with q | q
        · exact absurd q (by decide)
        · exact absurd rfl q
      · rw [z16 17 k (by decide) (by decide)]; exact Or.inl a1
      · rw [z16 18 _ (by decide) (by decide)]; exact Or.inl (b1 q hq)
    · have hkK : k < K := by omega
      obtain ⟨a1, b1, d1, e1, f1, g1⟩ := h8 c hc k hkK
      have zr : ∀ B, (B = 415 ∨ B = 511 ∨ B = 607) → r' (B + 24 * c + k) = r (B + 24 * c + k) := fun B hB => hr _ (by omega) (fun f hf => by omega) (fun c' hc' => by omega)
      refine ⟨?_, fun q hq => ?_, fun t ht => ?_, fun q => ?_, ?_, fun q hq => ?_⟩
      · rw [z16 17 k (by decide) (by decide), zr 511 (by decide)]; exact a1
      · rw [z16 18 _ (by decide) (by decide), hr _ (by omega) (fun f hf => by omega) (fun c' hc' => by omega)]; exact b1 q hq
      · rw [z16 19 t (by decide) (by decide), zr 607 (by decide)]; exact d1 t ht
      · rw [z16 2 8 (by decide) (by decide), z16 17 k (by decide) (by decide)] at q
        rw [z16 16 k (by decide) (by decide), zr 415 (by decide)]; exact e1 q
      · rw [z16 17 k (by decide) (by decide)]; exact f1
      · rw [z16 18 _ (by decide) (by decide)]; exact g1 q hq
  · intro c hc k hk hk2
    obtain ⟨a1, b1, d1⟩ := h9 c hc k (by omega) hk2
    refine ⟨?_, fun q hq => ?_, fun t ht => ?_⟩
    · rw [hv 17 c k (by omega) (by omega)]; exact a1
    · rw [hv 18 c _ (by omega) (by omega)]; exact b1 q hq
    · rw [hv 19 c t (by omega) (by omega)]; exact d1 t ht
  · intro i hi
    obtain ⟨e1, e2, e3, e4, ⟨k, hk, e5⟩, e6, e7⟩ := h10 i hi
    rw [hv 20 0 i (by omega) (by omega), hv 21 0 i (by omega) (by omega), hv 22 0 i (by omega) (by omega), hv 23 0 i (by omega) (by omega), hr9 _ (by omega), hr9 _ (by omega), hr9 _ (by omega), hr9 _ (by omega)]
    exact ⟨e1, e2, e3, e4, ⟨k, by omega, e5⟩, e6, e7⟩
end CH
