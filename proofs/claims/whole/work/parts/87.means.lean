/-! readers: not a NaN; means and shares -/
theorem n_ok64 {x : UInt64} (h : FP.Core.dIsNaN x = false) : vf_n64 x := by
  have h1 : ¬ 9218868437227405312 < x.toNat % 2 ^ 63 := fun q => by
    rw [(FP.Core.isNaN_bits x).mpr q] at h
    exact absurd h (by decide)
  unfold vf_n64
  rw [UInt64.le_iff_toNat_le, UInt64.toNat_and, show (0x7fffffffffffffff : UInt64).toNat = 2 ^ 63 - 1 from rfl, Nat.and_two_pow_sub_one_eq_mod, show (0x7ff0000000000000 : UInt64).toNat = 9218868437227405312 from rfl]
  omega
theorem n_ok32 {x : UInt32} (h : FP.Core.fIsNaN x = false) : vf_n32 x := by
  have h1 : ¬ 2139095040 < x.toNat % 2 ^ 31 := fun q => by
    rw [(FP.Core.isNaN_bits32 x).mpr q] at h
    exact absurd h (by decide)
  unfold vf_n32
  rw [UInt32.le_iff_toNat_le, UInt32.toNat_and, show (0x7fffffff : UInt32).toNat = 2 ^ 31 - 1 from rfl, Nat.and_two_pow_sub_one_eq_mod, show (0x7f800000 : UInt32).toNat = 2139095040 from rfl]
  omega
theorem n_dd {a b : Int32} (hb : b ≠ 0) : FP.Core.dIsNaN (FP.ddiv (FP.i2d a) (FP.i2d b)) = false := FP.Core.ddiv_out (FP.Core.DFin.notNaN (FP.Core.i2d_fin a)) (FP.Core.i2d_fin b) (fun q => FP.Core.i2d_ne_zero hb ((FP.Core.zero_bits2 _).mp q))
theorem n_ff {a b : Int32} (hb : b ≠ 0) : FP.Core.fIsNaN (FP.fdiv (FP.i2f a) (FP.i2f b)) = false := FP.Core.fdiv_out (FP.Core.FFin.notNaN (FP.Core.i2f_fin a)) (FP.Core.i2f_fin b) (fun q => FP.Core.i2f_ne_zero hb ((FP.Core.zero_bits232 _).mp q))
theorem n_g {a b : Int32} (hb : b ≠ 0) : ¬ ¬ ((FP.ddiv (FP.i2d a) (FP.i2d b)) &&& 0x7fffffffffffffff ≤ 0x7ff0000000000000) := fun q => q (n_ok64 (n_dd hb))
theorem n_gf {a b : Int32} (hb : b ≠ 0) : ¬ ¬ ((FP.fdiv (FP.i2f a) (FP.i2f b)) &&& 0x7fffffff ≤ 0x7f800000) := fun q => q (n_ok32 (n_ff hb))
theorem lt2_le {x : Int32} : (¬ x < 2) = (2 ≤ x) := propext Int32.not_lt
theorem E1_meanWait : E_meanWait RelN := by
  intro nn σ ρ hn hR
  obtain ⟨⟨F, C, K, M, T, hC1, hT, hL⟩, -⟩ := id hR
  have h1 := hL.1
  have h2 : LU F C K M T T (vw 0 σ) ((sup ρ 8 0 8 0) 30 0) := h1.thr 0
  have dK := D_K h1
  obtain ⟨r1, r2, i1, i2, x, rfl, rfl⟩ := lpTF (fun n (a : Int32 × Int32) i => f_X7_meanWait_6 n σ a.1 a.2 i) (fun n (a : Int32 × Int32) i => f_X8_meanWait_11 n (sup ρ 8 0 8 0) a.1 a.2 i) K (by omega) (fun _ a b => a = b) (fun r1 r2 => ∃ x, r1 = (x, σ) ∧ r2 = (x, sup ρ 8 0 8 0)) (by
    rintro n m k a b hk rfl
    obtain ⟨-, -, -, e3, -⟩ := B_call h2 hk
    have e3' : (sup ρ 8 0 8 0) 30 0 (127 + k) = σ 1 (24 * 0 + k) 3 := e3
    refine Or.inl ?_
    simp (disch := omega) only [f_X7_meanWait_6_s, f_X8_meanWait_11_s, f_X7_meanWait_47, f_X8_meanWait_48, A_K h1, B_K h2, ni_le, p_nle, if_false, ni_nn, ni_cl, false_or, a_wait h1 hk, b_wait h2 hk, p_bi, ni_1, l_127, e3']
    by_cases w : σ 1 (24 * 0 + k) 3 < 2
    · rw [if_pos w, if_neg (Int32.not_le.mpr w)]
      exact ⟨a, a, rfl, rfl, rfl⟩
    · rw [if_neg w, if_pos (Int32.not_lt.mp w)]
      exact ⟨(a.1 + W_wait (vw 0 σ) k, a.2 + 1), _, rfl, rfl, rfl⟩) (by
    rintro n m a b rfl
    simp (disch := omega) only [f_X7_meanWait_6_s, f_X8_meanWait_11_s, A_K h1, B_K h2, ni_le, Nat.le_refl, if_true, f_X7_meanWait_53, f_X8_meanWait_54, f_X7_meanWait_66, f_X8_meanWait_67]
    by_cases w : a.2 = 0
    · rw [if_pos w, if_pos w]
      exact ⟨_, _, rfl, rfl, _, rfl, rfl⟩
    · rw [if_neg w, if_neg w, if_neg (n_g w), if_neg (n_g w)]
      exact ⟨_, _, rfl, rfl, _, rfl, rfl⟩) (a := (0, 0)) (b := (0, 0)) rfl
  exact ⟨x, σ, _, i1, (by unfold f_X8_meanWait; rw [p_st]; exact i2), hR.thr 0⟩
theorem E1_meanRide : E_meanRide RelN := by
  intro nn σ ρ hn hR
  obtain ⟨⟨F, C, K, M, T, hC1, hT, hL⟩, -⟩ := id hR
  have h1 := hL.1
  have h2 : LU F C K M T T (vw 0 σ) ((sup ρ 8 0 8 0) 30 0) := h1.thr 0
  have dK := D_K h1
  obtain ⟨r1, r2, i1, i2, x, rfl, rfl⟩ := lpTF (fun n (a : Int32 × Int32) i => f_X7_meanRide_6 n σ a.1 a.2 i) (fun n (a : Int32) i => f_X8_meanRide_9 n (sup ρ 8 0 8 0) a i) K (by omega) (fun k a b => a.1 = b ∧ a.2 = fo (fun q (y : Int32) => if vw 0 σ 1 q 3 = 3 then y + 1 else y) k 0) (fun r1 r2 => ∃ x, r1 = (x, σ) ∧ r2 = (x, sup ρ 8 0 8 0)) (by
    rintro n m k ⟨a, c⟩ b hk ⟨rfl, hc⟩
    obtain ⟨-, -, -, e3, -, e5, e6, -⟩ := B_call h2 hk
    have e3' : (sup ρ 8 0 8 0) 30 0 (127 + k) = σ 1 (24 * 0 + k) 3 := e3
    have e5' : (sup ρ 8 0 8 0) 30 0 (175 + k) = σ 1 (24 * 0 + k) 5 := e5
    have e6' : (sup ρ 8 0 8 0) 30 0 (199 + k) = σ 1 (24 * 0 + k) 6 := e6
    dsimp only at hc ⊢
    refine Or.inl ?_
    simp (disch := omega) only [f_X7_meanRide_6_s, f_X8_meanRide_9_s, f_X7_meanRide_54, f_X8_meanRide_58, A_K h1, B_K h2, ni_le, p_nle, if_false, ni_nn, ni_cl, false_or, ni_1, l_127, l_199, l_175, e3', e5', e6']
    by_cases w : σ 1 (24 * 0 + k) 3 = 3
    · rw [if_pos w, if_pos w]
      refine ⟨(a + (σ 1 (24 * 0 + k) 6 - σ 1 (24 * 0 + k) 5), c + 1), _, ⟨rfl, ?_⟩, rfl, rfl⟩
      show c + 1 = if vw 0 σ 1 k 3 = 3 then _ else _
      rw [if_pos (show vw 0 σ 1 k 3 = 3 from w), ← hc]
    · rw [if_neg w, if_neg w, Int32.add_zero]
      refine ⟨(a, c), _, ⟨rfl, ?_⟩, rfl, rfl⟩
      show c = if vw 0 σ 1 k 3 = 3 then _ else _
      rw [if_neg (show ¬ vw 0 σ 1 k 3 = 3 from w), ← hc]) (by
    rintro n m ⟨a, c⟩ b ⟨rfl, hc⟩
    dsimp only at hc ⊢
    have hc' : c = W_cnt (vw 0 σ) K 3 := hc
    simp (disch := omega) only [f_X7_meanRide_6_s, f_X8_meanRide_9_s, A_K h1, B_K h2, ni_le, Nat.le_refl, if_true, f_X7_meanRide_60, f_X8_meanRide_66, f_X7_meanRide_73, f_X8_meanRide_85, b_cnt h2, p_bi, hc']
    by_cases w : W_cnt (vw 0 σ) K 3 = 0
    · rw [if_pos w, if_pos w]
      exact ⟨_, _, rfl, rfl, _, rfl, rfl⟩
    · rw [if_neg w, if_neg w, if_neg (n_g w), if_neg (n_g w)]
      exact ⟨_, _, rfl, rfl, _, rfl, rfl⟩) (a := (0, 0)) (b := 0) ⟨rfl, rfl⟩
  exact ⟨x, σ, _, i1, (by unfold f_X8_meanRide; rw [p_st]; exact i2), hR.thr 0⟩
theorem E1_lateShare : E_lateShare RelN := by
  intro nn σ ρ hn hR
  obtain ⟨⟨F, C, K, M, T, hC1, hT, hL⟩, -⟩ := id hR
  have h1 := hL.1
  have h2 : LU F C K M T T (vw 0 σ) ((sup ρ 8 0 8 0) 30 0) := h1.thr 0
  have dK := D_K h1
  by_cases w : nI K - W_cnt (vw 0 σ) K 0 = 0
  · refine ⟨FP.fconst0, σ, sup ρ 8 0 8 0, ?_, ?_, hR.thr 0, ?_⟩
    · unfold f_X7_lateShare f_X7_lateShare_36
      rw [a_cnt h1, p_bi, A_K h1, if_pos w]
    · unfold f_X8_lateShare f_X8_lateShare_34
      rw [p_st, b_cnt h2, p_bi, B_K h2, if_pos w]
    · exact n_ok64 (by decide +kernel)
  · refine ⟨FP.fdiv (FP.i2f (W_late (vw 0 σ) K)) (FP.i2f (nI K - W_cnt (vw 0 σ) K 0)), σ, sup ρ 8 0 8 0, ?_, ?_, hR.thr 0, ?_⟩
    · unfold f_X7_lateShare f_X7_lateShare_36
      rw [a_cnt h1, p_bi, A_K h1, if_neg w, a_late h1, p_bi, if_neg (n_gf w)]
    · unfold f_X8_lateShare f_X8_lateShare_34
      rw [p_st, b_cnt h2, p_bi, B_K h2, if_neg w, b_late h2, p_bi, if_neg (n_gf w)]
    · exact n_ok64 ((FP.f2d_nan _).trans (n_ff w))
theorem p_bxd0 (v : Int32) (x : Sg) (f : Int32 → Sg → Option Xd) : bxd (some (0, v, x)) f = f v x := rfl
theorem E1_meanCost : E_meanCost RelN := by
  intro nn σ ρ v1 hn hR
  obtain ⟨⟨F, C, K, M, T, hC1, hT, hL⟩, -⟩ := id hR
  have h1 := hL.1
  have h2 : LU F C K M T T (vw 0 σ) ((sup ρ 8 0 8 0) 30 0) := h1.thr 0
  have dK := D_K h1
  have dC := D_C h1
  rcases x_idx v1 (show K < 2147483648 by omega) with ⟨k, hk, rfl⟩ | hb
  · obtain ⟨fa, fb, hfa, hfb, hne, hfrom, hto⟩ := (h1.2.2.2.2.1 k hk).2.2.1
    have hfrom' : σ 1 (24 * 0 + k) 0 = nI fa := hfrom
    obtain ⟨e0, -⟩ := B_call h2 hk
    have e0' : (sup ρ 8 0 8 0) 30 0 (55 + k) = nI fa := e0.trans hfrom
    have nz : nI C ≠ 0 := by rw [Ne, show (0 : Int32) = nI 0 from rfl, ni_eq (by omega) (by omega)]; omega
    obtain ⟨r1, r2, i1, i2, x, rfl, rfl⟩ := lpTF (fun n (a : Int32) i => f_X7_meanCost_9 n σ (nI k) a i) (fun n (a : Int32) i => f_X8_meanCost_14 n (sup ρ 8 0 8 0) (nI k) a i) C (by omega) (fun _ a b => a = b) (fun r1 r2 => ∃ x, r1 = (0, x, σ) ∧ r2 = (x, sup ρ 8 0 8 0)) (by
      rintro n m c a b hc rfl
      refine Or.inl ⟨a + W_cost (vw 0 σ) c (nI fa), _, rfl, ?_, ?_⟩
      · simp (disch := omega) only [f_X7_meanCost_9_s, A_C h1, ni_le, p_nle, if_false, ni_nn, ni_cl, false_or, hfrom', a_cost h1 hc, p_bi, ni_1]
      · simp (disch := omega) only [f_X8_meanCost_14_s, B_C h2, ni_le, p_nle, if_false, l_55, ni_nn, ni_cl, false_or, e0', b_cost h2 hc hfa, p_bi, ni_1]) (by
      rintro n m a b rfl
      refine ⟨_, _, ?_, ?_, FP.ddiv (FP.i2d a) (FP.i2d (nI C)), rfl, rfl⟩
      · simp (disch := omega) only [f_X7_meanCost_9_s, A_C h1, ni_le, Nat.le_refl, if_true, f_X7_meanCost_49, f_X7_meanCost_74]
        rw [if_neg nz, if_neg (n_g nz)]
      · simp (disch := omega) only [f_X8_meanCost_14_s, B_C h2, ni_le, Nat.le_refl, if_true, f_X8_meanCost_47]
        rw [if_neg (n_g nz)]) (a := 0) (b := 0) rfl
    refine ⟨(0, x, σ), x, sup ρ 8 0 8 0, ?_, Or.inl rfl, ?_, hR.thr 0, s_thr ρ 0, fun _ => rfl⟩
    · unfold f_X7_meanCost
      rw [x_call0 (A_K h1) dK hk, p_bxd0]
      exact i1
    · unfold f_X8_meanCost
      rw [x_nk0 (B_K h1) dK hk, p_bi, if_pos rfl]
      exact i2
  · refine ⟨(1, 0, σ), FP.dconst0, sup ρ 8 0 8 1, ?_, Or.inr rfl, ?_, hR.thr 1, s_thr ρ 1, fun h => absurd (show (1 : Nat) = 0 from h) (by decide)⟩
    · unfold f_X7_meanCost
      rw [x_call1 (A_K h1) hb]
      rfl
    · unfold f_X8_meanCost
      rw [y_nk1 (B_K h1) dK hb, p_bi, if_neg (by decide)]
