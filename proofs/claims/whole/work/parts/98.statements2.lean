/-! a call, a setting, the seed; a statement -/
theorem su_ru (ρ : Sg) (q : Nat) (y : Int32) : (sup ρ 30 0 q y) 30 0 = ru (ρ 30 0) q y := by
  funext i
  unfold sup ru
  by_cases w : i = q
  · rw [if_pos ⟨rfl, rfl, w⟩, if_pos w]
  · rw [if_neg (fun z => w z.2.2), if_neg w]
section SU
variable {n p : Nat} {inp : Nat → Nat} {σ ρ σ0 ρ0 : Sg} {F C K : Nat}
theorem PS.bF (h : PS σ0 ρ0 F C K σ ρ) : 2 ≤ F ∧ F ≤ 30 := ⟨h.1.1.1.2.2.2.2.2.2.2.2.2.2.2.1, h.1.1.1.2.2.2.2.2.2.2.2.2.2.2.2.1⟩
theorem t_call3 {q : Nat} (hP : PS σ0 ρ0 F C K σ ρ) (hT : TKn n inp q σ ρ) (hpq : p < q) (hK : K < 24) {m a : Nat} (hm : m ≤ 999) (ha : a < F) (h0 : ρ 37 0 0 = nI m) (h1 : ρ 37 0 1 = nI a) :
    OUT n inp σ0 ρ0 p (bi (f_X6_readNumber σ (nI 0) (nI (F - 1))) fun r6 σ5 => if r6 = 0 then some (0, σ5) else if (σ5 6 0 7) = nI a then chk (f_X6_fail σ5 2) else bi (f_X4_addCall σ5 1 (nI m) (nI a) (σ5 6 0 7)) fun r8 σ7 => chk (f_X6_readSemicolon σ7)) (fun k => YC (if (ρ 8 0 18) = 2 then bi (f_X8_tokenLength ρ) (fun r8 σ7 => if 5 ≤ r8 then f_X8_readCall_89 σ7 else if (σ7 8 0 17) = (σ7 37 0 1) then chk (f_X8_failsAt σ7 2) else f_X8_readCall_89 σ7) else f_X8_readCall_89 ρ) k) := by
  obtain ⟨hc, h4, hB⟩ := id hT
  obtain ⟨hcy, hq, b5, b8, b6, b7, b13⟩ := id hB
  have hn := hcy.2.1
  have hb := LX_bd (inp := inp) hq
  have hv := LXv_bd (inp := inp) (n := n) (p := q)
  obtain ⟨hF2, hF30⟩ := hP.bF
  have e89 : f_X8_readCall_89 ρ = bi (f_X8_takes ρ (nI 2) (nI 0) (nI (F - 1))) fun r2 σ1 => (if r2 = 0 then (some (0, σ1)) else (bv (f_X8_addCall σ1 (σ1 37 0 0) (σ1 37 0 1) (σ1 37 0 2)) fun σ3 => (some (1, σ3)))) := by
    unfold f_X8_readCall_89
    rw [B_F hP.1.1, show nI F - 1 = nI (F - 1) from ni_sub (b := 1) (by omega)]
    rfl
  have eL : f_X8_tokenLength ρ = some (nI (LXe inp n q - LXq inp n q), ρ) := by
    unfold f_X8_tokenLength
    rw [b5, b6, ni_sub hb.2.1]
  rw [eL, p_bi, b8]
  rcases t_take hT (lo := 0) (hi := F - 1) (a := 2) (by decide) (by omega) (by decide) with ⟨σ2, ρ2, v, e1, e2, e3, e4, e5, e6, e7, e8, e9, e10, e11, e12, e13, e14⟩ | ⟨σ2, ρ2, e1, e2, e3, e4⟩
  · rw [e1, p_bi, if_neg (show ¬ (1 : Int32) = 0 by decide), e5, if_pos (show nI (LXr inp n q) = 2 by rw [e11]; rfl), if_neg (show ¬ 5 ≤ nI (LXe inp n q - LXq inp n q) by rw [show (5 : Int32) = nI 5 from rfl, ni_le (by omega) (by omega)]; omega), b7 e11, h1, e13]
    by_cases w : v = a
    · subst w
      rw [if_pos rfl, if_pos rfl, a_fail, chk_0, b_fail b13, chk_0]
      exact OUT.bad hP rfl (fun k => YC_0 _ k) ((t_fail 2 (e14.trans b6.symm)).pre e3.ga (GB.rf ρ))
    · have wn : ¬ nI v = nI a := by rw [ni_eq (by omega) (by omega)]; exact w
      rw [if_neg wn, if_neg wn, e89, e2, p_bi, if_neg (show ¬ (1 : Int32) = 0 by decide)]
      have hP2 := hP.kf e3 e4.ku
      obtain ⟨σ4, ρ4, g1, g2, g3, g4, g5⟩ := t_addCall2 (j := 1) hP2.1 hK hP2.2.1 (a := a) (b := v) (m := m) ha (by omega) (fun z => w z.symm) (by omega)
      rw [show ρ2 37 0 0 = nI m from (e4 37 0 0 (by omega) (by omega)).trans h0, show ρ2 37 0 1 = nI a from (e4 37 0 1 (by omega) (by omega)).trans h1, e6, g1, g2, p_bi, p_bv]
      have := (t_fin (hP2.sp g5 g3 g4) (e9.sp g5) (p := p) (by omega)).chk
      simpa only [YC_1] using this
  · have ey : (if nI (LXr inp n q) = 2 then (if 5 ≤ nI (LXe inp n q - LXq inp n q) then f_X8_readCall_89 ρ else if (ρ 8 0 17) = (ρ 37 0 1) then chk (f_X8_failsAt ρ 2) else f_X8_readCall_89 ρ) else f_X8_readCall_89 ρ) = f_X8_readCall_89 ρ := by
      by_cases w1 : LXr inp n q = 2
      · rw [if_pos (show nI (LXr inp n q) = 2 by rw [w1]; rfl)]
        by_cases w2 : 5 ≤ LXe inp n q - LXq inp n q
        · rw [if_pos (show 5 ≤ nI (LXe inp n q - LXq inp n q) by rw [show (5 : Int32) = nI 5 from rfl, ni_le (by omega) (by omega)]; exact w2)]
        · rw [if_neg (show ¬ 5 ≤ nI (LXe inp n q - LXq inp n q) by rw [show (5 : Int32) = nI 5 from rfl, ni_le (by omega) (by omega)]; exact w2), b7 w1, h1, if_neg (by rw [ni_eq (by omega) (by omega)]; exact fun z => e4 ⟨w1, by omega, by omega, by omega⟩)]
      · rw [if_neg (show ¬ nI (LXr inp n q) = 2 by rw [show (2 : Int32) = nI 2 from rfl, ni_eq (by omega) (by omega)]; exact w1)]
    rw [ey, e1, p_bi, if_pos rfl, e89, e2, p_bi, if_pos rfl]
    exact OUT.bad hP rfl (fun k => YC_0 _ k) e3
theorem t_call (hA : AK n inp p σ) (hB : BK n inp p ρ) (hP : PS σ0 ρ0 F C K σ ρ) (hw : LXr inp n p = 1) : OUT n inp σ0 ρ0 p (f_X6_readCall σ 1) (fun k => YC (f_X8_readCall ρ) k) := by
  obtain ⟨ρ1, s1, s0, hP1, hT1, f3, hF, -⟩ := t_starts hA hB hP
  have hL := hP.1
  have hK := D_K hL.1
  have hb := LX_bd (inp := inp) hA.2.1
  have hlt := hb.2.2.2.1 (by omega)
  obtain ⟨hF2, hF30⟩ := hP.bF
  have hf : nI F - 1 = nI (F - 1) := ni_sub (b := 1) (by omega)
  by_cases w : K < 24
  · have x1 : f_X6_readCall σ 1 = (bi (f_X6_readNumber σ (nI 0) (nI 999)) fun r2 σ1 => (if r2 = 0 then (some (0, σ1)) else (bi (f_X6_readNumber σ1 0 ((σ1 4 1 0) - 1)) fun r4 σ3 => (if r4 = 0 then (some (0, σ3)) else (bi (f_X6_readNumber σ3 0 ((σ3 4 1 0) - 1)) fun r6 σ5 => (if r6 = 0 then (some (0, σ5)) else (if (σ5 6 0 7) = (σ3 6 0 7) then chk (f_X6_fail σ5 2) else (bi (f_X4_addCall σ5 1 (σ1 6 0 7) (σ3 6 0 7) (σ5 6 0 7)) fun r8 σ7 => chk (f_X6_readSemicolon σ7))))))))) := by
      unfold f_X6_readCall
      rw [A_K hL.1, if_pos (show nI K < 24 by rw [show (24 : Int32) = nI 24 from rfl, ni_lt (by omega) (by omega)]; exact w)]
      rfl
    have y1 : f_X8_readCall ρ = (bi (f_X8_takes ρ1 (nI 0) (nI 0) (nI 999)) fun r4 σ3 => (if r4 = 0 then some (0, σ3) else (bi (f_X8_takes σ3 (nI 1) (nI 0) ((σ3 30 0 0) - 1)) fun r6 σ5 => (if r6 = 0 then some (0, σ5) else (if (σ5 8 0 18) = 2 then bi (f_X8_tokenLength σ5) (fun r8 σ7 => if 5 ≤ r8 then f_X8_readCall_89 σ7 else if (σ7 8 0 17) = (σ7 37 0 1) then chk (f_X8_failsAt σ7 2) else f_X8_readCall_89 σ7) else f_X8_readCall_89 σ5))))) := by
      unfold f_X8_readCall f_X8_readCall_17 f_X8_readCall_52
      rw [B_K hL.1, if_neg (show ¬ 24 ≤ nI K by rw [show (24 : Int32) = nI 24 from rfl, ni_le (by omega) (by omega)]; omega), s1, p_bi, if_neg (by decide)]
      rfl
    rw [x1, y1]
    rcases t_take hT1 (lo := 0) (hi := 999) (a := 0) (by decide) (by decide) (by decide) with ⟨σ2, ρ2, v, e1, e2, e3, e4, e5, e6, e7, e8, e9, e10, -⟩ | ⟨σ2, ρ2, e1, e2, e3, -⟩
    · have hP2 := hP1.kf e3 e4.ku
      rw [e1, e2, p_bi, p_bi, if_neg (show ¬ (1 : Int32) = 0 by decide), if_neg (show ¬ (1 : Int32) = 0 by decide), A_F hP2.1.1, B_F hP2.1.1, hf, e5]
      rcases t_take e9 (lo := 0) (hi := F - 1) (a := 1) (by decide) (by omega) (by decide) with ⟨σ3, ρ3, u, d1, d2, d3, d4, d5, d6, d7, d8, d9, d10, -⟩ | ⟨σ3, ρ3, d1, d2, d3, -⟩
      · have hP3 := hP2.kf d3 d4.ku
        rw [show f_X6_readNumber σ2 0 (nI (F - 1)) = _ from d1, d2, p_bi, p_bi, if_neg (show ¬ (1 : Int32) = 0 by decide), if_neg (show ¬ (1 : Int32) = 0 by decide), A_F hP3.1.1, hf, d5]
        exact t_call3 hP3 d9 (by omega) w e8 (by omega) ((d4 37 0 0 (by omega) (by omega)).trans e6) d6
      · rw [show f_X6_readNumber σ2 0 (nI (F - 1)) = _ from d1, d2, p_bi, p_bi, if_pos (show (0 : Int32) = 0 from rfl), if_pos (show (0 : Int32) = 0 from rfl)]
        exact OUT.bad hP2 rfl (fun k => YC_0 ρ3 k) d3
    · rw [e1, e2, p_bi, p_bi, if_pos (show (0 : Int32) = 0 from rfl), if_pos (show (0 : Int32) = 0 from rfl)]
      exact OUT.bad hP1 rfl (fun k => YC_0 ρ2 k) e3
  · have x1 : f_X6_readCall σ 1 = some (0, sup (sup σ 6 0 0 3) 6 0 1 (σ 6 0 6)) := by
      unfold f_X6_readCall
      rw [A_K hL.1, if_neg (show ¬ nI K < 24 by rw [show (24 : Int32) = nI 24 from rfl, ni_lt (by omega) (by omega)]; exact w), f3, p_bi, if_neg (by decide)]
    have y1 : f_X8_readCall ρ = some (0, sup (sup ρ 8 0 13 3) 8 0 14 (ρ 8 0 16)) := by
      unfold f_X8_readCall f_X8_readCall_17 f_X8_readCall_52
      rw [B_K hL.1, if_pos (show 24 ≤ nI K by rw [show (24 : Int32) = nI 24 from rfl, ni_le (by omega) (by omega)]; omega), s0, p_bi, if_pos rfl]
    rw [x1, y1]
    exact OUT.bad hP rfl (fun k => YC_0 _ k) hF
/-- a setting marked as seen -/
theorem t_mark (hA : AK n inp p σ) (hB : BK n inp p ρ) (hP : PS σ0 ρ0 F C K σ ρ) {w : Nat} (hw : w < 6) : AK n inp p (sup σ 6 0 8 ((σ 6 0 8) ||| (1 <<< (nI w &&& 31)))) ∧ BK n inp p (sup ρ 8 0 19 ((ρ 8 0 19) ||| (1 <<< (nI (w + 4) &&& 31)))) ∧ PS σ0 ρ0 F C K (sup σ 6 0 8 ((σ 6 0 8) ||| (1 <<< (nI w &&& 31)))) (sup ρ 8 0 19 ((ρ 8 0 19) ||| (1 <<< (nI (w + 4) &&& 31)))) := by
  obtain ⟨⟨c1, c2, c3, c4⟩, hp, a4, a5, a6, a7⟩ := hA
  obtain ⟨⟨d1, d2, d3⟩, -, b5, b8, b6, b7, b13⟩ := hB
  obtain ⟨h1, h2, h3, h4, h5, h6, h7, h8⟩ := hP
  refine ⟨⟨⟨?_, ?_, c3, fun i hi => ⟨(c4 i hi).1, ?_⟩⟩, hp, ?_, ?_, ?_, fun q => ?_⟩, ⟨⟨?_, d2, fun i hi => ⟨(d3 i hi).1, ?_⟩⟩, hp, ?_, ?_, ?_, fun q => ?_, ?_⟩, ⟨h1.both (Veq.lk (D_C h1.1) (D_K h1.1) (fun k o i hk => by rw [s_ne (by unfold LK at hk; omega)])) (fun q _ => by rw [s_ne (by decide)]), by rw [s_ne (by decide)]; exact h2, h3.trans GA.put, h4.trans (GB.put (by decide)), ?_, ?_, ?_, ?_⟩⟩
  · rw [s_nf (by decide)]; exact c1
  · rw [s_nf (by decide)]; exact c2
  · rw [s_ne (by decide)]; exact (c4 i hi).2
  · rw [s_nf (by decide)]; exact a4
  · rw [s_nf (by decide)]; exact a5
  · rw [s_nf (by decide)]; exact a6
  · rw [s_nf (by decide)]; exact a7 q
  · rw [s_nf (by decide)]; exact d1
  · rw [s_ne (by decide)]; exact (d3 i hi).2
  · rw [s_nf (by decide)]; exact b5
  · rw [s_nf (by decide)]; exact b8
  · rw [s_nf (by decide)]; exact b6
  · rw [s_nf (by decide)]; exact b7 q
  · rw [s_nf (by decide)]; exact b13
  · rw [s_nf (by decide)]; exact h5
  · rw [s_nf (by decide)]; exact h6
  · rw [s_nf (by decide)]; exact h7
  · rw [s_at, s_at]; exact h8.or hw
theorem j_bit (x : Int32) {w : Nat} (hw : w < 32) : (((jush x (nI w)) &&& 1) = 0) ↔ bt x w = false := by
  rw [and1]
  have := b_ushr w hw x 0
  rw [show jush x (nI w) = (x.toUInt32 >>> ((nI w).toUInt32 &&& Int32.toUInt32 31)).toInt32 from rfl, this, Nat.add_zero]
theorem k_bit (x : Int32) {w : Nat} (hw : w < 32) : ((x >>> (nI w &&& 31)) &&& 1 = 0) ↔ bt x w = false := by
  rw [and1, b_sshr w hw x (by decide), if_pos (by omega), Nat.add_zero]
/-- a setting: f is what the class does with the number -/
theorem t_once (hA : AK n inp p σ) (hB : BK n inp p ρ) (hP : PS σ0 ρ0 F C K σ ρ) (hr : LXr inp n p = 1) {w lo hi : Nat} (hw : w < 6) (hlo : lo < 10000) (hhi : hi < 10000) (g : Sg → Option (Int32 × Sg))
    (hg : ∀ σ2 ρ2 v, PS σ0 ρ0 F C K σ2 ρ2 → σ2 6 0 7 = nI v → lo ≤ v → v ≤ hi → ∃ σ3, g σ2 = chk (f_X6_readSemicolon σ3) ∧ SP 1 σ2 ρ2 σ3 (sup ρ2 30 0 (w + 4) (nI v)) ∧ LV F C K 0 0 (vw 1 σ3) ((sup ρ2 30 0 (w + 4) (nI v)) 30 0) ∧ FR C K ((sup ρ2 30 0 (w + 4) (nI v)) 30 0))
    (hx : f_X6_readSetting σ 1 (nI w) = if ((jush (σ 6 0 8) (nI w)) &&& 1) = 0 then (bi (f_X6_readNumber (sup σ 6 0 8 ((σ 6 0 8) ||| (1 <<< (nI w &&& 31)))) (nI lo) (nI hi)) fun r6 σ5 => (if r6 = 0 then (some (0, σ5)) else g σ5)) else chk (f_X6_fail σ 3)) :
    OUT n inp σ0 ρ0 p (f_X6_readSetting σ 1 (nI w)) (fun k => YC (f_X8_takesOnce ρ (nI (w + 4)) (nI lo) (nI hi)) k) := by
  have hs := hP.2.2.2.2.2.2.2 w hw
  obtain ⟨mA, mB, mP⟩ := t_mark hA hB hP hw
  obtain ⟨ρ1, s1, s0, hP1, hT1, f3, hF, -⟩ := t_starts mA mB mP
  have hb := LX_bd (inp := inp) hA.2.1
  have hlt := hb.2.2.2.1 (by omega)
  rw [hx]
  unfold f_X8_takesOnce f_X8_takesOnce_16 f_X8_takesOnce_49
  cases e : bt (σ 6 0 8) w
  · rw [if_pos ((j_bit _ (by omega)).2 e), if_pos ((k_bit _ (by omega)).2 (hs.symm.trans e)), p_st, s1, p_bi, if_neg (show ¬ (1 : Int32) = 0 by decide)]
    rcases t_take hT1 (lo := lo) (hi := hi) (a := 0) hlo hhi (by decide) with ⟨σ2, ρ2, v, e1, e2, e3, e4, e5, e6, e7, e8, e9, e10, -⟩ | ⟨σ2, ρ2, e1, e2, e3, -⟩
    · have hP2 := hP1.kf e3 e4.ku
      obtain ⟨σ3, g1, g2, g3, g4⟩ := hg σ2 ρ2 v hP2 e5 e7 e8
      rw [e1, show f_X8_takes ρ1 0 (nI lo) (nI hi) = _ from e2, p_bi, p_bi, if_neg (show ¬ (1 : Int32) = 0 by decide), if_neg (show ¬ (1 : Int32) = 0 by decide), gq (by omega) (by decide), ni_cl (by omega), e6, p_st, g1]
      have := (t_fin (hP2.sp g2 g3 g4) (e9.sp g2) (p := p) (by omega)).chk
      simpa only [YC_1] using this
    · rw [e1, show f_X8_takes ρ1 0 (nI lo) (nI hi) = _ from e2, p_bi, p_bi, if_pos (show (0 : Int32) = 0 from rfl), if_pos (show (0 : Int32) = 0 from rfl)]
      exact OUT.bad hP1 rfl (fun k => YC_0 _ k) e3
  · rw [if_neg (fun z => by rw [j_bit _ (by omega), e] at z; exact absurd z (by decide)), if_neg (fun z => by rw [k_bit _ (by omega), ← hs, e] at z; exact absurd z (by decide)), p_st, s0, p_bi, if_pos rfl, a_fail, chk_0]
    have hq : σ 6 0 6 = ρ 8 0 16 := hA.2.2.2.2.1.trans hB.2.2.2.2.1.symm
    refine OUT.bad hP rfl (fun k => YC_0 _ k) ⟨GA.put.trans GA.put, (GB.put (by decide)).trans ((GB.put (by decide)).trans (GB.put (by decide))), ?_, ?_⟩
    · rw [s_nf (by decide), s_at, s_nf (by decide), s_at]
    · rw [s_at, s_at, s_nf (by decide)]; exact hq
end SU
