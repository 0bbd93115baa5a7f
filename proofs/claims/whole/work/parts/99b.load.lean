/-! the first statement; loadLifts -/
section LO
variable {n : Nat} {inp : Nat → Nat} {σ ρ σ0 ρ0 : Sg}
theorem t_floors (hc : CX n inp σ) (h4 : σ 6 0 4 = nI 0) (hB : BK n inp 0 ρ) (ga : GA σ0 σ) (gb : GB ρ0 ρ) (x0 : σ 6 0 0 = 0) (x1 : σ 6 0 1 = -1) (x14 : ρ 8 0 14 = -1) (xs : SR (σ 6 0 8) (ρ 8 0 19)) (x30 : B0 (ρ 30 0)) : OUT n inp σ0 ρ0 0 (f_X6_readFloors σ 1) (fun k => f_X8_readText_16 k ρ) := by
  obtain ⟨σ1, a1, a2, a3, a4, a5, a6⟩ := a_next hc h4 (Nat.zero_le n)
  have hA : AK n inp 0 σ1 := ⟨hc.kf a2, Nat.zero_le n, a3, a4, a5, a6⟩
  have hb := LX_bd (inp := inp) (Nat.zero_le n)
  show OUT n inp σ0 ρ0 0 (f_X6_readFloors σ 1) (fun k => YR (f_X8_readStatement ρ) k)
  unfold f_X6_readFloors f_X8_readStatement
  rw [a1, p_bv, a_word hA (w := 0) (by decide), p_bi, if_pos (show ρ 30 0 0 = 0 from x30.2.2.2.2.2 0 (by decide) (by decide)), b_word hB (w := 0) (by decide), p_bi]
  cases e0 : WD inp n 0 0
  · rw [if_pos (show W_b false = 0 from rfl), if_pos (show W_b false = 0 from rfl), a_fail, b_fail hB.2.2.2.2.2.2, p_bi, p_bi, if_neg (show ¬ ¬ ((0 : Int32) = 0 ∨ (0 : Int32) = 1) by decide), if_neg (show ¬ ¬ ((0 : Int32) = 0 ∨ (0 : Int32) = 1) by decide)]
    exact Or.inr ⟨_, _, rfl, fun k => YR_0 _ k, (t_fail 1 (hA.2.2.2.2.1.trans hB.2.2.2.2.1.symm)).pre (ga.trans a2.ga) gb⟩
  · have hlt := hb.2.2.2.1 (by have := (WD_len e0).1; omega)
    obtain ⟨ρ1, c1, c2, c3⟩ := b_adv hB
    have hT : TKn n inp (LXe inp n 0) σ1 ρ1 := ⟨hA.1, a3, c3⟩
    rw [if_neg (show ¬ W_b true = 0 by decide), if_neg (show ¬ W_b true = 0 by decide), c1, p_bv]
    rcases t_take hT (lo := 2) (hi := 30) (a := 0) (by decide) (by decide) (by decide) with ⟨σ2, ρ2, v, e1, e2, e3, e4, e5, e6, e7, e8, e9, e10, -⟩ | ⟨σ2, ρ2, e1, e2, e3, -⟩
    · rw [show f_X6_readNumber σ1 2 30 = _ from e1, show f_X8_takes ρ1 0 2 30 = _ from e2, p_bi, p_bi, if_neg (show ¬ (1 : Int32) = 0 by decide), if_neg (show ¬ (1 : Int32) = 0 by decide), e5, e6, p_st]
      have e30 : ρ2 30 0 = ρ 30 0 := by
        funext q
        rw [e4 30 0 q (by omega) (by omega), c2 30 0 q (by omega)]
      obtain ⟨σ3, g1, g2, g3, g4⟩ := t_clear σ2 ρ2 1 e7 e8 (by rw [e30]; exact x30)
      have hs : SP 1 σ2 ρ2 σ3 (sup ρ2 30 0 0 (nI v)) := ⟨g2, fun k hk => s_ne hk⟩
      have f6 : ∀ i, ¬ (4 ≤ i ∧ i ≤ 7) → σ3 6 0 i = σ 6 0 i := fun i hi => ((g2 6 0 i id).trans (e3 6 0 i (fun z => hi z.2))).trans (a2 6 0 i (fun z => hi z.2))
      have f8 : ∀ i, ¬ (15 ≤ i ∧ i ≤ 18) → (sup ρ2 30 0 0 (nI v)) 8 0 i = ρ 8 0 i := fun i hi => by
        rw [s_ne (by decide), e4 8 0 i (fun z => hi z.2) (by omega), c2 8 0 i (fun z => hi z.2)]
      have hP : PS σ0 ρ0 v 0 0 σ3 (sup ρ2 30 0 0 (nI v)) := by
        refine ⟨g3, g4, ((ga.trans a2.ga).trans e3.ga).trans (fun k o i _ q => g2 k o i q), ((gb.trans c2.gb).trans e4.ku.gb).trans (fun k o i q _ _ => by rw [s_ne q]), (f6 0 (by omega)).trans x0, (f6 1 (by omega)).trans x1, (f8 14 (by omega)).trans x14, ?_⟩
        rw [f6 8 (by omega), f8 19 (by omega)]
        exact xs
      rw [g1, p_bv]
      have := (t_fin hP (e9.sp hs) (p := 0) (by omega)).chk
      simp only [YR_1]
      exact this
    · rw [show f_X6_readNumber σ1 2 30 = _ from e1, show f_X8_takes ρ1 0 2 30 = _ from e2, p_bi, p_bi, if_pos (show (0 : Int32) = 0 from rfl), if_pos (show (0 : Int32) = 0 from rfl)]
      exact Or.inr ⟨_, _, rfl, fun k => YR_0 _ k, e3.pre (ga.trans a2.ga) (gb.trans c2.gb)⟩
theorem t_read (hc : CX n inp σ) (h4 : σ 6 0 4 = nI 0) (hB : BK n inp 0 ρ) (ga : GA σ0 σ) (gb : GB ρ0 ρ) (x0 : σ 6 0 0 = 0) (x1 : σ 6 0 1 = -1) (x14 : ρ 8 0 14 = -1) (xs : SR (σ 6 0 8) (ρ 8 0 19)) (x30 : B0 (ρ 30 0)) : END σ0 ρ0 (bi (f_X6_readFloors σ 1) fun r8 σ7 => (if r8 = 0 then (some (0, σ7)) else (f_X6_read_52 FU σ7 1 0))) (f_X8_readText ρ) := by
  have hn := hc.2.2.1
  have hy : f_X8_readText ρ = f_X8_readText_16 (f_X8_readText_0 65535) ρ := by
    show f_X8_readText_0 (65535 + 1) ρ = _
    rw [f_X8_readText_0_s, show ρ 30 0 0 = 0 from x30.2.2.2.2.2 0 (by decide) (by decide)]
    by_cases w : ρ 8 0 18 = 0
    · rw [if_pos w, if_pos rfl]
    · rw [if_neg w]
  rw [hy]
  rcases t_floors hc h4 hB ga gb x0 x1 x14 xs x30 with ⟨σ', ρ', F', C', K', p', e1, e2, e3, e4, e5⟩ | ⟨σ', ρ', e1, e2, e3⟩
  · have hp' := e4.2.2.2.1
    rw [e1, show f_X8_readText_16 (f_X8_readText_0 65535) ρ = _ from e2 _, p_bi, if_neg (show ¬ (1 : Int32) = 0 by decide)]
    exact t_loop (n - p' + 1) p' (by omega) σ' ρ' F' C' K' 0 FU 65535 e4 e3 (Nat.zero_le _) (by show n - p' + 1 ≤ 65536; omega) (by omega)
  · rw [e1, show f_X8_readText_16 (f_X8_readText_0 65535) ρ = _ from e2 _, p_bi, if_pos (show (0 : Int32) = 0 from rfl)]
    exact Or.inr ⟨σ', ρ', rfl, rfl, e3⟩
end LO
theorem j_len {n : Nat} (hn : n ≤ 700) : jmax 0 (jmin (nI n) 700) = nI n := by
  unfold jmin
  rw [show (700 : Int32) = nI 700 from rfl, if_neg (by rw [ni_lt (by omega) (by omega)]; omega)]
  unfold jmax
  by_cases w : n = 0
  · subst w; rfl
  · rw [if_pos (by rw [show (0 : Int32) = nI 0 from rfl, ni_lt (by omega) (by omega)]; omega)]
theorem E1_loadLifts : E_loadLifts RelN := by
  intro nn σ ρ hn hR
  obtain ⟨hN, ⟨n, hn7, i1, i2, i3⟩, ⟨m, o1, o2, o3, o4⟩, h3, h4, hh, x, h6, h7, h8, h9, h10, h11⟩ := id hR
  have hinp : ∀ i, i < n → (σ 10 0 i).toNatClampNeg < 256 ∧ σ 10 0 i = nI (σ 10 0 i).toNatClampNeg := fun i hi => by
    obtain ⟨b, hb, e⟩ := (i3 i hi).2
    rw [e, ni_cl (by omega)]
    exact ⟨hb, rfl⟩
  -- the class
  have xr : f_X6_read σ (σ 7 0 1) 1 = bi (f_X6_readFloors (sup (sup (sup (sup (sup (sup σ 6 0 2 1) 6 0 3 (nI n)) 6 0 4 0) 6 0 8 0) 6 0 0 0) 6 0 1 (-1)) 1) fun r8 σ7 => (if r8 = 0 then (some (0, σ7)) else (f_X6_read_52 FU σ7 1 0)) := by
    unfold f_X6_read
    rw [i1, j_len hn7, p_st, p_st, p_st, p_st, p_st, p_st]
  have hc : CX n (fun i => (σ 10 0 i).toNatClampNeg) (sup (sup (sup (sup (sup (sup σ 6 0 2 1) 6 0 3 (nI n)) 6 0 4 0) 6 0 8 0) 6 0 0 0) 6 0 1 (-1)) := by
    refine ⟨?_, ?_, hn7, fun i hi => ⟨(hinp i hi).1, ?_⟩⟩
    · simp (disch := omega) only [s_nf, s_at]
    · simp (disch := omega) only [s_nf, s_at]
    · simp (disch := omega) only [s_ne]
      exact (hinp i hi).2
  have ga : GA σ (sup (sup (sup (sup (sup (sup σ 6 0 2 1) 6 0 3 (nI n)) 6 0 4 0) 6 0 8 0) 6 0 0 0) 6 0 1 (-1)) := ((((GA.put.trans GA.put).trans GA.put).trans GA.put).trans GA.put).trans GA.put
  have q4 : (sup (sup (sup (sup (sup (sup σ 6 0 2 1) 6 0 3 (nI n)) 6 0 4 0) 6 0 8 0) 6 0 0 0) 6 0 1 (-1)) 6 0 4 = nI 0 := by simp (disch := omega) only [s_nf, s_at]; rfl
  have q0 : (sup (sup (sup (sup (sup (sup σ 6 0 2 1) 6 0 3 (nI n)) 6 0 4 0) 6 0 8 0) 6 0 0 0) 6 0 1 (-1)) 6 0 0 = 0 := by simp (disch := omega) only [s_nf, s_at]
  have q1 : (sup (sup (sup (sup (sup (sup σ 6 0 2 1) 6 0 3 (nI n)) 6 0 4 0) 6 0 8 0) 6 0 0 0) 6 0 1 (-1)) 6 0 1 = -1 := s_at _ _ _ _ _
  have q8 : (sup (sup (sup (sup (sup (sup σ 6 0 2 1) 6 0 3 (nI n)) 6 0 4 0) 6 0 8 0) 6 0 0 0) 6 0 1 (-1)) 6 0 8 = 0 := by simp (disch := omega) only [s_nf, s_at]
  generalize (sup (sup (sup (sup (sup (sup σ 6 0 2 1) 6 0 3 (nI n)) 6 0 4 0) 6 0 8 0) 6 0 0 0) 6 0 1 (-1)) = A at xr hc ga q4 q0 q1 q8
  -- the reference
  obtain ⟨ρc, k1, k2, k3⟩ := b_clr (scp (sup ρ 8 0 8 0) 30 0 0 31 0 0 2111)
  have yc : CY n (fun i => (σ 10 0 i).toNatClampNeg) (sup (sup (sup (sup ρc 8 0 13 0) 8 0 14 (-1)) 8 0 15 0) 8 0 19 0) := by
    refine ⟨?_, hn7, fun i hi => ⟨(hinp i hi).1, ?_⟩⟩
    · rw [s_nf (by decide), s_nf (by decide), s_nf (by decide), s_nf (by decide), k2 8 (by decide), c_ne (by decide), s_nf (by decide)]
      exact i2
    · rw [s_ne (by decide), s_ne (by decide), s_ne (by decide), s_ne (by decide), k2 36 (by decide), c_ne (by decide), s_ne (by decide), ← (i3 i hi).1]
      exact (hinp i hi).2
  obtain ⟨ρd, d1, d2, d3, d4, d5, d6⟩ := b_next yc (p := 0) (by rw [s_nf (by decide), s_at]; rfl) (Nat.zero_le n)
  have dB : BK n (fun i => (σ 10 0 i).toNatClampNeg) 0 ρd := ⟨yc.kg d2, Nat.zero_le n, d3, d4, d5, d6, by rw [d2 8 0 13 (by omega), s_nf (by decide), s_nf (by decide), s_nf (by decide), s_at]⟩
  have d14 : ρd 8 0 14 = -1 := by rw [d2 8 0 14 (by omega), s_nf (by decide), s_nf (by decide), s_at]
  have d19 : ρd 8 0 19 = 0 := by rw [d2 8 0 19 (by omega), s_at]
  have dk : ∀ k, k ≠ 8 → k ≠ 30 → k ≠ 31 → ∀ o i, ρd k o i = ρ k o i := fun k z1 z2 z3 o i => by
    rw [d2 k o i (by omega), s_ne z1, s_ne z1, s_ne z1, s_ne z1, k2 k z2, c_ne z3, s_ne z1]
  have d8 : ∀ i, i ≠ 8 → ¬ (13 ≤ i ∧ i ≤ 19) → ρd 8 0 i = ρ 8 0 i := fun i z1 z2 => by
    rw [d2 8 0 i (by omega), s_nf (by omega), s_nf (by omega), s_nf (by omega), s_nf (by omega), k2 8 (by decide), c_ne (by decide), s_nf z1]
  have d31 : ∀ q, q < 2111 → ρd 31 0 q = ρ 30 0 q := fun q hq => by
    rw [d2 31 0 q (by omega), s_ne (by decide), s_ne (by decide), s_ne (by decide), s_ne (by decide), k2 31 (by decide), c_in0 hq, s_ne (by decide)]
  have d30 : B0 (ρd 30 0) := by
    have e : ρd 30 0 = ρc 30 0 := by
      funext q
      rw [d2 30 0 q (by omega), s_ne (by decide), s_ne (by decide), s_ne (by decide), s_ne (by decide)]
    rw [e]; exact k3
  have yr : f_X8_loadLifts ρ = bi (f_X8_readText ρd) fun r10 σ9 => (st (sup σ9 8 0 10 0) fun σ11 => (st (sup σ11 8 0 11 (σ11 8 0 13)) fun σ12 => (st (sup σ12 8 0 12 (σ12 8 0 14)) fun σ13 => (if r10 = 0 then (bv (f_X8_copies σ13 31 0 2111 0 30 0 2111 0 2111) fun σ16 => (some ((-1), σ16))) else (st (sup σ13 8 0 6 0) fun σ14 => (st (sup σ14 8 0 7 0) fun σ15 => (some ((σ15 30 0 1), σ15)))))))) := by
    unfold f_X8_loadLifts
    rw [p_st, show f_X8_copies (sup ρ 8 0 8 0) 30 0 2111 0 31 0 2111 0 2111 = _ from b_copies _ (p := 0) (q := 0) (n := 2111) (by decide) (by decide) (by decide) (by decide) (Or.inl (by decide)), p_bv, k1, p_bv, p_st, p_st, p_st, p_st, d1, p_bv]
  have hE := t_read hc q4 dB ga (GB.rf ρd) q0 q1 d14 (by rw [q8, d19]; exact fun w _ => by rw [b_0, b_0]) d30
  rw [← xr] at hE
  unfold f_X7_loadLifts
  rw [yr]
  rcases hE with ⟨σ1, ρ1, F, C, K, e1, e2, ⟨hL, hF, ha, hb, z0, z1, z14, zs⟩, hC, z13⟩ | ⟨σ1, ρ1, e1, e2, ha, hb, z0, z1⟩
  · have dC := D_C hL.1
    have dK := D_K hL.1
    have hL5 : LV F C K 0 0 (vw 1 (sup (sup (sup σ1 7 0 1 0) 7 0 2 0) 7 0 3 (-1))) (ρ1 30 0) := hL.both (Veq.lk dC dK (fun k o i hk => by rw [s_ne (by unfold LK at hk; omega), s_ne (by unfold LK at hk; omega), s_ne (by unfold LK at hk; omega)])) (fun q _ => rfl)
    obtain ⟨σ6, c1, c2, c3⟩ := t_copy (q := 0) hL5.1 (by decide)
    have vC : σ6 4 0 1 = nI C := (c3.1 1 (by decide)).trans (A_C (j := 1) (σ := sup (sup (sup σ1 7 0 1 0) 7 0 2 0) 7 0 3 (-1)) hL5.1)
    have g7 : ∀ i, i ≠ 1 → i ≠ 2 → i ≠ 3 → i ≠ 9 → sup (sup σ6 3 0 0 0) 7 0 9 0 7 0 i = σ 7 0 i := fun i w1 w2 w3 w9 => by
      rw [s_nf w9, s_ne (by decide), c2 7 0 i id, s_nf w3, s_nf w2, s_nf w1, ha 7 0 i (by decide) id]
    have gk : ∀ k o i, k ≠ 3 → k ≠ 7 → k ≠ 6 → ¬ Own 0 k o → ¬ Own 1 k o → sup (sup σ6 3 0 0 0) 7 0 9 0 k o i = σ k o i := fun k o i w3 w7 w6 n0 n1 => by
      rw [s_ne w7, s_ne w3, c2 k o i n0, s_ne w7, s_ne w7, s_ne w7, ha k o i w6 n1]
    refine ⟨nI C, sup (sup σ6 3 0 0 0) 7 0 9 0, sup (sup (sup (sup (sup ρ1 8 0 10 0) 8 0 11 0) 8 0 12 (-1)) 8 0 6 0) 8 0 7 0, ?_, ?_, ⟨F, C, K, 0, 0, hC, Nat.zero_le _, hL5.both (c3.trans (Veq.lk dC dK (fun k o i hk => by rw [s_ne (by unfold LK at hk; omega), s_ne (by unfold LK at hk; omega)]))) (fun q _ => by rw [s_ne (by decide), s_ne (by decide), s_ne (by decide), s_ne (by decide), s_ne (by decide)])⟩, ⟨0, Nat.zero_le _, ?_, ?_, fun i hi => absurd hi (Nat.not_lt_zero i)⟩, ⟨m, o1, ?_, ?_, fun i hi => ?_⟩, ⟨?_, ?_⟩, Or.inl ⟨s_at _ _ _ _ _, s_at _ _ _ _ _⟩, 0, x, Nat.zero_le _, h7, ?_, ?_, ?_, fun i hi => absurd hi (Nat.not_lt_zero i)⟩
    · unfold f_X3_clear
      rw [e1, p_bi, p_st, s_ne (show (6 : Nat) ≠ 7 by decide), z0, p_st, s_ne (show (6 : Nat) ≠ 7 by decide), s_ne (show (6 : Nat) ≠ 7 by decide), z1, p_st, if_neg (show ¬ (1 : Int32) = 0 by decide), c1, p_bv, p_st, p_bv, p_st, s_ne (show (4 : Nat) ≠ 7 by decide), s_ne (show (4 : Nat) ≠ 3 by decide), vC]
    · rw [e2, p_bi, p_st, s_nf (show (13 : Nat) ≠ 10 by decide), z13, p_st, s_nf (show (14 : Nat) ≠ 11 by decide), s_nf (show (14 : Nat) ≠ 10 by decide), z14, p_st, if_neg (show ¬ (1 : Int32) = 0 by decide), p_st, p_st, s_ne (show (30 : Nat) ≠ 8 by decide), s_ne (show (30 : Nat) ≠ 8 by decide), s_ne (show (30 : Nat) ≠ 8 by decide), s_ne (show (30 : Nat) ≠ 8 by decide), s_ne (show (30 : Nat) ≠ 8 by decide), B_C hL.1]
    · rw [s_nf (by decide), s_ne (by decide), c2 7 0 1 id, s_nf (by decide), s_nf (by decide), s_at]; rfl
    · rw [s_nf (by decide), s_nf (by decide), s_nf (by decide), s_nf (by decide), s_at]; rfl
    · rw [g7 5 (by decide) (by decide) (by decide) (by decide)]; exact o2
    · rw [s_nf (by decide), s_nf (by decide), s_nf (by decide), s_nf (by decide), s_nf (by decide), hb 8 0 22 (by decide) (by decide) (by omega), d8 22 (by decide) (by omega)]; exact o3
    · rw [gk 11 0 i (by decide) (by decide) (by decide) id id, s_ne (by decide), s_ne (by decide), s_ne (by decide), s_ne (by decide), s_ne (by decide), hb 38 0 i (by decide) (by decide) (by omega), dk 38 (by decide) (by decide) (by decide)]; exact o4 i hi
    · rw [s_nf (by decide), s_ne (by decide), c2 7 0 2 id, s_nf (by decide), s_at, s_nf (by decide), s_nf (by decide), s_nf (by decide), s_at]
    · rw [s_nf (by decide), s_ne (by decide), c2 7 0 3 id, s_at, s_nf (by decide), s_nf (by decide), s_at]
    · rw [s_ne (by decide), s_at]; rfl
    · rw [s_ne (by decide), s_nf (by decide), c2 3 0 1 id, s_ne (by decide), s_ne (by decide), s_ne (by decide), ha 3 0 1 (by decide) id]; exact h9
    · rw [s_nf (by decide), s_at]; rfl
  · have g7 : ∀ i, i ≠ 1 → i ≠ 2 → i ≠ 3 → sup (sup (sup σ1 7 0 1 0) 7 0 2 (σ1 6 0 0)) 7 0 3 (σ1 6 0 1) 7 0 i = σ 7 0 i := fun i w1 w2 w3 => by
      rw [s_nf w3, s_nf w2, s_nf w1, ha 7 0 i (by decide) id]
    have gk : ∀ k o i, k ≠ 7 → k ≠ 6 → ¬ Own 1 k o → sup (sup (sup σ1 7 0 1 0) 7 0 2 (σ1 6 0 0)) 7 0 3 (σ1 6 0 1) k o i = σ k o i := fun k o i w7 w6 n1 => by
      rw [s_ne w7, s_ne w7, s_ne w7, ha k o i w6 n1]
    have vq : ∀ p C K M, p ≠ 1 → C ≤ 4 → K ≤ 24 → Veq C K M (vw p σ) (vw p (sup (sup (sup σ1 7 0 1 0) 7 0 2 (σ1 6 0 0)) 7 0 3 (σ1 6 0 1))) := fun p C K M hp hC hK => Veq.cells hC hK (fun k o i ho => by
      have hk := Own_lk ho
      exact gk k o i (by unfold LK at hk; omega) (by unfold LK at hk; omega) (Own_no hp ho))
    have rk : ∀ k, k ≠ 8 → k ≠ 30 → k ≠ 31 → k ≠ 37 → ∀ o i, scp (sup (sup (sup ρ1 8 0 10 0) 8 0 11 (ρ1 8 0 13)) 8 0 12 (ρ1 8 0 14)) 31 0 0 30 0 0 2111 k o i = ρ k o i := fun k w8 w30 w31 w37 o i => by
      rw [c_ne w30, s_ne w8, s_ne w8, s_ne w8, hb k o i w30 w37 (fun z => w8 z.1), dk k w8 w30 w31]
    have r8 : ∀ i, i ≠ 8 → ¬ (10 ≤ i ∧ i ≤ 19) → scp (sup (sup (sup ρ1 8 0 10 0) 8 0 11 (ρ1 8 0 13)) 8 0 12 (ρ1 8 0 14)) 31 0 0 30 0 0 2111 8 0 i = ρ 8 0 i := fun i w8 w => by
      rw [c_ne (by decide), s_nf (by omega), s_nf (by omega), s_nf (by omega), hb 8 0 i (by decide) (by decide) (by omega), d8 i w8 (by omega)]
    refine ⟨-1, sup (sup (sup σ1 7 0 1 0) 7 0 2 (σ1 6 0 0)) 7 0 3 (σ1 6 0 1), scp (sup (sup (sup ρ1 8 0 10 0) 8 0 11 (ρ1 8 0 13)) 8 0 12 (ρ1 8 0 14)) 31 0 0 30 0 0 2111, ?_, ?_, (hN.mono (Nat.le_succ nn)).both (fun C K M hC hK => vq 0 C K M (by decide) hC hK) (fun q hq => ?_), ⟨0, Nat.zero_le _, ?_, ?_, fun i hi => absurd hi (Nat.not_lt_zero i)⟩, ⟨m, o1, ?_, ?_, fun i hi => ?_⟩, ⟨?_, ?_⟩, ?_, hh, x, h6, h7, ?_, ?_, ?_, fun i hi => ?_⟩
    · rw [e1, p_bi, p_st, s_ne (show (6 : Nat) ≠ 7 by decide), p_st, s_ne (show (6 : Nat) ≠ 7 by decide), s_ne (show (6 : Nat) ≠ 7 by decide), p_st, if_pos (show (0 : Int32) = 0 from rfl)]
    · rw [e2, p_bi, p_st, s_nf (show (13 : Nat) ≠ 10 by decide), p_st, s_nf (show (14 : Nat) ≠ 11 by decide), s_nf (show (14 : Nat) ≠ 10 by decide), p_st, if_pos (show (0 : Int32) = 0 from rfl), show f_X8_copies (sup (sup (sup ρ1 8 0 10 0) 8 0 11 (ρ1 8 0 13)) 8 0 12 (ρ1 8 0 14)) 31 0 2111 0 30 0 2111 0 2111 = _ from b_copies _ (p := 0) (q := 0) (n := 2111) (by decide) (by decide) (by decide) (by decide) (Or.inl (by decide)), p_bv]
    · rw [c_in0 hq, s_ne (by decide), s_ne (by decide), s_ne (by decide), hb 31 0 q (by decide) (by decide) (by omega), d31 q hq]
    · rw [s_nf (by decide), s_nf (by decide), s_at]; rfl
    · rw [c_ne (by decide), s_nf (by decide), s_nf (by decide), s_at]; rfl
    · rw [g7 5 (by decide) (by decide) (by decide)]; exact o2
    · rw [r8 22 (by decide) (by omega)]; exact o3
    · rw [gk 11 0 i (by decide) (by decide) id, rk 38 (by decide) (by decide) (by decide) (by decide)]; exact o4 i hi
    · rw [s_nf (by decide), s_at, c_ne (by decide), s_nf (by decide), s_at]; exact z0
    · rw [s_at, c_ne (by decide), s_at]; exact z1
    · rcases h4 with ⟨a, b⟩ | ⟨a, b, c⟩
      · exact Or.inl ⟨(g7 9 (by decide) (by decide) (by decide)).trans a, (r8 7 (by decide) (by omega)).trans b⟩
      · exact Or.inr ⟨(g7 9 (by decide) (by decide) (by decide)).trans a, (r8 7 (by decide) (by omega)).trans b, (c.mono (Nat.le_succ nn)).both (fun C K M hC hK => vq 2 C K M (by decide) hC hK) (fun q _ => rk 33 (by decide) (by decide) (by decide) (by decide) 0 q)⟩
    · rw [gk 3 0 0 (by decide) (by decide) id]; exact h8
    · rw [gk 3 0 1 (by decide) (by decide) id]; exact h9
    · rw [r8 6 (by decide) (by omega)]; exact h10
    · exact ((h11 i hi).mono (Nat.le_succ nn)).both (fun C K M hC hK => vq _ C K M (by omega) hC hK) (fun q _ => rk 34 (by decide) (by decide) (by decide) (by decide) 0 _)
