/-! one statement, and the text to its end -/
section SV
variable {n p : Nat} {inp : Nat → Nat} {σ ρ σ0 ρ0 : Sg} {F C K : Nat}
theorem t_setting (hA : AK n inp p σ) (hB : BK n inp p ρ) (hP : PS σ0 ρ0 F C K σ ρ) (hr : LXr inp n p = 1) {w lo hi : Nat} (hw : w < 5) (hlo : lo < 10000) (hhi : hi < 10000) (h0 : stab 0 (nI w).toNatClampNeg = nI lo) (h1 : stab 1 (nI w).toNatClampNeg = nI hi) (q1 : w = 1 → 3 ≤ lo ∧ hi ≤ 50) (q2 : w = 2 → hi ≤ 20) (q3 : w = 3 → hi ≤ 5) : OUT n inp σ0 ρ0 p (f_X6_readSetting σ 1 (nI w)) (fun k => YC (f_X8_takesOnce ρ (nI (w + 4)) (nI lo) (nI hi)) k) := by
  refine t_once hA hB hP hr (w := w) (by omega) hlo hhi (fun σ2 => if nI w < 0 ∨ 5 ≤ (nI w).toNatClampNeg then none else (st (sup σ2 12 1 (nI w).toNatClampNeg (σ2 6 0 7)) fun σ4 => (f_X6_readSetting_87 σ4))) (fun σ2 ρ2 v hP2 e5 e7 e8 => ?_) ?_
  · refine ⟨sup σ2 12 1 w (nI v), ?_, ⟨Fr.put (show Own 1 12 1 from rfl) σ2 w (nI v), fun k hk => s_ne hk⟩, ⟨?_, Nat.zero_le _⟩, ?_⟩
    · show (if nI w < 0 ∨ 5 ≤ (nI w).toNatClampNeg then none else (st (sup σ2 12 1 (nI w).toNatClampNeg (σ2 6 0 7)) fun σ4 => (f_X6_readSetting_87 σ4))) = _
      rw [gq hw (by decide), ni_cl (by omega), e5, p_st]
      rfl
    · rw [vs_12, su_ru, Nat.add_comm w 4]
      exact S_set hP2.1.1 hw (fun z => ⟨by have := q1 z; omega, by have := q1 z; omega⟩) (fun z => by have := q2 z; omega) (fun z => by have := q3 z; omega)
    · rw [su_ru]
      exact hP2.2.1.ext (D_C hP2.1.1) (D_K hP2.1.1) (fun i hi => ru_ne (by omega))
  · unfold f_X6_readSetting
    by_cases hh : ((jush (σ 6 0 8) (nI w)) &&& 1) = 0
    · rw [if_pos hh, if_pos hh, p_st, if_neg (show ¬ nI w = 5 by rw [show (5 : Int32) = nI 5 from rfl, ni_eq (by omega) (by omega)]; omega), gq hw (by decide), gq hw (by decide), h0, h1]
    · rw [if_neg hh, if_neg hh]
      rfl
theorem t_seed (hA : AK n inp p σ) (hB : BK n inp p ρ) (hP : PS σ0 ρ0 F C K σ ρ) (hr : LXr inp n p = 1) : OUT n inp σ0 ρ0 p (f_X6_readSetting σ 1 (nI 5)) (fun k => YC (f_X8_takesOnce ρ (nI (5 + 4)) (nI 0) (nI 9999)) k) := by
  refine t_once hA hB hP hr (w := 5) (by decide) (by decide) (by decide) (fun σ2 => (st (sup σ2 4 1 4 (σ2 6 0 7)) fun σ7 => (f_X6_readSetting_87 σ7))) (fun σ2 ρ2 v hP2 e5 e7 e8 => ?_) ?_
  · refine ⟨sup σ2 4 1 4 (nI v), ?_, ⟨Fr.put (show Own 1 4 1 from rfl) σ2 4 (nI v), fun k hk => s_ne hk⟩, ⟨?_, Nat.zero_le _⟩, ?_⟩
    · show (st (sup σ2 4 1 4 (σ2 6 0 7)) fun σ7 => (f_X6_readSetting_87 σ7)) = _
      rw [e5, p_st]
      rfl
    · rw [vs_4, su_ru]
      exact S_seed hP2.1.1 (nI v)
    · rw [su_ru]
      exact hP2.2.1.ext (D_C hP2.1.1) (D_K hP2.1.1) (fun i hi => ru_ne (by omega))
  · unfold f_X6_readSetting
    by_cases hh : ((jush (σ 6 0 8) (nI 5)) &&& 1) = 0
    · rw [if_pos hh, if_pos hh, p_st, if_pos (show nI 5 = 5 from rfl)]
      rfl
    · rw [if_neg hh, if_neg hh]
      rfl
theorem t_stmt (hA : AK n inp p σ) (hB : BK n inp p ρ) (hP : PS σ0 ρ0 F C K σ ρ) : OUT n inp σ0 ρ0 p (f_X6_readStatement σ 1) (fun k => f_X8_readText_16 k ρ) := by
  have a : ∀ w, w < 9 → f_X6_isWord σ w = some (W_b (WD inp n p w), σ) := fun w hw => a_word hA hw
  have b : ∀ w, w < 9 → f_X8_isWord ρ w = some (W_b (WD inp n p w), ρ) := fun w hw => b_word hB hw
  obtain ⟨hF2, hF30⟩ := hP.bF
  have so : f_X6_settingOfWord σ = some (if WD inp n p 3 = true then 0 else if WD inp n p 4 = true then 1 else if WD inp n p 5 = true then 2 else if WD inp n p 6 = true then 3 else if WD inp n p 7 = true then 4 else if WD inp n p 8 = true then 5 else -1, σ) := by
    unfold f_X6_settingOfWord f_X6_settingOfWord_69
    rw [a 3 (by decide), p_bi]
    cases WD inp n p 3
    · rw [if_pos (show W_b false = 0 from rfl), a 4 (by decide), p_bi]
      cases WD inp n p 4
      · rw [if_pos (show W_b false = 0 from rfl), a 5 (by decide), p_bi]
        cases WD inp n p 5
        · rw [if_pos (show W_b false = 0 from rfl), a 6 (by decide), p_bi]
          cases WD inp n p 6
          · rw [if_pos (show W_b false = 0 from rfl), a 7 (by decide), p_bi]
            cases WD inp n p 7
            · rw [if_pos (show W_b false = 0 from rfl), a 8 (by decide), p_bi]
              cases WD inp n p 8 <;> rfl
            · rfl
          · rfl
        · rfl
      · rfl
    · rfl
  show OUT n inp σ0 ρ0 p (f_X6_readStatement σ 1) (fun k => YR (f_X8_readStatement ρ) k)
  unfold f_X6_readStatement f_X8_readStatement
  rw [B_F hP.1.1, if_neg (show ¬ nI F = 0 by rw [show (0 : Int32) = nI 0 from rfl, ni_eq (by omega) (by omega)]; omega), a 1 (by decide), b 1 (by decide), p_bi, p_bi]
  cases e1 : WD inp n p 1
  · rw [if_pos (show W_b false = 0 from rfl), if_pos (show W_b false = 0 from rfl), a 2 (by decide), b 2 (by decide), p_bi, p_bi]
    cases e2 : WD inp n p 2
    · rw [if_pos (show W_b false = 0 from rfl), if_pos (show W_b false = 0 from rfl), so, p_bi]
      rw [b 3 (by decide), p_bi]
      cases e3 : WD inp n p 3
      case true =>
        rw [if_neg (show ¬ W_b true = 0 by decide)]
        simp only [e3, if_true, if_false, Bool.false_eq_true]
        rw [if_pos (show (0 : Int32) ≤ 0 by decide)]
        exact (t_setting hA hB hP (WD_len e3).1 (w := 0) (lo := 0) (hi := 90) (by decide) (by decide) (by decide) rfl rfl (by decide) (by decide) (by decide)).chk
      case false =>
        rw [if_pos (show W_b false = 0 from rfl)]
        rw [b 8 (by decide), p_bi]
        cases e8 : WD inp n p 8
        case true =>
          obtain ⟨e4, e5, e6, e7⟩ := WD_seed e8
          rw [if_neg (show ¬ W_b true = 0 by decide)]
          simp only [e3, e8, e4, e5, e6, e7, if_true, if_false, Bool.false_eq_true]
          rw [if_pos (show (0 : Int32) ≤ 5 by decide)]
          exact (t_seed hA hB hP (WD_len e8).1).chk
        case false =>
          rw [if_pos (show W_b false = 0 from rfl)]
          rw [b 4 (by decide), p_bi]
          cases e4 : WD inp n p 4
          case true =>
            rw [if_neg (show ¬ W_b true = 0 by decide)]
            simp only [e3, e4, if_true, if_false, Bool.false_eq_true]
            rw [if_pos (show (0 : Int32) ≤ 1 by decide)]
            exact (t_setting hA hB hP (WD_len e4).1 (w := 1) (lo := 3) (hi := 50) (by decide) (by decide) (by decide) rfl rfl (by decide) (by decide) (by decide)).chk
          case false =>
            rw [if_pos (show W_b false = 0 from rfl)]
            rw [b 5 (by decide), p_bi]
            cases e5 : WD inp n p 5
            case true =>
              rw [if_neg (show ¬ W_b true = 0 by decide)]
              simp only [e3, e4, e5, if_true, if_false, Bool.false_eq_true]
              rw [if_pos (show (0 : Int32) ≤ 2 by decide)]
              exact (t_setting hA hB hP (WD_len e5).1 (w := 2) (lo := 0) (hi := 20) (by decide) (by decide) (by decide) rfl rfl (by decide) (by decide) (by decide)).chk
            case false =>
              rw [if_pos (show W_b false = 0 from rfl)]
              rw [b 6 (by decide), p_bi]
              cases e6 : WD inp n p 6
              case true =>
                rw [if_neg (show ¬ W_b true = 0 by decide)]
                simp only [e3, e4, e5, e6, if_true, if_false, Bool.false_eq_true]
                rw [if_pos (show (0 : Int32) ≤ 3 by decide)]
                exact (t_setting hA hB hP (WD_len e6).1 (w := 3) (lo := 0) (hi := 5) (by decide) (by decide) (by decide) rfl rfl (by decide) (by decide) (by decide)).chk
              case false =>
                rw [if_pos (show W_b false = 0 from rfl)]
                rw [b 7 (by decide), p_bi]
                cases e7 : WD inp n p 7
                case true =>
                  rw [if_neg (show ¬ W_b true = 0 by decide)]
                  simp only [e3, e4, e5, e6, e7, if_true, if_false, Bool.false_eq_true]
                  rw [if_pos (show (0 : Int32) ≤ 4 by decide)]
                  exact (t_setting hA hB hP (WD_len e7).1 (w := 4) (lo := 1) (hi := 999) (by decide) (by decide) (by decide) rfl rfl (by decide) (by decide) (by decide)).chk
                case false =>
                  rw [if_pos (show W_b false = 0 from rfl)]
                  simp only [e3, e4, e5, e6, e7, e8, if_true, if_false, Bool.false_eq_true]
                  rw [if_neg (show ¬ (0 : Int32) ≤ -1 by decide), a_fail, b_fail hB.2.2.2.2.2.2, p_bi, p_bi, if_neg (show ¬ ¬ ((0 : Int32) = 0 ∨ (0 : Int32) = 1) by decide)]
                  exact OUT.bad hP rfl (fun k => YR_0 _ k) (t_fail 1 (hA.2.2.2.2.1.trans hB.2.2.2.2.1.symm))
    · rw [if_neg (show ¬ W_b true = 0 by decide), if_neg (show ¬ W_b true = 0 by decide)]
      exact (t_call hA hB hP (WD_len e2).1).chk
  · rw [if_neg (show ¬ W_b true = 0 by decide), if_neg (show ¬ W_b true = 0 by decide)]
    exact (t_car hA hB hP (WD_len e1).1).chk
def END (σ0 ρ0 : Sg) (x y : Option (Int32 × Sg)) : Prop :=
  (∃ σ' ρ' F C K, x = some (1, σ') ∧ y = some (1, ρ') ∧ PS σ0 ρ0 F C K σ' ρ' ∧ 1 ≤ C ∧ ρ' 8 0 13 = 0) ∨ ∃ σ' ρ', x = some (0, σ') ∧ y = some (0, ρ') ∧ FL σ0 ρ0 σ' ρ'
theorem t_loop : ∀ (d p : Nat), n - p < d → ∀ (σ ρ : Sg) (F C K i f g : Nat), TKn n inp p σ ρ → PS σ0 ρ0 F C K σ ρ → i ≤ p → d ≤ f → d ≤ g → END σ0 ρ0 (f_X6_read_52 f σ 1 (nI i)) (f_X8_readText_0 g ρ) := by
  intro d
  induction d with
  | zero => intro p hd; omega
  | succ d ih =>
    intro p hd σ ρ F C K i f g hT hP hi hf hg
    obtain ⟨f, rfl⟩ : ∃ x, f = x + 1 := ⟨f - 1, by omega⟩
    obtain ⟨g, rfl⟩ : ∃ x, g = x + 1 := ⟨g - 1, by omega⟩
    obtain ⟨hc, h4, hB⟩ := id hT
    obtain ⟨hcy, hp, b5, b8, b6, b7, b13⟩ := id hB
    have hn := hcy.2.1
    obtain ⟨hF2, hF30⟩ := hP.bF
    have hb := LX_bd (inp := inp) hp
    obtain ⟨σ1, a1, a2, a3, a4, a5, a6⟩ := a_next hc h4 hp
    have hA : AK n inp p σ1 := ⟨hc.kf a2, hp, a3, a4, a5, a6⟩
    have hP1 := hP.kf a2 (KG.rf ρ).ku
    have hk : LXk inp n p = 0 ↔ LXr inp n p = 0 := by
      unfold LXk
      split <;> omega
    have hk4 : LXk inp n p ≤ 4 := by
      unfold LXk
      split <;> omega
    rw [f_X6_read_52_s, hc.2.1, if_neg (show ¬ nI n < nI i by rw [ni_lt (by omega) (by omega)]; omega), a1, p_bv, a4, f_X8_readText_0_s, b8, B_F hP.1.1]
    by_cases w : LXr inp n p = 0
    · rw [if_pos (show nI (LXk inp n p) = 0 by rw [hk.2 w]; rfl), if_pos (show nI (LXr inp n p) = 0 by rw [w]; rfl), if_neg (show ¬ nI F = 0 by rw [show (0 : Int32) = nI 0 from rfl, ni_eq (by omega) (by omega)]; omega)]
      unfold f_X6_read_72 f_X6_read_87 f_X6_read_92 f_X8_readText_46 f_X8_readText_63 f_X8_readText_68
      have dC := D_C hP.1.1
      rw [A_C hP1.1.1, B_C hP.1.1]
      by_cases wc : 0 < C
      · rw [if_pos (show 0 < nI C by rw [show (0 : Int32) = nI 0 from rfl, ni_lt (by omega) (by omega)]; exact wc), if_pos (show 0 < nI C by rw [show (0 : Int32) = nI 0 from rfl, ni_lt (by omega) (by omega)]; exact wc), if_neg (show ¬ ¬ ((1 : Int32) = 0 ∨ (1 : Int32) = 1) by decide), if_neg (show ¬ ¬ ((1 : Int32) = 0 ∨ (1 : Int32) = 1) by decide)]
        exact Or.inl ⟨σ1, ρ, F, C, K, rfl, rfl, hP1, wc, b13⟩
      · rw [if_neg (show ¬ 0 < nI C by rw [show (0 : Int32) = nI 0 from rfl, ni_lt (by omega) (by omega)]; exact wc), if_neg (show ¬ 0 < nI C by rw [show (0 : Int32) = nI 0 from rfl, ni_lt (by omega) (by omega)]; exact wc), a_fail, b_fail b13, p_bi, p_bi, if_pos (show (0 : Int32) = 0 from rfl), if_pos (show (0 : Int32) = 0 from rfl), if_neg (show ¬ ¬ ((0 : Int32) = 0 ∨ (0 : Int32) = 1) by decide), if_neg (show ¬ ¬ ((0 : Int32) = 0 ∨ (0 : Int32) = 1) by decide)]
        exact Or.inr ⟨_, _, rfl, rfl, (t_fail 4 (a5.trans b6.symm)).pre hP1.2.2.1 hP1.2.2.2.1⟩
    · rw [if_neg (show ¬ nI (LXk inp n p) = 0 by rw [show (0 : Int32) = nI 0 from rfl, ni_eq (by omega) (by omega), hk]; exact w), if_neg (show ¬ nI (LXr inp n p) = 0 by rw [show (0 : Int32) = nI 0 from rfl, ni_eq (by omega) (by omega)]; exact w)]
      rcases t_stmt hA hB hP1 with ⟨σ', ρ', F', C', K', p', e1, e2, e3, e4, e5⟩ | ⟨σ', ρ', e1, e2, e3⟩
      · have hp' := e4.2.2.2.1
        rw [e1, show f_X8_readText_16 (f_X8_readText_0 g) ρ = _ from e2 _, p_bi, if_neg (show ¬ (1 : Int32) = 0 by decide), ni_1]
        exact ih p' (by omega) σ' ρ' F' C' K' (i + 1) f g e4 e3 (by omega) (by omega) (by omega)
      · rw [e1, show f_X8_readText_16 (f_X8_readText_0 g) ρ = _ from e2 _, p_bi, if_pos (show (0 : Int32) = 0 from rfl)]
        exact Or.inr ⟨σ', ρ', rfl, rfl, e3⟩
end SV
