/-! one token of the reference; words of both -/
section LY
variable {n : Nat} {inp : Nat → Nat} {σ ρ : Sg}
theorem lb_blank (h : CY n inp ρ) : ∀ d f p, n - p = d → d < f → p ≤ n → f_X8_advanceToken_0 f (sup ρ 8 0 15 (nI p)) = f_X8_advanceToken_39 (sup ρ 8 0 15 (nI (rn lxB inp n p))) := by
  have hn := h.2.1
  intro d
  induction d with
  | zero =>
    intro f p hd hf hp
    obtain ⟨f, rfl⟩ : ∃ g, f = g + 1 := ⟨f - 1, by omega⟩
    have hb := b_byte (h.kg (KG.put (σ := ρ) (i := 15) (x := nI p) (by decide))) (p := p) (by omega)
    rw [if_neg (show ¬ p < n by omega)] at hb
    rw [f_X8_advanceToken_0_s, s_at, hb, p_bi, if_neg (show ¬ (-1 : Int32) = 32 by decide), s_at, hb, p_bi, if_neg (show ¬ (-1 : Int32) = 10 by decide), rn_no (fun q => by omega)]
  | succ d ih =>
    intro f p hd hf hp
    obtain ⟨f, rfl⟩ : ∃ g, f = g + 1 := ⟨f - 1, by omega⟩
    have hb := b_byte (h.kg (KG.put (σ := ρ) (i := 15) (x := nI p) (by decide))) (p := p) (by omega)
    rw [if_pos (show p < n by omega)] at hb
    have hi := (h.2.2 p (by omega)).1
    rw [f_X8_advanceToken_0_s, s_at, hb, p_bi]
    by_cases w1 : inp p = 32
    · rw [if_pos (show nI (inp p) = 32 by rw [w1]; rfl)]
      unfold f_X8_advanceToken_26
      rw [p_st, s_at, s_ss, ni_1, rn_go (by omega) (show lxB (inp p) = true from decide_eq_true (Or.inl w1))]
      exact ih f (p + 1) (by omega) (by omega) (by omega)
    · rw [if_neg (show ¬ nI (inp p) = 32 by rw [show (32 : Int32) = nI 32 from rfl, ni_eq (by omega) (by omega)]; exact w1), s_at, hb, p_bi]
      by_cases w2 : inp p = 10
      · rw [if_pos (show nI (inp p) = 10 by rw [w2]; rfl)]
        unfold f_X8_advanceToken_26
        rw [p_st, s_at, s_ss, ni_1, rn_go (by omega) (show lxB (inp p) = true from decide_eq_true (Or.inr w2))]
        exact ih f (p + 1) (by omega) (by omega) (by omega)
      · rw [if_neg (show ¬ nI (inp p) = 10 by rw [show (10 : Int32) = nI 10 from rfl, ni_eq (by omega) (by omega)]; exact w2), rn_no (fun q => (of_decide_eq_true q.2).elim w1 w2)]
theorem lb_let (h : CY n inp ρ) : ∀ d f p, n - p = d → d < f → p ≤ n → f_X8_advanceToken_90 f (sup ρ 8 0 15 (nI p)) = some (sup ρ 8 0 15 (nI (rn lxL inp n p))) := by
  have hn := h.2.1
  intro d
  induction d with
  | zero =>
    intro f p hd hf hp
    obtain ⟨f, rfl⟩ : ∃ g, f = g + 1 := ⟨f - 1, by omega⟩
    have hb := b_byte (h.kg (KG.put (σ := ρ) (i := 15) (x := nI p) (by decide))) (p := p) (by omega)
    rw [if_neg (show ¬ p < n by omega)] at hb
    have hr : f_X8_inRange (sup ρ 8 0 15 (nI p)) (-1) 97 122 = some (0, sup ρ 8 0 15 (nI p)) := b_inN _ (lo := 97) (hi := 122) (by decide)
    rw [f_X8_advanceToken_90_s, s_at, hb, p_bi, hr, p_bi, if_pos (show (0 : Int32) = 0 from rfl), rn_no (fun q => by omega)]
    rfl
  | succ d ih =>
    intro f p hd hf hp
    obtain ⟨f, rfl⟩ : ∃ g, f = g + 1 := ⟨f - 1, by omega⟩
    have hb := b_byte (h.kg (KG.put (σ := ρ) (i := 15) (x := nI p) (by decide))) (p := p) (by omega)
    rw [if_pos (show p < n by omega)] at hb
    have hi := (h.2.2 p (by omega)).1
    have hr : f_X8_inRange (sup ρ 8 0 15 (nI p)) (nI (inp p)) 97 122 = some (W_b (lxL (inp p)), sup ρ 8 0 15 (nI p)) := b_inR _ (lo := 97) (hi := 122) hi (by decide) (by decide)
    rw [f_X8_advanceToken_90_s, s_at, hb, p_bi, hr, p_bi]
    cases w : lxL (inp p)
    · rw [if_pos (show W_b false = 0 from rfl), rn_no (fun q => by rw [w] at q; exact absurd q.2 (by decide))]
      rfl
    · rw [if_neg (show ¬ W_b true = 0 by decide), p_st, s_at, s_ss, ni_1, rn_go (by omega) w]
      exact ih f (p + 1) (by omega) (by omega) (by omega)
theorem lb_dig (h : CY n inp ρ) {st : Nat} (hst : ρ 8 0 16 = nI st) : ∀ d f p v, n - p = d → d < f → p ≤ n → st ≤ p → f_X8_advanceToken_137 f (sup (sup ρ 8 0 17 (nI v)) 8 0 15 (nI p)) = some (sup (sup ρ 8 0 17 (nI (dv inp n st p v))) 8 0 15 (nI (rn lxD inp n p))) := by
  have hn := h.2.1
  intro d
  induction d with
  | zero =>
    intro f p v hd hf hp hs
    obtain ⟨f, rfl⟩ : ∃ g, f = g + 1 := ⟨f - 1, by omega⟩
    have hb := b_byte (h.kg ((KG.put (σ := ρ) (i := 17) (x := nI v) (by decide)).trans (KG.put (i := 15) (x := nI p) (by decide)))) (p := p) (by omega)
    rw [if_neg (show ¬ p < n by omega)] at hb
    have hr : f_X8_inRange (sup (sup ρ 8 0 17 (nI v)) 8 0 15 (nI p)) (-1) 48 57 = some (0, sup (sup ρ 8 0 17 (nI v)) 8 0 15 (nI p)) := b_inN _ (lo := 48) (hi := 57) (by decide)
    rw [f_X8_advanceToken_137_s, s_at, hb, p_bi, hr, p_bi, if_pos (show (0 : Int32) = 0 from rfl), rn_no (fun q => by omega), dv_no (fun q => by omega)]
    rfl
  | succ d ih =>
    intro f p v hd hf hp hs
    obtain ⟨f, rfl⟩ : ∃ g, f = g + 1 := ⟨f - 1, by omega⟩
    have hb := b_byte (h.kg ((KG.put (σ := ρ) (i := 17) (x := nI v) (by decide)).trans (KG.put (i := 15) (x := nI p) (by decide)))) (p := p) (by omega)
    rw [if_pos (show p < n by omega)] at hb
    have hi := (h.2.2 p (by omega)).1
    have hr : f_X8_inRange (sup (sup ρ 8 0 17 (nI v)) 8 0 15 (nI p)) (nI (inp p)) 48 57 = some (W_b (lxD (inp p)), sup (sup ρ 8 0 17 (nI v)) 8 0 15 (nI p)) := b_inR _ (lo := 48) (hi := 57) hi (by decide) (by decide)
    have e6 : sup (sup ρ 8 0 17 (nI v)) 8 0 15 (nI p) 8 0 16 = nI st := by rw [s_nf (by decide), s_nf (by decide)]; exact hst
    have e7 : sup (sup ρ 8 0 17 (nI v)) 8 0 15 (nI p) 8 0 17 = nI v := by rw [s_nf (by decide), s_at]
    have e5 : sup (sup ρ 8 0 17 (nI v)) 8 0 15 (nI p) 8 0 15 = nI p := s_at _ _ _ _ _
    rw [f_X8_advanceToken_137_s, e5, hb, p_bi, hr, p_bi]
    cases w : lxD (inp p)
    · rw [if_pos (show W_b false = 0 from rfl), rn_no (fun q => by rw [w] at q; exact absurd q.2 (by decide)), dv_no (fun q => by rw [w] at q; exact absurd q.2 (by decide))]
      rfl
    · rw [if_neg (show ¬ W_b true = 0 by decide), e5, e6, ni_sub hs, show (4 : Int32) = nI 4 from rfl, rn_go (by omega) w, dv_go (by omega) w]
      have h48 : 48 ≤ inp p := (of_decide_eq_true w).1
      by_cases w4 : 4 ≤ p - st
      · rw [if_pos (by rw [ni_le (by omega) (by omega)]; exact w4), if_pos w4]
        unfold f_X8_advanceToken_191
        rw [p_st, e5, s_ss, ni_1]
        exact ih f (p + 1) v (by omega) (by omega) (by omega) (by omega)
      · rw [if_neg (by rw [ni_le (by omega) (by omega)]; exact w4), if_neg w4, hb, p_bi, e7]
        rw [show (10 : Int32) * nI v + nI (inp p) - 48 = nI (10 * v + inp p - 48) from by rw [show (10 : Int32) * nI v = nI (10 * v) from ni_mul 10 v, ni_add]; exact ni_sub (b := 48) (by omega), p_st]
        unfold f_X8_advanceToken_191
        rw [p_st, s_nf (show (15 : Nat) ≠ 17 by decide), s_at, s_cm (show ¬ ((8 : Nat) = 8 ∧ (0 : Nat) = 0 ∧ (15 : Nat) = 17) by decide), s_ss, s_ss, ni_1]
        exact ih f (p + 1) _ (by omega) (by omega) (by omega) (by omega)
theorem b_next (h : CY n inp ρ) {p : Nat} (h5 : ρ 8 0 15 = nI p) (hp : p ≤ n) : ∃ ρ', f_X8_advanceToken ρ = some ρ' ∧ KG ρ ρ' ∧ ρ' 8 0 15 = nI (LXe inp n p) ∧ ρ' 8 0 18 = nI (LXr inp n p) ∧ ρ' 8 0 16 = nI (LXq inp n p) ∧ (LXr inp n p = 2 → ρ' 8 0 17 = nI (LXv inp n p)) := by
  have hn := h.2.1
  have hq := (LX_bd (inp := inp) hp).1
  have hq2 : LXq inp n p ≤ n := (rn_bd (P := lxB) (inp := inp) (n := n) (n - p) p rfl hp).2
  have e := lb_blank h (n - p) FU p rfl (by show n - p < 65536; omega) hp
  rw [sup_self h5] at e
  have e' : f_X8_advanceToken ρ = f_X8_advanceToken_39 (sup ρ 8 0 15 (nI (LXq inp n p))) := e
  rw [e']
  have k0 : KG ρ (sup (sup (sup ρ 8 0 15 (nI (LXq inp n p))) 8 0 16 (nI (LXq inp n p))) 8 0 17 0) := ((KG.put (by decide)).trans (KG.put (by decide))).trans (KG.put (by decide))
  have k1 : KG ρ (sup (sup ρ 8 0 15 (nI (LXq inp n p))) 8 0 16 (nI (LXq inp n p))) := (KG.put (by decide)).trans (KG.put (by decide))
  have h0 := h.kg k0
  have hb := b_byte (h.kg k1) (p := LXq inp n p) (by omega)
  have s5 : sup (sup (sup ρ 8 0 15 (nI (LXq inp n p))) 8 0 16 (nI (LXq inp n p))) 8 0 17 0 8 0 15 = nI (LXq inp n p) := by rw [s_nf (by decide), s_nf (by decide), s_at]
  have s6 : sup (sup (sup ρ 8 0 15 (nI (LXq inp n p))) 8 0 16 (nI (LXq inp n p))) 8 0 17 0 8 0 16 = nI (LXq inp n p) := by rw [s_nf (by decide), s_at]
  have s7 : sup (sup (sup ρ 8 0 15 (nI (LXq inp n p))) 8 0 16 (nI (LXq inp n p))) 8 0 17 0 8 0 17 = 0 := s_at _ _ _ _ _
  unfold f_X8_advanceToken_39 f_X8_advanceToken_229
  rw [s_at, p_st, s_nf (show (15 : Nat) ≠ 16 by decide), s_at, hb, p_bi, p_st]
  generalize hS : sup (sup (sup ρ 8 0 15 (nI (LXq inp n p))) 8 0 16 (nI (LXq inp n p))) 8 0 17 0 = S at k0 h0 s5 s6 s7 ⊢
  by_cases w : LXq inp n p < n
  · have hi := (h0.2.2 _ w).1
    rw [if_pos w, if_neg (show ¬ nI (inp (LXq inp n p)) = -1 by intro q; have := congrArg Int32.toInt q; rw [ni_int (by omega)] at this; have g : (-1 : Int32).toInt = -1 := by decide
                                                                rw [g] at this; omega)]
    have hr1 : f_X8_inRange S (nI (inp (LXq inp n p))) 97 122 = some (W_b (lxL (inp (LXq inp n p))), S) := b_inR _ (lo := 97) (hi := 122) hi (by decide) (by decide)
    have hr2 : f_X8_inRange S (nI (inp (LXq inp n p))) 48 57 = some (W_b (lxD (inp (LXq inp n p))), S) := b_inR _ (lo := 48) (hi := 57) hi (by decide) (by decide)
    rw [hr1, p_bi]
    cases w1 : lxL (inp (LXq inp n p))
    · rw [if_pos (show W_b false = 0 from rfl), hr2, p_bi]
      cases w2 : lxD (inp (LXq inp n p))
      · rw [if_pos (show W_b false = 0 from rfl)]
        unfold f_X8_advanceToken_216 f_X8_advanceToken_229
        have eE : LXe inp n p = LXq inp n p + 1 := by unfold LXe; rw [if_pos w, w1, if_neg (show ¬ false = true by decide), w2, if_neg (show ¬ false = true by decide)]
        have eR : LXr inp n p = if inp (LXq inp n p) = 59 then 3 else 4 := by unfold LXr; rw [if_pos w, w1, if_neg (show ¬ false = true by decide), w2, if_neg (show ¬ false = true by decide)]
        rw [eE, eR]
        by_cases w3 : inp (LXq inp n p) = 59
        · rw [if_pos (show nI (inp (LXq inp n p)) = 59 by rw [w3]; rfl), if_pos w3, p_st, p_st, s_nf (show (15 : Nat) ≠ 18 by decide), s5, ni_1]
          refine ⟨_, rfl, k0.trans ((KG.put (by decide)).trans (KG.put (by decide))), s_at _ _ _ _ _, ?_, ?_, fun q => absurd q (by decide)⟩
          · rw [s_nf (by decide), s_at]; rfl
          · rw [s_nf (by decide), s_nf (by decide)]; exact s6
        · rw [if_neg (show ¬ nI (inp (LXq inp n p)) = 59 by rw [show (59 : Int32) = nI 59 from rfl, ni_eq (by omega) (by omega)]; exact w3), if_neg w3, p_st, p_st, s_nf (show (15 : Nat) ≠ 18 by decide), s5, ni_1]
          refine ⟨_, rfl, k0.trans ((KG.put (by decide)).trans (KG.put (by decide))), s_at _ _ _ _ _, ?_, ?_, fun q => absurd q (by decide)⟩
          · rw [s_nf (by decide), s_at]; rfl
          · rw [s_nf (by decide), s_nf (by decide)]; exact s6
      · rw [if_neg (show ¬ W_b true = 0 by decide), p_st]
        have eE : LXe inp n p = rn lxD inp n (LXq inp n p) := by unfold LXe; rw [if_pos w, w1, if_neg (show ¬ false = true by decide), w2, if_pos rfl]
        have eR : LXr inp n p = 2 := by unfold LXr; rw [if_pos w, w1, if_neg (show ¬ false = true by decide), w2, if_pos rfl]
        have h8 := h0.kg (KG.put (σ := S) (i := 18) (x := 2) (by decide))
        have d := lb_dig h8 (show sup S 8 0 18 2 8 0 16 = nI (LXq inp n p) by rw [s_nf (by decide)]; exact s6) (n - LXq inp n p) FU (LXq inp n p) 0 rfl (by show n - LXq inp n p < 65536; omega) hq2 (Nat.le_refl _)
        rw [sup_self (σ := sup S 8 0 18 2) (k := 8) (o := 0) (i := 17) (x := nI 0) (by rw [s_nf (by decide)]; exact s7), sup_self (σ := sup S 8 0 18 2) (k := 8) (o := 0) (i := 15) (x := nI (LXq inp n p)) (by rw [s_nf (by decide)]; exact s5), ← eE] at d
        rw [d]
        refine ⟨_, rfl, k0.trans ((KG.put (by decide)).trans ((KG.put (by decide)).trans (KG.put (by decide)))), s_at _ _ _ _ _, ?_, ?_, fun _ => ?_⟩
        · rw [s_nf (by decide), s_nf (by decide), s_at, eR]; rfl
        · rw [s_nf (by decide), s_nf (by decide), s_nf (by decide)]; exact s6
        · rw [s_nf (by decide), s_at]; rfl
    · rw [if_neg (show ¬ W_b true = 0 by decide), p_st]
      have eE : LXe inp n p = rn lxL inp n (LXq inp n p) := by unfold LXe; rw [if_pos w, w1, if_pos rfl]
      have eR : LXr inp n p = 1 := by unfold LXr; rw [if_pos w, w1, if_pos rfl]
      have h8 := h0.kg (KG.put (σ := S) (i := 18) (x := 1) (by decide))
      have d := lb_let h8 (n - LXq inp n p) FU (LXq inp n p) rfl (by show n - LXq inp n p < 65536; omega) hq2
      rw [sup_self (σ := sup S 8 0 18 1) (by rw [s_nf (by decide)]; exact s5), ← eE] at d
      rw [d]
      refine ⟨_, rfl, k0.trans ((KG.put (by decide)).trans (KG.put (by decide))), s_at _ _ _ _ _, ?_, ?_, fun q => by rw [eR] at q; omega⟩
      · rw [s_nf (by decide), s_at, eR]; rfl
      · rw [s_nf (by decide), s_nf (by decide)]; exact s6
  · rw [if_neg w, if_pos rfl, p_st]
    have eE : LXe inp n p = LXq inp n p := by unfold LXe; rw [if_neg w]
    have eR : LXr inp n p = 0 := by unfold LXr; rw [if_neg w]
    refine ⟨_, rfl, k0.trans (KG.put (by decide)), ?_, ?_, ?_, fun q => by rw [eR] at q; omega⟩
    · rw [s_nf (by decide), s5, eE]
    · rw [s_at, eR]; rfl
    · rw [s_nf (by decide)]; exact s6
end LY
