/-! words and numbers of both -/
def WA (inp : Nat → Nat) (q w : Nat) : Nat → Nat → Bool
  | 0, _ => true
  | d + 1, i => decide (nI (inp (q + i)) = jchr w (nI i)) && WA inp q w d (i + 1)
def Wln (w : Nat) : Nat := z_lens.getD w 0
theorem Wln_8 {w : Nat} (hw : w < 9) : Wln w ≤ 8 := by
  have key : ∀ w, w < 9 → z_lens.getD w 0 ≤ 8 := by decide
  exact key w hw
def WD (inp : Nat → Nat) (n p w : Nat) : Bool := decide (LXr inp n p = 1) && (decide (LXe inp n p - LXq inp n p = Wln w) && WA inp (LXq inp n p) w (Wln w) 0)
/-- the class has read the token at p -/
def AK (n : Nat) (inp : Nat → Nat) (p : Nat) (σ : Sg) : Prop := CX n inp σ ∧ p ≤ n ∧ σ 6 0 4 = nI (LXe inp n p) ∧ σ 6 0 5 = nI (LXk inp n p) ∧ σ 6 0 6 = nI (LXq inp n p) ∧ (LXk inp n p = 2 → σ 6 0 7 = nI (LXv inp n p))
/-- the reference has -/
def BK (n : Nat) (inp : Nat → Nat) (p : Nat) (ρ : Sg) : Prop := CY n inp ρ ∧ p ≤ n ∧ ρ 8 0 15 = nI (LXe inp n p) ∧ ρ 8 0 18 = nI (LXr inp n p) ∧ ρ 8 0 16 = nI (LXq inp n p) ∧ (LXr inp n p = 2 → ρ 8 0 17 = nI (LXv inp n p)) ∧ ρ 8 0 13 = 0
section LW
variable {n p : Nat} {inp : Nat → Nat} {σ ρ : Sg}
theorem a_wl (h : CX n inp σ) {q w : Nat} (hw : w < 9) (h6 : σ 6 0 6 = nI q) (hq : q + Wln w ≤ n) : ∀ d f i, Wln w - i = d → d < f → i ≤ Wln w → f_X6_isWord_28 f σ w (nI i) = some (W_b (WA inp q w d i), σ) := by
  have hn := h.2.2.1
  have h8 := Wln_8 hw
  intro d
  induction d with
  | zero =>
    intro f i hd hf hi
    obtain ⟨f, rfl⟩ : ∃ g, f = g + 1 := ⟨f - 1, by omega⟩
    rw [f_X6_isWord_28_s, if_pos (show slen w ≤ nI i from by rw [show slen w = nI (Wln w) from rfl, ni_le (by omega) (by omega)]; omega)]
    rfl
  | succ d ih =>
    intro f i hd hf hi
    obtain ⟨f, rfl⟩ : ∃ g, f = g + 1 := ⟨f - 1, by omega⟩
    have hb := h.2.2.2 (q + i) (by omega)
    rw [f_X6_isWord_28_s, if_neg (show ¬ slen w ≤ nI i from by rw [show slen w = nI (Wln w) from rfl, ni_le (by omega) (by omega)]; omega), h.1, if_neg (show ¬ (1 : Int32) = 0 by decide), h6, ni_add, if_neg (show ¬ (nI (q + i) < 0 ∨ 700 ≤ (nI (q + i)).toNatClampNeg) by rw [gN (by omega) (by decide)]; exact id), if_neg (show ¬ (nI i < 0 ∨ z_lens.getD w 0 ≤ (nI i).toNatClampNeg) by rw [ni_cl (by omega), ni_nn (by omega)]; exact fun x => x.elim id (fun x => absurd (show Wln w ≤ i from x) (by omega))), ni_cl (by omega), hb.2]
    by_cases e : nI (inp (q + i)) = jchr w (nI i)
    · rw [if_pos e, ni_1, ih f (i + 1) (by omega) (by omega) (by omega)]
      show _ = some (W_b (decide (nI (inp (q + i)) = jchr w (nI i)) && WA inp q w d (i + 1)), σ)
      rw [decide_eq_true e, Bool.true_and]
    · rw [if_neg e]
      show _ = some (W_b (decide (nI (inp (q + i)) = jchr w (nI i)) && WA inp q w d (i + 1)), σ)
      rw [decide_eq_false e, Bool.false_and]
      rfl
theorem a_word (h : AK n inp p σ) {w : Nat} (hw : w < 9) : f_X6_isWord σ w = some (W_b (WD inp n p w), σ) := by
  obtain ⟨hc, hp, h4, h5, h6, h7⟩ := h
  have hn := hc.2.2.1
  have h8 := Wln_8 hw
  have hb := LX_bd (inp := inp) hp
  unfold f_X6_isWord f_X6_isWord_24 WD
  have hk : LXk inp n p = 1 ↔ LXr inp n p = 1 := by
    unfold LXk
    split <;> omega
  have hk4 : LXk inp n p ≤ 4 := by
    unfold LXk
    split <;> omega
  rw [h5, h4, h6, ni_sub hb.2.1]
  by_cases w1 : LXr inp n p = 1
  · rw [if_pos (show nI (LXk inp n p) = 1 by rw [hk.2 w1]; rfl), decide_eq_true w1, Bool.true_and]
    by_cases w2 : LXe inp n p - LXq inp n p = Wln w
    · rw [if_pos (show nI (LXe inp n p - LXq inp n p) = slen w by rw [w2]; rfl), decide_eq_true w2, Bool.true_and]
      exact a_wl hc hw h6 (by omega) (Wln w) FU 0 rfl (by show Wln w < 65536; omega) (Nat.zero_le _)
    · rw [if_neg (show ¬ nI (LXe inp n p - LXq inp n p) = slen w by rw [show slen w = nI (Wln w) from rfl, ni_eq (by omega) (by omega)]; exact w2), decide_eq_false w2, Bool.false_and]
      rfl
  · rw [if_neg (show ¬ nI (LXk inp n p) = 1 by rw [show (1 : Int32) = nI 1 from rfl, ni_eq (by omega) (by omega), hk]; exact w1), decide_eq_false w1, Bool.false_and]
    rfl
theorem b_wl (h : CY n inp ρ) {q w : Nat} (hw : w < 9) (h6 : ρ 8 0 16 = nI q) (hq : q + Wln w ≤ n) : ∀ d f i, Wln w - i = d → d < f → i ≤ Wln w → f_X8_isWord_23 f ρ w (nI i) = some (W_b (WA inp q w d i), ρ) := by
  have hn := h.2.1
  have h8 := Wln_8 hw
  intro d
  induction d with
  | zero =>
    intro f i hd hf hi
    obtain ⟨f, rfl⟩ : ∃ g, f = g + 1 := ⟨f - 1, by omega⟩
    rw [f_X8_isWord_23_s, if_pos (show slen w ≤ nI i from by rw [show slen w = nI (Wln w) from rfl, ni_le (by omega) (by omega)]; omega)]
    rfl
  | succ d ih =>
    intro f i hd hf hi
    obtain ⟨f, rfl⟩ : ∃ g, f = g + 1 := ⟨f - 1, by omega⟩
    have hb := h.2.2 (q + i) (by omega)
    rw [f_X8_isWord_23_s, if_neg (show ¬ slen w ≤ nI i from by rw [show slen w = nI (Wln w) from rfl, ni_le (by omega) (by omega)]; omega), h6, ni_add, if_neg (show ¬ (nI (q + i) < 0 ∨ 700 ≤ (nI (q + i)).toNatClampNeg) by rw [gN (by omega) (by decide)]; exact id), if_neg (show ¬ (nI i < 0 ∨ z_lens.getD w 0 ≤ (nI i).toNatClampNeg) by rw [ni_cl (by omega), ni_nn (by omega)]; exact fun x => x.elim id (fun x => absurd (show Wln w ≤ i from x) (by omega))), ni_cl (by omega), hb.2]
    by_cases e : nI (inp (q + i)) = jchr w (nI i)
    · rw [if_pos e, ni_1, ih f (i + 1) (by omega) (by omega) (by omega)]
      show _ = some (W_b (decide (nI (inp (q + i)) = jchr w (nI i)) && WA inp q w d (i + 1)), ρ)
      rw [decide_eq_true e, Bool.true_and]
    · rw [if_neg e]
      show _ = some (W_b (decide (nI (inp (q + i)) = jchr w (nI i)) && WA inp q w d (i + 1)), ρ)
      rw [decide_eq_false e, Bool.false_and]
      rfl
theorem b_word (h : BK n inp p ρ) {w : Nat} (hw : w < 9) : f_X8_isWord ρ w = some (W_b (WD inp n p w), ρ) := by
  obtain ⟨hc, hp, h4, h5, h6, h7, _⟩ := h
  have hn := hc.2.1
  have h8 := Wln_8 hw
  have hb := LX_bd (inp := inp) hp
  unfold f_X8_isWord f_X8_isWord_19 f_X8_tokenLength WD
  rw [h5, h4, h6, ni_sub hb.2.1, p_bi]
  by_cases w1 : LXr inp n p = 1
  · rw [if_pos (show nI (LXr inp n p) = 1 by rw [w1]; rfl), decide_eq_true w1, Bool.true_and]
    by_cases w2 : LXe inp n p - LXq inp n p = Wln w
    · rw [if_pos (show nI (LXe inp n p - LXq inp n p) = slen w by rw [w2]; rfl), decide_eq_true w2, Bool.true_and]
      exact b_wl hc hw h6 (by omega) (Wln w) FU 0 rfl (by show Wln w < 65536; omega) (Nat.zero_le _)
    · rw [if_neg (show ¬ nI (LXe inp n p - LXq inp n p) = slen w by rw [show slen w = nI (Wln w) from rfl, ni_eq (by omega) (by omega)]; exact w2), decide_eq_false w2, Bool.false_and]
      rfl
  · rw [if_neg (show ¬ nI (LXr inp n p) = 1 by rw [show (1 : Int32) = nI 1 from rfl, ni_eq (by omega) (by omega)]; exact w1), decide_eq_false w1, Bool.false_and]
    rfl
theorem WD_len {w : Nat} (h : WD inp n p w = true) : LXr inp n p = 1 ∧ LXe inp n p - LXq inp n p = Wln w ∧ WA inp (LXq inp n p) w (Wln w) 0 = true := by
  unfold WD at h
  rw [Bool.and_eq_true, Bool.and_eq_true] at h
  exact ⟨of_decide_eq_true h.1, of_decide_eq_true h.2.1, h.2.2⟩
theorem WD_seed (h : WD inp n p 8 = true) : WD inp n p 4 = false ∧ WD inp n p 5 = false ∧ WD inp n p 6 = false ∧ WD inp n p 7 = false := by
  have h1 := WD_len h
  have hz : ∀ w, Wln w ≠ 4 → WD inp n p w = false := fun w hw => by
    cases e : WD inp n p w
    · rfl
    · exact absurd ((WD_len e).2.1.symm.trans h1.2.1) hw
  refine ⟨hz 4 (by decide), hz 5 (by decide), ?_, hz 7 (by decide)⟩
  cases e : WD inp n p 6
  · rfl
  · have h2 := (WD_len e).2.2
    have h3 := h1.2.2
    have e1 : (decide (nI (inp (LXq inp n p + 0)) = jchr 8 (nI 0)) && WA inp (LXq inp n p) 8 3 1) = true := h3
    have e2 : (decide (nI (inp (LXq inp n p + 0)) = jchr 6 (nI 0)) && WA inp (LXq inp n p) 6 3 1) = true := h2
    rw [Bool.and_eq_true] at e1 e2
    have e3 := (of_decide_eq_true e1.1).symm.trans (of_decide_eq_true e2.1)
    exact absurd e3 (by decide +kernel)
/-! numbers -/
theorem dv_bd {st : Nat} : ∀ d p v, n - p = d → st ≤ p → v < 10 ^ (min (p - st) 4) → dv inp n st p v < 10000 := by
  intro d
  have b4 : ∀ k, k ≤ 4 → 10 ^ k ≤ 10000 := fun k hk => Nat.pow_le_pow_right (n := 10) (by decide) hk
  induction d with
  | zero =>
    intro p v hd hs hv
    rw [dv_no (fun q => by omega)]
    exact Nat.lt_of_lt_of_le hv (b4 _ (Nat.min_le_right _ _))
  | succ d ih =>
    intro p v hd hs hv
    by_cases h : p < n ∧ lxD (inp p) = true
    · rw [dv_go h.1 h.2]
      refine ih (p + 1) _ (by omega) (by omega) ?_
      have h48 := of_decide_eq_true h.2
      by_cases w : 4 ≤ p - st
      · rw [if_pos w, Nat.min_eq_right (by omega)]
        rw [Nat.min_eq_right w] at hv
        exact hv
      · rw [if_neg w, Nat.min_eq_left (by omega), show p + 1 - st = (p - st) + 1 by omega, Nat.pow_succ]
        rw [Nat.min_eq_left (by omega)] at hv
        omega
    · rw [dv_no h]
      exact Nat.lt_of_lt_of_le hv (b4 _ (Nat.min_le_right _ _))
theorem LXv_bd : LXv inp n p < 10000 := dv_bd _ _ _ rfl (Nat.le_refl _) (by rw [Nat.sub_self]; decide)
/-- what the two sides may touch -/
def GA (σ σ' : Sg) : Prop := ∀ k o i, k ≠ 6 → ¬ Own 1 k o → σ' k o i = σ k o i
def GB (ρ ρ' : Sg) : Prop := ∀ k o i, k ≠ 30 → k ≠ 37 → ¬ (k = 8 ∧ 13 ≤ i ∧ i ≤ 19) → ρ' k o i = ρ k o i
theorem GA.rf (σ : Sg) : GA σ σ := fun _ _ _ _ _ => rfl
theorem GB.rf (σ : Sg) : GB σ σ := fun _ _ _ _ _ _ => rfl
theorem GA.trans {a b c : Sg} (h : GA a b) (h' : GA b c) : GA a c := fun k o i q q' => (h' k o i q q').trans (h k o i q q')
theorem GB.trans {a b c : Sg} (h : GB a b) (h' : GB b c) : GB a c := fun k o i q q' q'' => (h' k o i q q' q'').trans (h k o i q q' q'')
theorem GA.put {σ : Sg} {i : Nat} {x : Int32} : GA σ (sup σ 6 0 i x) := fun _ _ _ q _ => if_neg (fun z => q z.1)
theorem GB.put {σ : Sg} {i : Nat} {x : Int32} (h : 13 ≤ i ∧ i ≤ 19) : GB σ (sup σ 8 0 i x) := fun _ _ _ _ _ q => if_neg (fun z => q ⟨z.1, by rw [z.2.2]; exact h.1, by rw [z.2.2]; exact h.2⟩)
theorem GB.put37 {σ : Sg} {i : Nat} {x : Int32} : GB σ (sup σ 37 0 i x) := fun _ _ _ _ q _ => if_neg (fun z => q z.1)
theorem KF.ga {σ σ' : Sg} (h : KF σ σ') : GA σ σ' := fun k o i q _ => h k o i (fun z => q z.1)
theorem KG.gb {σ σ' : Sg} (h : KG σ σ') : GB σ σ' := fun k o i _ _ q => h k o i (fun z => q ⟨z.1, by omega, by omega⟩)
/-- both report the same error -/
def FL (σ ρ σ' ρ' : Sg) : Prop := GA σ σ' ∧ GB ρ ρ' ∧ σ' 6 0 0 = ρ' 8 0 13 ∧ σ' 6 0 1 = ρ' 8 0 14
theorem FL.pre {σ ρ σ1 ρ1 σ2 ρ2 : Sg} (h : FL σ1 ρ1 σ2 ρ2) (a : GA σ σ1) (b : GB ρ ρ1) : FL σ ρ σ2 ρ2 := ⟨a.trans h.1, b.trans h.2.1, h.2.2⟩
theorem a_fail (σ : Sg) (x : Int32) : f_X6_fail σ x = some (0, sup (sup σ 6 0 0 x) 6 0 1 (σ 6 0 6)) := by
  unfold f_X6_fail
  rw [p_st, p_st, s_nf (by decide)]
theorem b_fail {ρ : Sg} (h : ρ 8 0 13 = 0) (x : Int32) : f_X8_failsAt ρ x = some (0, sup (sup ρ 8 0 13 x) 8 0 14 (ρ 8 0 16)) := by
  unfold f_X8_failsAt f_X8_failsAt_20
  rw [if_pos h, p_st, p_st, s_nf (by decide)]
theorem t_fail {σ ρ : Sg} (x : Int32) (e : σ 6 0 6 = ρ 8 0 16) : FL σ ρ (sup (sup σ 6 0 0 x) 6 0 1 (σ 6 0 6)) (sup (sup ρ 8 0 13 x) 8 0 14 (ρ 8 0 16)) := by
  refine ⟨GA.put.trans GA.put, (GB.put (by decide)).trans (GB.put (by decide)), ?_, ?_⟩
  · rw [s_nf (by decide), s_at, s_nf (by decide), s_at]
  · rw [s_at, s_at, e]
/-- a number taken: the class stands before the next token, which the reference has read -/
def TKn (n : Nat) (inp : Nat → Nat) (p : Nat) (σ ρ : Sg) : Prop := CX n inp σ ∧ σ 6 0 4 = nI p ∧ BK n inp p ρ
def KT (a : Nat) (ρ ρ' : Sg) : Prop := ∀ k o i, ¬ (k = 8 ∧ 15 ≤ i ∧ i ≤ 18) → ¬ (k = 37 ∧ i = a) → ρ' k o i = ρ k o i
theorem b_adv (h : BK n inp p ρ) : ∃ ρ', f_X8_advanceToken ρ = some ρ' ∧ KG ρ ρ' ∧ BK n inp (LXe inp n p) ρ' := by
  obtain ⟨hc, hp, h4, h5, h6, h7, h8⟩ := h
  have hb := LX_bd (inp := inp) hp
  obtain ⟨ρ', e1, e2, e3, e4, e5, e6⟩ := b_next hc h4 hb.2.2.1
  exact ⟨ρ', e1, e2, hc.kg e2, hb.2.2.1, e3, e4, e5, e6, (e2 8 0 13 (by omega)).trans h8⟩
theorem t_take (h : TKn n inp p σ ρ) {lo hi a : Nat} (hlo : lo < 10000) (hhi : hi < 10000) (ha : a < 3) :
    (∃ σ' ρ' v, f_X6_readNumber σ (nI lo) (nI hi) = some (1, σ') ∧ f_X8_takes ρ (nI a) (nI lo) (nI hi) = some (1, ρ') ∧ KF σ σ' ∧ KT a ρ ρ' ∧ σ' 6 0 7 = nI v ∧ ρ' 37 0 a = nI v ∧ lo ≤ v ∧ v ≤ hi ∧ TKn n inp (LXe inp n p) σ' ρ' ∧ p ≤ LXe inp n p ∧ LXr inp n p = 2 ∧ LXe inp n p - LXq inp n p ≤ 4 ∧ LXv inp n p = v ∧ σ' 6 0 6 = nI (LXq inp n p)) ∨
    ∃ σ' ρ', f_X6_readNumber σ (nI lo) (nI hi) = some (0, σ') ∧ f_X8_takes ρ (nI a) (nI lo) (nI hi) = some (0, ρ') ∧ FL σ ρ σ' ρ' ∧ ¬ (LXr inp n p = 2 ∧ LXe inp n p - LXq inp n p ≤ 4 ∧ lo ≤ LXv inp n p ∧ LXv inp n p ≤ hi) := by
  obtain ⟨hc, h4, hB⟩ := h
  obtain ⟨hcy, hp, b5, b8, b6, b7, b13⟩ := id hB
  have hn := hcy.2.1
  have hb := LX_bd (inp := inp) hp
  have hv := LXv_bd (inp := inp) (n := n) (p := p)
  obtain ⟨σ1, a1, a2, a3, a4, a5, a6⟩ := a_next hc h4 hp
  have hk4 : LXk inp n p ≤ 4 := by
    unfold LXk
    split <;> omega
  have e66 : σ1 6 0 6 = ρ 8 0 16 := a5.trans b6.symm
  unfold f_X6_readNumber f_X6_readNumber_34 f_X8_takes f_X8_takes_16 f_X8_tokenLength
  rw [a1, p_bv, a4, b8, b5, b6, ni_sub hb.2.1, a_fail, p_bi, a_fail, p_bi, b_fail b13, p_bi, b_fail b13, p_bi, if_neg (show ¬ ¬ ((0 : Int32) = 0 ∨ (0 : Int32) = 1) by decide)]
  by_cases w : LXr inp n p = 2 ∧ LXe inp n p - LXq inp n p ≤ 4
  · have hk : LXk inp n p = 2 := by unfold LXk; rw [if_neg (fun q => by omega), w.1]
    have e7 := a6 hk
    have f7 := b7 w.1
    rw [if_pos (show nI (LXk inp n p) = 2 by rw [hk]; rfl), if_pos (show nI (LXr inp n p) = 2 by rw [w.1]; rfl), if_pos (show nI (LXe inp n p - LXq inp n p) ≤ 4 by rw [show (4 : Int32) = nI 4 from rfl, ni_le (by omega) (by omega)]; exact w.2), e7, f7]
    by_cases w1 : LXv inp n p < lo
    · right
      refine ⟨sup (sup σ1 6 0 0 2) 6 0 1 (σ1 6 0 6), sup (sup ρ 8 0 13 2) 8 0 14 (ρ 8 0 16), ?_, ?_, (t_fail 2 e66).pre a2.ga (GB.rf ρ), fun z => by omega⟩
      · rw [if_pos (by rw [ni_lt (by omega) (by omega)]; exact w1)]
      · rw [x_in0 _ (by rw [ni_lt (by omega) (by omega)]; exact Or.inl w1), p_bi, if_pos rfl, b_fail b13, p_bi, if_neg (show ¬ ¬ ((0 : Int32) = 0 ∨ (0 : Int32) = 1) by decide)]
    · by_cases w2 : LXv inp n p ≤ hi
      · left
        have k1 : KG ρ ρ := KG.rf ρ
        have hB1 : BK n inp p (sup ρ 37 0 a (nI (LXv inp n p))) := by
          refine ⟨⟨?_, hcy.2.1, fun i hi => ⟨(hcy.2.2 i hi).1, ?_⟩⟩, hp, ?_, ?_, ?_, fun q => ?_, ?_⟩
          · rw [s_ne (by decide)]; exact hcy.1
          · rw [s_ne (by decide)]; exact (hcy.2.2 i hi).2
          · rw [s_ne (by decide)]; exact b5
          · rw [s_ne (by decide)]; exact b8
          · rw [s_ne (by decide)]; exact b6
          · rw [s_ne (by decide)]; exact b7 q
          · rw [s_ne (by decide)]; exact b13
        obtain ⟨ρ2, c1, c2, c3⟩ := b_adv hB1
        refine ⟨σ1, ρ2, LXv inp n p, ?_, ?_, a2, fun k o i q1 q2 => ?_, e7, ?_, by omega, w2, ⟨hc.kf a2, a3, c3⟩, by omega, w.1, w.2, rfl, a5⟩
        · rw [if_neg (by rw [ni_lt (by omega) (by omega)]; exact w1), if_pos (by rw [ni_le (by omega) (by omega)]; exact w2)]
        · rw [x_in1 _ (by rw [ni_lt (by omega) (by omega)]; exact w1) (by rw [ni_lt (by omega) (by omega)]; omega), p_bi, if_neg (show ¬ (1 : Int32) = 0 by decide), if_neg (show ¬ (nI a < 0 ∨ 3 ≤ (nI a).toNatClampNeg) by rw [gN (by omega) (by decide)]; exact id), ni_cl (by omega), p_st, f7, c1, p_bv]
        · rw [c2 k o i q1]
          exact if_neg (fun z => q2 ⟨z.1, z.2.2⟩)
        · rw [c2 37 0 a (by omega), s_at]
      · right
        refine ⟨sup (sup σ1 6 0 0 2) 6 0 1 (σ1 6 0 6), sup (sup ρ 8 0 13 2) 8 0 14 (ρ 8 0 16), ?_, ?_, (t_fail 2 e66).pre a2.ga (GB.rf ρ), fun z => by omega⟩
        · rw [if_neg (by rw [ni_lt (by omega) (by omega)]; exact w1), if_neg (by rw [ni_le (by omega) (by omega)]; exact w2)]
        · rw [x_in0 _ (by rw [ni_lt (by omega) (by omega), ni_lt (by omega) (by omega)]; omega), p_bi, if_pos rfl, b_fail b13, p_bi, if_neg (show ¬ ¬ ((0 : Int32) = 0 ∨ (0 : Int32) = 1) by decide)]
  · right
    have hk : LXk inp n p ≠ 2 := by
      unfold LXk
      split <;> omega
    refine ⟨sup (sup σ1 6 0 0 1) 6 0 1 (σ1 6 0 6), sup (sup ρ 8 0 13 1) 8 0 14 (ρ 8 0 16), ?_, ?_, (t_fail 1 e66).pre a2.ga (GB.rf ρ), fun z => w ⟨z.1, z.2.1⟩⟩
    · rw [if_neg (show ¬ nI (LXk inp n p) = 2 by rw [show (2 : Int32) = nI 2 from rfl, ni_eq (by omega) (by omega)]; exact hk), if_neg (show ¬ ¬ ((0 : Int32) = 0 ∨ (0 : Int32) = 1) by decide)]
    · by_cases w1 : LXr inp n p = 2
      · rw [if_pos (show nI (LXr inp n p) = 2 by rw [w1]; rfl), if_neg (show ¬ nI (LXe inp n p - LXq inp n p) ≤ 4 by rw [show (4 : Int32) = nI 4 from rfl, ni_le (by omega) (by omega)]; omega), if_neg (show ¬ ¬ ((0 : Int32) = 0 ∨ (0 : Int32) = 1) by decide)]
      · rw [if_neg (show ¬ nI (LXr inp n p) = 2 by rw [show (2 : Int32) = nI 2 from rfl, ni_eq (by omega) (by omega)]; exact w1), if_neg (show ¬ ¬ ((0 : Int32) = 0 ∨ (0 : Int32) = 1) by decide)]
end LW
