/-! reading a text: tokens -/
def lxB (b : Nat) : Bool := decide (b = 32 ∨ b = 10)
def lxL (b : Nat) : Bool := decide (97 ≤ b ∧ b ≤ 122)
def lxD (b : Nat) : Bool := decide (48 ≤ b ∧ b ≤ 57)
def rnF (P : Nat → Bool) (inp : Nat → Nat) (n : Nat) : Nat → Nat → Nat
  | 0, p => p
  | f + 1, p => if (decide (p < n) && P (inp p)) = true then rnF P inp n f (p + 1) else p
def rn (P : Nat → Bool) (inp : Nat → Nat) (n p : Nat) : Nat := rnF P inp n (n - p) p
theorem rn_go {P : Nat → Bool} {inp : Nat → Nat} {n p : Nat} (h : p < n) (hP : P (inp p) = true) : rn P inp n p = rn P inp n (p + 1) := by
  unfold rn
  rw [show n - p = (n - (p + 1)) + 1 by omega]
  show (if (decide (p < n) && P (inp p)) = true then _ else _) = _
  rw [if_pos (by rw [decide_eq_true h, hP]; rfl)]
theorem rn_no {P : Nat → Bool} {inp : Nat → Nat} {n p : Nat} (h : ¬ (p < n ∧ P (inp p) = true)) : rn P inp n p = p := by
  unfold rn
  cases e : n - p with
  | zero => rfl
  | succ d =>
    show (if (decide (p < n) && P (inp p)) = true then _ else _) = _
    rw [if_neg (fun q => h (by rw [Bool.and_eq_true] at q; exact ⟨of_decide_eq_true q.1, q.2⟩))]
theorem rn_bd {P : Nat → Bool} {inp : Nat → Nat} {n : Nat} : ∀ d p, n - p = d → p ≤ n → p ≤ rn P inp n p ∧ rn P inp n p ≤ n := by
  intro d
  induction d with
  | zero => intro p hd hp; rw [rn_no (fun q => by omega)]; omega
  | succ d ih =>
    intro p hd hp
    by_cases h : p < n ∧ P (inp p) = true
    · rw [rn_go h.1 h.2]
      have := ih (p + 1) (by omega) (by omega)
      omega
    · rw [rn_no h]; omega
def dvF (inp : Nat → Nat) (n st : Nat) : Nat → Nat → Nat → Nat
  | 0, _, v => v
  | f + 1, p, v => if (decide (p < n) && lxD (inp p)) = true then dvF inp n st f (p + 1) (if 4 ≤ p - st then v else 10 * v + inp p - 48) else v
def dv (inp : Nat → Nat) (n st p v : Nat) : Nat := dvF inp n st (n - p) p v
theorem dv_go {inp : Nat → Nat} {n st p v : Nat} (h : p < n) (hP : lxD (inp p) = true) : dv inp n st p v = dv inp n st (p + 1) (if 4 ≤ p - st then v else 10 * v + inp p - 48) := by
  unfold dv
  rw [show n - p = (n - (p + 1)) + 1 by omega]
  show (if (decide (p < n) && lxD (inp p)) = true then _ else _) = _
  rw [if_pos (by rw [decide_eq_true h, hP]; rfl)]
theorem dv_no {inp : Nat → Nat} {n st p v : Nat} (h : ¬ (p < n ∧ lxD (inp p) = true)) : dv inp n st p v = v := by
  unfold dv
  cases e : n - p with
  | zero => rfl
  | succ d =>
    show (if (decide (p < n) && lxD (inp p)) = true then _ else _) = _
    rw [if_neg (fun q => h (by rw [Bool.and_eq_true] at q; exact ⟨of_decide_eq_true q.1, q.2⟩))]
def LXq (inp : Nat → Nat) (n p : Nat) : Nat := rn lxB inp n p
def LXe (inp : Nat → Nat) (n p : Nat) : Nat := if LXq inp n p < n then (if lxL (inp (LXq inp n p)) = true then rn lxL inp n (LXq inp n p) else if lxD (inp (LXq inp n p)) = true then rn lxD inp n (LXq inp n p) else LXq inp n p + 1) else LXq inp n p
/-- the reference's kind; the class has 4 for a number of more than four digits -/
def LXr (inp : Nat → Nat) (n p : Nat) : Nat := if LXq inp n p < n then (if lxL (inp (LXq inp n p)) = true then 1 else if lxD (inp (LXq inp n p)) = true then 2 else if inp (LXq inp n p) = 59 then 3 else 4) else 0
def LXk (inp : Nat → Nat) (n p : Nat) : Nat := if LXr inp n p = 2 ∧ 4 < LXe inp n p - LXq inp n p then 4 else LXr inp n p
def LXv (inp : Nat → Nat) (n p : Nat) : Nat := dv inp n (LXq inp n p) (LXq inp n p) 0
theorem LX_bd {inp : Nat → Nat} {n p : Nat} (hp : p ≤ n) : p ≤ LXq inp n p ∧ LXq inp n p ≤ LXe inp n p ∧ LXe inp n p ≤ n ∧ (LXr inp n p ≠ 0 → LXq inp n p < LXe inp n p) ∧ LXr inp n p ≤ 4 := by
  have h1 := rn_bd (P := lxB) (inp := inp) (n := n) (n - p) p rfl hp
  have hq : LXq inp n p = rn lxB inp n p := rfl
  unfold LXe LXr
  by_cases w : LXq inp n p < n
  · rw [if_pos w, if_pos w]
    by_cases w1 : lxL (inp (LXq inp n p)) = true
    · rw [if_pos w1, if_pos w1, rn_go w w1]
      have h2 := rn_bd (P := lxL) (inp := inp) (n := n) (n - (LXq inp n p + 1)) (LXq inp n p + 1) rfl (by omega)
      exact ⟨by omega, by omega, by omega, fun _ => by omega, by omega⟩
    · rw [if_neg w1, if_neg w1]
      by_cases w2 : lxD (inp (LXq inp n p)) = true
      · rw [if_pos w2, if_pos w2, rn_go w w2]
        have h2 := rn_bd (P := lxD) (inp := inp) (n := n) (n - (LXq inp n p + 1)) (LXq inp n p + 1) rfl (by omega)
        exact ⟨by omega, by omega, by omega, fun _ => by omega, by omega⟩
      · rw [if_neg w2, if_neg w2]
        exact ⟨by omega, by omega, by omega, fun _ => by omega, by split <;> omega⟩
  · rw [if_neg w, if_neg w]
    exact ⟨by omega, by omega, by omega, fun q => absurd rfl q, by omega⟩
def CX (n : Nat) (inp : Nat → Nat) (σ : Sg) : Prop := σ 6 0 2 = 1 ∧ σ 6 0 3 = nI n ∧ n ≤ 700 ∧ ∀ i, i < n → inp i < 256 ∧ σ 10 0 i = nI (inp i)
/-- only the reader's token is touched -/
def KFT (σ σ' : Sg) : Prop := ∀ k o i, ¬ (k = 6 ∧ 4 ≤ i ∧ i ≤ 7) → σ' k o i = σ k o i
theorem KFT.rf (σ : Sg) : KFT σ σ := fun _ _ _ _ => rfl
theorem KFT.trans {a b c : Sg} (h : KFT a b) (h' : KFT b c) : KFT a c := fun k o i q => (h' k o i q).trans (h k o i q)
theorem KFT.put {σ : Sg} {i : Nat} {x : Int32} (h : 4 ≤ i ∧ i ≤ 7) : KFT σ (sup σ 6 0 i x) := fun _ _ _ q => if_neg (fun z => q ⟨z.1, by rw [z.2.2]; exact h.1, by rw [z.2.2]; exact h.2⟩)
theorem CX.kf {n : Nat} {inp : Nat → Nat} {σ σ' : Sg} (h : CX n inp σ) (hf : KFT σ σ') : CX n inp σ' := by
  refine ⟨(hf 6 0 2 (by omega)).trans h.1, (hf 6 0 3 (by omega)).trans h.2.1, h.2.2.1, fun i hi => ⟨(h.2.2.2 i hi).1, (hf 10 0 i (by omega)).trans (h.2.2.2 i hi).2⟩⟩
theorem a_isB (σ : Sg) {b : Nat} (hb : b < 256) : f_X6_isBlank σ (nI b) = some (W_b (lxB b), σ) := by
  unfold f_X6_isBlank f_X6_isBlank_12 f_X6_isBlank_17 lxB
  by_cases h1 : b = 32
  · rw [if_pos (show nI b = 32 by rw [h1]; rfl), decide_eq_true (Or.inl h1)]; rfl
  · rw [if_neg (show ¬ nI b = 32 by rw [show (32 : Int32) = nI 32 from rfl, ni_eq (by omega) (by omega)]; exact h1)]
    by_cases h2 : b = 10
    · rw [if_pos (show nI b = 10 by rw [h2]; rfl), decide_eq_true (Or.inr h2)]; rfl
    · rw [if_neg (show ¬ nI b = 10 by rw [show (10 : Int32) = nI 10 from rfl, ni_eq (by omega) (by omega)]; exact h2), decide_eq_false (fun q => q.elim h1 h2)]; rfl
theorem a_isL (σ : Sg) {b : Nat} (hb : b < 256) : f_X6_isLetter σ (nI b) = some (W_b (lxL b), σ) := by
  unfold f_X6_isLetter f_X6_isLetter_16 f_X6_isLetter_17 lxL
  rw [show (97 : Int32) = nI 97 from rfl, show (122 : Int32) = nI 122 from rfl]
  by_cases h1 : b < 97
  · rw [if_pos (by rw [ni_lt (by omega) (by omega)]; exact h1), decide_eq_false (fun q => by omega)]; rfl
  · rw [if_neg (by rw [ni_lt (by omega) (by omega)]; exact h1)]
    by_cases h2 : 122 < b
    · rw [if_pos (by rw [ni_lt (by omega) (by omega)]; exact h2), decide_eq_false (fun q => by omega)]; rfl
    · rw [if_neg (by rw [ni_lt (by omega) (by omega)]; exact h2), decide_eq_true (by omega)]; rfl
theorem a_isD (σ : Sg) {b : Nat} (hb : b < 256) : f_X6_isDigit σ (nI b) = some (W_b (lxD b), σ) := by
  unfold f_X6_isDigit f_X6_isDigit_16 f_X6_isDigit_17 lxD
  rw [show (48 : Int32) = nI 48 from rfl, show (57 : Int32) = nI 57 from rfl]
  by_cases h1 : b < 48
  · rw [if_pos (by rw [ni_lt (by omega) (by omega)]; exact h1), decide_eq_false (fun q => by omega)]; rfl
  · rw [if_neg (by rw [ni_lt (by omega) (by omega)]; exact h1)]
    by_cases h2 : 57 < b
    · rw [if_pos (by rw [ni_lt (by omega) (by omega)]; exact h2), decide_eq_false (fun q => by omega)]; rfl
    · rw [if_neg (by rw [ni_lt (by omega) (by omega)]; exact h2), decide_eq_true (by omega)]; rfl
section LX
variable {n : Nat} {inp : Nat → Nat} {σ ρ : Sg}
theorem la_blank (h : CX n inp σ) : ∀ d f p, n - p = d → d < f → p ≤ n → f_X6_nextToken_0 f (sup σ 6 0 4 (nI p)) = f_X6_nextToken_39 (sup σ 6 0 4 (nI (rn lxB inp n p))) := by
  have hn := h.2.2.1
  intro d
  induction d with
  | zero =>
    intro f p hd hf hp
    obtain ⟨f, rfl⟩ : ∃ g, f = g + 1 := ⟨f - 1, by omega⟩
    rw [f_X6_nextToken_0_s, s_nf (show (3 : Nat) ≠ 4 by decide), s_at, h.2.1, if_pos (by rw [ni_le (by omega) (by omega)]; omega), rn_no (fun q => by omega)]
  | succ d ih =>
    intro f p hd hf hp
    obtain ⟨f, rfl⟩ : ∃ g, f = g + 1 := ⟨f - 1, by omega⟩
    have hb := h.2.2.2 p (by omega)
    rw [f_X6_nextToken_0_s, s_nf (show (3 : Nat) ≠ 4 by decide), s_at, h.2.1, if_neg (by rw [ni_le (by omega) (by omega)]; omega), s_nf (show (2 : Nat) ≠ 4 by decide), h.1, if_neg (show ¬ (1 : Int32) = 0 by decide), if_neg (by rw [gN (by omega) (by decide)]; exact id), ni_cl (by omega), s_ne (show (10 : Nat) ≠ 6 by decide), hb.2, a_isB _ hb.1, p_bi]
    cases w : lxB (inp p)
    · rw [if_pos (show W_b false = 0 from rfl), rn_no (fun q => by rw [w] at q; exact absurd q.2 (by decide))]
    · rw [if_neg (show ¬ W_b true = 0 by decide), p_st, s_at, s_ss, ni_1, rn_go (by omega) w]
      exact ih f (p + 1) (by omega) (by omega) (by omega)
theorem la_let (h : CX n inp σ) : ∀ d f p, n - p = d → d < f → p ≤ n → f_X6_skipLetters_5 f (sup σ 6 0 4 (nI p)) = some (sup σ 6 0 4 (nI (rn lxL inp n p))) := by
  have hn := h.2.2.1
  intro d
  induction d with
  | zero =>
    intro f p hd hf hp
    obtain ⟨f, rfl⟩ : ∃ g, f = g + 1 := ⟨f - 1, by omega⟩
    rw [f_X6_skipLetters_5_s, s_nf (show (3 : Nat) ≠ 4 by decide), s_at, h.2.1, if_pos (by rw [ni_le (by omega) (by omega)]; omega), rn_no (fun q => by omega)]
    rfl
  | succ d ih =>
    intro f p hd hf hp
    obtain ⟨f, rfl⟩ : ∃ g, f = g + 1 := ⟨f - 1, by omega⟩
    have hb := h.2.2.2 p (by omega)
    rw [f_X6_skipLetters_5_s, s_nf (show (3 : Nat) ≠ 4 by decide), s_at, h.2.1, if_neg (by rw [ni_le (by omega) (by omega)]; omega), s_nf (show (2 : Nat) ≠ 4 by decide), h.1, if_neg (show ¬ (1 : Int32) = 0 by decide), if_neg (by rw [gN (by omega) (by decide)]; exact id), ni_cl (by omega), s_ne (show (10 : Nat) ≠ 6 by decide), hb.2, a_isL _ hb.1, p_bi]
    cases w : lxL (inp p)
    · rw [if_pos (show W_b false = 0 from rfl), rn_no (fun q => by rw [w] at q; exact absurd q.2 (by decide))]
      rfl
    · rw [if_neg (show ¬ W_b true = 0 by decide), p_st, s_at, s_ss, ni_1, rn_go (by omega) w]
      exact ih f (p + 1) (by omega) (by omega) (by omega)
theorem la_dig (h : CX n inp σ) {st : Nat} (hst : σ 6 0 6 = nI st) : ∀ d f p v, n - p = d → d < f → p ≤ n → st ≤ p → f_X6_skipDigits_5 f (sup (sup σ 6 0 7 (nI v)) 6 0 4 (nI p)) = f_X6_skipDigits_81 (sup (sup σ 6 0 7 (nI (dv inp n st p v))) 6 0 4 (nI (rn lxD inp n p))) := by
  have hn := h.2.2.1
  intro d
  induction d with
  | zero =>
    intro f p v hd hf hp hs
    obtain ⟨f, rfl⟩ : ∃ g, f = g + 1 := ⟨f - 1, by omega⟩
    rw [f_X6_skipDigits_5_s, s_nf (show (3 : Nat) ≠ 4 by decide), s_nf (show (3 : Nat) ≠ 7 by decide), s_at, h.2.1, if_pos (by rw [ni_le (by omega) (by omega)]; omega), rn_no (fun q => by omega), dv_no (fun q => by omega)]
  | succ d ih =>
    intro f p v hd hf hp hs
    obtain ⟨f, rfl⟩ : ∃ g, f = g + 1 := ⟨f - 1, by omega⟩
    have hb := h.2.2.2 p (by omega)
    have e3 : sup (sup σ 6 0 7 (nI v)) 6 0 4 (nI p) 6 0 3 = nI n := by rw [s_nf (by decide), s_nf (by decide)]; exact h.2.1
    have e2 : sup (sup σ 6 0 7 (nI v)) 6 0 4 (nI p) 6 0 2 = 1 := by rw [s_nf (by decide), s_nf (by decide)]; exact h.1
    have e4 : sup (sup σ 6 0 7 (nI v)) 6 0 4 (nI p) 6 0 4 = nI p := s_at _ _ _ _ _
    have e6 : sup (sup σ 6 0 7 (nI v)) 6 0 4 (nI p) 6 0 6 = nI st := by rw [s_nf (by decide), s_nf (by decide)]; exact hst
    have e7 : sup (sup σ 6 0 7 (nI v)) 6 0 4 (nI p) 6 0 7 = nI v := by rw [s_nf (by decide), s_at]
    have eb : sup (sup σ 6 0 7 (nI v)) 6 0 4 (nI p) 10 0 p = nI (inp p) := by rw [s_ne (by decide), s_ne (by decide)]; exact hb.2
    have gp : ¬ (nI p < 0 ∨ 700 ≤ (nI p).toNatClampNeg) := by rw [gN (by omega) (by decide)]; exact id
    rw [f_X6_skipDigits_5_s, e3, e4, if_neg (by rw [ni_le (by omega) (by omega)]; omega), e2, if_neg (show ¬ (1 : Int32) = 0 by decide), if_neg gp, ni_cl (by omega), eb, a_isD _ hb.1, p_bi]
    cases w : lxD (inp p)
    · rw [if_pos (show W_b false = 0 from rfl), rn_no (fun q => by rw [w] at q; exact absurd q.2 (by decide)), dv_no (fun q => by rw [w] at q; exact absurd q.2 (by decide))]
    · rw [if_neg (show ¬ W_b true = 0 by decide), e4, e6, ni_sub hs, show (4 : Int32) = nI 4 from rfl, rn_go (by omega) w, dv_go (by omega) w]
      have h48 : 48 ≤ inp p := (of_decide_eq_true w).1
      by_cases w4 : 4 ≤ p - st
      · rw [if_pos (by rw [ni_le (by omega) (by omega)]; exact w4), if_pos w4]
        unfold f_X6_skipDigits_68
        rw [p_st, e4, s_ss, ni_1]
        exact ih f (p + 1) v (by omega) (by omega) (by omega) (by omega)
      · rw [if_neg (by rw [ni_le (by omega) (by omega)]; exact w4), if_neg w4, e2, if_neg (show ¬ (1 : Int32) = 0 by decide), if_neg gp, ni_cl (show p < 2147483648 by omega), eb, e7]
        rw [show (10 : Int32) * nI v + nI (inp p) - 48 = nI (10 * v + inp p - 48) from by rw [show (10 : Int32) * nI v = nI (10 * v) from ni_mul 10 v, ni_add]; exact ni_sub (b := 48) (by omega), p_st]
        unfold f_X6_skipDigits_68
        rw [p_st, s_nf (show (4 : Nat) ≠ 7 by decide), s_at, s_cm (show ¬ ((6 : Nat) = 6 ∧ (0 : Nat) = 0 ∧ (4 : Nat) = 7) by decide), s_ss, s_ss, ni_1]
        exact ih f (p + 1) _ (by omega) (by omega) (by omega) (by omega)
theorem a_next (h : CX n inp σ) {p : Nat} (h4 : σ 6 0 4 = nI p) (hp : p ≤ n) : ∃ σ', f_X6_nextToken σ = some σ' ∧ KFT σ σ' ∧ σ' 6 0 4 = nI (LXe inp n p) ∧ σ' 6 0 5 = nI (LXk inp n p) ∧ σ' 6 0 6 = nI (LXq inp n p) ∧ (LXk inp n p = 2 → σ' 6 0 7 = nI (LXv inp n p)) := by
  have hn := h.2.2.1
  have hq := (LX_bd (inp := inp) hp).1
  have hq2 : LXq inp n p ≤ n := (rn_bd (P := lxB) (inp := inp) (n := n) (n - p) p rfl hp).2
  have e := la_blank h (n - p) FU p rfl (by show n - p < 65536; omega) hp
  rw [sup_self' h4] at e
  have e' : f_X6_nextToken σ = f_X6_nextToken_39 (sup σ 6 0 4 (nI (LXq inp n p))) := e
  rw [e']
  have k0 : KFT σ (sup (sup σ 6 0 4 (nI (LXq inp n p))) 6 0 6 (nI (LXq inp n p))) := (KFT.put (by decide)).trans (KFT.put (by decide))
  have h0 := h.kf k0
  have s4 : sup (sup σ 6 0 4 (nI (LXq inp n p))) 6 0 6 (nI (LXq inp n p)) 6 0 4 = nI (LXq inp n p) := by rw [s_nf (by decide), s_at]
  have s6 : sup (sup σ 6 0 4 (nI (LXq inp n p))) 6 0 6 (nI (LXq inp n p)) 6 0 6 = nI (LXq inp n p) := s_at _ _ _ _ _
  unfold f_X6_nextToken_39 f_X6_nextToken_130 f_X6_nextToken_143
  rw [s_at, p_st]
  generalize hS : sup (sup σ 6 0 4 (nI (LXq inp n p))) 6 0 6 (nI (LXq inp n p)) = S at k0 h0 s4 s6 ⊢
  rw [s4, h0.2.1]
  by_cases w : LXq inp n p < n
  · have hb := h0.2.2.2 _ w
    have gp : ¬ (nI (LXq inp n p) < 0 ∨ 700 ≤ (nI (LXq inp n p)).toNatClampNeg) := by rw [gN (by omega) (by decide)]; exact id
    rw [if_pos (by rw [ni_lt (by omega) (by omega)]; exact w), h0.1, if_neg (show ¬ (1 : Int32) = 0 by decide), if_neg gp, ni_cl (by omega), hb.2, a_isL _ hb.1, p_bi]
    cases w1 : lxL (inp (LXq inp n p))
    · rw [if_pos (show W_b false = 0 from rfl), h0.1, if_neg (show ¬ (1 : Int32) = 0 by decide), s4, if_neg gp, ni_cl (by omega), hb.2, a_isD _ hb.1, p_bi]
      cases w2 : lxD (inp (LXq inp n p))
      · rw [if_pos (show W_b false = 0 from rfl), h0.1, if_neg (show ¬ (1 : Int32) = 0 by decide), s4, if_neg gp, ni_cl (by omega), hb.2]
        have eE : LXe inp n p = LXq inp n p + 1 := by unfold LXe; rw [if_pos w, w1, if_neg (show ¬ false = true by decide), w2, if_neg (show ¬ false = true by decide)]
        have eK : LXk inp n p = if inp (LXq inp n p) = 59 then 3 else 4 := by
          have eR : LXr inp n p = if inp (LXq inp n p) = 59 then 3 else 4 := by unfold LXr; rw [if_pos w, w1, if_neg (show ¬ false = true by decide), w2, if_neg (show ¬ false = true by decide)]
          unfold LXk
          rw [eR, if_neg (fun q => by have := q.1; split at this <;> omega)]
        rw [eE, eK]
        by_cases w3 : inp (LXq inp n p) = 59
        · rw [if_pos (show nI (inp (LXq inp n p)) = 59 by rw [w3]; rfl), if_pos w3, p_st, p_st, s_nf (show (4 : Nat) ≠ 5 by decide), s4, ni_1]
          refine ⟨_, rfl, k0.trans ((KFT.put (by decide)).trans (KFT.put (by decide))), s_at _ _ _ _ _, ?_, ?_, fun q => absurd q (by decide)⟩
          · rw [s_nf (by decide), s_at]; rfl
          · rw [s_nf (by decide), s_nf (by decide)]; exact s6
        · rw [if_neg (show ¬ nI (inp (LXq inp n p)) = 59 by rw [show (59 : Int32) = nI 59 from rfl, ni_eq (by omega) (by omega)]; exact w3), if_neg w3, p_st, p_st, s_nf (show (4 : Nat) ≠ 5 by decide), s4, ni_1]
          refine ⟨_, rfl, k0.trans ((KFT.put (by decide)).trans (KFT.put (by decide))), s_at _ _ _ _ _, ?_, ?_, fun q => absurd q (by decide)⟩
          · rw [s_nf (by decide), s_at]; rfl
          · rw [s_nf (by decide), s_nf (by decide)]; exact s6
      · rw [if_neg (show ¬ W_b true = 0 by decide)]
        have eE : LXe inp n p = rn lxD inp n (LXq inp n p) := by unfold LXe; rw [if_pos w, w1, if_neg (show ¬ false = true by decide), w2, if_pos rfl]
        have eR : LXr inp n p = 2 := by unfold LXr; rw [if_pos w, w1, if_neg (show ¬ false = true by decide), w2, if_pos rfl]
        have hE := LX_bd (inp := inp) hp
        have d := la_dig h0 s6 (n - LXq inp n p) FU (LXq inp n p) 0 rfl (by show n - LXq inp n p < 65536; omega) hq2 (Nat.le_refl _)
        rw [sup_self' (τ := sup S 6 0 7 (nI 0)) (by rw [s_nf (by decide)]; exact s4), ← eE] at d
        unfold f_X6_skipDigits
        rw [p_st, show sup S 6 0 7 0 = sup S 6 0 7 (nI 0) from rfl, d]
        unfold f_X6_skipDigits_81 f_X6_skipDigits_100
        rw [s_at, s_nf (show (6 : Nat) ≠ 4 by decide), s_nf (show (6 : Nat) ≠ 7 by decide), s6, ni_sub hE.2.1, show (4 : Int32) = nI 4 from rfl]
        have fin : ∀ x : Nat, x = LXk inp n p → ∃ σ', (bv (some (sup (sup (sup S 6 0 7 (nI (LXv inp n p))) 6 0 4 (nI (LXe inp n p))) 6 0 5 (nI x))) fun σ6 => some σ6) = some σ' ∧ KFT σ σ' ∧ σ' 6 0 4 = nI (LXe inp n p) ∧ σ' 6 0 5 = nI (LXk inp n p) ∧ σ' 6 0 6 = nI (LXq inp n p) ∧ (LXk inp n p = 2 → σ' 6 0 7 = nI (LXv inp n p)) := fun x hx => by
          refine ⟨_, rfl, k0.trans (((KFT.put (by decide)).trans (KFT.put (by decide))).trans (KFT.put (by decide))), ?_, ?_, ?_, fun _ => ?_⟩
          · rw [s_nf (by decide), s_at]
          · rw [s_at, hx]
          · rw [s_nf (by decide), s_nf (by decide), s_nf (by decide)]; exact s6
          · rw [s_nf (by decide), s_nf (by decide), s_at]
        by_cases w4 : 4 < LXe inp n p - LXq inp n p
        · rw [if_pos (by rw [ni_lt (by omega) (by omega)]; exact w4), p_st]
          exact fin 4 (by unfold LXk; rw [if_pos ⟨eR, w4⟩])
        · rw [if_neg (by rw [ni_lt (by omega) (by omega)]; exact w4), p_st]
          exact fin 2 (by unfold LXk; rw [if_neg (fun q => w4 q.2), eR])
    · rw [if_neg (show ¬ W_b true = 0 by decide)]
      have eE : LXe inp n p = rn lxL inp n (LXq inp n p) := by unfold LXe; rw [if_pos w, w1, if_pos rfl]
      have eK : LXk inp n p = 1 := by
        have eR : LXr inp n p = 1 := by unfold LXr; rw [if_pos w, w1, if_pos rfl]
        unfold LXk
        rw [eR, if_neg (fun q => absurd q.1 (by decide))]
      have h5 := h0.kf (KFT.put (σ := S) (i := 5) (x := 1) (by decide))
      have d := la_let h5 (n - LXq inp n p) FU (LXq inp n p) rfl (by show n - LXq inp n p < 65536; omega) hq2
      rw [sup_self' (τ := sup S 6 0 5 1) (by rw [s_nf (by decide)]; exact s4), ← eE] at d
      unfold f_X6_skipLetters
      rw [p_st, d, p_bv]
      refine ⟨_, rfl, k0.trans ((KFT.put (by decide)).trans (KFT.put (by decide))), s_at _ _ _ _ _, ?_, ?_, fun q => by rw [eK] at q; omega⟩
      · rw [s_nf (by decide), s_at, eK]; rfl
      · rw [s_nf (by decide), s_nf (by decide)]; exact s6
  · rw [if_neg (by rw [ni_lt (by omega) (by omega)]; exact w), p_st]
    have eE : LXe inp n p = LXq inp n p := by unfold LXe; rw [if_neg w]
    have eK : LXk inp n p = 0 := by
      have eR : LXr inp n p = 0 := by unfold LXr; rw [if_neg w]
      unfold LXk
      rw [eR, if_neg (fun q => absurd q.1 (by decide))]
    refine ⟨_, rfl, k0.trans (KFT.put (by decide)), ?_, ?_, ?_, fun q => by rw [eK] at q; omega⟩
    · rw [s_nf (by decide), s4, eE]
    · rw [s_at, eK]; rfl
    · rw [s_nf (by decide)]; exact s6
end LX
def WA (inp : Nat → Nat) (q w : Nat) : Nat → Nat → Bool
  | 0, _ => true
  | d + 1, i => decide (nI (inp (q + i)) = jchr w (nI i)) && WA inp q w d (i + 1)
def Wln (w : Nat) : Nat := z_lens.getD w 0
theorem Wln_8 {w : Nat} (hw : w < 9) : Wln w ≤ 8 := by
  have key : ∀ w, w < 9 → z_lens.getD w 0 ≤ 8 := by decide
  exact key w hw
def WD (inp : Nat → Nat) (n p w : Nat) : Bool := decide (LXr inp n p = 1) && (decide (LXe inp n p - LXq inp n p = Wln w) && WA inp (LXq inp n p) w (Wln w) 0)
/-- the class has read the token at p -/
def AK (n : Nat) (inp : Nat → Nat) (p : Nat) (σ : Sg) : Prop := CX n inp σ ∧ p ≤ n ∧ σ 6 0 4 = nI (LXe inp n p) ∧ σ 6 0 5 = nI (LXk inp n p) ∧ σ 6 0 6 = nI (LXq inp n p) ∧ (LXk inp n p = 2 → σ 6 0 7 = nI (LXv inp n p))
section LWX
variable {n p : Nat} {inp : Nat → Nat} {σ ρ : Sg}
theorem a_wl (h : CX n inp σ) {q w : Nat} (hw : w < 9) (h6 : σ 6 0 6 = nI q) (hq : q + Wln w ≤ n) : ∀ d f i, Wln w - i = d → d < f → i ≤ Wln w → f_X6_isWord_28 f σ w (nI i) = some (W_b (WA inp q w d i), σ) := by
  have hn := h.2.2.1
  have h8 := Wln_8 hw
  intro d
  induction d with
  | zero =>
    intro f i hd hf hi
    obtain ⟨f, rfl⟩ : ∃ g, f = g + 1 := ⟨f - 1, by omega⟩
    rw [f_X6_isWord_28_s, if_pos (show slen w ≤ nI i from by rw [show slen w = nI (Wln w) from rfl, ni_le (by omega) (by omega)]; omega)]
    rfl
  | succ d ih =>
    intro f i hd hf hi
    obtain ⟨f, rfl⟩ : ∃ g, f = g + 1 := ⟨f - 1, by omega⟩
    have hb := h.2.2.2 (q + i) (by omega)
    rw [f_X6_isWord_28_s, if_neg (show ¬ slen w ≤ nI i from by rw [show slen w = nI (Wln w) from rfl, ni_le (by omega) (by omega)]; omega), h.1, if_neg (show ¬ (1 : Int32) = 0 by decide), h6, ni_add, if_neg (show ¬ (nI (q + i) < 0 ∨ 700 ≤ (nI (q + i)).toNatClampNeg) by rw [gN (by omega) (by decide)]; exact id), if_neg (show ¬ (nI i < 0 ∨ z_lens.getD w 0 ≤ (nI i).toNatClampNeg) by rw [ni_cl (by omega), ni_nn (by omega)]; exact fun x => x.elim id (fun x => absurd (show Wln w ≤ i from x) (by omega))), ni_cl (by omega), hb.2]
    by_cases e : nI (inp (q + i)) = jchr w (nI i)
    · rw [if_pos e, ni_1, ih f (i + 1) (by omega) (by omega) (by omega)]
      show _ = some (W_b (decide (nI (inp (q + i)) = jchr w (nI i)) && WA inp q w d (i + 1)), σ)
      rw [decide_eq_true e, Bool.true_and]
    · rw [if_neg e]
      show _ = some (W_b (decide (nI (inp (q + i)) = jchr w (nI i)) && WA inp q w d (i + 1)), σ)
      rw [decide_eq_false e, Bool.false_and]
      rfl
theorem a_word (h : AK n inp p σ) {w : Nat} (hw : w < 9) : f_X6_isWord σ w = some (W_b (WD inp n p w), σ) := by
  obtain ⟨hc, hp, h4, h5, h6, h7⟩ := h
  have hn := hc.2.2.1
  have h8 := Wln_8 hw
  have hb := LX_bd (inp := inp) hp
  unfold f_X6_isWord f_X6_isWord_24 WD
  have hk : LXk inp n p = 1 ↔ LXr inp n p = 1 := by
    unfold LXk
    split <;> omega
  have hk4 : LXk inp n p ≤ 4 := by
    unfold LXk
    split <;> omega
  rw [h5, h4, h6, ni_sub hb.2.1]
  by_cases w1 : LXr inp n p = 1
  · rw [if_pos (show nI (LXk inp n p) = 1 by rw [hk.2 w1]; rfl), decide_eq_true w1, Bool.true_and]
    by_cases w2 : LXe inp n p - LXq inp n p = Wln w
    · rw [if_pos (show nI (LXe inp n p - LXq inp n p) = slen w by rw [w2]; rfl), decide_eq_true w2, Bool.true_and]
      exact a_wl hc hw h6 (by omega) (Wln w) FU 0 rfl (by show Wln w < 65536; omega) (Nat.zero_le _)
    · rw [if_neg (show ¬ nI (LXe inp n p - LXq inp n p) = slen w by rw [show slen w = nI (Wln w) from rfl, ni_eq (by omega) (by omega)]; exact w2), decide_eq_false w2, Bool.false_and]
      rfl
  · rw [if_neg (show ¬ nI (LXk inp n p) = 1 by rw [show (1 : Int32) = nI 1 from rfl, ni_eq (by omega) (by omega), hk]; exact w1), decide_eq_false w1, Bool.false_and]
    rfl
end LWX
/-! tokens of a text that is written so: words, a blank and a number, semicolons -/
section TX
variable {n p : Nat} {inp : Nat → Nat} {σ : Sg}
theorem rn_run {P : Nat → Bool} : ∀ L p, (∀ j, j < L → P (inp (p + j)) = true) → p + L ≤ n → ¬ (p + L < n ∧ P (inp (p + L)) = true) → rn P inp n p = p + L := by
  intro L
  induction L with
  | zero => intro p _ _ h; exact rn_no h
  | succ L ih =>
    intro p h1 h2 h3
    have h10 : P (inp p) = true := h1 0 (by omega)
    rw [rn_go (by omega) h10, ih (p + 1) (fun j hj => by rw [show p + 1 + j = p + (j + 1) by omega]; exact h1 (j + 1) (by omega)) (by omega) (by rw [show p + 1 + L = p + (L + 1) by omega]; exact h3)]
    omega
/-- the value of a run of digits -/
def dvs (c : Nat → Nat) : Nat → Nat
  | 0 => 0
  | k + 1 => 10 * dvs c k + c k
theorem dv_run {st : Nat} {c : Nat → Nat} {L : Nat} (hL : L ≤ 4) (hc : ∀ j, j < L → inp (st + j) = 48 + c j ∧ c j < 10) (h2 : st + L ≤ n) (h3 : ¬ (st + L < n ∧ lxD (inp (st + L)) = true)) : ∀ d k, L - k = d → k ≤ L → dv inp n st (st + k) (dvs c k) = dvs c L := by
  intro d
  induction d with
  | zero =>
    intro k hd hk
    obtain rfl : k = L := by omega
    exact dv_no h3
  | succ d ih =>
    intro k hd hk
    obtain ⟨e, he⟩ := hc k (by omega)
    have eD : lxD (inp (st + k)) = true := by rw [e]; exact decide_eq_true (by omega)
    rw [dv_go (by omega) eD, if_neg (by omega), e, show 10 * dvs c k + (48 + c k) - 48 = dvs c (k + 1) by show _ = 10 * dvs c k + c k; omega]
    exact ih (k + 1) (by omega) (by omega)
theorem k_let {b : Nat} (h : 97 ≤ b ∧ b ≤ 122) : lxB b = false ∧ lxL b = true := ⟨decide_eq_false (by omega), decide_eq_true h⟩
theorem k_dig {b : Nat} (h : 48 ≤ b ∧ b ≤ 57) : lxB b = false ∧ lxL b = false ∧ lxD b = true := ⟨decide_eq_false (by omega), decide_eq_false (by omega), decide_eq_true h⟩
/-- a word of the text, with a blank behind it -/
theorem k_wordT {L : Nat} (hL : 0 < L) (h : ∀ j, j < L → 97 ≤ inp (p + j) ∧ inp (p + j) ≤ 122) (hn : p + L < n) (hb : inp (p + L) = 32) : LXq inp n p = p ∧ LXe inp n p = p + L ∧ LXr inp n p = 1 ∧ LXk inp n p = 1 := by
  have h0 := k_let (h 0 hL)
  have eq : LXq inp n p = p := rn_no (fun q => by rw [Nat.add_zero] at h0; rw [h0.1] at q; exact absurd q.2 (by decide))
  have er : LXr inp n p = 1 := by
    unfold LXr
    rw [eq, if_pos (by omega), if_pos (by rw [Nat.add_zero] at h0; exact h0.2)]
  refine ⟨eq, ?_, er, ?_⟩
  · unfold LXe
    rw [eq, if_pos (by omega), if_pos (by rw [Nat.add_zero] at h0; exact h0.2)]
    exact rn_run L p (fun j hj => (k_let (h j hj)).2) (by omega) (fun q => by rw [hb] at q; exact absurd q.2 (by decide))
  · unfold LXk
    rw [er, if_neg (fun q => absurd q.1 (by decide))]
/-- a blank and a number -/
theorem k_numT {c : Nat → Nat} {L : Nat} (hL : 0 < L) (hL4 : L ≤ 4) (hb : inp p = 32) (hc : ∀ j, j < L → inp (p + 1 + j) = 48 + c j ∧ c j < 10) (hn : p + 1 + L < n) (he : lxD (inp (p + 1 + L)) = false) : LXq inp n p = p + 1 ∧ LXe inp n p = p + 1 + L ∧ LXr inp n p = 2 ∧ LXk inp n p = 2 ∧ LXv inp n p = dvs c L := by
  have hd : ∀ j, j < L → 48 ≤ inp (p + 1 + j) ∧ inp (p + 1 + j) ≤ 57 := fun j hj => by have := hc j hj; omega
  have h0 := k_dig (hd 0 hL)
  rw [Nat.add_zero] at h0
  have hs : ¬ (p + 1 + L < n ∧ lxD (inp (p + 1 + L)) = true) := fun q => by rw [he] at q; exact absurd q.2 (by decide)
  have eq : LXq inp n p = p + 1 := rn_run 1 p (fun j hj => by rw [show p + j = p by omega, hb]; decide) (by omega) (fun q => by rw [h0.1] at q; exact absurd q.2 (by decide))
  have er : LXr inp n p = 2 := by
    unfold LXr
    rw [eq, if_pos (by omega), if_neg (by rw [h0.2.1]; decide), if_pos h0.2.2]
  have ee : LXe inp n p = p + 1 + L := by
    unfold LXe
    rw [eq, if_pos (by omega), if_neg (by rw [h0.2.1]; decide), if_pos h0.2.2]
    exact rn_run L (p + 1) (fun j hj => (k_dig (hd j hj)).2.2) (by omega) hs
  refine ⟨eq, ee, er, ?_, ?_⟩
  · unfold LXk
    rw [er, ee, eq, if_neg (fun q => by have := q.2; omega)]
  · unfold LXv
    rw [eq]
    exact dv_run hL4 hc (by omega) hs L 0 rfl (Nat.zero_le _)
/-- a semicolon -/
theorem k_semiT (hp : p < n) (hb : inp p = 59) : LXe inp n p = p + 1 ∧ LXk inp n p = 3 := by
  have eq : LXq inp n p = p := rn_no (fun q => by rw [hb] at q; exact absurd q.2 (by decide))
  have er : LXr inp n p = 3 := by
    unfold LXr
    rw [eq, if_pos hp, hb]
    rfl
  refine ⟨?_, ?_⟩
  · unfold LXe
    rw [eq, if_pos hp, hb]
    rfl
  · unfold LXk
    rw [er, if_neg (fun q => absurd q.1 (by decide))]
theorem k_endT : LXk inp n n = 0 := by
  have eq : LXq inp n n = n := rn_no (fun q => by omega)
  have er : LXr inp n n = 0 := by
    unfold LXr
    rw [eq, if_neg (by omega)]
  unfold LXk
  rw [er, if_neg (fun q => absurd q.1 (by decide))]
/-- the letters of the class's words -/
def w_at (inp : Nat → Nat) (p w : Nat) : Prop := ∀ j, j < Wln w → nI (inp (p + j)) = jchr w (nI j)
theorem WA_on (inp : Nat → Nat) (q w : Nat) : ∀ d i, (∀ j, j < d → nI (inp (q + (i + j))) = jchr w (nI (i + j))) → WA inp q w d i = true := by
  intro d
  induction d with
  | zero => intro i _; rfl
  | succ d ih =>
    intro i h
    show (decide (nI (inp (q + i)) = jchr w (nI i)) && WA inp q w d (i + 1)) = true
    rw [decide_eq_true (show nI (inp (q + i)) = jchr w (nI i) from h 0 (by omega)), Bool.true_and]
    exact ih (i + 1) (fun j hj => by rw [show i + 1 + j = i + (j + 1) by omega]; exact h (j + 1) (by omega))
theorem WA_off (inp : Nat → Nat) (q w : Nat) : ∀ d i j, j < d → ¬ nI (inp (q + (i + j))) = jchr w (nI (i + j)) → WA inp q w d i = false := by
  intro d
  induction d with
  | zero => intro i j h _; omega
  | succ d ih =>
    intro i j h hn
    show (decide (nI (inp (q + i)) = jchr w (nI i)) && WA inp q w d (i + 1)) = false
    by_cases w0 : j = 0
    · subst w0
      rw [decide_eq_false (show ¬ nI (inp (q + i)) = jchr w (nI i) from hn), Bool.false_and]
    · rw [ih (i + 1) (j - 1) (by omega) (by rw [show i + 1 + (j - 1) = i + j by omega]; exact hn), Bool.and_false]
/-- two different words of the class differ in length or in one of the first letters -/
theorem w_diff : ∀ w, w < 9 → ∀ w', w' < 9 → w' ≠ w → Wln w = Wln w' → ∃ j, j < Wln w' ∧ ¬ jchr w (nI j) = jchr w' (nI j) := by decide +kernel
theorem w_let : ∀ w, w < 9 → 0 < Wln w ∧ ∀ j, j < Wln w → ∃ b, b < 123 ∧ 97 ≤ b ∧ jchr w (nI j) = nI b := by decide +kernel
theorem k_wordW {w : Nat} (hw : w < 9) (h : w_at inp p w) (hi : ∀ j, j < Wln w → inp (p + j) < 256) (hn : p + Wln w < n) (hb : inp (p + Wln w) = 32) : (LXq inp n p = p ∧ LXe inp n p = p + Wln w ∧ LXr inp n p = 1 ∧ LXk inp n p = 1) ∧ ∀ w', w' < 9 → WD inp n p w' = decide (w' = w) := by
  have hl : ∀ j, j < Wln w → 97 ≤ inp (p + j) ∧ inp (p + j) ≤ 122 := by
    intro j hj
    obtain ⟨b, b1, b2, b3⟩ := (w_let w hw).2 j hj
    have e := h j hj
    rw [b3, ni_eq (by have := hi j hj; omega) (by omega)] at e
    omega
  have t := k_wordT (w_let w hw).1 hl hn hb
  refine ⟨t, fun w' hw' => ?_⟩
  unfold WD
  rw [t.2.2.1, t.2.1, t.1, decide_eq_true rfl, Bool.true_and, show p + Wln w - p = Wln w by omega]
  by_cases e : w' = w
  · subst e
    rw [decide_eq_true rfl, Bool.true_and, decide_eq_true rfl]
    exact WA_on inp p w' _ 0 (fun j hj => by rw [Nat.zero_add]; exact h j hj)
  · rw [decide_eq_false e]
    by_cases e2 : Wln w = Wln w'
    · obtain ⟨j, hj, hd⟩ := w_diff w hw w' hw' e e2
      rw [WA_off inp p w' _ 0 j hj (by rw [Nat.zero_add, h j (by omega)]; exact hd), Bool.and_false]
    · rw [decide_eq_false e2, Bool.false_and]
end TX
