/-! reading a text: one token of both -/
def lxB (b : Nat) : Bool := decide (b = 32 ∨ b = 10)
def lxL (b : Nat) : Bool := decide (97 ≤ b ∧ b ≤ 122)
def lxD (b : Nat) : Bool := decide (48 ≤ b ∧ b ≤ 57)
def rnF (P : Nat → Bool) (inp : Nat → Nat) (n : Nat) : Nat → Nat → Nat
  | 0, p => p
  | f + 1, p => if (decide (p < n) && P (inp p)) = true then rnF P inp n f (p + 1) else p
def rn (P : Nat → Bool) (inp : Nat → Nat) (n p : Nat) : Nat := rnF P inp n (n - p) p
theorem rn_go {P : Nat → Bool} {inp : Nat → Nat} {n p : Nat} (h : p < n) (hP : P (inp p) = true) : rn P inp n p = rn P inp n (p + 1) := by
  unfold rn
  rw [show n - p = (n - (p + 1)) + 1 by omega]
  show (if (decide (p < n) && P (inp p)) = true then _ else _) = _
  rw [if_pos (by rw [decide_eq_true h, hP]; rfl)]
theorem rn_no {P : Nat → Bool} {inp : Nat → Nat} {n p : Nat} (h : ¬ (p < n ∧ P (inp p) = true)) : rn P inp n p = p := by
  unfold rn
  cases e : n - p with
  | zero => rfl
  | succ d =>
    show (if (decide (p < n) && P (inp p)) = true then _ else _) = _
    rw [if_neg (fun q => h (by rw [Bool.and_eq_true] at q; exact ⟨of_decide_eq_true q.1, q.2⟩))]
theorem rn_bd {P : Nat → Bool} {inp : Nat → Nat} {n : Nat} : ∀ d p, n - p = d → p ≤ n → p ≤ rn P inp n p ∧ rn P inp n p ≤ n := by
  intro d
  induction d with
  | zero => intro p hd hp; rw [rn_no (fun q => by omega)]; omega
  | succ d ih =>
    intro p hd hp
    by_cases h : p < n ∧ P (inp p) = true
    · rw [rn_go h.1 h.2]
      have := ih (p + 1) (by omega) (by omega)
      omega
    · rw [rn_no h]; omega
def dvF (inp : Nat → Nat) (n st : Nat) : Nat → Nat → Nat → Nat
  | 0, _, v => v
  | f + 1, p, v => if (decide (p < n) && lxD (inp p)) = true then dvF inp n st f (p + 1) (if 4 ≤ p - st then v else 10 * v + inp p - 48) else v
def dv (inp : Nat → Nat) (n st p v : Nat) : Nat := dvF inp n st (n - p) p v
theorem dv_go {inp : Nat → Nat} {n st p v : Nat} (h : p < n) (hP : lxD (inp p) = true) : dv inp n st p v = dv inp n st (p + 1) (if 4 ≤ p - st then v else 10 * v + inp p - 48) := by
  unfold dv
  rw [show n - p = (n - (p + 1)) + 1 by omega]
  show (if (decide (p < n) && lxD (inp p)) = true then _ else _) = _
  rw [if_pos (by rw [decide_eq_true h, hP]; rfl)]
theorem dv_no {inp : Nat → Nat} {n st p v : Nat} (h : ¬ (p < n ∧ lxD (inp p) = true)) : dv inp n st p v = v := by
  unfold dv
  cases e : n - p with
  | zero => rfl
  | succ d =>
    show (if (decide (p < n) && lxD (inp p)) = true then _ else _) = _
    rw [if_neg (fun q => h (by rw [Bool.and_eq_true] at q; exact ⟨of_decide_eq_true q.1, q.2⟩))]
def LXq (inp : Nat → Nat) (n p : Nat) : Nat := rn lxB inp n p
def LXe (inp : Nat → Nat) (n p : Nat) : Nat := if LXq inp n p < n then (if lxL (inp (LXq inp n p)) = true then rn lxL inp n (LXq inp n p) else if lxD (inp (LXq inp n p)) = true then rn lxD inp n (LXq inp n p) else LXq inp n p + 1) else LXq inp n p
/-- the reference's kind; the class has 4 for a number of more than four digits -/
def LXr (inp : Nat → Nat) (n p : Nat) : Nat := if LXq inp n p < n then (if lxL (inp (LXq inp n p)) = true then 1 else if lxD (inp (LXq inp n p)) = true then 2 else if inp (LXq inp n p) = 59 then 3 else 4) else 0
def LXk (inp : Nat → Nat) (n p : Nat) : Nat := if LXr inp n p = 2 ∧ 4 < LXe inp n p - LXq inp n p then 4 else LXr inp n p
def LXv (inp : Nat → Nat) (n p : Nat) : Nat := dv inp n (LXq inp n p) (LXq inp n p) 0
theorem LX_bd {inp : Nat → Nat} {n p : Nat} (hp : p ≤ n) : p ≤ LXq inp n p ∧ LXq inp n p ≤ LXe inp n p ∧ LXe inp n p ≤ n ∧ (LXr inp n p ≠ 0 → LXq inp n p < LXe inp n p) ∧ LXr inp n p ≤ 4 := by
  have h1 := rn_bd (P := lxB) (inp := inp) (n := n) (n - p) p rfl hp
  have hq : LXq inp n p = rn lxB inp n p := rfl
  unfold LXe LXr
  by_cases w : LXq inp n p < n
  · rw [if_pos w, if_pos w]
    by_cases w1 : lxL (inp (LXq inp n p)) = true
    · rw [if_pos w1, if_pos w1, rn_go w w1]
      have h2 := rn_bd (P := lxL) (inp := inp) (n := n) (n - (LXq inp n p + 1)) (LXq inp n p + 1) rfl (by omega)
      exact ⟨by omega, by omega, by omega, fun _ => by omega, by omega⟩
    · rw [if_neg w1, if_neg w1]
      by_cases w2 : lxD (inp (LXq inp n p)) = true
      · rw [if_pos w2, if_pos w2, rn_go w w2]
        have h2 := rn_bd (P := lxD) (inp := inp) (n := n) (n - (LXq inp n p + 1)) (LXq inp n p + 1) rfl (by omega)
        exact ⟨by omega, by omega, by omega, fun _ => by omega, by omega⟩
      · rw [if_neg w2, if_neg w2]
        exact ⟨by omega, by omega, by omega, fun _ => by omega, by split <;> omega⟩
  · rw [if_neg w, if_neg w]
    exact ⟨by omega, by omega, by omega, fun q => absurd rfl q, by omega⟩
def CX (n : Nat) (inp : Nat → Nat) (σ : Sg) : Prop := σ 6 0 2 = 1 ∧ σ 6 0 3 = nI n ∧ n ≤ 700 ∧ ∀ i, i < n → inp i < 256 ∧ σ 10 0 i = nI (inp i)
def CY (n : Nat) (inp : Nat → Nat) (ρ : Sg) : Prop := ρ 8 0 10 = nI n ∧ n ≤ 700 ∧ ∀ i, i < n → inp i < 256 ∧ ρ 36 0 i = nI (inp i)
/-- only the reader's token is touched -/
def KF (σ σ' : Sg) : Prop := ∀ k o i, ¬ (k = 6 ∧ 4 ≤ i ∧ i ≤ 7) → σ' k o i = σ k o i
theorem KF.rf (σ : Sg) : KF σ σ := fun _ _ _ _ => rfl
theorem KF.trans {a b c : Sg} (h : KF a b) (h' : KF b c) : KF a c := fun k o i q => (h' k o i q).trans (h k o i q)
theorem KF.put {σ : Sg} {i : Nat} {x : Int32} (h : 4 ≤ i ∧ i ≤ 7) : KF σ (sup σ 6 0 i x) := fun _ _ _ q => if_neg (fun z => q ⟨z.1, by rw [z.2.2]; exact h.1, by rw [z.2.2]; exact h.2⟩)
theorem CX.kf {n : Nat} {inp : Nat → Nat} {σ σ' : Sg} (h : CX n inp σ) (hf : KF σ σ') : CX n inp σ' := by
  refine ⟨(hf 6 0 2 (by omega)).trans h.1, (hf 6 0 3 (by omega)).trans h.2.1, h.2.2.1, fun i hi => ⟨(h.2.2.2 i hi).1, (hf 10 0 i (by omega)).trans (h.2.2.2 i hi).2⟩⟩
/-- the same for the reference -/
def KG (ρ ρ' : Sg) : Prop := ∀ k o i, ¬ (k = 8 ∧ 15 ≤ i ∧ i ≤ 18) → ρ' k o i = ρ k o i
theorem KG.rf (σ : Sg) : KG σ σ := fun _ _ _ _ => rfl
theorem KG.trans {a b c : Sg} (h : KG a b) (h' : KG b c) : KG a c := fun k o i q => (h' k o i q).trans (h k o i q)
theorem KG.put {σ : Sg} {i : Nat} {x : Int32} (h : 15 ≤ i ∧ i ≤ 18) : KG σ (sup σ 8 0 i x) := fun _ _ _ q => if_neg (fun z => q ⟨z.1, by rw [z.2.2]; exact h.1, by rw [z.2.2]; exact h.2⟩)
theorem CY.kg {n : Nat} {inp : Nat → Nat} {σ σ' : Sg} (h : CY n inp σ) (hf : KG σ σ') : CY n inp σ' := by
  refine ⟨(hf 8 0 10 (by omega)).trans h.1, h.2.1, fun i hi => ⟨(h.2.2 i hi).1, (hf 36 0 i (by omega)).trans (h.2.2 i hi).2⟩⟩
theorem a_isB (σ : Sg) {b : Nat} (hb : b < 256) : f_X6_isBlank σ (nI b) = some (W_b (lxB b), σ) := by
  unfold f_X6_isBlank f_X6_isBlank_12 f_X6_isBlank_17 lxB
  by_cases h1 : b = 32
  · rw [if_pos (show nI b = 32 by rw [h1]; rfl), decide_eq_true (Or.inl h1)]; rfl
  · rw [if_neg (show ¬ nI b = 32 by rw [show (32 : Int32) = nI 32 from rfl, ni_eq (by omega) (by omega)]; exact h1)]
    by_cases h2 : b = 10
    · rw [if_pos (show nI b = 10 by rw [h2]; rfl), decide_eq_true (Or.inr h2)]; rfl
    · rw [if_neg (show ¬ nI b = 10 by rw [show (10 : Int32) = nI 10 from rfl, ni_eq (by omega) (by omega)]; exact h2), decide_eq_false (fun q => q.elim h1 h2)]; rfl
theorem a_isL (σ : Sg) {b : Nat} (hb : b < 256) : f_X6_isLetter σ (nI b) = some (W_b (lxL b), σ) := by
  unfold f_X6_isLetter f_X6_isLetter_16 f_X6_isLetter_17 lxL
  rw [show (97 : Int32) = nI 97 from rfl, show (122 : Int32) = nI 122 from rfl]
  by_cases h1 : b < 97
  · rw [if_pos (by rw [ni_lt (by omega) (by omega)]; exact h1), decide_eq_false (fun q => by omega)]; rfl
  · rw [if_neg (by rw [ni_lt (by omega) (by omega)]; exact h1)]
    by_cases h2 : 122 < b
    · rw [if_pos (by rw [ni_lt (by omega) (by omega)]; exact h2), decide_eq_false (fun q => by omega)]; rfl
    · rw [if_neg (by rw [ni_lt (by omega) (by omega)]; exact h2), decide_eq_true (by omega)]; rfl
theorem a_isD (σ : Sg) {b : Nat} (hb : b < 256) : f_X6_isDigit σ (nI b) = some (W_b (lxD b), σ) := by
  unfold f_X6_isDigit f_X6_isDigit_16 f_X6_isDigit_17 lxD
  rw [show (48 : Int32) = nI 48 from rfl, show (57 : Int32) = nI 57 from rfl]
  by_cases h1 : b < 48
  · rw [if_pos (by rw [ni_lt (by omega) (by omega)]; exact h1), decide_eq_false (fun q => by omega)]; rfl
  · rw [if_neg (by rw [ni_lt (by omega) (by omega)]; exact h1)]
    by_cases h2 : 57 < b
    · rw [if_pos (by rw [ni_lt (by omega) (by omega)]; exact h2), decide_eq_false (fun q => by omega)]; rfl
    · rw [if_neg (by rw [ni_lt (by omega) (by omega)]; exact h2), decide_eq_true (by omega)]; rfl
theorem b_inR (σ : Sg) {b lo hi : Nat} (hb : b < 256) (h1 : lo < 256) (h2 : hi < 256) : f_X8_inRange σ (nI b) (nI lo) (nI hi) = some (W_b (decide (lo ≤ b ∧ b ≤ hi)), σ) := by
  by_cases h : lo ≤ b ∧ b ≤ hi
  · rw [x_in1 _ (by rw [ni_lt (by omega) (by omega)]; omega) (by rw [ni_lt (by omega) (by omega)]; omega), decide_eq_true h]; rfl
  · rw [x_in0 _ (by rw [ni_lt (by omega) (by omega), ni_lt (by omega) (by omega)]; omega), decide_eq_false h]; rfl
theorem b_inN (σ : Sg) {lo hi : Nat} (h1 : lo < 256) : f_X8_inRange σ (-1) (nI lo) (nI hi) = some (0, σ) := x_in0 _ (Or.inl (by
  rw [Int32.lt_iff_toInt_lt, ni_int (by omega)]
  have neg1 : (-1 : Int32).toInt = -1 := by decide
  rw [neg1]
  omega))
section LX
variable {n : Nat} {inp : Nat → Nat} {σ ρ : Sg}
theorem b_byte (h : CY n inp ρ) {p : Nat} (hp : p ≤ 700) : f_X8_byteAt ρ (nI p) = some (if p < n then nI (inp p) else -1, ρ) := by
  have hn := h.2.1
  unfold f_X8_byteAt f_X8_byteAt_18
  rw [h.1]
  by_cases w : p < n
  · rw [if_neg (by rw [ni_le (by omega) (by omega)]; omega), if_pos w, if_neg (by rw [gN (by omega) (by decide)]; exact id), ni_cl (by omega), (h.2.2 p w).2]
  · rw [if_pos (by rw [ni_le (by omega) (by omega)]; omega), if_neg w]
theorem la_blank (h : CX n inp σ) : ∀ d f p, n - p = d → d < f → p ≤ n → f_X6_nextToken_0 f (sup σ 6 0 4 (nI p)) = f_X6_nextToken_39 (sup σ 6 0 4 (nI (rn lxB inp n p))) := by
  have hn := h.2.2.1
  intro d
  induction d with
  | zero =>
    intro f p hd hf hp
    obtain ⟨f, rfl⟩ : ∃ g, f = g + 1 := ⟨f - 1, by omega⟩
    rw [f_X6_nextToken_0_s, s_nf (show (3 : Nat) ≠ 4 by decide), s_at, h.2.1, if_pos (by rw [ni_le (by omega) (by omega)]; omega), rn_no (fun q => by omega)]
  | succ d ih =>
    intro f p hd hf hp
    obtain ⟨f, rfl⟩ : ∃ g, f = g + 1 := ⟨f - 1, by omega⟩
    have hb := h.2.2.2 p (by omega)
    rw [f_X6_nextToken_0_s, s_nf (show (3 : Nat) ≠ 4 by decide), s_at, h.2.1, if_neg (by rw [ni_le (by omega) (by omega)]; omega), s_nf (show (2 : Nat) ≠ 4 by decide), h.1, if_neg (show ¬ (1 : Int32) = 0 by decide), if_neg (by rw [gN (by omega) (by decide)]; exact id), ni_cl (by omega), s_ne (show (10 : Nat) ≠ 6 by decide), hb.2, a_isB _ hb.1, p_bi]
    cases w : lxB (inp p)
    · rw [if_pos (show W_b false = 0 from rfl), rn_no (fun q => by rw [w] at q; exact absurd q.2 (by decide))]
    · rw [if_neg (show ¬ W_b true = 0 by decide), p_st, s_at, s_ss, ni_1, rn_go (by omega) w]
      exact ih f (p + 1) (by omega) (by omega) (by omega)
theorem la_let (h : CX n inp σ) : ∀ d f p, n - p = d → d < f → p ≤ n → f_X6_skipLetters_5 f (sup σ 6 0 4 (nI p)) = some (sup σ 6 0 4 (nI (rn lxL inp n p))) := by
  have hn := h.2.2.1
  intro d
  induction d with
  | zero =>
    intro f p hd hf hp
    obtain ⟨f, rfl⟩ : ∃ g, f = g + 1 := ⟨f - 1, by omega⟩
    rw [f_X6_skipLetters_5_s, s_nf (show (3 : Nat) ≠ 4 by decide), s_at, h.2.1, if_pos (by rw [ni_le (by omega) (by omega)]; omega), rn_no (fun q => by omega)]
    rfl
  | succ d ih =>
    intro f p hd hf hp
    obtain ⟨f, rfl⟩ : ∃ g, f = g + 1 := ⟨f - 1, by omega⟩
    have hb := h.2.2.2 p (by omega)
    rw [f_X6_skipLetters_5_s, s_nf (show (3 : Nat) ≠ 4 by decide), s_at, h.2.1, if_neg (by rw [ni_le (by omega) (by omega)]; omega), s_nf (show (2 : Nat) ≠ 4 by decide), h.1, if_neg (show ¬ (1 : Int32) = 0 by decide), if_neg (by rw [gN (by omega) (by decide)]; exact id), ni_cl (by omega), s_ne (show (10 : Nat) ≠ 6 by decide), hb.2, a_isL _ hb.1, p_bi]
    cases w : lxL (inp p)
    · rw [if_pos (show W_b false = 0 from rfl), rn_no (fun q => by rw [w] at q; exact absurd q.2 (by decide))]
      rfl
    · rw [if_neg (show ¬ W_b true = 0 by decide), p_st, s_at, s_ss, ni_1, rn_go (by omega) w]
      exact ih f (p + 1) (by omega) (by omega) (by omega)
theorem la_dig (h : CX n inp σ) {st : Nat} (hst : σ 6 0 6 = nI st) : ∀ d f p v, n - p = d → d < f → p ≤ n → st ≤ p → f_X6_skipDigits_5 f (sup (sup σ 6 0 7 (nI v)) 6 0 4 (nI p)) = f_X6_skipDigits_81 (sup (sup σ 6 0 7 (nI (dv inp n st p v))) 6 0 4 (nI (rn lxD inp n p))) := by
  have hn := h.2.2.1
  intro d
  induction d with
  | zero =>
    intro f p v hd hf hp hs
    obtain ⟨f, rfl⟩ : ∃ g, f = g + 1 := ⟨f - 1, by omega⟩
    rw [f_X6_skipDigits_5_s, s_nf (show (3 : Nat) ≠ 4 by decide), s_nf (show (3 : Nat) ≠ 7 by decide), s_at, h.2.1, if_pos (by rw [ni_le (by omega) (by omega)]; omega), rn_no (fun q => by omega), dv_no (fun q => by omega)]
  | succ d ih =>
    intro f p v hd hf hp hs
    obtain ⟨f, rfl⟩ : ∃ g, f = g + 1 := ⟨f - 1, by omega⟩
    have hb := h.2.2.2 p (by omega)
    have e3 : sup (sup σ 6 0 7 (nI v)) 6 0 4 (nI p) 6 0 3 = nI n := by rw [s_nf (by decide), s_nf (by decide)]; exact h.2.1
    have e2 : sup (sup σ 6 0 7 (nI v)) 6 0 4 (nI p) 6 0 2 = 1 := by rw [s_nf (by decide), s_nf (by decide)]; exact h.1
    have e4 : sup (sup σ 6 0 7 (nI v)) 6 0 4 (nI p) 6 0 4 = nI p := s_at _ _ _ _ _
    have e6 : sup (sup σ 6 0 7 (nI v)) 6 0 4 (nI p) 6 0 6 = nI st := by rw [s_nf (by decide), s_nf (by decide)]; exact hst
    have e7 : sup (sup σ 6 0 7 (nI v)) 6 0 4 (nI p) 6 0 7 = nI v := by rw [s_nf (by decide), s_at]
    have eb : sup (sup σ 6 0 7 (nI v)) 6 0 4 (nI p) 10 0 p = nI (inp p) := by rw [s_ne (by decide), s_ne (by decide)]; exact hb.2
    have gp : ¬ (nI p < 0 ∨ 700 ≤ (nI p).toNatClampNeg) := by rw [gN (by omega) (by decide)]; exact id
    rw [f_X6_skipDigits_5_s, e3, e4, if_neg (by rw [ni_le (by omega) (by omega)]; omega), e2, if_neg (show ¬ (1 : Int32) = 0 by decide), if_neg gp, ni_cl (by omega), eb, a_isD _ hb.1, p_bi]
    cases w : lxD (inp p)
    · rw [if_pos (show W_b false = 0 from rfl), rn_no (fun q => by rw [w] at q; exact absurd q.2 (by decide)), dv_no (fun q => by rw [w] at q; exact absurd q.2 (by decide))]
    · rw [if_neg (show ¬ W_b true = 0 by decide), e4, e6, ni_sub hs, show (4 : Int32) = nI 4 from rfl, rn_go (by omega) w, dv_go (by omega) w]
      have h48 : 48 ≤ inp p := (of_decide_eq_true w).1
      by_cases w4 : 4 ≤ p - st
      · rw [if_pos (by rw [ni_le (by omega) (by omega)]; exact w4), if_pos w4]
        unfold f_X6_skipDigits_68
        rw [p_st, e4, s_ss, ni_1]
        exact ih f (p + 1) v (by omega) (by omega) (by omega) (by omega)
      · rw [if_neg (by rw [ni_le (by omega) (by omega)]; exact w4), if_neg w4, e2, if_neg (show ¬ (1 : Int32) = 0 by decide), if_neg gp, ni_cl (show p < 2147483648 by omega), eb, e7]
        rw [show (10 : Int32) * nI v + nI (inp p) - 48 = nI (10 * v + inp p - 48) from by rw [show (10 : Int32) * nI v = nI (10 * v) from ni_mul 10 v, ni_add]; exact ni_sub (b := 48) (by omega), p_st]
        unfold f_X6_skipDigits_68
        rw [p_st, s_nf (show (4 : Nat) ≠ 7 by decide), s_at, s_cm (show ¬ ((6 : Nat) = 6 ∧ (0 : Nat) = 0 ∧ (4 : Nat) = 7) by decide), s_ss, s_ss, ni_1]
        exact ih f (p + 1) _ (by omega) (by omega) (by omega) (by omega)
theorem sup_self {σ : Sg} {k o i : Nat} {x : Int32} (h : σ k o i = x) : sup σ k o i x = σ := by
  funext a b c
  unfold sup
  by_cases w : a = k ∧ b = o ∧ c = i
  · obtain ⟨rfl, rfl, rfl⟩ := w
    rw [if_pos ⟨rfl, rfl, rfl⟩, h]
  · rw [if_neg w]
theorem a_next (h : CX n inp σ) {p : Nat} (h4 : σ 6 0 4 = nI p) (hp : p ≤ n) : ∃ σ', f_X6_nextToken σ = some σ' ∧ KF σ σ' ∧ σ' 6 0 4 = nI (LXe inp n p) ∧ σ' 6 0 5 = nI (LXk inp n p) ∧ σ' 6 0 6 = nI (LXq inp n p) ∧ (LXk inp n p = 2 → σ' 6 0 7 = nI (LXv inp n p)) := by
  have hn := h.2.2.1
  have hq := (LX_bd (inp := inp) hp).1
  have hq2 : LXq inp n p ≤ n := (rn_bd (P := lxB) (inp := inp) (n := n) (n - p) p rfl hp).2
  have e := la_blank h (n - p) FU p rfl (by show n - p < 65536; omega) hp
  rw [sup_self h4] at e
  have e' : f_X6_nextToken σ = f_X6_nextToken_39 (sup σ 6 0 4 (nI (LXq inp n p))) := e
  rw [e']
  have k0 : KF σ (sup (sup σ 6 0 4 (nI (LXq inp n p))) 6 0 6 (nI (LXq inp n p))) := (KF.put (by decide)).trans (KF.put (by decide))
  have h0 := h.kf k0
  have s4 : sup (sup σ 6 0 4 (nI (LXq inp n p))) 6 0 6 (nI (LXq inp n p)) 6 0 4 = nI (LXq inp n p) := by rw [s_nf (by decide), s_at]
  have s6 : sup (sup σ 6 0 4 (nI (LXq inp n p))) 6 0 6 (nI (LXq inp n p)) 6 0 6 = nI (LXq inp n p) := s_at _ _ _ _ _
  unfold f_X6_nextToken_39 f_X6_nextToken_130 f_X6_nextToken_143
  rw [s_at, p_st]
  generalize hS : sup (sup σ 6 0 4 (nI (LXq inp n p))) 6 0 6 (nI (LXq inp n p)) = S at k0 h0 s4 s6 ⊢
  rw [s4, h0.2.1]
  by_cases w : LXq inp n p < n
  · have hb := h0.2.2.2 _ w
    have gp : ¬ (nI (LXq inp n p) < 0 ∨ 700 ≤ (nI (LXq inp n p)).toNatClampNeg) := by rw [gN (by omega) (by decide)]; exact id
    rw [if_pos (by rw [ni_lt (by omega) (by omega)]; exact w), h0.1, if_neg (show ¬ (1 : Int32) = 0 by decide), if_neg gp, ni_cl (by omega), hb.2, a_isL _ hb.1, p_bi]
    cases w1 : lxL (inp (LXq inp n p))
    · rw [if_pos (show W_b false = 0 from rfl), h0.1, if_neg (show ¬ (1 : Int32) = 0 by decide), s4, if_neg gp, ni_cl (by omega), hb.2, a_isD _ hb.1, p_bi]
      cases w2 : lxD (inp (LXq inp n p))
      · rw [if_pos (show W_b false = 0 from rfl), h0.1, if_neg (show ¬ (1 : Int32) = 0 by decide), s4, if_neg gp, ni_cl (by omega), hb.2]
        have eE : LXe inp n p = LXq inp n p + 1 := by unfold LXe; rw [if_pos w, w1, if_neg (show ¬ false = true by decide), w2, if_neg (show ¬ false = true by decide)]
        have eK : LXk inp n p = if inp (LXq inp n p) = 59 then 3 else 4 := by
          have eR : LXr inp n p = if inp (LXq inp n p) = 59 then 3 else 4 := by unfold LXr; rw [if_pos w, w1, if_neg (show ¬ false = true by decide), w2, if_neg (show ¬ false = true by decide)]
          unfold LXk
          rw [eR, if_neg (fun q => by have := q.1; split at this <;> omega)]
        rw [eE, eK]
        by_cases w3 : inp (LXq inp n p) = 59
        · rw [if_pos (show nI (inp (LXq inp n p)) = 59 by rw [w3]; rfl), if_pos w3, p_st, p_st, s_nf (show (4 : Nat) ≠ 5 by decide), s4, ni_1]
          refine ⟨_, rfl, k0.trans ((KF.put (by decide)).trans (KF.put (by decide))), s_at _ _ _ _ _, ?_, ?_, fun q => absurd q (by decide)⟩
          · rw [s_nf (by decide), s_at]; rfl
          · rw [s_nf (by decide), s_nf (by decide)]; exact s6
        · rw [if_neg (show ¬ nI (inp (LXq inp n p)) = 59 by rw [show (59 : Int32) = nI 59 from rfl, ni_eq (by omega) (by omega)]; exact w3), if_neg w3, p_st, p_st, s_nf (show (4 : Nat) ≠ 5 by decide), s4, ni_1]
          refine ⟨_, rfl, k0.trans ((KF.put (by decide)).trans (KF.put (by decide))), s_at _ _ _ _ _, ?_, ?_, fun q => absurd q (by decide)⟩
          · rw [s_nf (by decide), s_at]; rfl
          · rw [s_nf (by decide), s_nf (by decide)]; exact s6
      · rw [if_neg (show ¬ W_b true = 0 by decide)]
        have eE : LXe inp n p = rn lxD inp n (LXq inp n p) := by unfold LXe; rw [if_pos w, w1, if_neg (show ¬ false = true by decide), w2, if_pos rfl]
        have eR : LXr inp n p = 2 := by unfold LXr; rw [if_pos w, w1, if_neg (show ¬ false = true by decide), w2, if_pos rfl]
        have hE := LX_bd (inp := inp) hp
        have d := la_dig h0 s6 (n - LXq inp n p) FU (LXq inp n p) 0 rfl (by show n - LXq inp n p < 65536; omega) hq2 (Nat.le_refl _)
        rw [sup_self (σ := sup S 6 0 7 (nI 0)) (by rw [s_nf (by decide)]; exact s4), ← eE] at d
        unfold f_X6_skipDigits
        rw [p_st, show sup S 6 0 7 0 = sup S 6 0 7 (nI 0) from rfl, d]
        unfold f_X6_skipDigits_81 f_X6_skipDigits_100
        rw [s_at, s_nf (show (6 : Nat) ≠ 4 by decide), s_nf (show (6 : Nat) ≠ 7 by decide), s6, ni_sub hE.2.1, show (4 : Int32) = nI 4 from rfl]
        have fin : ∀ x : Nat, x = LXk inp n p → ∃ σ', (bv (some (sup (sup (sup S 6 0 7 (nI (LXv inp n p))) 6 0 4 (nI (LXe inp n p))) 6 0 5 (nI x))) fun σ6 => some σ6) = some σ' ∧ KF σ σ' ∧ σ' 6 0 4 = nI (LXe inp n p) ∧ σ' 6 0 5 = nI (LXk inp n p) ∧ σ' 6 0 6 = nI (LXq inp n p) ∧ (LXk inp n p = 2 → σ' 6 0 7 = nI (LXv inp n p)) := fun x hx => by
          refine ⟨_, rfl, k0.trans (((KF.put (by decide)).trans (KF.put (by decide))).trans (KF.put (by decide))), ?_, ?_, ?_, fun _ => ?_⟩
          · rw [s_nf (by decide), s_at]
          · rw [s_at, hx]
          · rw [s_nf (by decide), s_nf (by decide), s_nf (by decide)]; exact s6
          · rw [s_nf (by decide), s_nf (by decide), s_at]
        by_cases w4 : 4 < LXe inp n p - LXq inp n p
        · rw [if_pos (by rw [ni_lt (by omega) (by omega)]; exact w4), p_st]
          exact fin 4 (by unfold LXk; rw [if_pos ⟨eR, w4⟩])
        · rw [if_neg (by rw [ni_lt (by omega) (by omega)]; exact w4), p_st]
          exact fin 2 (by unfold LXk; rw [if_neg (fun q => w4 q.2), eR])
    · rw [if_neg (show ¬ W_b true = 0 by decide)]
      have eE : LXe inp n p = rn lxL inp n (LXq inp n p) := by unfold LXe; rw [if_pos w, w1, if_pos rfl]
      have eK : LXk inp n p = 1 := by
        have eR : LXr inp n p = 1 := by unfold LXr; rw [if_pos w, w1, if_pos rfl]
        unfold LXk
        rw [eR, if_neg (fun q => absurd q.1 (by decide))]
      have h5 := h0.kf (KF.put (σ := S) (i := 5) (x := 1) (by decide))
      have d := la_let h5 (n - LXq inp n p) FU (LXq inp n p) rfl (by show n - LXq inp n p < 65536; omega) hq2
      rw [sup_self (σ := sup S 6 0 5 1) (by rw [s_nf (by decide)]; exact s4), ← eE] at d
      unfold f_X6_skipLetters
      rw [p_st, d, p_bv]
      refine ⟨_, rfl, k0.trans ((KF.put (by decide)).trans (KF.put (by decide))), s_at _ _ _ _ _, ?_, ?_, fun q => by rw [eK] at q; omega⟩
      · rw [s_nf (by decide), s_at, eK]; rfl
      · rw [s_nf (by decide), s_nf (by decide)]; exact s6
  · rw [if_neg (by rw [ni_lt (by omega) (by omega)]; exact w), p_st]
    have eE : LXe inp n p = LXq inp n p := by unfold LXe; rw [if_neg w]
    have eK : LXk inp n p = 0 := by
      have eR : LXr inp n p = 0 := by unfold LXr; rw [if_neg w]
      unfold LXk
      rw [eR, if_neg (fun q => absurd q.1 (by decide))]
    refine ⟨_, rfl, k0.trans (KF.put (by decide)), ?_, ?_, ?_, fun q => by rw [eK] at q; omega⟩
    · rw [s_nf (by decide), s4, eE]
    · rw [s_at, eK]; rfl
    · rw [s_nf (by decide)]; exact s6
end LX
