/-! the class is told a text, letter by letter -/
def pk (x l : Int32) : Int32 := x <<< ((8 : Int32) &&& 31) ||| l
def by8 (l : Int32) : Prop := ∀ i, 8 ≤ i → i < 32 → bt l i = false
theorem by8_n {b : Nat} (hb : b < 256) : by8 (nI b) := by
  intro i h1 h2
  have e : (nI b) &&& 255 = nI b := by
    rw [show (255 : Int32) = nI 255 from rfl, nx_and, show (255 : Nat) = 2 ^ 8 - 1 from rfl, Nat.and_two_pow_sub_one_eq_mod, Nat.mod_eq_of_lt (by omega)]
  rw [← e, b_and, b_255, decide_eq_false (by omega), Bool.and_false]
theorem pk_bt {l : Int32} (hl : by8 l) (x : Int32) {i : Nat} (hi : i < 32) : bt (pk x l) i = if i < 8 then bt l i else bt x (i - 8) := by
  unfold pk
  rw [b_or, show (8 : Int32) = nI 8 from rfl, b_shl 8 (by decide) x hi]
  by_cases w : i < 8
  · rw [if_pos w, decide_eq_false (by omega), Bool.false_and, Bool.false_or]
  · rw [if_neg w, decide_eq_true (by omega), Bool.true_and, hl i (by omega) hi, Bool.or_false]
theorem ush_bt (v : Int32) {s i : Nat} (hs : s < 32) : bt (jush v (nI s) &&& 255) i = (bt v (s + i) && decide (i < 8)) := by
  rw [b_and, b_255]
  unfold jush
  rw [b_ushr s hs v i]
theorem by_0 {a b c d : Int32} (hb : by8 b) (hc : by8 c) (hd : by8 d) (ha : by8 a) : jush (pk (pk (pk (pk 0 a) b) c) d) (nI 24) &&& 255 = a := by
  refine b_ext (fun i hi => ?_)
  rw [ush_bt _ (by decide)]
  by_cases w : i < 8
  · rw [pk_bt hd _ (by omega), if_neg (by omega), pk_bt hc _ (by omega), if_neg (by omega), pk_bt hb _ (by omega), if_neg (by omega), pk_bt ha _ (by omega), if_pos (by omega), decide_eq_true w, Bool.and_true, show 24 + i - 8 - 8 - 8 = i by omega]
  · rw [decide_eq_false w, Bool.and_false, ha i (by omega) hi]
theorem by_1 {a b c d : Int32} (hb : by8 b) (hc : by8 c) (hd : by8 d) : jush (pk (pk (pk (pk 0 a) b) c) d) (nI 16) &&& 255 = b := by
  refine b_ext (fun i hi => ?_)
  rw [ush_bt _ (by decide)]
  by_cases w : i < 8
  · rw [pk_bt hd _ (by omega), if_neg (by omega), pk_bt hc _ (by omega), if_neg (by omega), pk_bt hb _ (by omega), if_pos (by omega), decide_eq_true w, Bool.and_true, show 16 + i - 8 - 8 = i by omega]
  · rw [decide_eq_false w, Bool.and_false, hb i (by omega) hi]
theorem by_2 {a b c d : Int32} (hc : by8 c) (hd : by8 d) : jush (pk (pk (pk (pk 0 a) b) c) d) (nI 8) &&& 255 = c := by
  refine b_ext (fun i hi => ?_)
  rw [ush_bt _ (by decide)]
  by_cases w : i < 8
  · rw [pk_bt hd _ (by omega), if_neg (by omega), pk_bt hc _ (by omega), if_pos (by omega), decide_eq_true w, Bool.and_true, show 8 + i - 8 = i by omega]
  · rw [decide_eq_false w, Bool.and_false, hc i (by omega) hi]
theorem by_3 {a b c d : Int32} (hd : by8 d) : jush (pk (pk (pk (pk 0 a) b) c) d) (nI 0) &&& 255 = d := by
  refine b_ext (fun i hi => ?_)
  rw [ush_bt _ (by decide)]
  by_cases w : i < 8
  · rw [pk_bt hd _ (by omega), if_pos (by omega), decide_eq_true w, Bool.and_true, show 0 + i = i by omega]
  · rw [decide_eq_false w, Bool.and_false, hd i (by omega) hi]
/-- the words that the law fills -/
theorem gin_w (n : Nat) (t : Nat → Int32) (k : Nat) : ∀ q, q < 5 → g_in n t k 20 q = pk (pk (pk (pk 0 (g_let n t (k + (4 * q)))) (g_let n t (k + (4 * q + 1)))) (g_let n t (k + (4 * q + 2)))) (g_let n t (k + (4 * q + 3))) := by
  intro q hq
  rcases (show q = 0 ∨ q = 1 ∨ q = 2 ∨ q = 3 ∨ q = 4 by omega) with rfl | rfl | rfl | rfl | rfl <;> rfl
theorem chr_n : ∀ b, b < 256 → t_chr (nI b) = nI b := by decide +kernel
section TOLD
variable {n : Nat} {t : Nat → Int32} {σ a : Sg}
theorem let8 (ht : ∀ j, j < n → ∃ b, b < 256 ∧ t j = nI b) (j : Nat) : by8 (g_let n t j) := by
  unfold g_let
  by_cases h : j < n
  · rw [if_pos h]
    obtain ⟨b, hb, e⟩ := ht j h
    rw [e, chr_n b hb]
    exact by8_n hb
  · rw [if_neg h]
    exact by8_n (b := 32) (by decide)
/-- the class, m letters told -/
def TI (n : Nat) (t : Nat → Int32) (σ : Sg) (m : Nat) (a : Sg) : Prop := a 7 0 1 = nI m ∧ (∀ i, i < m → a 10 0 i = g_let n t i) ∧ (∀ k, k ≠ 7 → k ≠ 10 → a k = σ k) ∧ ∀ i, i ≠ 1 → a 7 0 i = σ 7 0 i
theorem TI.byte {m s : Nat} (h : TI n t σ m a) (hm : m < 700) {v : Int32} (hs : s ≤ 24) (hv : jush v (nI s) &&& 255 = g_let n t m) : ∃ a', TI n t σ (m + 1) a' ∧ ∀ f, f_X7_appendFour_3 (f + 1) a v (nI s) = f_X7_appendFour_3 f a' v (nI s + -8) := by
  obtain ⟨h1, h3, h4, h5⟩ := h
  refine ⟨sup (sup a 10 0 m (jush v (nI s) &&& 255)) 7 0 1 (nI (m + 1)), ⟨s_at _ _ _ _ _, fun i hi => ?_, fun k q1 q2 => by rw [s_ne q1, s_ne q2]; exact h4 k q1 q2, fun i hi => by rw [s_nf hi, s_ne (by decide)]; exact h5 i hi⟩, fun f => ?_⟩
  · rw [s_ne (show (10 : Nat) ≠ 7 by decide)]
    by_cases w : i = m
    · subst w
      rw [s_at, hv]
    · rw [s_nf w]
      exact h3 i (by omega)
  · rw [f_X7_appendFour_3_s, if_neg (by rw [ni_nn (by omega)]; exact id), h1, if_neg (show ¬ (700 : Int32) ≤ nI m by rw [show (700 : Int32) = nI 700 from rfl, ni_le (by omega) (by omega)]; omega), if_neg (by rw [gN hm (by decide)]; exact id), ni_cl (by omega), p_st, p_st, s_ne (by decide), h1, ni_1]
theorem TI.word (ht : ∀ j, j < n → ∃ b, b < 256 ∧ t j = nI b) {m q : Nat} (h : TI n t σ (m + 4 * q) a) (hm : m + 4 * q + 4 ≤ 700) (hq : q < 5) : ∃ a', TI n t σ (m + 4 * (q + 1)) a' ∧ f_X7_appendFour a (g_in n t m 20 q) = some a' := by
  have e := gin_w n t m q hq
  have l := fun j => let8 ht (m + (4 * q + j))
  obtain ⟨a1, r1, p1⟩ := h.byte (s := 24) (v := g_in n t m 20 q) (by omega) (by decide) (by rw [e, by_0 (let8 ht _) (let8 ht _) (let8 ht _) (let8 ht _)])
  obtain ⟨a2, r2, p2⟩ := r1.byte (s := 16) (v := g_in n t m 20 q) (by omega) (by decide) (by rw [e, by_1 (let8 ht _) (let8 ht _) (let8 ht _)]; rfl)
  obtain ⟨a3, r3, p3⟩ := r2.byte (s := 8) (v := g_in n t m 20 q) (by omega) (by decide) (by rw [e, by_2 (let8 ht _) (let8 ht _)]; rfl)
  obtain ⟨a4, r4, p4⟩ := r3.byte (s := 0) (v := g_in n t m 20 q) (by omega) (by decide) (by rw [e, by_3 (let8 ht _)]; rfl)
  refine ⟨a4, r4, ?_⟩
  unfold f_X7_appendFour
  refine Eq.trans (p1 65535) (Eq.trans (p2 65534) (Eq.trans (p3 65533) (Eq.trans (p4 65532) ?_)))
  rw [f_X7_appendFour_3_s, if_pos (by decide)]
  rfl
theorem TI.out (ht : ∀ j, j < n → ∃ b, b < 256 ∧ t j = nI b) (hn : n ≤ 240) : ∀ j k a, TI n t σ k a → k ≤ n + 19 → n ≤ k + 20 * j → ∃ k' a', g_out n t j k a = some a' ∧ TI n t σ k' a' ∧ n ≤ k' ∧ k' ≤ n + 19 := by
  intro j
  induction j with
  | zero =>
    intro k a h h1 h2
    refine ⟨k, a, ?_, h, by omega, h1⟩
    show (if k < n then none else some a) = some a
    rw [if_neg (by omega)]
  | succ j ih =>
    intro k a h h1 h2
    by_cases w : k < n
    · obtain ⟨a1, r1, p1⟩ := TI.word ht (m := k) (q := 0) h (by omega) (by decide)
      obtain ⟨a2, r2, p2⟩ := TI.word ht (m := k) (q := 1) r1 (by omega) (by decide)
      obtain ⟨a3, r3, p3⟩ := TI.word ht (m := k) (q := 2) r2 (by omega) (by decide)
      obtain ⟨a4, r4, p4⟩ := TI.word ht (m := k) (q := 3) r3 (by omega) (by decide)
      obtain ⟨a5, r5, p5⟩ := TI.word ht (m := k) (q := 4) r4 (by omega) (by decide)
      obtain ⟨k', a', e1, e2, e3, e4⟩ := ih (k + 20) a5 r5 (by omega) (by omega)
      refine ⟨k', a', ?_, e2, e3, e4⟩
      show (if k < n then bi (f_X7_appendInput a (g_in n t k 20 0) (g_in n t k 20 1) (g_in n t k 20 2) (g_in n t k 20 3) (g_in n t k 20 4)) (fun _ σ1 => g_out n t j (k + 20) σ1) else some a) = some a'
      unfold f_X7_appendInput
      rw [if_pos w, h.1, if_pos (by rw [show (680 : Int32) = nI 680 from rfl, ni_le (by omega) (by omega)]; omega), p1, p_bv, p2, p_bv, p3, p_bv, p4, p_bv, p5, p_bv, p_bi, e1]
    · refine ⟨k, a, ?_, h, by omega, h1⟩
      show (if k < n then _ else some a) = some a
      rw [if_neg w]
/-- the whole text is told -/
theorem told_all (ht : ∀ j, j < n → ∃ b, b < 256 ∧ t j = nI b) (hn : n ≤ 240) (h0 : σ 7 0 1 = 0) : ∃ σ', g_told n t σ = some σ' ∧ σ' 7 0 1 = nI n ∧ (∀ i, i < n → σ' 10 0 i = t i) ∧ ∀ k, k ≠ 7 → k ≠ 10 → σ' k = σ k := by
  obtain ⟨k', a', e1, ⟨e2, e3, e4, e5⟩, e6, e7⟩ := TI.out ht hn 12 0 σ ⟨h0, fun i hi => absurd hi (Nat.not_lt_zero i), fun _ _ _ => rfl, fun _ _ => rfl⟩ (by omega) (by omega)
  refine ⟨sup a' 7 0 1 (nI n), ?_, s_at _ _ _ _ _, fun i hi => ?_, fun k h1 h2 => by rw [s_ne h1]; exact e4 k h1 h2⟩
  · have eg : g_told n t σ = bi (f_X7_truncateInput a' (nI n)) (fun _ σ2 => some σ2) := by
      unfold g_told
      rw [e1]
      rfl
    rw [eg]
    unfold f_X7_truncateInput
    rw [if_neg (by rw [ni_nn (by omega)]; exact id), e2, if_pos (by rw [ni_le (by omega) (by omega)]; exact e6), p_st]
    rfl
  · rw [s_ne (by decide), e3 i (by omega)]
    unfold g_let
    rw [if_pos hi]
    obtain ⟨b, hb, e⟩ := ht i hi
    rw [e, chr_n b hb]
end TOLD
