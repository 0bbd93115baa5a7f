/-! bestPatience: waits never shrink -/
theorem jmax_int (a b : Int32) : (jmax a b).toInt = max a.toInt b.toInt := by
  unfold jmax
  split <;> rename_i h <;> rw [Int32.lt_iff_toInt_lt] at h <;> omega
theorem ct_all {P : Nat → Bool} {n : Nat} (h : ct P n = n) : ∀ k, k < n → P k = true := by
  induction n with
  | zero => intro k hk; omega
  | succ n ih =>
    intro k hk
    rw [ct_s] at h
    have hl := ct_le P n
    cases hp : P n
    · rw [hp, if_neg (by decide)] at h
      omega
    · rw [hp, if_pos rfl] at h
      by_cases e : k = n
      · subst e; exact hp
      · exact ih (by omega) k (by omega)
section IT
variable {F C K M M' T U j : Nat} {σ ρ v v' : Sg} {r r' : Nat → Int32}
theorem w_nat (h : LU F C K M T U v r) (hT : T < 400000) {k : Nat} (hk : k < K) : ∃ m s, v 1 k 2 = nI m ∧ v 1 k 3 = nI s ∧ (s ≤ 3 ∧ m ≤ 400000) ∧ ((s = 0 ∧ W_wait v k = -1) ∨ (s = 1 ∧ m ≤ T ∧ W_wait v k = nI (T - m)) ∨ (2 ≤ s ∧ ∃ a, m ≤ a ∧ a ≤ T ∧ v 1 k 5 = nI a ∧ W_wait v k = nI (a - m))) := by
  obtain ⟨m, s, t1, t2, t3, t4, t5, t6, t7⟩ := (h.2.2.2.2.1 k hk).2.2.2.1
  refine ⟨m, s, t3, t4, ⟨t2, t1⟩, ?_⟩
  rcases (show s = 0 ∨ s = 1 ∨ 2 ≤ s by omega) with rfl | rfl | hs
  · refine Or.inl ⟨rfl, ?_⟩
    unfold W_wait
    rw [if_pos (show v 1 k 3 = 0 from t4)]
  · have := t5 (by decide)
    refine Or.inr (Or.inl ⟨rfl, this, ?_⟩)
    unfold W_wait
    rw [t4, if_neg (show ¬ nI 1 = 0 by decide), if_pos (show nI 1 = 1 from rfl), V_T h, t3, ni_sub this]
  · obtain ⟨a, a1, a2, a3⟩ := t6 hs
    refine Or.inr (Or.inr ⟨hs, a, a1, a2, a3, ?_⟩)
    unfold W_wait
    rw [t4, if_neg (by rw [show (0 : Int32) = nI 0 from rfl, ni_eq (by omega) (by omega)]; omega), if_neg (by rw [show (1 : Int32) = nI 1 from rfl, ni_eq (by omega) (by omega)]; omega), a3, t3, ni_sub a1]
theorem w_mono (h : LU F C K M T U v r) (h' : LU F C K M' (T + 1) (T + 1) v' r') (hT : T < 399999) (hP : PG T K v v') {k : Nat} (hk : k < K) : (W_wait v k).toInt ≤ (W_wait v' k).toInt ∧ (v 1 k 3 = 3 → W_wait v' k = W_wait v k) := by
  obtain ⟨m, s, a1, a2, a3, a4⟩ := w_nat h (by omega) hk
  obtain ⟨m', s', b1, b2, b3, b4⟩ := w_nat h' (by omega) hk
  obtain ⟨p1, p2⟩ := hP k hk
  obtain ⟨a3, a3'⟩ := a3
  obtain ⟨b3, b3'⟩ := b3
  have em : m' = m := by
    have e := b1.symm.trans (p1.trans a1)
    rw [ni_eq (by omega) (by omega)] at e
    exact e
  subst em
  have neg1 : (-1 : Int32).toInt = -1 := by decide
  have three : v 1 k 3 = 3 → s = 3 := fun q => by
    have e := a2.symm.trans q
    rw [show (3 : Int32) = nI 3 from rfl, ni_eq (by omega) (by omega)] at e
    exact e
  have sOf : ∀ (x : Int32) (n : Nat), n < 4 → x = nI n → v 1 k 3 = x → s = n := fun x n hn hx q => by
    have e := a2.symm.trans (q.trans hx)
    rw [ni_eq (by omega) (by omega)] at e
    exact e
  have sOf' : ∀ (x : Int32) (n : Nat), n < 4 → x = nI n → v' 1 k 3 = x → s' = n := fun x n hn hx q => by
    have e := b2.symm.trans (q.trans hx)
    rw [ni_eq (by omega) (by omega)] at e
    exact e
  rcases a4 with ⟨s0, w⟩ | ⟨s1, hm, w⟩ | ⟨s2, a, a5, a6, a7, w⟩ <;> rcases b4 with ⟨s0', w'⟩ | ⟨s1', hm', w'⟩ | ⟨s2', a', a5', a6', a7', w'⟩ <;> rw [w, w']
  · exact ⟨Int.le_refl _, fun _ => rfl⟩
  · refine ⟨by rw [neg1, ni_int (by omega)]; omega, fun q => by have := three q; omega⟩
  · refine ⟨by rw [neg1, ni_int (by omega)]; omega, fun q => by have := three q; omega⟩
  · exfalso
    rcases p2 with ⟨x1, x2⟩ | ⟨x1, x2, x3⟩ | ⟨x1, x2, x3⟩ | ⟨x1, x2, x3⟩
    · have := b2.symm.trans (x1.trans a2)
      rw [ni_eq (by omega) (by omega)] at this
      omega
    · have := sOf 0 0 (by decide) rfl x1; omega
    · rcases x2 with x2 | x2
      · have := sOf' 2 2 (by decide) rfl x2; omega
      · have := sOf' 3 3 (by decide) rfl x2; omega
    · have := sOf 2 2 (by decide) rfl x1; omega
  · exact ⟨by rw [ni_int (by omega), ni_int (by omega)]; omega, fun q => by have := three q; omega⟩
  · refine ⟨?_, fun q => by have := three q; omega⟩
    rw [ni_int (by omega), ni_int (by omega)]
    rcases p2 with ⟨x1, x2⟩ | ⟨x1, x2, x3⟩ | ⟨x1, x2, x3⟩ | ⟨x1, x2, x3⟩
    · have := b2.symm.trans (x1.trans a2)
      rw [ni_eq (by omega) (by omega)] at this
      omega
    · have := sOf 0 0 (by decide) rfl x1; omega
    · have := a7'.symm.trans x3
      rw [ni_eq (by omega) (by omega)] at this
      omega
    · have := sOf 2 2 (by decide) rfl x1; omega
  · exfalso
    rcases p2 with ⟨x1, x2⟩ | ⟨x1, x2, x3⟩ | ⟨x1, x2, x3⟩ | ⟨x1, x2, x3⟩
    · have := b2.symm.trans (x1.trans a2)
      rw [ni_eq (by omega) (by omega)] at this
      omega
    · have := sOf 0 0 (by decide) rfl x1; omega
    · rcases x1 with x1 | x1
      · have := sOf 0 0 (by decide) rfl x1; omega
      · have := sOf 1 1 (by decide) rfl x1; omega
    · have := sOf' 3 3 (by decide) rfl x2; omega
  · exfalso
    rcases p2 with ⟨x1, x2⟩ | ⟨x1, x2, x3⟩ | ⟨x1, x2, x3⟩ | ⟨x1, x2, x3⟩
    · have := b2.symm.trans (x1.trans a2)
      rw [ni_eq (by omega) (by omega)] at this
      omega
    · have := sOf 0 0 (by decide) rfl x1; omega
    · rcases x1 with x1 | x1
      · have := sOf 0 0 (by decide) rfl x1; omega
      · have := sOf 1 1 (by decide) rfl x1; omega
    · have := sOf' 3 3 (by decide) rfl x2; omega
  · have ea : a' = a := by
      rcases p2 with ⟨x1, x2⟩ | ⟨x1, x2, x3⟩ | ⟨x1, x2, x3⟩ | ⟨x1, x2, x3⟩
      · have := a7'.symm.trans (x2.trans a7)
        rw [ni_eq (by omega) (by omega)] at this
        exact this
      · have := sOf 0 0 (by decide) rfl x1; omega
      · rcases x1 with x1 | x1
        · have := sOf 0 0 (by decide) rfl x1; omega
        · have := sOf 1 1 (by decide) rfl x1; omega
      · have := a7'.symm.trans (x3.trans a7)
        rw [ni_eq (by omega) (by omega)] at this
        exact this
    subst ea
    exact ⟨Int.le_refl _, fun _ => rfl⟩
end IT
