/-! what would be: the run of ticks on a copy -/
noncomputable def itA (j : Nat) (σ : Sg) : Nat → Sg
  | 0 => σ
  | k + 1 => (f_X0_tick (itA j σ k) j).getD σ
noncomputable def itB (ρ : Sg) : Nat → Sg
  | 0 => ρ
  | k + 1 => (f_X8_ticks (itB ρ k)).getD ρ
def FS (Q : Nat → Bool) (L : Nat) (r : Int32) (k : Nat) : Prop := k ≤ L ∧ ((r = nI k ∧ Q k = true ∧ ∀ i, i < k → Q i = false) ∨ (r = -1 ∧ k = L ∧ ∀ i, i ≤ L → Q i = false))
theorem FS.two {Q : Nat → Bool} {L1 L2 k1 k2 : Nat} {r1 r2 : Int32} (h1 : FS Q L1 r1 k1) (h2 : FS Q L2 r2 k2) (hL : L1 ≤ L2) : (r1 = nI k1 ∧ r2 = nI k1 ∧ k2 = k1 ∧ k1 ≤ L1) ∨ (r1 = -1 ∧ (r2 = -1 ∨ (r2 = nI k2 ∧ L1 < k2 ∧ k2 ≤ L2))) := by
  obtain ⟨a1, ⟨b1, c1, d1⟩ | ⟨b1, c1, d1⟩⟩ := h1
  · obtain ⟨a2, ⟨b2, c2, d2⟩ | ⟨b2, c2, d2⟩⟩ := h2
    · have e : k2 = k1 := by
        rcases Nat.lt_trichotomy k1 k2 with w | w | w
        · have := d2 k1 w; rw [c1] at this; exact absurd this (by decide)
        · exact w.symm
        · have := d1 k2 w; rw [c2] at this; exact absurd this (by decide)
      exact Or.inl ⟨b1, by rw [b2, e], e, a1⟩
    · have := d2 k1 (by omega)
      rw [c1] at this
      exact absurd this (by decide)
  · obtain ⟨a2, ⟨b2, c2, d2⟩ | ⟨b2, c2, d2⟩⟩ := h2
    · refine Or.inr ⟨b1, Or.inr ⟨b2, ?_, a2⟩⟩
      rcases Nat.lt_or_ge L1 k2 with w | w
      · exact w
      · have := d1 k2 w
        rw [c2] at this
        exact absurd this (by decide)
    · exact Or.inr ⟨b1, Or.inl b2⟩
theorem FS.uniq {Q : Nat → Bool} {L k1 k2 : Nat} {r1 r2 : Int32} (h1 : FS Q L r1 k1) (h2 : FS Q L r2 k2) : r1 = r2 ∧ k1 = k2 := by
  rcases h1.two h2 (Nat.le_refl L) with ⟨a, b, c, d⟩ | ⟨a, b | ⟨b, c, d⟩⟩
  · exact ⟨a.trans b.symm, c.symm⟩
  · refine ⟨a.trans b.symm, ?_⟩
    obtain ⟨a1, ⟨b1, c1, d1⟩ | ⟨b1, c1, d1⟩⟩ := h1
    · obtain ⟨a2, ⟨b2, c2, d2⟩ | ⟨b2, c2, d2⟩⟩ := h2
      · rcases Nat.lt_trichotomy k1 k2 with w | w | w
        · have := d2 k1 w; rw [c1] at this; exact absurd this (by decide)
        · exact w
        · have := d1 k2 w; rw [c2] at this; exact absurd this (by decide)
      · have := d2 k1 a1; rw [c1] at this; exact absurd this (by decide)
    · obtain ⟨a2, ⟨b2, c2, d2⟩ | ⟨b2, c2, d2⟩⟩ := h2
      · have := d1 k2 a2; rw [c2] at this; exact absurd this (by decide)
      · rw [c1, c2]
  · omega
section IT
variable {F C K M T j : Nat} {σ ρ : Sg}
theorem t_it (h : LV F C K M T (vw j σ) (ρ 30 0)) (hj : j < 13) (k : Nat) (hk : T + k ≤ 399999) : (∃ M', LV F C K M' (T + k) (vw j (itA j σ k)) (itB ρ k 30 0)) ∧ ST j σ ρ (itA j σ k) (itB ρ k) := by
  induction k with
  | zero => exact ⟨⟨M, h⟩, ST.rf j σ ρ⟩
  | succ k ih =>
    obtain ⟨⟨M', i1⟩, i2⟩ := ih (by omega)
    obtain ⟨a', b', y1, y2, M'', y3, y4, -⟩ := t_tick i1 hj (by omega)
    have eA : itA j σ (k + 1) = a' := by
      show (f_X0_tick (itA j σ k) j).getD σ = a'
      rw [y1]
      rfl
    have eB : itB ρ (k + 1) = b' := by
      show (f_X8_ticks (itB ρ k)).getD ρ = b'
      rw [y2]
      rfl
    rw [eA, eB]
    exact ⟨⟨M'', y3⟩, i2.trans y4⟩
theorem t_itS (h : LV F C K M T (vw j σ) (ρ 30 0)) (hj : j < 13) {k : Nat} (hk : T + k < 399999) : f_X0_tick (itA j σ k) j = some (itA j σ (k + 1)) ∧ f_X8_ticks (itB ρ k) = some (itB ρ (k + 1)) ∧ PG (T + k) K (vw j (itA j σ k)) (vw j (itA j σ (k + 1))) := by
  obtain ⟨⟨M', i1⟩, i2⟩ := t_it h hj k (by omega)
  obtain ⟨a', b', y1, y2, M'', y3, y4, y5⟩ := t_tick i1 hj (by omega)
  have eA : itA j σ (k + 1) = a' := by
    show (f_X0_tick (itA j σ k) j).getD σ = a'
    rw [y1]
    rfl
  have eB : itB ρ (k + 1) = b' := by
    show (f_X8_ticks (itB ρ k)).getD ρ = b'
    rw [y2]
    rfl
  rw [eA, eB]
  exact ⟨y1, y2, y5⟩
theorem a_pass (h : LV F C K M T (vw j σ) (ρ 30 0)) (hj : j < 13) {n : Nat} (hn : n ≤ 500) (hT : T + n < 399999) : f_X0_pass σ j (nI n) = some (itA j σ n) := by
  unfold f_X0_pass
  obtain ⟨n1, a, ha, e⟩ := lpE1 (fun m (a : Sg) i => f_X0_pass_2 m a j (nI n) i) n (by omega) (fun i a => a = itA j σ i) (a := σ) (fun m k a hk ha => by
    refine ⟨itA j σ (k + 1), rfl, ?_⟩
    simp (disch := omega) only [f_X0_pass_2_s, ni_le, p_nle, if_false, ha, (t_itS h hj (k := k) (by omega)).1, p_bv, ni_1]) rfl
  refine Eq.trans e ?_
  simp (disch := omega) only [f_X0_pass_2_s, ni_le, Nat.le_refl, if_true, f_X0_pass_18, ha]
theorem b_passes (h : LV F C K M T (vw j σ) (ρ 30 0)) (hj : j < 13) {n : Nat} (hn : n ≤ 500) (hT : T + n < 399999) : f_X8_passes ρ (nI n) = some (W_cnt (vw j (itA j σ n)) K 3 - W_cnt (vw j σ) K 3, itB ρ n) := by
  unfold f_X8_passes
  rw [b_cnt h.1, p_bi]
  obtain ⟨n1, b, hb, e⟩ := lpE1 (fun m (b : Sg) i => f_X8_passes_8 m b (nI n) (W_cnt (vw j σ) K 3) i) n (by omega) (fun i b => b = itB ρ i) (a := ρ) (fun m k b hk hb => by
    refine ⟨itB ρ (k + 1), rfl, ?_⟩
    simp (disch := omega) only [f_X8_passes_8_s, ni_le, p_nle, if_false, hb, (t_itS h hj (k := k) (by omega)).2.1, p_bv, ni_1]) rfl
  refine Eq.trans e ?_
  obtain ⟨⟨M', i1⟩, -⟩ := t_it h hj n (by omega)
  simp (disch := omega) only [f_X8_passes_8_s, ni_le, Nat.le_refl, if_true, f_X8_passes_23, hb, b_cnt i1.1, p_bi]
theorem b_until (h : LV F C K M T (vw j σ) (ρ 30 0)) (hj : j < 13) {L : Nat} (hL : L ≤ 500) (hT : T + L < 399999) (Q : Nat → Bool) (v1 : Int32) (hq : ∀ k, k ≤ L → ∀ n, f_X8_thoughtUntil_2 (n + 1) (itB ρ k) v1 (nI L) (nI k) = f_X8_thoughtUntil_52 (f_X8_thoughtUntil_2 n) (itB ρ k) v1 (nI L) (nI k) (W_b (Q k))) :
    ∃ r k, f_X8_thoughtUntil ρ v1 (nI L) = some (r, itB ρ k) ∧ FS Q L r k := by
  unfold f_X8_thoughtUntil
  obtain ⟨⟨r, x⟩, e, k, hx, hF⟩ := lpG (fun n (b : Sg) i => f_X8_thoughtUntil_2 n b v1 (nI L) i) (L + 1) (fun k b => b = itB ρ (if k ≤ L then k else L) ∧ ∀ i, i < k → Q i = false) (fun r => ∃ k, r.2 = itB ρ k ∧ FS Q L r.1 k) (by
    rintro n k b hk ⟨hb, hN⟩
    rw [if_pos (by omega)] at hb
    subst hb
    have e := hq k (by omega) n
    unfold f_X8_thoughtUntil_52 f_X8_thoughtUntil_59 f_X8_thoughtUntil_70 at e
    cases w : Q k
    · refine Or.inl ?_
      rw [w, if_pos (show W_b false = 0 from rfl), ni_1] at e
      by_cases w2 : k < L
      · rw [if_neg (by rw [ni_le (by omega) (by omega)]; omega), (t_itS h hj (k := k) (by omega)).2.1, p_bv] at e
        refine ⟨itB ρ (k + 1), ⟨by rw [if_pos (by omega)], fun i hi => ?_⟩, e⟩
        by_cases w3 : i = k
        · subst w3; exact w
        · exact hN i (by omega)
      · have hkL : k = L := by omega
        subst hkL
        rw [if_pos (by rw [ni_le (by omega) (by omega)]; exact Nat.le_refl k)] at e
        refine ⟨itB ρ k, ⟨by rw [if_neg (by omega)], fun i hi => ?_⟩, e⟩
        by_cases w3 : i = k
        · subst w3; exact w
        · exact hN i (by omega)
    · refine Or.inr ⟨(nI k, itB ρ k), ?_, k, rfl, by omega, Or.inl ⟨rfl, w, hN⟩⟩
      rw [w, if_neg (show ¬ W_b true = 0 by decide)] at e
      exact e) (by
    rintro n b ⟨hb, hN⟩
    rw [if_neg (by omega)] at hb
    subst hb
    refine ⟨(-1, itB ρ L), ?_, L, rfl, Nat.le_refl L, Or.inr ⟨rfl, rfl, fun i hi => hN i (by omega)⟩⟩
    show f_X8_thoughtUntil_2 (n + 1) (itB ρ L) v1 (nI L) (nI (L + 1)) = _
    rw [f_X8_thoughtUntil_2_s, if_pos (by rw [ni_lt (by omega) (by omega)]; omega)]
    rfl) FU 0 ρ (Nat.zero_le _) (by show L + 1 - 0 < 65536; omega) ⟨by rw [if_pos (Nat.zero_le _)]; rfl, fun i hi => absurd hi (Nat.not_lt_zero i)⟩
  exact ⟨r, k, e.trans (by rw [show x = itB ρ k from hx]), hF⟩
theorem a_until (h : LV F C K M T (vw j σ) (ρ 30 0)) (hj : j < 13) {L : Nat} (hL : L ≤ 500) (hT : T + L < 399999) (Q : Nat → Bool) (g : Nat → Sg → Int32 → Option (Int32 × Sg))
    (hq : ∀ k, k < L → ∀ n, g (n + 1) (itA j σ k) (nI k) = if Q k = false then bv (f_X0_tick (itA j σ k) j) fun σ1 => g n σ1 (nI (k + 1)) else some (nI k, itA j σ k))
    (hf : ∀ n, g (n + 1) (itA j σ L) (nI L) = some (if Q L = false then -1 else nI L, itA j σ L)) :
    ∃ r k, g FU σ (nI 0) = some (r, itA j σ k) ∧ FS Q L r k := by
  obtain ⟨⟨r, x⟩, e, k, hx, hF⟩ := lpG g L (fun k b => b = itA j σ k ∧ ∀ i, i < k → Q i = false) (fun r => ∃ k, r.2 = itA j σ k ∧ FS Q L r.1 k) (by
    rintro n k b hk ⟨hb, hN⟩
    subst hb
    have e := hq k hk n
    cases w : Q k
    · rw [w, if_pos rfl, (t_itS h hj (k := k) (by omega)).1, p_bv] at e
      refine Or.inl ⟨itA j σ (k + 1), ⟨rfl, fun i hi => ?_⟩, e⟩
      by_cases w3 : i = k
      · subst w3; exact w
      · exact hN i (by omega)
    · rw [w, if_neg (by decide)] at e
      exact Or.inr ⟨(nI k, itA j σ k), e, k, rfl, by omega, Or.inl ⟨rfl, w, hN⟩⟩) (by
    rintro n b ⟨hb, hN⟩
    subst hb
    refine ⟨_, hf n, L, rfl, Nat.le_refl L, ?_⟩
    cases w : Q L
    · refine Or.inr ⟨(show (if false = false then (-1 : Int32) else nI L) = -1 from if_pos rfl), rfl, fun i hi => ?_⟩
      by_cases w3 : i = L
      · subst w3; exact w
      · exact hN i (by omega)
    · exact Or.inl ⟨(show (if true = false then (-1 : Int32) else nI L) = nI L from if_neg (by decide)), rfl, hN⟩) FU 0 σ (Nat.zero_le _) (by show L - 0 < 65536; omega) ⟨rfl, fun i hi => absurd hi (Nat.not_lt_zero i)⟩
  exact ⟨r, k, e.trans (by rw [show x = itA j σ k from hx]), hF⟩
end IT
