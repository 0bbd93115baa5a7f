/-! a list of the law's world grows by one; a message is sent -/
def t_cap (τ : Sg) (o : Nat) : Nat := if q_nn τ o < q_cc τ o then q_cc τ o else if q_cc τ o = 0 then 10 else q_cc τ o + q_cc τ o / 2
def t_cst (τ : Sg) (o : Nat) : Nat := if q_nn τ o < q_cc τ o then 0 else t_cap τ o
def t_add (τ : Sg) (o : Nat) : Sg := sup (sup (sup τ 50 o 0 (τ 50 o 0 + 1)) 50 o 2 (nI (q_nn τ o + 1))) 50 o 3 (nI (t_cap τ o))
def t_msg (τ : Sg) (g : Nat → Int32) : Sg := fun k o i => if k = 49 ∧ o = q_nn τ 2 then g i else t_add τ 2 k o i
theorem q_ek49 {o : Nat} (h : o ≠ 2) : q_ek o ≠ 49 := by
  match o, h with
  | 0, _ => decide
  | 1, _ => decide
  | 2, h => exact absurd rfl h
  | (_ + 3), _ => show (51 : Nat) ≠ 49; decide
theorem q_ek52 (o : Nat) : q_ek o ≠ 52 := by
  match o with
  | 0 => decide
  | 1 => decide
  | 2 => decide
  | (_ + 3) => show (51 : Nat) ≠ 52; decide
theorem q_mk0 (N : Nn) (τ : Sg) : q_mk N τ 0 = N.1 := rfl
theorem q_mk1 (N : Nn) (τ : Sg) : q_mk N τ 1 = N.2.1 := rfl
theorem q_mk2 (N : Nn) (τ : Sg) : q_mk N τ 2 = q_nn τ 2 := rfl
theorem q_mk3 (N : Nn) (τ : Sg) : q_mk N τ 3 = N.2.2.1 := rfl
theorem q_lst4 {N : Nn} {o : Nat} (h : q_lst N o) : o = 0 ∨ o = 1 ∨ o = 2 ∨ o = 3 := by
  rcases h with h | ⟨h, -⟩ <;> omega
theorem q_added {G : Gx} {ad ad1 : Ad} {N : Nn} {τ τ1 : Sg} {H H1 : Heap} {f1 : Nat → Option Nat} (W : q_W G ad N τ H) (o : Nat) (ho : o < 3) (x ed' : Nat)
    (hτ : ∀ k i j, ¬ (k = 50 ∧ i = o) → ¬ (o = 2 ∧ k = 49 ∧ i = q_nn τ 2) → τ1 k i j = τ k i j)
    (h0 : τ1 50 o 0 = τ 50 o 0 + 1) (h2 : τ1 50 o 2 = nI (q_nn τ o + 1)) (h3 : τ1 50 o 3 = nI (t_cap τ o))
    (had : ∀ k i, ¬ (k = 52 ∧ i = o) → ¬ (o = 2 ∧ k = 49 ∧ i = q_nn τ 2) → ad1 k i = ad k i) (hade : ad1 52 o = ed') (hadx : ad1 (q_ek o) (q_nn τ o) = x)
    (hmk : o ≠ 2 → q_nn τ o < q_mk N τ o)
    (hx : o = 2 → va_at G.1 z_cl (x, .inl (G.2.1 0, 4, .inl (τ1 49 (q_nn τ 2)))) H1 ∧ G.2.2.1.size ≤ x ∧ (∀ k i, lp N τ k i → ad k i ≠ x) ∧ x ≠ ed')
    (hL : va_at G.1 z_cl (ad 50 o, e_al (τ 50 o 0 + 1) ed' (nI (q_nn τ o + 1))) H1)
    (hE : va_at G.1 z_cl (ed', e_oa G (t_cap τ o) f1) H1) (hf1 : f1 = fun i => if i < q_nn τ o + 1 then some (ad1 (q_ek o) i) else none)
    (hEs : G.2.2.1.size ≤ ed') (hEn : ∀ k i, lp N τ k i → ¬ (k = 52 ∧ i = o) → ad k i ≠ ed')
    (hkeep : ∀ k i, lp N τ k i → ¬ (k = 50 ∧ i = o) → ¬ (k = 52 ∧ i = o) → H1[ad k i]? = H[ad k i]?)
    (hO : z_O G H1) (h9 : q_cc τ o ≤ 60000) : q_W G ad1 N τ1 H1 := by
  obtain ⟨W1, W2, W3, W4, W5⟩ := W
  obtain ⟨w1, w2, w3, w4, w5⟩ := W5 o (Or.inl ho)
  have hcap : 10 ≤ t_cap τ o ∧ t_cap τ o ≤ 100000 ∧ q_nn τ o + 1 ≤ t_cap τ o := by
    unfold t_cap
    split
    · omega
    · split <;> omega
  have en : q_nn τ1 o = q_nn τ o + 1 := by
    show (τ1 50 o 2).toNatClampNeg = _
    rw [h2, nI_clamp (by omega)]
  have ec : q_cc τ1 o = t_cap τ o := by
    show (τ1 50 o 3).toNatClampNeg = _
    rw [h3, nI_clamp (by omega)]
  have t50 : ∀ i, i ≠ o → τ1 50 i = τ 50 i := fun i hi => funext fun j => hτ 50 i j (fun q => hi q.2) (fun q => absurd q.2.1 (by decide))
  have en' : ∀ i, i ≠ o → q_nn τ1 i = q_nn τ i := fun i hi => by unfold q_nn; rw [t50 i hi]
  have ec' : ∀ i, i ≠ o → q_cc τ1 i = q_cc τ i := fun i hi => by unfold q_cc; rw [t50 i hi]
  have tk : ∀ k i, k ≠ 50 → k ≠ 49 → τ1 k i = τ k i := fun k i h h' => funext fun j => hτ k i j (fun q => h q.1) (fun q => h' q.2.1)
  have ak : ∀ k i, k ≠ 52 → k ≠ 49 → ad1 k i = ad k i := fun k i h h' => had k i (fun q => h q.1) (fun q => h' q.2.1)
  -- what is present
  have hlp : ∀ k i, lp N τ1 k i → (lp N τ k i ∧ ¬ (k = 52 ∧ i = o) ∧ ¬ (o = 2 ∧ k = 49 ∧ i = q_nn τ 2)) ∨ (k = 52 ∧ i = o) ∨ (o = 2 ∧ k = 49 ∧ i = q_nn τ 2) := by
    intro k i h
    by_cases c1 : k = 52 ∧ i = o
    · exact Or.inr (Or.inl c1)
    by_cases c2 : o = 2 ∧ k = 49 ∧ i = q_nn τ 2
    · exact Or.inr (Or.inr c2)
    refine Or.inl ⟨?_, c1, c2⟩
    unfold lp at h ⊢
    split at h <;> try exact h
    · -- 49
      by_cases c3 : o = 2
      · subst c3
        rw [en] at h
        have : i ≠ q_nn τ 2 := fun q => c2 ⟨rfl, rfl, q⟩
        show i < q_nn τ 2
        omega
      · rw [en' 2 (Ne.symm c3)] at h
        exact h
    · -- 52
      have c3 : i ≠ o := fun q => c1 ⟨rfl, q⟩
      exact ⟨h.1, by rw [← ec' i c3]; exact h.2⟩
  have hadr : ∀ k i, lp N τ k i → ¬ (k = 52 ∧ i = o) → ¬ (o = 2 ∧ k = 49 ∧ i = q_nn τ 2) → ad1 k i = ad k i := fun k i _ h h' => had k i h h'
  have hcel : ∀ k i, lp N τ k i → ¬ (k = 50 ∧ i = o) → ¬ (k = 52 ∧ i = o) → ¬ (o = 2 ∧ k = 49 ∧ i = q_nn τ 2) → q_cel G ad1 τ1 k i = q_cel G ad τ k i := by
    intro k i h c0 c1 c2
    unfold lp at h
    split at h
    · simp only [q_cel, tk 40 _ (by decide) (by decide), ak 50 _ (by decide) (by decide), ak 46 _ (by decide) (by decide), ak 47 _ (by decide) (by decide), ak 48 _ (by decide) (by decide)]
    · simp only [q_cel, tk 41 _ (by decide) (by decide)]
    · simp only [q_cel, tk 42 _ (by decide) (by decide), ak 45 _ (by decide) (by decide)]
    · simp only [q_cel, tk 43 _ (by decide) (by decide), ak 44 _ (by decide) (by decide)]
    · simp only [q_cel, tk 44 _ (by decide) (by decide)]
    · simp only [q_cel, ak 43 _ (by decide) (by decide)]
    · simp only [q_cel, tk 46 _ (by decide) (by decide)]
    · simp only [q_cel, tk 47 _ (by decide) (by decide)]
    · simp only [q_cel, tk 48 _ (by decide) (by decide)]
    · simp only [q_cel]
      rw [show τ1 49 i = τ 49 i from funext fun j => hτ 49 i j (fun q => absurd q.1 (by decide)) c2]
    · have c3 : i ≠ o := fun q => c0 ⟨rfl, q⟩
      show e_al _ _ _ = e_al _ _ _
      unfold q_ed
      rw [t50 i c3, ec' i c3, had 52 i (fun q => c3 q.2) (fun q => absurd q.2.1 (by decide))]
    · simp only [q_cel, tk 51 _ (by decide) (by decide)]
    · have c3 : i ≠ o := fun q => c1 ⟨rfl, q⟩
      show e_oa _ _ _ = e_oa _ _ _
      rw [ec' i c3]
      have : q_el ad1 τ1 i = q_el ad τ i := by
        funext j
        unfold q_el
        rw [en' i c3]
        by_cases cj : j < q_nn τ i
        · rw [if_pos cj, if_pos cj, had (q_ek i) j (fun q => q_ek52 i q.1) (fun q => by
            have : i ≠ 2 := fun z => c3 (z.trans q.1.symm)
            exact q_ek49 this q.2.1)]
        · rw [if_neg cj, if_neg cj]
      rw [this]
    · exact h.elim
  have hel : f1 = q_el ad1 τ1 o := by
    rw [hf1]
    funext j
    unfold q_el
    rw [en]
  have hxn : o = 2 → ad1 49 (q_nn τ 2) = x := fun q => by subst q; exact hadx
  have inj : ∀ k1 i1 k2 i2, lp N τ1 k1 i1 → lp N τ1 k2 i2 → ad1 k1 i1 = ad1 k2 i2 → k1 = k2 ∧ i1 = i2 := by
    intro k1 i1 k2 i2 g1 g2 he
    rcases hlp _ _ g1 with ⟨a1, a2, a3⟩ | ⟨rfl, rfl⟩ | ⟨c, rfl, rfl⟩ <;> rcases hlp _ _ g2 with ⟨b1, b2, b3⟩ | ⟨rfl, e2⟩ | ⟨c', rfl, e2⟩
    · rw [hadr _ _ a1 a2 a3, hadr _ _ b1 b2 b3] at he
      exact W2 _ _ _ _ a1 b1 he
    · subst e2
      rw [hadr _ _ a1 a2 a3, hade] at he
      exact absurd he (hEn _ _ a1 a2)
    · subst e2
      rw [hadr _ _ a1 a2 a3, hxn c'] at he
      exact absurd he ((hx c').2.2.1 _ _ a1)
    · rw [hadr _ _ b1 b2 b3, hade] at he
      exact absurd he.symm (hEn _ _ b1 b2)
    · exact ⟨rfl, e2.symm⟩
    · subst e2
      rw [hade, hxn c'] at he
      exact absurd he.symm (hx c').2.2.2
    · rw [hadr _ _ b1 b2 b3, hxn c] at he
      exact absurd he.symm ((hx c).2.2.1 _ _ b1)
    · subst e2
      rw [hade, hxn c] at he
      exact absurd he (hx c).2.2.2
    · exact ⟨rfl, e2.symm⟩
  refine ⟨fun k i h => ?_, inj, fun k i h => ?_, hO, fun i hi => ?_⟩
  · rcases hlp _ _ h with ⟨a1, a2, a3⟩ | ⟨rfl, rfl⟩ | ⟨c, rfl, rfl⟩
    · by_cases c0 : k = 50 ∧ i = o
      · obtain ⟨rfl, rfl⟩ := c0
        rw [hadr _ _ a1 a2 a3]
        show va_at G.1 z_cl (ad 50 i, e_al (τ1 50 i 0) (q_ed G ad1 τ1 i) (τ1 50 i 2)) H1
        have e9 : q_ed G ad1 τ1 i = ed' := by
          unfold q_ed
          rw [ec, if_neg (by omega), hade]
        rw [h0, h2, e9]
        exact hL
      · rw [hadr _ _ a1 a2 a3, hcel _ _ a1 c0 a2 a3]
        exact (W1 k i a1).kept (hkeep _ _ a1 c0 a2)
    · rw [hade]
      show va_at G.1 z_cl (ed', e_oa G (q_cc τ1 i) (q_el ad1 τ1 i)) H1
      rw [ec, ← hel]
      exact hE
    · rw [hxn c]
      exact (hx c).1
  · rcases hlp _ _ h with ⟨a1, a2, a3⟩ | ⟨rfl, rfl⟩ | ⟨c, rfl, rfl⟩
    · rw [hadr _ _ a1 a2 a3]
      exact W3 _ _ a1
    · rw [hade]
      exact hEs
    · rw [hxn c]
      exact (hx c).2.1
  · by_cases c3 : i = o
    · subst c3
      have e8 : q_nn τ i + 1 ≤ q_mk N τ1 i := by
        rcases (show i = 0 ∨ i = 1 ∨ i = 2 by omega) with rfl | rfl | rfl
        · have := hmk (by decide)
          rw [q_mk0] at this ⊢
          exact this
        · have := hmk (by decide)
          rw [q_mk1] at this ⊢
          exact this
        · rw [q_mk2, en]
          exact Nat.le_refl _
      exact ⟨h2.trans (by rw [en]), by rw [en, ec]; exact hcap.2.2, by rw [ec]; exact hcap.2.1, Or.inr (by rw [ec]; exact hcap.1), by rw [en]; exact e8⟩
    · have h5 := W5 i hi
      rw [en' i c3, ec' i c3, t50 i c3]
      refine ⟨h5.1, h5.2.1, h5.2.2.1, h5.2.2.2.1, ?_⟩
      have e8 : q_mk N τ1 i = q_mk N τ i := by
        rcases q_lst4 hi with rfl | rfl | rfl | rfl
        · rw [q_mk0, q_mk0]
        · rw [q_mk1, q_mk1]
        · rw [q_mk2, q_mk2]
          exact en' 2 c3
        · rw [q_mk3, q_mk3]
      rw [e8]
      exact h5.2.2.2.2
