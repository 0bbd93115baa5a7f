/-! the history, what is saved, and what stays of the relation -/
theorem Veq.trans {C K M : Nat} {a b c : Sg} (h : Veq C K M a b) (h' : Veq C K M b c) : Veq C K M a c := by
  obtain ⟨h1, h2, h3, h4, h5, h6, h7, h8⟩ := h
  obtain ⟨k1, k2, k3, k4, k5, k6, k7, k8⟩ := h'
  refine ⟨fun i hi => (k1 i hi).trans (h1 i hi), k2.trans h2, fun i hi => (k3 i hi).trans (h3 i hi), fun i hi => ⟨(k4 i hi).1.trans (h4 i hi).1, (k4 i hi).2.trans (h4 i hi).2⟩, fun i hi => (k5 i hi).trans (h5 i hi), fun q hq => ⟨fun f hf => ((k6 q hq).1 f hf).trans ((h6 q hq).1 f hf), fun i hi => ⟨((k6 q hq).2.1 i hi).1.trans ((h6 q hq).2.1 i hi).1, ((k6 q hq).2.1 i hi).2.trans ((h6 q hq).2.1 i hi).2⟩, fun i hi => ((k6 q hq).2.2.1 i hi).trans ((h6 q hq).2.2.1 i hi), fun i hi => ((k6 q hq).2.2.2 i hi).trans ((h6 q hq).2.2.2 i hi)⟩, fun k hk f hf => (k7 k hk f hf).trans (h7 k hk f hf), fun i hi => ?_⟩
  obtain ⟨a1, a2, a3, a4⟩ := h8 i hi
  obtain ⟨b1, b2, b3, b4⟩ := k8 i hi
  exact ⟨b1.trans a1, b2.trans a2, b3.trans a3, b4.trans a4⟩
/-- the kinds of which a Lifts is made -/
def LK (k : Nat) : Prop := k = 1 ∨ k = 2 ∨ k = 4 ∨ k = 5 ∨ (12 ≤ k ∧ k ≤ 23)
theorem Veq.cells {C K M p : Nat} {σ σ' : Sg} (hC : C ≤ 4) (hK : K ≤ 24) (h : ∀ k o i, Own p k o → σ' k o i = σ k o i) : Veq C K M (vw p σ) (vw p σ') := by
  have r0 : ∀ k, (k = 4 ∨ k = 5 ∨ k = 12 ∨ k = 13 ∨ k = 14 ∨ k = 15 ∨ k = 20 ∨ k = 21 ∨ k = 22 ∨ k = 23) → ∀ i, vw p σ' k 0 i = vw p σ k 0 i := by
    intro k hk i
    rcases hk with rfl | rfl | rfl | rfl | rfl | rfl | rfl | rfl | rfl | rfl <;> exact h _ _ _ (rfl : p = p)
  exact ⟨fun i _ => r0 4 (by decide) i, r0 5 (by decide) 0, fun i _ => r0 12 (by decide) i, fun i _ => ⟨r0 13 (by decide) i, r0 14 (by decide) i⟩, fun i _ => r0 15 (by decide) i, fun c hc => ⟨fun f _ => h 2 _ f (O_2 (by omega)), fun i _ => ⟨h 16 _ i (O_16 (by omega)), h 17 _ i (O_17 (by omega))⟩, fun i _ => h 18 _ i (O_18 (by omega)), fun i _ => h 19 _ i (O_19 (by omega))⟩, fun k hk f _ => h 1 _ f (O_1 (by omega)), fun i _ => ⟨r0 20 (by decide) i, r0 21 (by decide) i, r0 22 (by decide) i, r0 23 (by decide) i⟩⟩
theorem Own_lk {p k o : Nat} (h : Own p k o) : LK k := by
  unfold Own at h
  unfold LK
  split at h <;> first | omega | exact absurd h id
theorem Veq.lk {C K M p : Nat} {σ σ' : Sg} (hC : C ≤ 4) (hK : K ≤ 24) (h : ∀ k o i, LK k → σ' k o i = σ k o i) : Veq C K M (vw p σ) (vw p σ') := Veq.cells hC hK (fun k o i ho => h k o i (Own_lk ho))
theorem Fr.veq {C K M p q : Nat} {σ σ' : Sg} (hf : Fr q σ σ') (hp : p ≠ q) (hC : C ≤ 4) (hK : K ≤ 24) : Veq C K M (vw p σ) (vw p σ') := Veq.cells hC hK (fun k o i ho => hf k o i (Own_no hp ho))
theorem ST.veq {C K M p j : Nat} {σ ρ σ' ρ' : Sg} (hs : ST j σ ρ σ' ρ') (hp : p ≠ j) (hp13 : p < 13) (hC : C ≤ 4) (hK : K ≤ 24) : Veq C K M (vw p σ) (vw p σ') := Veq.cells hC hK (fun k o i ho => hs.1 k o i (Own_no hp ho) (fun z => by
  obtain ⟨rfl, hk⟩ := z
  rcases (show k = 5 ∨ k = 20 ∨ k = 21 ∨ k = 22 ∨ k = 23 by omega) with rfl | rfl | rfl | rfl | rfl <;> (have : 13 = p := ho; omega)))
theorem LV.both {F C K M T : Nat} {v v' : Sg} {r r' : Nat → Int32} (h : LV F C K M T v r) (e : Veq C K M v v') (er : ∀ q, q < 2111 → r' q = r q) : LV F C K M T v' r' := ⟨h.1.both e er, by rw [V_ann_eq e]; exact h.2⟩
theorem LVn.both {n : Nat} {v v' : Sg} {r r' : Nat → Int32} (h : LVn n v r) (e : ∀ C K M, C ≤ 4 → K ≤ 24 → Veq C K M v v') (er : ∀ q, q < 2111 → r' q = r q) : LVn n v' r' := by
  obtain ⟨F, C, K, M, T, h1, h2, h3⟩ := h
  exact ⟨F, C, K, M, T, h1, h2, h3.both (e C K M (D_C h3.1) (D_K h3.1)) er⟩
def RestN (n : Nat) (σ ρ : Sg) : Prop := R_in σ ρ ∧ R_out σ ρ ∧ (σ 7 0 2 = ρ 8 0 11 ∧ σ 7 0 3 = ρ 8 0 12) ∧ R_sav n σ ρ ∧ R_his n σ ρ
theorem RestN.up {n : Nat} {σ ρ : Sg} (h : RestN n σ ρ) : RestN (n + 1) σ ρ := by
  obtain ⟨h2, h3, h4, h5, h, x, h6, h7, h8, h9, h10, h11⟩ := h
  refine ⟨h2, h3, h4, ?_, h, x, h6, h7, h8, h9, h10, fun i hi => (h11 i hi).mono (Nat.le_succ n)⟩
  rcases h5 with h5 | ⟨a, b, c⟩
  · exact Or.inl h5
  · exact Or.inr ⟨a, b, c.mono (Nat.le_succ n)⟩
/-- the cells of the first three parts -/
theorem R3.keep {σ ρ σ' ρ' : Sg} (h1 : R_in σ ρ) (h2 : R_out σ ρ) (h3 : σ 7 0 2 = ρ 8 0 11 ∧ σ 7 0 3 = ρ 8 0 12) (e7 : ∀ i, i < 9 → σ' 7 0 i = σ 7 0 i) (e10 : σ' 10 = σ 10) (e11 : σ' 11 = σ 11) (f8 : ∀ i, 9 ≤ i → ρ' 8 0 i = ρ 8 0 i) (f36 : ρ' 36 = ρ 36) (f38 : ρ' 38 = ρ 38) : R_in σ' ρ' ∧ R_out σ' ρ' ∧ (σ' 7 0 2 = ρ' 8 0 11 ∧ σ' 7 0 3 = ρ' 8 0 12) := by
  unfold R_in R_out at *
  rw [e7 1 (by decide), e7 2 (by decide), e7 3 (by decide), e7 5 (by decide), e10, e11, f8 10 (by decide), f8 11 (by decide), f8 12 (by decide), f8 22 (by decide), f36, f38]
  exact ⟨h1, h2, h3⟩
theorem RestN.st {n j : Nat} {σ ρ σ' ρ' : Sg} (h : RestN n σ ρ) (hs : ST j σ ρ σ' ρ') (hj : j ≤ 1) : RestN n σ' ρ' := by
  obtain ⟨h1, h2, h3, h4, hh, x, h6, h7, h8, h9, h10, h11⟩ := h
  have ek : ∀ k, (k = 3 ∨ k = 7 ∨ k = 10 ∨ k = 11) → σ' k = σ k := by
    intro k hk
    funext o i
    refine hs.1 k o i ?_ (fun z => by omega)
    rcases hk with rfl | rfl | rfl | rfl <;> exact id
  have r8 : ρ' 8 = ρ 8 := hs.2 8 (by decide) (by decide)
  obtain ⟨k1, k2, k3⟩ := R3.keep h1 h2 h3 (σ' := σ') (ρ' := ρ') (fun i _ => by rw [ek 7 (by decide)]) (ek 10 (by decide)) (ek 11 (by decide)) (fun i _ => by rw [r8]) (hs.2 36 (by decide) (by decide)) (hs.2 38 (by decide) (by decide))
  refine ⟨k1, k2, k3, ?_, hh, x, h6, h7, ?_, ?_, ?_, fun i hi => ?_⟩
  · unfold R_sav at h4 ⊢
    rw [ek 7 (by decide), r8, hs.2 33 (by decide) (by decide)]
    rcases h4 with h4 | ⟨a, b, c⟩
    · exact Or.inl h4
    · exact Or.inr ⟨a, b, c.both (fun C K M hC hK => hs.veq (by omega) (by decide) hC hK) (fun _ _ => rfl)⟩
  · rw [ek 3 (by decide)]; exact h8
  · rw [ek 3 (by decide)]; exact h9
  · rw [r8]; exact h10
  · rw [hs.2 34 (by decide) (by decide)]
    exact (h11 i hi).both (fun C K M hC hK => hs.veq (by omega) (by omega) hC hK) (fun _ _ => rfl)
theorem h_nx : ∀ x, x < 10 → jrem (nI x + 1) 10 = nI ((x + 1) % 10) := by decide
theorem h_pv : ∀ x, x < 10 → jrem ((nI x + 10) - 1) 10 = nI ((x + 9) % 10) := by decide
theorem h_mn : ∀ x, x < 11 → jmin (nI x + 1) 10 = nI (if x = 10 then 10 else x + 1) := by decide
theorem m_2111 (k : Nat) : (2111 : Int32) * nI k = nI (2111 * k) := ni_mul 2111 k
theorem t_remember {n F C K M T : Nat} {σ ρ : Sg} (h : RestN n σ ρ) (hL : LV F C K M T (vw 0 σ) (ρ 30 0)) (hT : T ≤ 500 * n) (hC1 : 1 ≤ C) :
    ∃ σ' ρ', f_X3_remember σ 0 = some σ' ∧ f_X8_remembers ρ = some ρ' ∧ LV F C K M T (vw 0 σ') (ρ' 30 0) ∧ RestN n σ' ρ' ∧ ρ' 8 0 8 = ρ 8 0 8 := by
  obtain ⟨h1, h2, h3, h4, hh, x, h6, h7, h8, h9, h10, h11⟩ := h
  have hC := D_C hL.1
  have hK := D_K hL.1
  obtain ⟨σ1, c1, c2, c3⟩ := t_copy (q := 3 + x) hL.1 (by omega)
  have lk3 : ∀ (τ : Sg) (y z : Int32) (k o i : Nat), k ≠ 3 → sup (sup τ 3 0 1 y) 3 0 0 z k o i = τ k o i := fun τ y z k o i hk => by rw [s_ne hk, s_ne hk]
  -- the reference
  have ref : ∃ ρ', f_X8_remembers ρ = some ρ' ∧ (∀ k, k ≠ 8 → k ≠ 34 → ρ' k = ρ k) ∧ (∀ i, i ≠ 6 → ρ' 8 0 i = ρ 8 0 i) ∧ ρ' 8 0 6 = nI (if hh = 10 then 10 else hh + 1) ∧ (∀ q, q < 2111 → ρ' 34 0 (2111 * (if hh = 10 then 9 else hh) + q) = ρ 30 0 q) ∧ ∀ i q, i < (if hh = 10 then 9 else hh) → q < 2111 → ρ' 34 0 (2111 * i + q) = ρ 34 0 (2111 * (if hh = 10 then i + 1 else i) + q) := by
    by_cases w : hh = 10
    · subst w
      simp only [if_true]
      refine ⟨sup (scp (sup (scp ρ 34 0 2111 34 0 0 18999) 8 0 6 (nI 9)) 30 0 0 34 0 (2111 * 9) 2111) 8 0 6 (nI 10), ?_, fun k h1 h2 => ?_, fun i hi => ?_, s_at _ _ _ _ _, fun q hq => ?_, fun i q hi hq => ?_⟩
      · unfold f_X8_remembers
        rw [h10, if_pos (show nI 10 = 10 from rfl), show f_X8_copies ρ 34 0 21110 2111 34 0 21110 0 18999 = _ from b_copies ρ (p := 2111) (q := 0) (n := 18999) (by decide) (by decide) (by decide) (by decide) (Or.inr (by decide)), p_bv, p_st, c_ne (by decide), h10]
        unfold f_X8_remembers_37
        rw [show nI 10 - 1 = nI 9 from rfl, s_at, m_2111, show f_X8_copies (sup (scp ρ 34 0 2111 34 0 0 18999) 8 0 6 (nI 9)) 30 0 2111 0 34 0 21110 (nI (2111 * 9)) 2111 = _ from b_copies _ (p := 0) (q := 2111 * 9) (n := 2111) (by decide) (by decide) (by decide) (by decide) (Or.inl (by decide)), p_bv, p_st, c_ne (by decide), s_at, ni_1]
      · rw [s_ne h1, c_ne h2, s_ne h1, c_ne h2]
      · rw [s_nf hi, c_ne (by decide), s_nf hi, c_ne (by decide)]
      · rw [s_ne (by decide), c_in (by omega) (by omega), show 0 + (2111 * 9 + q - 2111 * 9) = q by omega, s_ne (by decide), c_ne (by decide)]
      · rw [s_ne (by decide), c_out (by omega), s_ne (by decide), c_in (by omega) (by omega), show 2111 + (2111 * i + q - 0) = 2111 * (i + 1) + q by omega]
    · simp only [if_neg w]
      refine ⟨sup (scp ρ 30 0 0 34 0 (2111 * hh) 2111) 8 0 6 (nI (hh + 1)), ?_, fun k h1 h2 => ?_, fun i hi => ?_, s_at _ _ _ _ _, fun q hq => ?_, fun i q hi hq => ?_⟩
      · unfold f_X8_remembers f_X8_remembers_37
        rw [h10, if_neg (show ¬ nI hh = 10 by rw [show (10 : Int32) = nI 10 from rfl, ni_eq (by omega) (by omega)]; exact w), m_2111, show f_X8_copies ρ 30 0 2111 0 34 0 21110 (nI (2111 * hh)) 2111 = _ from b_copies ρ (p := 0) (q := 2111 * hh) (n := 2111) (by decide) (by omega) (by decide) (by decide) (Or.inl (by decide)), p_bv, p_st, c_ne (by decide), h10, ni_1]
      · rw [s_ne h1, c_ne h2]
      · rw [s_nf hi, c_ne (by decide)]
      · rw [s_ne (by decide), c_in (by omega) (by omega), show 0 + (2111 * hh + q - 2111 * hh) = q by omega]
      · rw [s_ne (by decide), c_out (by omega)]
  obtain ⟨ρ', r1, r2, r3, r4, r5, r6⟩ := ref
  have ek : ∀ k, (k = 3 ∨ k = 7 ∨ k = 10 ∨ k = 11) → σ1 k = σ k := by
    intro k hk
    funext o i
    refine c2 k o i ?_
    rcases hk with rfl | rfl | rfl | rfl <;> exact id
  have s3 : ∀ k, k ≠ 3 → sup (sup σ1 3 0 1 (nI ((x + 1) % 10))) 3 0 0 (nI (if hh = 10 then 10 else hh + 1)) k = σ1 k := fun k hk => by rw [s_ne hk, s_ne hk]
  have vq : ∀ p C K M, C ≤ 4 → K ≤ 24 → Veq C K M (vw p σ1) (vw p (sup (sup σ1 3 0 1 (nI ((x + 1) % 10))) 3 0 0 (nI (if hh = 10 then 10 else hh + 1)))) := fun p C K M hC hK => Veq.lk hC hK (fun k o i hk => by rw [s3 k (by unfold LK at hk; omega)])
  obtain ⟨k1, k2, k3⟩ := R3.keep h1 h2 h3 (σ' := sup (sup σ1 3 0 1 (nI ((x + 1) % 10))) 3 0 0 (nI (if hh = 10 then 10 else hh + 1))) (ρ' := ρ') (fun i _ => by rw [s3 7 (by decide), ek 7 (by decide)]) (by rw [s3 10 (by decide), ek 10 (by decide)]) (by rw [s3 11 (by decide), ek 11 (by decide)]) (fun i hi => r3 i (by omega)) (r2 36 (by decide) (by decide)) (r2 38 (by decide) (by decide))
  refine ⟨sup (sup σ1 3 0 1 (nI ((x + 1) % 10))) 3 0 0 (nI (if hh = 10 then 10 else hh + 1)), ρ', ?_, r1, ?_, ⟨k1, k2, k3, ?_, if hh = 10 then 10 else hh + 1, (x + 1) % 10, ?_, ?_, ?_, ?_, r4, fun i hi => ?_⟩, r3 8 (by decide)⟩
  · unfold f_X3_remember
    simp (disch := omega) only [h9, ni_nn, ni_cl, p_nle, false_or, if_false, c1, p_bv, p_st]
    rw [ek 3 (by decide), h9, h_nx x h7, s_nf (by decide), ek 3 (by decide), h8, h_mn hh (by omega)]
  · exact hL.both ((c2.veq (by omega) hC hK).trans (vq 0 C K M hC hK)) (fun q _ => by rw [r2 30 (by decide) (by decide)])
  · unfold R_sav at h4 ⊢
    rw [s3 7 (by decide), ek 7 (by decide), r3 7 (by decide), r2 33 (by decide) (by decide)]
    rcases h4 with h4 | ⟨a, b, c⟩
    · exact Or.inl h4
    · exact Or.inr ⟨a, b, c.both (fun C K M hC hK => (c2.veq (by omega) hC hK).trans (vq 2 C K M hC hK)) (fun _ _ => rfl)⟩
  · split <;> omega
  · omega
  · exact s_at _ _ _ _ _
  · rw [s_nf (by decide), s_at]
  · by_cases w : i = (if hh = 10 then 9 else hh)
    · have e : 3 + ((x + 1) % 10 + 10 - (if hh = 10 then 10 else hh + 1) + i) % 10 = 3 + x := by split at w <;> rename_i w2 <;> simp only [w2, if_true, if_false] <;> omega
      rw [e, w]
      exact ⟨F, C, K, M, T, hC1, hT, hL.both (c3.trans (vq (3 + x) C K M hC hK)) (fun q hq => r5 q hq)⟩
    · have hi2 : i < (if hh = 10 then 9 else hh) := by split at hi <;> rename_i w2 <;> simp only [w2, if_true, if_false] at w ⊢ <;> omega
      have hi3 : (if hh = 10 then i + 1 else i) < hh := by split at hi2 <;> rename_i w2 <;> simp only [w2, if_true, if_false] <;> omega
      have e : 3 + ((x + 1) % 10 + 10 - (if hh = 10 then 10 else hh + 1) + i) % 10 = 3 + (x + 10 - hh + (if hh = 10 then i + 1 else i)) % 10 := by split at hi2 <;> rename_i w2 <;> simp only [w2, if_true, if_false] <;> omega
      have e2 : 3 + (x + 10 - hh + (if hh = 10 then i + 1 else i)) % 10 ≠ 3 + x := by split at hi2 <;> rename_i w2 <;> simp only [w2, if_true, if_false] <;> omega
      rw [e]
      exact (h11 _ hi3).both (fun C K M hC hK => (c2.veq e2 hC hK).trans (vq _ C K M hC hK)) (fun q hq => r6 i q hi2 hq)
