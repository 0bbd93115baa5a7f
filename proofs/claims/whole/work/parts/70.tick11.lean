/-! a tick: phase 5, the goal -/
def dst (a f : Nat) : Nat := if a ≤ f then f - a else a - f
theorem dst_ab {a f : Nat} (ha : a < 1000) (hf : f < 1000) : jabs (nI f - nI a) = nI (dst a f) := jabs_ni hf ha
theorem dst_lt {a f n : Nat} (ha : a < n) (hf : f < n) : dst a f < n := by unfold dst; split <;> omega
def IsG (F a : Nat) (S : Nat → Prop) (b : Int32) : Prop := (b = -1 ∧ ∀ f, f < F → ¬ S f) ∨ ∃ g, g < F ∧ b = nI g ∧ S g ∧ ∀ f, f < F → S f → dst a g < dst a f ∨ (dst a g = dst a f ∧ g ≤ f)
theorem IsG.congr {F a : Nat} {S S' : Nat → Prop} {b : Int32} (h : IsG F a S b) (e : ∀ f, f < F → (S f ↔ S' f)) : IsG F a S' b := by
  rcases h with ⟨h1, h2⟩ | ⟨g, h1, h2, h3, h4⟩
  · exact Or.inl ⟨h1, fun f hf q => h2 f hf ((e f hf).mpr q)⟩
  · exact Or.inr ⟨g, h1, h2, (e g h1).mp h3, fun f hf q => h4 f hf ((e f hf).mpr q)⟩
theorem IsG.uniq {F a : Nat} {S : Nat → Prop} {b b' : Int32} (h : IsG F a S b) (h' : IsG F a S b') : b = b' := by
  rcases h with ⟨h1, h2⟩ | ⟨g, h1, h2, h3, h4⟩
  · rcases h' with ⟨k1, k2⟩ | ⟨g', k1, k2, k3, k4⟩
    · rw [h1, k1]
    · exact absurd k3 (h2 g' k1)
  · rcases h' with ⟨k1, k2⟩ | ⟨g', k1, k2, k3, k4⟩
    · exact absurd h3 (k2 g h1)
    · have x := h4 g' k1 k3
      have y := k4 g h1 h3
      have : g = g' := by omega
      rw [h2, k2, this]
theorem sub_sg {p q : Nat} (hp : p < 1000) (hq : q < 1000) : ((0 : Int32) < nI p - nI q) = (q < p) ∧ (nI p - nI q = 0) = (p = q) := by
  have h1 : (nI p - nI q).toInt = (p : Int) - q := by
    rw [n_sub (by rw [ni_int (by omega), ni_int (by omega)]; omega) (by rw [ni_int (by omega), ni_int (by omega)]; omega), ni_int (by omega), ni_int (by omega)]
  constructor
  · rw [Int32.lt_iff_toInt_lt, Int32.toInt_zero, h1]
    apply propext
    omega
  · rw [← Int32.toInt_inj, Int32.toInt_zero, h1]
    apply propext
    omega
theorem a_near (σ : Sg) {F a f : Nat} {S : Nat → Prop} {b : Int32} (hF : F ≤ 30) (ha : a < F) (hf : f < F) (h : IsG F a S b) : ∃ b', f_X4_nearer σ (nI a) (nI f) b = some (b', σ) ∧ IsG F a (fun x => S x ∨ x = f) b' := by
  unfold f_X4_nearer f_X4_nearer_31 f_X4_nearer_35 f_X4_nearer_36
  rcases h with ⟨rfl, h2⟩ | ⟨g, h1, rfl, h3, h4⟩
  · rw [if_pos (by decide)]
    refine ⟨nI f, rfl, Or.inr ⟨f, hf, rfl, Or.inr rfl, fun x hx q => ?_⟩⟩
    rcases q with q | q
    · exact absurd q (h2 x hx)
    · exact Or.inr ⟨by rw [q], Nat.le_of_eq q.symm⟩
  · rw [if_neg (by rw [ni_nn (by omega)]; exact id), dst_ab (by omega) (by omega), dst_ab (by omega) (by omega)]
    have dg := dst_lt (n := 30) (a := a) (f := g) (by omega) (by omega)
    have df := dst_lt (n := 30) (a := a) (f := f) (by omega) (by omega)
    obtain ⟨e1, e2⟩ := sub_sg (p := dst a g) (q := dst a f) (by omega) (by omega)
    simp only [e1, e2]
    have toF : (dst a f < dst a g ∨ (dst a f = dst a g ∧ f ≤ g)) → IsG F a (fun x => S x ∨ x = f) (nI f) := fun w => by
      refine Or.inr ⟨f, hf, rfl, Or.inr rfl, fun x hx q => ?_⟩
      rcases q with q | q
      · have := h4 x hx q
        omega
      · subst q
        exact Or.inr ⟨rfl, Nat.le_refl x⟩
    have toG : (dst a g < dst a f ∨ (dst a g = dst a f ∧ g ≤ f)) → IsG F a (fun x => S x ∨ x = f) (nI g) := fun w => by
      refine Or.inr ⟨g, h1, rfl, Or.inl h3, fun x hx q => ?_⟩
      rcases q with q | q
      · exact h4 x hx q
      · rw [q]; exact w
    by_cases w1 : dst a f < dst a g
    · rw [if_pos w1]
      exact ⟨nI f, rfl, toF (Or.inl w1)⟩
    · rw [if_neg w1]
      by_cases w2 : dst a g = dst a f
      · rw [if_pos w2]
        simp (disch := omega) only [ni_le]
        by_cases w3 : g ≤ f
        · rw [if_pos w3]
          exact ⟨nI g, rfl, toG (Or.inr ⟨w2, w3⟩)⟩
        · rw [if_neg w3]
          exact ⟨nI f, rfl, toF (Or.inr ⟨w2.symm, by omega⟩)⟩
      · rw [if_neg w2]
        exact ⟨nI g, rfl, toG (Or.inl (by omega))⟩
section TK
variable {F C K M T U j : Nat} {σ ρ v : Sg} {r : Nat → Int32}
def W_cd (v : Sg) (c k f : Nat) : Bool := (bt (v 2 c 9) k && decide (v 1 k 1 = nI f)) || (W_rm v c && (bt (v 2 c 8) k && decide (v 1 k 0 = nI f)))
theorem a_goal (h : LU F C K M T U (vw j σ) r) {c a : Nat} (hc : c < C) (ha : a < F) (h0 : vw j σ 2 c 0 = nI a) : ∃ b, f_X4_nearestGoal σ j (4 * j + c) = some (b, σ) ∧ IsG F a (fun f => an (fun k => W_cd (vw j σ) c k f) K = true) b := by
  have hC := D_C h
  have hK := D_K h
  have hF := D_F h
  have h0' : σ 2 (4 * j + c) 0 = nI a := h0
  unfold f_X4_nearestGoal
  rw [a_room, p_bi]
  obtain ⟨n, b, hb, e⟩ := lpE1 (fun n (b : Int32) k => f_X4_nearestGoal_10 n σ j (4 * j + c) (W_b (decide (¬ σ 2 (4 * j + c) 1 ≤ nI (ct (bt (σ 2 (4 * j + c) 9)) 32)))) b k) K (by omega) (fun k b => IsG F a (fun f => an (fun i => W_cd (vw j σ) c i f) k = true) b) (a := -1) (fun n k b hk hb => by
    obtain ⟨fa, fb, hfa, hfb, hne, hfrom, hto⟩ := (h.2.2.2.2.1 k hk).2.2.1
    have hfrom' : σ 1 (24 * j + k) 0 = nI fa := hfrom
    have hto' : σ 1 (24 * j + k) 1 = nI fb := hto
    have hcd : ∀ f, f < F → W_cd (vw j σ) c k f = ((bt (σ 2 (4 * j + c) 9) k && decide (f = fb)) || (decide (¬ σ 2 (4 * j + c) 1 ≤ nI (ct (bt (σ 2 (4 * j + c) 9)) 32)) && (bt (σ 2 (4 * j + c) 8) k && decide (f = fa)))) := by
      intro f hf
      unfold W_cd W_rm
      have q1 : decide (nI fb = nI f) = decide (f = fb) := decide_eq_decide.mpr (by rw [ni_eq (by omega) (by omega)]; exact eq_comm)
      have q2 : decide (nI fa = nI f) = decide (f = fa) := decide_eq_decide.mpr (by rw [ni_eq (by omega) (by omega)]; exact eq_comm)
      rw [hfrom, hto, q1, q2]
      rfl
    simp (disch := omega) only [f_X4_nearestGoal_10_s, f_X4_nearestGoal_47, f_X4_nearestGoal_79, A_K h, ni_le, p_nle, if_false, ni_nn, ni_cl, false_or, a_isC, a_isH, p_bi, W_b0, ni_1, hfrom', hto', h0']
    generalize (decide (¬ σ 2 (4 * j + c) 1 ≤ nI (ct (bt (σ 2 (4 * j + c) 9)) 32))) = R at hcd ⊢
    have part : ∀ b1, IsG F a (fun x => an (fun i => W_cd (vw j σ) c i x) k = true ∨ (bt (σ 2 (4 * j + c) 9) k && decide (x = fb)) = true) b1 → ∃ b2, IsG F a (fun f => an (fun i => W_cd (vw j σ) c i f) (k + 1) = true) b2 ∧ (if R = false then f_X4_nearestGoal_10 n σ j (4 * j + c) (W_b R) b1 (nI (k + 1)) else if bt (σ 2 (4 * j + c) 8) k = false then f_X4_nearestGoal_10 n σ j (4 * j + c) (W_b R) b1 (nI (k + 1)) else bi (f_X4_nearer σ (nI a) (nI fa) b1) fun r4 σ3 => f_X4_nearestGoal_10 n σ3 j (4 * j + c) (W_b R) r4 (nI (k + 1))) = f_X4_nearestGoal_10 n σ j (4 * j + c) (W_b R) b2 (nI (k + 1)) := by
      intro b1 h1
      cases hR : R
      · refine ⟨b1, h1.congr (fun f hf => ?_), if_pos rfl⟩
        rw [an_s, hcd f hf, hR]
        simp
      · rw [if_neg (by decide)]
        cases h8 : bt (σ 2 (4 * j + c) 8) k
        · refine ⟨b1, h1.congr (fun f hf => ?_), if_pos rfl⟩
          rw [an_s, hcd f hf, hR, h8]
          simp
        · rw [if_neg (by decide)]
          obtain ⟨b2, i1, i2⟩ := a_near σ hF ha hfa h1
          refine ⟨b2, i2.congr (fun f hf => ?_), by rw [i1, p_bi]⟩
          rw [an_s, hcd f hf, hR, h8]
          simp [or_assoc]
    cases h9 : bt (σ 2 (4 * j + c) 9) k
    · rw [if_pos rfl]
      obtain ⟨b2, i1, i2⟩ := part b (hb.congr (fun f hf => by rw [h9]; simp))
      exact ⟨b2, i1, i2⟩
    · rw [if_neg (by decide)]
      obtain ⟨b1, i1, i2⟩ := a_near σ hF ha hfb hb
      obtain ⟨b2, i3, i4⟩ := part b1 (i2.congr (fun f hf => by rw [h9]; simp))
      refine ⟨b2, i3, ?_⟩
      rw [i1, p_bi]
      simp only [h0', hfrom']
      exact i4) (Or.inl ⟨rfl, fun f hf => by show ¬ (false = true); decide⟩)
  refine ⟨b, e.trans ?_, hb⟩
  simp (disch := omega) only [f_X4_nearestGoal_10_s, A_K h, ni_le, Nat.le_refl, if_true, f_X4_nearestGoal_85]
theorem b_goal (h : LU F C K M T U v (ρ 30 0)) {c a : Nat} (hc : c < C) (ha : a < F) (h0 : v 2 c 0 = nI a) : ∃ b, f_X8_goalOf ρ (nI c) = some (b, ρ) ∧ IsG F a (fun f => an (fun k => W_cd v c k f) K = true) b := by
  have hC := D_C h
  have hK := D_K h
  have hF := D_F h
  obtain ⟨c0, c1, -⟩ := B_car h hc
  have c0' : ρ 30 0 (23 + c) = nI a := c0.trans h0
  have start : f_X8_goalOf ρ (nI c) = f_X8_goalOf_28 FU ρ (nI c) (W_b (W_rm v c)) (-1) 0 := by
    unfold f_X8_goalOf f_X8_goalOf_22
    simp (disch := omega) only [b_abdM h hc, p_bi, l_27, ni_nn, ni_cl, p_nle, false_or, if_false, c1]
    unfold W_rm
    by_cases w : v 2 c 1 ≤ nI (ct (bt (v 2 c 9)) 32)
    · rw [if_pos w, decide_eq_false (fun q => q w)]; rfl
    · rw [if_neg w, decide_eq_true w]; rfl
  rw [start]
  obtain ⟨n, b, hb, e⟩ := lpE1 (fun n (b : Int32) f => f_X8_goalOf_28 n ρ (nI c) (W_b (W_rm v c)) b f) F (by omega) (fun f0 b => IsG f0 a (fun f => an (fun k => W_cd v c k f) K = true) b) (a := -1) (fun n f b hf hb => by
    obtain ⟨n2, y, hy, e⟩ := lpE1 (fun n2 (y : Int32) k => f_X8_goalOf_45 (f_X8_goalOf_28 n) n2 ρ (nI c) (W_b (W_rm v c)) b (nI f) y k) K (by omega) (fun k y => y = W_b (an (fun k => W_cd v c k f) k)) (a := 0) (fun n2 k y hk hy => by
      obtain ⟨e0, e1, -⟩ := B_call h hk
      refine ⟨W_b (an (fun k => W_cd v c k f) (k + 1)), rfl, ?_⟩
      simp (disch := omega) only [f_X8_goalOf_45_s, f_X8_goalOf_86, f_X8_goalOf_115, f_X8_goalOf_119, f_X8_goalOf_120, B_K h, ni_le, p_nle, if_false, hy, W_b0, b_isA h hc hk, b_doesH h hc hk, p_bi, l_79, l_55, ni_nn, ni_cl, false_or, e0, e1, ni_1]
      rw [an_s]
      unfold W_cd
      generalize an (fun k => (bt (v 2 c 9) k && decide (v 1 k 1 = nI f)) || (W_rm v c && (bt (v 2 c 8) k && decide (v 1 k 0 = nI f)))) k = X
      by_cases w1 : v 1 k 1 = nI f <;> by_cases w2 : v 1 k 0 = nI f <;> cases X <;> cases W_rm v c <;> cases bt (v 2 c 9) k <;> cases bt (v 2 c 8) k <;> simp [w1, w2] <;> rfl) rfl
    simp (disch := omega) only [f_X8_goalOf_28_s, B_F h, ni_le, p_nle, if_false]
    have e' : f_X8_goalOf_45 (f_X8_goalOf_28 n) FU ρ (nI c) (W_b (W_rm v c)) b (nI f) 0 0 = _ := e
    rw [e']
    simp (disch := omega) only [f_X8_goalOf_45_s, B_K h, ni_le, Nat.le_refl, if_true, f_X8_goalOf_128, f_X8_goalOf_171, f_X8_goalOf_168, hy, W_b0, l_23, ni_nn, ni_cl, p_nle, false_or, if_false, c0', ni_1]
    cases hx : an (fun k => W_cd v c k f) K
    · rw [if_pos rfl]
      refine ⟨b, ?_, rfl⟩
      rcases hb with ⟨h1, h2⟩ | ⟨g, h1, h2, h3, h4⟩
      · refine Or.inl ⟨h1, fun f' hf' q => ?_⟩
        by_cases w : f' = f
        · subst w; have q' : an (fun k => W_cd v c k f') K = true := q; rw [hx] at q'; exact absurd q' (by decide)
        · exact h2 f' (by omega) q
      · refine Or.inr ⟨g, by omega, h2, h3, fun f' hf' q => ?_⟩
        by_cases w : f' = f
        · subst w; have q' : an (fun k => W_cd v c k f') K = true := q; rw [hx] at q'; exact absurd q' (by decide)
        · exact h4 f' (by omega) q
    · rw [if_neg (by decide)]
      rcases hb with ⟨h1, h2⟩ | ⟨g, h1, h2, h3, h4⟩
      · rw [if_pos h1]
        refine ⟨nI f, Or.inr ⟨f, by omega, rfl, hx, fun f' hf' q => ?_⟩, rfl⟩
        by_cases w : f' = f
        · subst w; exact Or.inr ⟨rfl, Nat.le_refl _⟩
        · exact absurd q (h2 f' (by omega))
      · subst h2
        have dg := dst_lt (n := 30) (a := a) (f := g) (by omega) (by omega)
        have df := dst_lt (n := 30) (a := a) (f := f) (by omega) (by omega)
        rw [if_neg (by rw [nm_1 (by omega)]; exact id)]
        simp (disch := omega) only [n_apart, dst_ab, p_bi, ni_le, c0', ni_nn, ni_cl, p_nle, false_or, if_false]
        by_cases w : dst a g ≤ dst a f
        · rw [if_pos w]
          refine ⟨nI g, Or.inr ⟨g, by omega, rfl, h3, fun f' hf' q => ?_⟩, rfl⟩
          by_cases w2 : f' = f
          · subst w2; omega
          · exact h4 f' (by omega) q
        · rw [if_neg w]
          refine ⟨nI f, Or.inr ⟨f, by omega, rfl, hx, fun f' hf' q => ?_⟩, rfl⟩
          by_cases w2 : f' = f
          · subst w2; exact Or.inr ⟨rfl, Nat.le_refl _⟩
          · have := h4 f' (by omega) q
            omega) (Or.inl ⟨rfl, fun f hf => by omega⟩)
  refine ⟨b, e.trans ?_, hb⟩
  simp (disch := omega) only [f_X8_goalOf_28_s, B_F h, ni_le, Nat.le_refl, if_true, f_X8_goalOf_177]
/-- a car whose goal is its own floor stops -/
theorem W_noGoal {c a : Nat} (h0 : v 2 c 0 = nI a) (hs : an (W_st v c) K = false) : ¬ an (fun k => W_cd v c k a) K = true := by
  intro q
  obtain ⟨k, hk, e⟩ := (an_iff _ _).mp q
  have : an (W_st v c) K = true := by
    refine an_yes hk ?_
    unfold W_cd at e
    unfold W_st W_off W_hh
    rw [h0]
    cases h9 : bt (v 2 c 9) k <;> cases h8 : bt (v 2 c 8) k <;> cases hr : W_rm v c <;> rw [h9, h8, hr] at e <;> simp at e ⊢ <;> first | exact Or.inl e | exact e | (rcases e with e | e; exact Or.inl e; exact Or.inr (Or.inl e)) | simp [e]
  rw [hs] at this
  exact absurd this (by decide)
end TK
