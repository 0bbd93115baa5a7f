/-! a tick: phase 5, the class's reading -/
section PX
variable {F C K M T U j : Nat} {σ ρ v : Sg} {r : Nat → Int32}
def W_rm (v : Sg) (c : Nat) : Bool := decide (¬ v 2 c 1 ≤ nI (ct (bt (v 2 c 9)) 32))
def W_off (v : Sg) (c k : Nat) : Bool := bt (v 2 c 9) k && decide (v 1 k 1 = v 2 c 0)
def W_hh (v : Sg) (c k : Nat) : Bool := bt (v 2 c 8) k && decide (v 1 k 0 = v 2 c 0)
def W_st (v : Sg) (c k : Nat) : Bool := W_off v c k || (W_hh v c k && (W_rm v c || !decide (v 1 k 3 = 1)))
def W_cs (v : Sg) (c k : Nat) : Nat := if bt (v 19 c 3) k = true then 0 else if bt (v 19 c 2) k = true then 1 else if bt (v 19 c 1) k = true then 2 else 3
theorem an_or (P Q : Nat → Bool) (n : Nat) : an (fun k => P k || Q k) n = (an P n || an Q n) := by
  induction n with
  | zero => rfl
  | succ n ih =>
    rw [an_s, an_s, an_s, ih]
    cases an P n <;> cases an Q n <;> cases P n <;> cases Q n <;> rfl
theorem ite_b (b : Bool) : (if b = true then (1 : Int32) else 0) = W_b b := rfl
theorem a_room (σ : Sg) (o : Nat) : f_X2_hasRoom σ o = some (W_b (decide (¬ σ 2 o 1 ≤ nI (ct (bt (σ 2 o 9)) 32))), σ) := by
  unfold f_X2_hasRoom f_X2_hasRoom_19
  rw [c_cnt, p_bi]
  by_cases h : σ 2 o 1 ≤ nI (ct (bt (σ 2 o 9)) 32)
  · rw [if_pos h, decide_eq_false (fun q => q h)]; rfl
  · rw [if_neg h, decide_eq_true h]; rfl
theorem a_cause (σ : Sg) (o : Nat) {k : Nat} (hk : k < 24) : f_X2_causeOf σ o (nI k) = some (nI ((if bt (σ 19 o 3) k = true then 0 else if bt (σ 19 o 2) k = true then 1 else if bt (σ 19 o 1) k = true then 2 else 3) + 1), σ) := by
  unfold f_X2_causeOf f_X2_causeOf_36
  have e3 := a_lost σ o (k := k) (t := 3) (by omega) (by decide)
  have e2 := a_lost σ o (k := k) (t := 2) (by omega) (by decide)
  have e1 := a_lost σ o (k := k) (t := 1) (by omega) (by decide)
  rw [show (3 : Int32) = nI 3 from rfl, e3, p_bi]
  cases bt (σ 19 o 3) k
  · rw [if_pos (by decide), show (2 : Int32) = nI 2 from rfl, e2, p_bi]
    cases bt (σ 19 o 2) k
    · rw [if_pos (by decide), show (1 : Int32) = nI 1 from rfl, e1, p_bi]
      cases bt (σ 19 o 1) k <;> rfl
    · rfl
  · rfl
theorem a_wants (h : LU F C K M T U (vw j σ) r) {c : Nat} (hc : c < C) : f_X0_wantsToStop σ j (4 * j + c) = some (W_b (an (W_st (vw j σ) c) K), σ) := by
  have hC := D_C h
  have hK := D_K h
  unfold f_X0_wantsToStop
  rw [a_room, p_bi]
  refine (lpAny (fun n i => f_X0_wantsToStop_8 n σ j (4 * j + c) (W_b (decide (¬ σ 2 (4 * j + c) 1 ≤ nI (ct (bt (σ 2 (4 * j + c) 9)) 32)))) i) K (by omega) (W_st (vw j σ) c) (1, σ) (0, σ) (fun n k hk => ?_) (fun n => ?_)).trans ?_
  · simp (disch := omega) only [f_X0_wantsToStop_8_s, f_X0_wantsToStop_49, f_X0_wantsToStop_85, f_X0_wantsToStop_83, f_X0_wantsToStop_47, A_K h, ni_le, p_nle, if_false, ni_nn, ni_cl, false_or, a_isC, a_isH, p_bi, W_b0, ni_1]
    unfold W_st W_off W_hh W_rm
    rw [show vw j σ 1 k 1 = σ 1 (24 * j + k) 1 from rfl, show vw j σ 1 k 0 = σ 1 (24 * j + k) 0 from rfl, show vw j σ 1 k 3 = σ 1 (24 * j + k) 3 from rfl, show vw j σ 2 c 0 = σ 2 (4 * j + c) 0 from rfl, show vw j σ 2 c 1 = σ 2 (4 * j + c) 1 from rfl, show vw j σ 2 c 8 = σ 2 (4 * j + c) 8 from rfl, show vw j σ 2 c 9 = σ 2 (4 * j + c) 9 from rfl]
    generalize (decide (¬ σ 2 (4 * j + c) 1 ≤ nI (ct (bt (σ 2 (4 * j + c) 9)) 32))) = R
    by_cases w1 : σ 1 (24 * j + k) 1 = σ 2 (4 * j + c) 0 <;> by_cases w2 : σ 1 (24 * j + k) 0 = σ 2 (4 * j + c) 0 <;> by_cases w3 : σ 1 (24 * j + k) 3 = 1 <;> cases R <;> cases bt (σ 2 (4 * j + c) 9) k <;> cases bt (σ 2 (4 * j + c) 8) k <;> simp [w1, w2, w3]
  · simp (disch := omega) only [f_X0_wantsToStop_8_s, A_K h, ni_le, Nat.le_refl, if_true, f_X0_wantsToStop_91]
  · cases an (W_st (vw j σ) c) K <;> rfl
def dst (a f : Nat) : Nat := if a ≤ f then f - a else a - f
theorem dst_ab {a f : Nat} (ha : a < 1000) (hf : f < 1000) : jabs (nI f - nI a) = nI (dst a f) := jabs_ni hf ha
theorem dst_lt {a f n : Nat} (ha : a < n) (hf : f < n) : dst a f < n := by unfold dst; split <;> omega
def IsG (F a : Nat) (S : Nat → Prop) (b : Int32) : Prop := (b = -1 ∧ ∀ f, f < F → ¬ S f) ∨ ∃ g, g < F ∧ b = nI g ∧ S g ∧ ∀ f, f < F → S f → dst a g < dst a f ∨ (dst a g = dst a f ∧ g ≤ f)
theorem IsG.congr {F a : Nat} {S S' : Nat → Prop} {b : Int32} (h : IsG F a S b) (e : ∀ f, f < F → (S f ↔ S' f)) : IsG F a S' b := by
  rcases h with ⟨h1, h2⟩ | ⟨g, h1, h2, h3, h4⟩
  · exact Or.inl ⟨h1, fun f hf q => h2 f hf ((e f hf).mpr q)⟩
  · exact Or.inr ⟨g, h1, h2, (e g h1).mp h3, fun f hf q => h4 f hf ((e f hf).mpr q)⟩
theorem IsG.uniq {F a : Nat} {S : Nat → Prop} {b b' : Int32} (h : IsG F a S b) (h' : IsG F a S b') : b = b' := by
  rcases h with ⟨h1, h2⟩ | ⟨g, h1, h2, h3, h4⟩
  · rcases h' with ⟨k1, k2⟩ | ⟨g', k1, k2, k3, k4⟩
    · rw [h1, k1]
    · exact absurd k3 (h2 g' k1)
  · rcases h' with ⟨k1, k2⟩ | ⟨g', k1, k2, k3, k4⟩
    · exact absurd h3 (k2 g h1)
    · have x := h4 g' k1 k3
      have y := k4 g h1 h3
      have : g = g' := by omega
      rw [h2, k2, this]
theorem sub_sg {p q : Nat} (hp : p < 1000) (hq : q < 1000) : ((0 : Int32) < nI p - nI q) = (q < p) ∧ (nI p - nI q = 0) = (p = q) := by
  have h1 : (nI p - nI q).toInt = (p : Int) - q := by
    rw [n_sub (by rw [ni_int (by omega), ni_int (by omega)]; omega) (by rw [ni_int (by omega), ni_int (by omega)]; omega), ni_int (by omega), ni_int (by omega)]
  constructor
  · rw [Int32.lt_iff_toInt_lt, Int32.toInt_zero, h1]
    apply propext
    omega
  · rw [← Int32.toInt_inj, Int32.toInt_zero, h1]
    apply propext
    omega
theorem a_near (σ : Sg) {F a f : Nat} {S : Nat → Prop} {b : Int32} (hF : F ≤ 30) (ha : a < F) (hf : f < F) (h : IsG F a S b) : ∃ b', f_X4_nearer σ (nI a) (nI f) b = some (b', σ) ∧ IsG F a (fun x => S x ∨ x = f) b' := by
  unfold f_X4_nearer f_X4_nearer_31 f_X4_nearer_35 f_X4_nearer_36
  rcases h with ⟨rfl, h2⟩ | ⟨g, h1, rfl, h3, h4⟩
  · rw [if_pos (by decide)]
    refine ⟨nI f, rfl, Or.inr ⟨f, hf, rfl, Or.inr rfl, fun x hx q => ?_⟩⟩
    rcases q with q | q
    · exact absurd q (h2 x hx)
    · exact Or.inr ⟨by rw [q], Nat.le_of_eq q.symm⟩
  · rw [if_neg (by rw [ni_nn (by omega)]; exact id), dst_ab (by omega) (by omega), dst_ab (by omega) (by omega)]
    have dg := dst_lt (n := 30) (a := a) (f := g) (by omega) (by omega)
    have df := dst_lt (n := 30) (a := a) (f := f) (by omega) (by omega)
    obtain ⟨e1, e2⟩ := sub_sg (p := dst a g) (q := dst a f) (by omega) (by omega)
    simp only [e1, e2]
    have toF : (dst a f < dst a g ∨ (dst a f = dst a g ∧ f ≤ g)) → IsG F a (fun x => S x ∨ x = f) (nI f) := fun w => by
      refine Or.inr ⟨f, hf, rfl, Or.inr rfl, fun x hx q => ?_⟩
      rcases q with q | q
      · have := h4 x hx q
        omega
      · subst q
        exact Or.inr ⟨rfl, Nat.le_refl x⟩
    have toG : (dst a g < dst a f ∨ (dst a g = dst a f ∧ g ≤ f)) → IsG F a (fun x => S x ∨ x = f) (nI g) := fun w => by
      refine Or.inr ⟨g, h1, rfl, Or.inl h3, fun x hx q => ?_⟩
      rcases q with q | q
      · exact h4 x hx q
      · rw [q]; exact w
    by_cases w1 : dst a f < dst a g
    · rw [if_pos w1]
      exact ⟨nI f, rfl, toF (Or.inl w1)⟩
    · rw [if_neg w1]
      by_cases w2 : dst a g = dst a f
      · rw [if_pos w2]
        simp (disch := omega) only [ni_le]
        by_cases w3 : g ≤ f
        · rw [if_pos w3]
          exact ⟨nI g, rfl, toG (Or.inr ⟨w2, w3⟩)⟩
        · rw [if_neg w3]
          exact ⟨nI f, rfl, toF (Or.inr ⟨w2.symm, by omega⟩)⟩
      · rw [if_neg w2]
        exact ⟨nI g, rfl, toG (Or.inl (by omega))⟩
def W_cd (v : Sg) (c k f : Nat) : Bool := (bt (v 2 c 9) k && decide (v 1 k 1 = nI f)) || (W_rm v c && (bt (v 2 c 8) k && decide (v 1 k 0 = nI f)))
theorem a_goal (h : LU F C K M T U (vw j σ) r) {c a : Nat} (hc : c < C) (ha : a < F) (h0 : vw j σ 2 c 0 = nI a) : ∃ b, f_X4_nearestGoal σ j (4 * j + c) = some (b, σ) ∧ IsG F a (fun f => an (fun k => W_cd (vw j σ) c k f) K = true) b := by
  have hC := D_C h
  have hK := D_K h
  have hF := D_F h
  have h0' : σ 2 (4 * j + c) 0 = nI a := h0
  unfold f_X4_nearestGoal
  rw [a_room, p_bi]
  obtain ⟨n, b, hb, e⟩ := lpE1 (fun n (b : Int32) k => f_X4_nearestGoal_10 n σ j (4 * j + c) (W_b (decide (¬ σ 2 (4 * j + c) 1 ≤ nI (ct (bt (σ 2 (4 * j + c) 9)) 32)))) b k) K (by omega) (fun k b => IsG F a (fun f => an (fun i => W_cd (vw j σ) c i f) k = true) b) (a := -1) (fun n k b hk hb => by
    obtain ⟨fa, fb, hfa, hfb, hne, hfrom, hto⟩ := (h.2.2.2.2.1 k hk).2.2.1
    have hfrom' : σ 1 (24 * j + k) 0 = nI fa := hfrom
    have hto' : σ 1 (24 * j + k) 1 = nI fb := hto
    have hcd : ∀ f, f < F → W_cd (vw j σ) c k f = ((bt (σ 2 (4 * j + c) 9) k && decide (f = fb)) || (decide (¬ σ 2 (4 * j + c) 1 ≤ nI (ct (bt (σ 2 (4 * j + c) 9)) 32)) && (bt (σ 2 (4 * j + c) 8) k && decide (f = fa)))) := by
      intro f hf
      unfold W_cd W_rm
      have q1 : decide (nI fb = nI f) = decide (f = fb) := decide_eq_decide.mpr (by rw [ni_eq (by omega) (by omega)]; exact eq_comm)
      have q2 : decide (nI fa = nI f) = decide (f = fa) := decide_eq_decide.mpr (by rw [ni_eq (by omega) (by omega)]; exact eq_comm)
      rw [hfrom, hto, q1, q2]
      rfl
    simp (disch := omega) only [f_X4_nearestGoal_10_s, f_X4_nearestGoal_47, f_X4_nearestGoal_79, A_K h, ni_le, p_nle, if_false, ni_nn, ni_cl, false_or, a_isC, a_isH, p_bi, W_b0, ni_1, hfrom', hto', h0']
    generalize (decide (¬ σ 2 (4 * j + c) 1 ≤ nI (ct (bt (σ 2 (4 * j + c) 9)) 32))) = R at hcd ⊢
    have part : ∀ b1, IsG F a (fun x => an (fun i => W_cd (vw j σ) c i x) k = true ∨ (bt (σ 2 (4 * j + c) 9) k && decide (x = fb)) = true) b1 → ∃ b2, IsG F a (fun f => an (fun i => W_cd (vw j σ) c i f) (k + 1) = true) b2 ∧ (if R = false then f_X4_nearestGoal_10 n σ j (4 * j + c) (W_b R) b1 (nI (k + 1)) else if bt (σ 2 (4 * j + c) 8) k = false then f_X4_nearestGoal_10 n σ j (4 * j + c) (W_b R) b1 (nI (k + 1)) else bi (f_X4_nearer σ (nI a) (nI fa) b1) fun r4 σ3 => f_X4_nearestGoal_10 n σ3 j (4 * j + c) (W_b R) r4 (nI (k + 1))) = f_X4_nearestGoal_10 n σ j (4 * j + c) (W_b R) b2 (nI (k + 1)) := by
      intro b1 h1
      cases hR : R
      · refine ⟨b1, h1.congr (fun f hf => ?_), if_pos rfl⟩
        rw [an_s, hcd f hf, hR]
        simp
      · rw [if_neg (by decide)]
        cases h8 : bt (σ 2 (4 * j + c) 8) k
        · refine ⟨b1, h1.congr (fun f hf => ?_), if_pos rfl⟩
          rw [an_s, hcd f hf, hR, h8]
          simp
        · rw [if_neg (by decide)]
          obtain ⟨b2, i1, i2⟩ := a_near σ hF ha hfa h1
          refine ⟨b2, i2.congr (fun f hf => ?_), by rw [i1, p_bi]⟩
          rw [an_s, hcd f hf, hR, h8]
          simp [or_assoc]
    cases h9 : bt (σ 2 (4 * j + c) 9) k
    · rw [if_pos rfl]
      obtain ⟨b2, i1, i2⟩ := part b (hb.congr (fun f hf => by rw [h9]; simp))
      exact ⟨b2, i1, i2⟩
    · rw [if_neg (by decide)]
      obtain ⟨b1, i1, i2⟩ := a_near σ hF ha hfb hb
      obtain ⟨b2, i3, i4⟩ := part b1 (i2.congr (fun f hf => by rw [h9]; simp))
      refine ⟨b2, i3, ?_⟩
      rw [i1, p_bi]
      simp only [h0', hfrom']
      exact i4) (Or.inl ⟨rfl, fun f hf => by show ¬ (false = true); decide⟩)
  refine ⟨b, e.trans ?_, hb⟩
  simp (disch := omega) only [f_X4_nearestGoal_10_s, A_K h, ni_le, Nat.le_refl, if_true, f_X4_nearestGoal_85]
/-- a car whose goal is its own floor stops -/
theorem W_noGoal {c a : Nat} (h0 : v 2 c 0 = nI a) (hs : an (W_st v c) K = false) : ¬ an (fun k => W_cd v c k a) K = true := by
  intro q
  obtain ⟨k, hk, e⟩ := (an_iff _ _).mp q
  have : an (W_st v c) K = true := by
    refine an_yes hk ?_
    unfold W_cd at e
    unfold W_st W_off W_hh
    rw [h0]
    cases h9 : bt (v 2 c 9) k <;> cases h8 : bt (v 2 c 8) k <;> cases hr : W_rm v c <;> rw [h9, h8, hr] at e <;> simp at e ⊢ <;> first | exact Or.inl e | exact e | (rcases e with e | e; exact Or.inl e; exact Or.inr (Or.inl e)) | simp [e]
  rw [hs] at this
  exact absurd this (by decide)
end PX
/-! a tick of both: phase 5, the law's reading: its goal, its stop -/
theorem l_near {α : Type} (Z : Int32 → α) {F a f : Nat} {S : Nat → Prop} {b : Int32} (hF : F ≤ 30) (ha : a < F) (hf : f < F) (h : IsG F a S b) :
    ∃ b', (if nI f < 0 then Z b else (if b < 0 then Z (nI f) else (if jabs (nI f - nI a) < jabs (b - nI a) then Z (nI f) else (if jabs (nI f - nI a) = jabs (b - nI a) then (if b ≤ nI f then Z b else Z (nI f)) else Z b)))) = Z b' ∧ IsG F a (fun x => S x ∨ x = f) b' := by
  rw [if_neg (by rw [ni_nn (by omega)]; exact id)]
  rcases h with ⟨rfl, h2⟩ | ⟨g, h1, rfl, h3, h4⟩
  · rw [if_pos (by decide)]
    refine ⟨nI f, rfl, Or.inr ⟨f, hf, rfl, Or.inr rfl, fun x hx q => ?_⟩⟩
    rcases q with q | q
    · exact absurd q (h2 x hx)
    · exact Or.inr ⟨by rw [q], Nat.le_of_eq q.symm⟩
  · rw [if_neg (by rw [ni_nn (by omega)]; exact id), dst_ab (by omega) (by omega), dst_ab (by omega) (by omega)]
    have dg := dst_lt (n := 30) (a := a) (f := g) (by omega) (by omega)
    have df := dst_lt (n := 30) (a := a) (f := f) (by omega) (by omega)
    simp (disch := omega) only [ni_lt, ni_eq, ni_le]
    have toF : (dst a f < dst a g ∨ (dst a f = dst a g ∧ f ≤ g)) → IsG F a (fun x => S x ∨ x = f) (nI f) := fun w => by
      refine Or.inr ⟨f, hf, rfl, Or.inr rfl, fun x hx q => ?_⟩
      rcases q with q | q
      · have := h4 x hx q
        omega
      · subst q
        exact Or.inr ⟨rfl, Nat.le_refl x⟩
    have toG : (dst a g < dst a f ∨ (dst a g = dst a f ∧ g ≤ f)) → IsG F a (fun x => S x ∨ x = f) (nI g) := fun w => by
      refine Or.inr ⟨g, h1, rfl, Or.inl h3, fun x hx q => ?_⟩
      rcases q with q | q
      · exact h4 x hx q
      · rw [q]; exact w
    by_cases w1 : dst a f < dst a g
    · rw [if_pos w1]
      exact ⟨nI f, rfl, toF (Or.inl w1)⟩
    · rw [if_neg w1]
      by_cases w2 : dst a f = dst a g
      · rw [if_pos w2]
        by_cases w3 : g ≤ f
        · rw [if_pos w3]
          exact ⟨nI g, rfl, toG (Or.inr ⟨w2.symm, w3⟩)⟩
        · rw [if_neg w3]
          exact ⟨nI f, rfl, toF (Or.inr ⟨w2, by omega⟩)⟩
      · rw [if_neg w2]
        exact ⟨nI g, rfl, toG (Or.inl (by omega))⟩
/-- the same where a best stands already -/
theorem l_near2 {α : Type} (Z : Int32 → α) {F a f : Nat} {S : Nat → Prop} {b : Int32} (hF : F ≤ 30) (ha : a < F) (hf : f < F) (h : IsG F a S b) (hS : ∃ x, x < F ∧ S x) :
    ∃ b', (if jabs (nI f - nI a) < jabs (b - nI a) then Z (nI f) else (if jabs (nI f - nI a) = jabs (b - nI a) then (if b ≤ nI f then Z b else Z (nI f)) else Z b)) = Z b' ∧ IsG F a (fun x => S x ∨ x = f) b' := by
  obtain ⟨b', e, i⟩ := l_near Z hF ha hf h
  refine ⟨b', ?_, i⟩
  rw [← e, if_neg (show ¬ nI f < 0 by rw [ni_nn (by omega)]; exact id)]
  rcases h with ⟨rfl, h2⟩ | ⟨g, h1, rfl, h3, h4⟩
  · obtain ⟨x, hx, hSx⟩ := hS
    exact absurd hSx (h2 x hx)
  · rw [if_neg (show ¬ nI g < 0 by rw [ni_nn (by omega)]; exact id)]
theorem k_andb {m : Int32} {t : Nat} (ht : t < 32) (hm : ∀ i, i < 32 → bt m i = decide (i = t)) (x : Int32) : (x &&& m = 0) = (bt x t = false) := by
  apply propext
  constructor
  · intro h
    have e := congrArg (fun y => bt y t) h
    have e' : bt (x &&& m) t = bt 0 t := e
    rw [b_and, hm t ht, b_0, decide_eq_true rfl, Bool.and_true] at e'
    exact e'
  · intro h
    refine b_ext (fun i hi => ?_)
    rw [b_and, hm i hi, b_0]
    by_cases w : i = t
    · rw [w, h]
      rfl
    · rw [decide_eq_false w, Bool.and_false]
theorem k_and8 (x : Int32) : (x &&& 8 = 0) = (bt x 3 = false) := k_andb (by decide) (by decide +kernel) x
theorem k_and4 (x : Int32) : (x &&& 4 = 0) = (bt x 2 = false) := k_andb (by decide) (by decide +kernel) x
theorem k_and2 (x : Int32) : (x &&& 2 = 0) = (bt x 1 = false) := k_andb (by decide) (by decide +kernel) x
section TK
variable {F C K M T U j : Nat} {σ τ v : Sg} {r : Nat → Int32}
theorem l_abk (h : LU F C K M T U v (rwL τ)) {c k : Nat} (hc : c < C) (hk : k < K) : (bt (v 2 c 9) k = true) = (τ 42 k 3 = 2 ∧ τ 42 k 4 = nI c) := by
  rw [D_abd h hc k, L_call h hk (show 3 < 11 by decide) (by decide), L_call h hk (show 4 < 11 by decide) (by decide)]
  apply propext
  constructor
  · intro q
    exact (of_decide_eq_true q).2
  · intro q
    exact decide_eq_true ⟨hk, q⟩
/-- a test of the law: is the call aboard this car -/
theorem l_ifab (h : LU F C K M T U v (rwL τ)) {c k : Nat} (hc : c < C) (hk : k < K) {α : Type} (x y : α) : (if τ 42 k 3 = 2 then (if τ 42 k 4 = nI c then x else y) else y) = if bt (v 2 c 9) k = true then x else y := by
  have e := l_abk h hc hk
  by_cases w3 : τ 42 k 3 = 2
  · rw [if_pos w3]
    by_cases w4 : τ 42 k 4 = nI c
    · rw [if_pos w4, if_pos (by rw [e]; exact ⟨w3, w4⟩)]
    · rw [if_neg w4, if_neg (by rw [e]; exact fun q => w4 q.2)]
  · rw [if_neg w3, if_neg (by rw [e]; exact fun q => w3 q.1)]
theorem l_goal (h : LU F C K M T U v (rwL τ)) {c a : Nat} (hc : c < C) (ha : a < F) (h0 : v 2 c 0 = nI a) : ∃ b, f_L_goal τ (nI c) = some (b, τ, 2) ∧ IsG F a (fun f => an (fun k => W_cd v c k f) K = true) b := by
  have hC := D_C h
  have hK := D_K h
  have hF := D_F h
  have h0' : τ 41 c 0 = nI a := (L_car h hc (by decide)).trans h0
  have h1' : τ 41 c 1 = v 2 c 1 := L_car h hc (by decide)
  have fin : f_L_goal τ (nI c) = ac 1 (f_L_goal_46 τ (nI c) (nI a) (W_b (W_rm v c))) := by
    unfold f_L_goal W_rm
    rw [N_C h, if_neg (show ¬ (nI c < 0 ∨ C ≤ (nI c).toNatClampNeg) by rw [gN hc (by omega)]; exact id), l_aboard h hc, bq_some, N_C h, if_neg (show ¬ (nI c < 0 ∨ C ≤ (nI c).toNatClampNeg) by rw [gN hc (by omega)]; exact id), ni_cl (by omega), h0', h1']
    by_cases w : v 2 c 1 ≤ nI (ct (bt (v 2 c 9)) 32)
    · rw [if_pos w, decide_eq_false (fun q => q w)]
      rfl
    · rw [if_neg w, decide_eq_true w]
      rfl
  rw [fin]
  generalize hR : W_rm v c = R
  obtain ⟨n, b, hb, e⟩ := lpN (fun n (b : Int32) k => f_L_goal_61 n τ (nI c) (nI a) (W_b R) b k (τ 50 1 0)) K (by omega) (fun k b => IsG F a (fun f => an (fun i => W_cd v c i f) k = true) b) (a := -1) (fun n k b hk hb => by
    obtain ⟨fa, fb, hfa, hfb, hne, hfrom, hto⟩ := (h.2.2.2.2.1 k hk).2.2.1
    have hfrom' : τ 42 k 0 = nI fa := (L_call h hk (by decide) (by decide)).trans hfrom
    have hto' : τ 42 k 1 = nI fb := (L_call h hk (by decide) (by decide)).trans hto
    have hcd : ∀ f, f < F → W_cd v c k f = ((bt (v 2 c 9) k && decide (f = fb)) || (R && (bt (v 2 c 8) k && decide (f = fa)))) := by
      intro f hf
      unfold W_cd
      have q1 : decide (nI fb = nI f) = decide (f = fb) := decide_eq_decide.mpr (by rw [ni_eq (by omega) (by omega)]; exact eq_comm)
      have q2 : decide (nI fa = nI f) = decide (f = fa) := decide_eq_decide.mpr (by rw [ni_eq (by omega) (by omega)]; exact eq_comm)
      rw [hfrom, hto, q1, q2, hR]
    have g192 : ∀ y : Int32, f_L_goal_192 (f_L_goal_61 n) τ (nI c) (nI a) (W_b R) y (k + 1) (τ 50 1 0) k = if bt (v 2 c 9) k = true then (if R = false then f_L_goal_61 n τ (nI c) (nI a) (W_b R) y (k + 1) (τ 50 1 0) else (if bt (v 2 c 8) k = false then f_L_goal_61 n τ (nI c) (nI a) (W_b R) y (k + 1) (τ 50 1 0) else (if jabs (nI fa - nI a) < jabs (y - nI a) then f_L_goal_61 n τ (nI c) (nI a) (W_b R) (nI fa) (k + 1) (τ 50 1 0) else (if jabs (nI fa - nI a) = jabs (y - nI a) then (if y ≤ nI fa then f_L_goal_61 n τ (nI c) (nI a) (W_b R) y (k + 1) (τ 50 1 0) else f_L_goal_61 n τ (nI c) (nI a) (W_b R) (nI fa) (k + 1) (τ 50 1 0)) else f_L_goal_61 n τ (nI c) (nI a) (W_b R) y (k + 1) (τ 50 1 0))))) else f_L_goal_61 n τ (nI c) (nI a) (W_b R) y (k + 1) (τ 50 1 0) := by
      intro y
      unfold f_L_goal_192 f_L_goal_277 f_L_goal_284
      rw [l_ifab h hc hk]
      simp (disch := omega) only [W_b0, ni_nn, ni_cl, p_nle, false_or, if_false, L_held h hc hk, hfrom']
    rw [f_L_goal_61_s, L_K h, if_neg (by rw [it_no hk (by omega)]; exact id), N_K h, if_neg (fun z => z ⟨hk, rfl⟩), l_ifab h hc hk, hto']
    cases h9 : bt (v 2 c 9) k
    · rw [if_neg (show ¬ (false = true) by decide)]
      have g192' : ∀ y : Int32, f_L_goal_192 (f_L_goal_61 n) τ (nI c) (nI a) (W_b R) y (k + 1) (τ 50 1 0) k = f_L_goal_61 n τ (nI c) (nI a) (W_b R) y (k + 1) (τ 50 1 0) := fun y => by rw [g192, h9, if_neg (show ¬ (false = true) by decide)]
      unfold f_L_goal_109 f_L_goal_134 f_L_goal_135 f_L_goal_188
      rw [hfrom']
      simp (disch := omega) only [W_b0, ni_nn, ni_cl, p_nle, false_or, if_false, L_held h hc hk, g192', p_m1lt, if_true]
      have same : R = false ∨ bt (v 2 c 8) k = false → IsG F a (fun f => an (fun i => W_cd v c i f) (k + 1) = true) b := fun q => hb.congr (fun f hf => by
        rw [an_s, Bool.or_eq_true, hcd f hf, h9]
        rcases q with q | q <;> rw [q] <;> simp)
      by_cases hr : R = false
      · rw [if_pos hr]
        exact ⟨b, same (Or.inl hr), rfl⟩
      · rw [if_neg hr]
        by_cases h8 : bt (v 2 c 8) k = false
        · rw [if_pos h8]
          exact ⟨b, same (Or.inr h8), rfl⟩
        · rw [if_neg h8]
          obtain ⟨b', e1, e2⟩ := l_near (fun y => f_L_goal_61 n τ (nI c) (nI a) (W_b R) y (k + 1) (τ 50 1 0)) hF ha hfa hb
          rw [if_neg (show ¬ nI fa < 0 by rw [ni_nn (by omega)]; exact id)] at e1
          refine ⟨b', e2.congr (fun f hf => ?_), e1⟩
          rw [an_s, Bool.or_eq_true, hcd f hf, h9, eq_true_of_ne_false hr, eq_true_of_ne_false h8]
          simp
    · rw [if_pos rfl]
      have g192' : ∀ y : Int32, f_L_goal_192 (f_L_goal_61 n) τ (nI c) (nI a) (W_b R) y (k + 1) (τ 50 1 0) k = _ := fun y => (g192 y).trans (by rw [h9, if_pos (show true = true from rfl)])
      unfold f_L_goal_135 f_L_goal_188
      obtain ⟨b1, e1, i1⟩ := l_near (fun y => f_L_goal_192 (f_L_goal_61 n) τ (nI c) (nI a) (W_b R) y (k + 1) (τ 50 1 0) k) hF ha hfb hb
      have fin1 : R = false ∨ bt (v 2 c 8) k = false → IsG F a (fun f => an (fun i => W_cd v c i f) (k + 1) = true) b1 := fun q => i1.congr (fun f hf => by
        rw [an_s, Bool.or_eq_true, hcd f hf, h9]
        rcases q with q | q <;> rw [q] <;> simp)
      by_cases hr : R = false
      · exact ⟨b1, fin1 (Or.inl hr), by rw [e1, g192', if_pos hr]⟩
      · by_cases h8 : bt (v 2 c 8) k = false
        · exact ⟨b1, fin1 (Or.inr h8), by rw [e1, g192', if_neg hr, if_pos h8]⟩
        · obtain ⟨b2, e2, i2⟩ := l_near2 (fun y => f_L_goal_61 n τ (nI c) (nI a) (W_b R) y (k + 1) (τ 50 1 0)) hF ha hfa i1 ⟨fb, hfb, Or.inr rfl⟩
          refine ⟨b2, i2.congr (fun f hf => ?_), by rw [e1, g192', if_neg hr, if_neg h8]; exact e2⟩
          rw [an_s, Bool.or_eq_true, hcd f hf, h9, eq_true_of_ne_false hr, eq_true_of_ne_false h8]
          simp [or_assoc]) (Or.inl ⟨rfl, fun f hf => by
    show ¬ (an (fun i => W_cd v c i f) 0 = true)
    exact Bool.false_ne_true⟩)
  refine ⟨b, ?_, hb⟩
  unfold f_L_goal_46
  rw [e, f_L_goal_61_s, L_K h, if_pos (it_y _)]
  rfl
/-- the law's first loop: does somebody get off -/
theorem l_offs (h : LU F C K M T U v (rwL τ)) {c : Nat} (hc : c < C) : f_L_act_53 FU τ (nI c) c 0 0 (τ 50 1 0) = f_L_act_118 τ (nI c) c (W_b (an (W_off v c) K)) := by
  have hC := D_C h
  have hK := D_K h
  have e0 : τ 41 c 0 = v 2 c 0 := L_car h hc (by decide)
  obtain ⟨n, y, hy, e⟩ := lpN (fun n (y : Int32) k => f_L_act_53 n τ (nI c) c y k (τ 50 1 0)) K (by omega) (fun k y => y = W_b (an (W_off v c) k)) (a := 0) (fun n k y hk hy => by
    refine ⟨W_b (an (W_off v c) (k + 1)), rfl, ?_⟩
    have e1 : τ 42 k 1 = v 1 k 1 := L_call h hk (by decide) (by decide)
    rw [f_L_act_53_s, L_K h, if_neg (by rw [it_no hk (by omega)]; exact id), N_K h, if_neg (fun z => z ⟨hk, rfl⟩), l_ifab h hc hk, e0, e1, hy]
    simp only [W_b0]
    unfold f_L_act_109 f_L_act_113 f_L_act_114
    rw [an_s]
    unfold W_off
    cases an (fun k => bt (v 2 c 9) k && decide (v 1 k 1 = v 2 c 0)) k
    · rw [if_pos rfl]
      cases bt (v 2 c 9) k
      · rw [if_neg (by decide)]; rfl
      · rw [if_pos rfl]
        by_cases w : v 1 k 1 = v 2 c 0
        · rw [if_pos w, decide_eq_true w]; rfl
        · rw [if_neg w, decide_eq_false w]; rfl
    · rw [if_neg (by decide)]; rfl) rfl
  refine Eq.trans e ?_
  rw [f_L_act_53_s, L_K h, if_pos (it_y _), hy]
/-- the law's second loop: does it stop -/
theorem l_stops (h : LU F C K M T U v (rwL τ)) {c : Nat} (hc : c < C) : ∃ D, D ≤ 25 ∧ f_L_act_118 τ (nI c) c (W_b (an (W_off v c) K)) = ac D (f_L_act_210 τ (nI c) c (W_b (an (W_st v c) K))) := by
  have hC := D_C h
  have hK := D_K h
  have e0 : τ 41 c 0 = v 2 c 0 := L_car h hc (by decide)
  have er : τ 41 c 1 = v 2 c 1 := L_car h hc (by decide)
  generalize hO : an (W_off v c) K = O
  obtain ⟨m, y, D, ⟨hy, hD⟩, e⟩ := lpC (fun n (y : Int32) k => f_L_act_132 n τ (nI c) c (W_b O) y k (τ 50 1 0)) K (by omega) (fun k y D => y = W_b (O || an (fun k => W_hh v c k && (W_rm v c || !decide (v 1 k 3 = 1) || O)) k) ∧ D ≤ k) (b := W_b O) (by
    rintro m k y D hk ⟨hy, hD⟩
    have e1 : τ 42 k 0 = v 1 k 0 := L_call h hk (by decide) (by decide)
    have e3 : τ 42 k 3 = v 1 k 3 := L_call h hk (by decide) (by decide)
    have gen0 : ∀ z, z = W_b (O || an (fun k => W_hh v c k && (W_rm v c || !decide (v 1 k 3 = 1) || O)) (k + 1)) → ∃ b' d, (b' = W_b (O || an (fun k => W_hh v c k && (W_rm v c || !decide (v 1 k 3 = 1) || O)) (k + 1)) ∧ D + d ≤ k + 1) ∧ f_L_act_132 m τ (nI c) c (W_b O) z (k + 1) (τ 50 1 0) = ac d (f_L_act_132 m τ (nI c) c (W_b O) b' (k + 1) (τ 50 1 0)) := fun z hz => ⟨z, 0, ⟨hz, by omega⟩, (ac_0 _).symm⟩
    have gen1 : ∀ z, z = W_b (O || an (fun k => W_hh v c k && (W_rm v c || !decide (v 1 k 3 = 1) || O)) (k + 1)) → ∃ b' d, (b' = W_b (O || an (fun k => W_hh v c k && (W_rm v c || !decide (v 1 k 3 = 1) || O)) (k + 1)) ∧ D + d ≤ k + 1) ∧ ac 1 (f_L_act_132 m τ (nI c) c (W_b O) z (k + 1) (τ 50 1 0)) = ac d (f_L_act_132 m τ (nI c) c (W_b O) b' (k + 1) (τ 50 1 0)) := fun z hz => ⟨z, 1, ⟨hz, by omega⟩, rfl⟩
    have hPk : (W_hh v c k && (W_rm v c || !decide (v 1 k 3 = 1) || O)) = ((bt (v 2 c 8) k && decide (v 1 k 0 = v 2 c 0)) && (decide (¬ v 2 c 1 ≤ nI (ct (bt (v 2 c 9)) 32)) || !decide (v 1 k 3 = 1) || O)) := rfl
    simp (disch := omega) only [f_L_act_132_s, L_K h, it_no, if_false, N_K h, hk, and_true, not_true_eq_false, ni_nn, ni_cl, p_nle, false_or, L_held h hc hk, W_b0, e0, e1, e3, f_L_act_204, f_L_act_207, l_aboard h hc, bq_some, er]
    rw [hy]
    cases h8 : bt (v 2 c 8) k
    · rw [if_pos rfl]
      refine gen0 _ ?_
      rw [an_s, hPk, h8]
      simp
    · rw [if_neg (by decide)]
      by_cases w0 : v 1 k 0 = v 2 c 0
      · rw [if_pos w0]
        by_cases w3 : v 1 k 3 = 1
        · rw [if_pos w3]
          cases O
          · rw [if_pos rfl]
            by_cases w : v 2 c 1 ≤ nI (ct (bt (v 2 c 9)) 32)
            · rw [if_pos w]
              refine gen1 _ ?_
              rw [an_s, hPk, h8, decide_eq_false (p := ¬ v 2 c 1 ≤ nI (ct (bt (v 2 c 9)) 32)) (fun q => q w), decide_eq_true w3]
              simp
            · rw [if_neg w]
              refine gen1 _ ?_
              rw [an_s, hPk, h8, decide_eq_true (p := ¬ v 2 c 1 ≤ nI (ct (bt (v 2 c 9)) 32)) w, decide_eq_true w3, decide_eq_true w0]
              simp [W_b]
          · rw [if_neg (by decide)]
            refine gen0 _ ?_
            simp [W_b]
        · rw [if_neg w3]
          refine gen0 _ ?_
          rw [an_s, hPk, h8, decide_eq_false w3, decide_eq_true w0]
          simp [W_b]
      · rw [if_neg w0]
        refine gen0 _ ?_
        rw [an_s, hPk, h8, decide_eq_false w0]
        simp) ⟨by show W_b O = W_b (O || false); rw [Bool.or_false], Nat.le_refl 0⟩
  refine ⟨1 + D, by omega, ?_⟩
  unfold f_L_act_118
  rw [show f_L_act_132 FU τ (nI c) c (W_b O) (W_b O) 0 (τ 50 1 0) = _ from e, ac_ac, f_L_act_132_s, L_K h, if_pos (it_y _), hy]
  have e9 : (O || an (fun k => W_hh v c k && (W_rm v c || !decide (v 1 k 3 = 1) || O)) K) = an (W_st v c) K := by
    rw [show an (W_st v c) K = (an (W_off v c) K || an (fun k => W_hh v c k && (W_rm v c || !decide (v 1 k 3 = 1))) K) from an_or (W_off v c) _ K, hO]
    cases O
    · rw [an_congr (Q := fun k => W_hh v c k && (W_rm v c || !decide (v 1 k 3 = 1))) (fun k _ => by rw [Bool.or_false])]
    · rfl
  rw [e9]
end TK
