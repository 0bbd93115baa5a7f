/-! the law's state read as a row; loops with costs -/
theorem ni_2 (k : Nat) : nI k + 2 = nI (k + 2) := ni_add k 2
theorem ni_3 (k : Nat) : nI k + 3 = nI (k + 3) := ni_add k 3
theorem q_240 {M : Nat} (h : M < 240) : ((240 : Int32) ≤ nI M) = False := by
  rw [show (240 : Int32) = nI 240 from rfl, ni_le (by omega) (by omega)]
  exact eq_false (by omega)
theorem O_1 {j k : Nat} (h : k < 24) : Own j 1 (24 * j + k) := by show (24 * j + k) / 24 = j; omega
theorem O_2 {j k : Nat} (h : k < 4) : Own j 2 (4 * j + k) := by show (4 * j + k) / 4 = j; omega
theorem O_16 {j k : Nat} (h : k < 4) : Own j 16 (4 * j + k) := by show (4 * j + k) / 4 = j; omega
theorem O_17 {j k : Nat} (h : k < 4) : Own j 17 (4 * j + k) := by show (4 * j + k) / 4 = j; omega
theorem O_18 {j k : Nat} (h : k < 4) : Own j 18 (4 * j + k) := by show (4 * j + k) / 4 = j; omega
theorem O_19 {j k : Nat} (h : k < 4) : Own j 19 (4 * j + k) := by show (4 * j + k) / 4 = j; omega
theorem ct_set {P P' : Nat → Bool} {n k : Nat} (hk : k < n) (h0 : P k = false) (h1 : P' k = true) (h : ∀ i, i ≠ k → P' i = P i) : ct P' n = ct P n + 1 := by
  induction n with
  | zero => omega
  | succ n ih =>
    rw [ct_s, ct_s]
    by_cases e : k = n
    · subst e
      rw [h0, h1, ct_congr (Q := P) (fun i hi => h i (by omega))]
      simp
    · rw [ih (by omega), h n (fun q => e q.symm)]
      split <;> rfl
def NQ (v : Sg) (K T : Nat) : Nat := ct (fun k => decide (v 1 k 10 = nI T)) K
def NW (v : Sg) (K : Nat) : Nat := ct (fun k => decide (v 1 k 3 = 1)) K
theorem nm_1 {n : Nat} (h : n < 2147483648) : (nI n = -1) = False := by
  apply eq_false
  intro q
  have e := congrArg Int32.toInt q
  rw [ni_int h] at e
  have : (-1 : Int32).toInt = -1 := by decide
  omega
theorem nm_2 {n : Nat} (h : n < 2147483648) : (-1 = nI n) = False := eq_false (fun q => (nm_1 h).mp q.symm)
theorem nm_n {n : Nat} (h : n < 2147483648) : nI n ≠ -1 := fun q => (nm_1 h).mp q
theorem m1_0 : ((-1 : Int32) < 0) = True := eq_true (by decide)
theorem m1_1 : ((0 : Int32) ≤ -1) = False := eq_false (by decide)
theorem NQ_le (v : Sg) (K T : Nat) : NQ v K T ≤ K := ct_le _ K
theorem NW_le (v : Sg) (K : Nat) : NW v K ≤ K := ct_le _ K
/-- what a call may do within one tick -/
def PG (T K : Nat) (v v' : Sg) : Prop := ∀ k, k < K → v' 1 k 2 = v 1 k 2 ∧ ((v' 1 k 3 = v 1 k 3 ∧ v' 1 k 5 = v 1 k 5) ∨ (v 1 k 3 = 0 ∧ v' 1 k 3 = 1 ∧ v' 1 k 5 = v 1 k 5) ∨ ((v 1 k 3 = 0 ∨ v 1 k 3 = 1) ∧ (v' 1 k 3 = 2 ∨ v' 1 k 3 = 3) ∧ v' 1 k 5 = nI T) ∨ (v 1 k 3 = 2 ∧ v' 1 k 3 = 3 ∧ v' 1 k 5 = v 1 k 5))
theorem PG.rf (T K : Nat) (v : Sg) : PG T K v v := fun _ _ => ⟨rfl, Or.inl ⟨rfl, rfl⟩⟩
theorem PG.of {T K : Nat} {v v' : Sg} (h : ∀ k, k < K → ∀ f, f ≤ 6 → v' 1 k f = v 1 k f) : PG T K v v' := fun k hk => ⟨h k hk 2 (by decide), Or.inl ⟨h k hk 3 (by decide), h k hk 5 (by decide)⟩⟩
theorem PG.trans {T K : Nat} {v v' v'' : Sg} (h : PG T K v v') (h' : PG T K v' v'') : PG T K v v'' := by
  intro k hk
  obtain ⟨a, b⟩ := h k hk
  obtain ⟨a', b'⟩ := h' k hk
  refine ⟨a'.trans a, ?_⟩
  have n01 : ¬ (0 : Int32) = 1 := by decide
  have n02 : ¬ (0 : Int32) = 2 := by decide
  have n03 : ¬ (0 : Int32) = 3 := by decide
  have n12 : ¬ (1 : Int32) = 2 := by decide
  have n13 : ¬ (1 : Int32) = 3 := by decide
  have n10 : ¬ (1 : Int32) = 0 := by decide
  have n20 : ¬ (2 : Int32) = 0 := by decide
  have n21 : ¬ (2 : Int32) = 1 := by decide
  have n23 : ¬ (2 : Int32) = 3 := by decide
  have n30 : ¬ (3 : Int32) = 0 := by decide
  have n31 : ¬ (3 : Int32) = 1 := by decide
  have n32 : ¬ (3 : Int32) = 2 := by decide
  rcases b with ⟨s, x⟩ | ⟨s0, s, x⟩ | ⟨s0, s | s, x⟩ | ⟨s0, s, x⟩ <;> rcases b' with ⟨s', x'⟩ | ⟨s0', s', x'⟩ | ⟨s0' | s0', s' | s', x'⟩ | ⟨s0', s', x'⟩ <;> simp_all
def rw0 (τ : Sg) (q : Nat) : Int32 := match q with
  | 0 => τ 40 0 3
  | 1 => τ 50 0 2
  | 2 => τ 50 1 2
  | 3 => τ 40 0 7
  | 4 => τ 40 0 8
  | 5 => τ 40 0 9
  | 6 => τ 40 0 10
  | 7 => τ 40 0 11
  | 8 => τ 40 0 12
  | 9 => τ 40 0 13
  | _ => τ 50 2 2
def rwL (τ : Sg) (q : Nat) : Int32 :=
  if q < 11 then rw0 τ q else if q < 15 then τ 46 0 (q - 11) else if q < 19 then τ 47 0 (q - 15) else if q < 23 then τ 48 0 (q - 19 + 1)
  else if q < 55 then τ 41 ((q - 23) % 4) ((q - 23) / 4) else if q < 319 then τ 42 ((q - 55) % 24) ((q - 55) / 24)
  else if q < 703 then τ 43 (4 * ((q - 319) % 24) + (q - 319) / 24 % 4) ((q - 319) / 24 / 4)
  else if q < 1087 then τ 44 (4 * ((q - 703) / 4 % 24) + (q - 703) / 4 / 24) ((q - 703) % 4) else τ 49 ((q - 1087) / 4) ((q - 1087) % 4)
theorem g_46 (τ : Sg) {i : Nat} (h : i < 4) : rwL τ (11 + i) = τ 46 0 i := by
  unfold rwL
  rw [if_neg (by omega), if_pos (by omega), show 11 + i - 11 = i by omega]
theorem g_47 (τ : Sg) {i : Nat} (h : i < 4) : rwL τ (15 + i) = τ 47 0 i := by
  unfold rwL
  rw [if_neg (by omega), if_neg (by omega), if_pos (by omega), show 15 + i - 15 = i by omega]
theorem g_48 (τ : Sg) {i : Nat} (h : i < 4) : rwL τ (19 + i) = τ 48 0 (i + 1) := by
  unfold rwL
  rw [if_neg (by omega), if_neg (by omega), if_neg (by omega), if_pos (by omega), show 19 + i - 19 = i by omega]
theorem g_41 (τ : Sg) {c f : Nat} (hc : c < 4) (hf : f < 8) : rwL τ (23 + 4 * f + c) = τ 41 c f := by
  unfold rwL
  rw [if_neg (by omega), if_neg (by omega), if_neg (by omega), if_neg (by omega), if_pos (by omega), show (23 + 4 * f + c - 23) % 4 = c by omega, show (23 + 4 * f + c - 23) / 4 = f by omega]
theorem g_42 (τ : Sg) {k f : Nat} (hk : k < 24) (hf : f < 11) : rwL τ (55 + 24 * f + k) = τ 42 k f := by
  unfold rwL
  rw [if_neg (by omega), if_neg (by omega), if_neg (by omega), if_neg (by omega), if_neg (by omega), if_pos (by omega), show (55 + 24 * f + k - 55) % 24 = k by omega, show (55 + 24 * f + k - 55) / 24 = f by omega]
theorem g_43 (τ : Sg) {c k f : Nat} (hc : c < 4) (hk : k < 24) (hf : f < 4) : rwL τ (319 + 96 * f + 24 * c + k) = τ 43 (4 * k + c) f := by
  unfold rwL
  rw [if_neg (by omega), if_neg (by omega), if_neg (by omega), if_neg (by omega), if_neg (by omega), if_neg (by omega), if_pos (by omega), show (319 + 96 * f + 24 * c + k - 319) % 24 = k by omega, show (319 + 96 * f + 24 * c + k - 319) / 24 % 4 = c by omega, show (319 + 96 * f + 24 * c + k - 319) / 24 / 4 = f by omega]
theorem g_44 (τ : Sg) {c k q : Nat} (hc : c < 4) (hk : k < 24) (hq : q < 4) : rwL τ (703 + 4 * (24 * c + k) + q) = τ 44 (4 * k + c) q := by
  unfold rwL
  rw [if_neg (by omega), if_neg (by omega), if_neg (by omega), if_neg (by omega), if_neg (by omega), if_neg (by omega), if_neg (by omega), if_pos (by omega), show (703 + 4 * (24 * c + k) + q - 703) / 4 % 24 = k by omega, show (703 + 4 * (24 * c + k) + q - 703) / 4 / 24 = c by omega, show (703 + 4 * (24 * c + k) + q - 703) % 4 = q by omega]
theorem g_49 (τ : Sg) {i q : Nat} (hq : q < 4) : rwL τ (1087 + 4 * i + q) = τ 49 i q := by
  unfold rwL
  rw [if_neg (by omega), if_neg (by omega), if_neg (by omega), if_neg (by omega), if_neg (by omega), if_neg (by omega), if_neg (by omega), if_neg (by omega), show (1087 + 4 * i + q - 1087) / 4 = i by omega, show (1087 + 4 * i + q - 1087) % 4 = q by omega]
theorem r0_ne {τ : Sg} {k o i : Nat} {x : Int32} (h : k ≠ 40) (h' : k ≠ 50) (q : Nat) : rw0 (sup τ k o i x) q = rw0 τ q := by
  have a : ∀ o' i', sup τ k o i x 40 o' i' = τ 40 o' i' := fun _ _ => if_neg (fun z => h z.1.symm)
  have b : ∀ o' i', sup τ k o i x 50 o' i' = τ 50 o' i' := fun _ _ => if_neg (fun z => h' z.1.symm)
  unfold rw0
  simp only [a, b]
theorem u_41 (τ : Sg) {c f : Nat} (hc : c < 4) (hf : f < 8) (x : Int32) : rwL (sup τ 41 c f x) = ru (rwL τ) (23 + 4 * f + c) x := by
  funext q
  unfold ru
  by_cases h : q = 23 + 4 * f + c
  · rw [if_pos h, h, g_41 _ hc hf]
    exact s_at _ _ _ _ _
  · rw [if_neg h]
    unfold rwL
    rw [r0_ne (by decide) (by decide)]
    repeat' split
    all_goals first | rfl | exact if_neg (fun z => h (by omega))
theorem u_42 (τ : Sg) {k f : Nat} (hk : k < 24) (hf : f < 11) (x : Int32) : rwL (sup τ 42 k f x) = ru (rwL τ) (55 + 24 * f + k) x := by
  funext q
  unfold ru
  by_cases h : q = 55 + 24 * f + k
  · rw [if_pos h, h, g_42 _ hk hf]
    exact s_at _ _ _ _ _
  · rw [if_neg h]
    unfold rwL
    rw [r0_ne (by decide) (by decide)]
    repeat' split
    all_goals first | rfl | exact if_neg (fun z => h (by omega))
theorem u_43 (τ : Sg) {c k f : Nat} (hc : c < 4) (hk : k < 24) (hf : f < 4) (x : Int32) : rwL (sup τ 43 (4 * k + c) f x) = ru (rwL τ) (319 + 96 * f + 24 * c + k) x := by
  funext q
  unfold ru
  by_cases h : q = 319 + 96 * f + 24 * c + k
  · rw [if_pos h, h, g_43 _ hc hk hf]
    exact s_at _ _ _ _ _
  · rw [if_neg h]
    unfold rwL
    rw [r0_ne (by decide) (by decide)]
    repeat' split
    all_goals first | rfl | exact if_neg (fun z => h (by omega))
theorem u_44 (τ : Sg) {c k i : Nat} (hc : c < 4) (hk : k < 24) (hi : i < 4) (x : Int32) : rwL (sup τ 44 (4 * k + c) i x) = ru (rwL τ) (703 + 4 * (24 * c + k) + i) x := by
  funext q
  unfold ru
  by_cases h : q = 703 + 4 * (24 * c + k) + i
  · rw [if_pos h, h, g_44 _ hc hk hi]
    exact s_at _ _ _ _ _
  · rw [if_neg h]
    unfold rwL
    rw [r0_ne (by decide) (by decide)]
    repeat' split
    all_goals first | rfl | exact if_neg (fun z => h (by omega))
theorem u_46 (τ : Sg) {i : Nat} (hi : i < 4) (x : Int32) : rwL (sup τ 46 0 i x) = ru (rwL τ) (11 + i) x := by
  funext q
  unfold ru
  by_cases h : q = 11 + i
  · rw [if_pos h, h, g_46 _ hi]
    exact s_at _ _ _ _ _
  · rw [if_neg h]
    unfold rwL
    rw [r0_ne (by decide) (by decide)]
    repeat' split
    all_goals first | rfl | exact if_neg (fun z => h (by omega))
theorem u_47 (τ : Sg) {i : Nat} (hi : i < 4) (x : Int32) : rwL (sup τ 47 0 i x) = ru (rwL τ) (15 + i) x := by
  funext q
  unfold ru
  by_cases h : q = 15 + i
  · rw [if_pos h, h, g_47 _ hi]
    exact s_at _ _ _ _ _
  · rw [if_neg h]
    unfold rwL
    rw [r0_ne (by decide) (by decide)]
    repeat' split
    all_goals first | rfl | exact if_neg (fun z => h (by omega))
theorem u_48 (τ : Sg) {i : Nat} (hi : i < 4) (x : Int32) : rwL (sup τ 48 0 (i + 1) x) = ru (rwL τ) (19 + i) x := by
  funext q
  unfold ru
  by_cases h : q = 19 + i
  · rw [if_pos h, h, g_48 _ hi]
    exact s_at _ _ _ _ _
  · rw [if_neg h]
    unfold rwL
    rw [r0_ne (by decide) (by decide)]
    repeat' split
    all_goals first | rfl | exact if_neg (fun z => h (by omega))
theorem u_40 (τ : Sg) {f p : Nat} (hp : p < 10) (h1 : p ≠ 1) (h2 : p ≠ 2) (hf : f = if p = 0 then 3 else if p = 9 then 13 else p + 4) (x : Int32) : rwL (sup τ 40 0 f x) = ru (rwL τ) p x := by
  subst hf
  funext q
  unfold ru
  by_cases h : q = p
  · subst h
    rw [if_pos rfl]
    unfold rwL
    rw [if_pos (by omega)]
    rcases (show q = 0 ∨ q = 3 ∨ q = 4 ∨ q = 5 ∨ q = 6 ∨ q = 7 ∨ q = 8 ∨ q = 9 by omega) with rfl | rfl | rfl | rfl | rfl | rfl | rfl | rfl <;> rfl
  · rw [if_neg h]
    unfold rwL
    by_cases h9 : q < 11
    · rw [if_pos h9, if_pos h9]
      rcases (show p = 0 ∨ p = 3 ∨ p = 4 ∨ p = 5 ∨ p = 6 ∨ p = 7 ∨ p = 8 ∨ p = 9 by omega) with rfl | rfl | rfl | rfl | rfl | rfl | rfl | rfl <;> rcases (show q = 0 ∨ q = 1 ∨ q = 2 ∨ q = 3 ∨ q = 4 ∨ q = 5 ∨ q = 6 ∨ q = 7 ∨ q = 8 ∨ q = 9 ∨ q = 10 by omega) with rfl | rfl | rfl | rfl | rfl | rfl | rfl | rfl | rfl | rfl | rfl <;> first | exact absurd rfl h | rfl
    · rw [if_neg h9, if_neg h9]
      repeat' split
      all_goals rfl
/-- a message more in the law's list -/
theorem u_msg (τ : Sg) (a b c d : Int32) : rwL (t_msg τ (t_g a b c d)) = ru (ru (ru (ru (ru (rwL τ) (1087 + 4 * q_nn τ 2) a) (1087 + 4 * q_nn τ 2 + 1) b) (1087 + 4 * q_nn τ 2 + 2) c) (1087 + 4 * q_nn τ 2 + 3) d) 10 (nI (q_nn τ 2 + 1)) := by
  funext q
  generalize hM : q_nn τ 2 = M
  have e50 : ∀ i j, t_msg τ (t_g a b c d) 50 i j = t_add τ 2 50 i j := t_msg50 τ _
  have eo : ∀ k i j, k ≠ 50 → ¬ (k = 49 ∧ i = M) → t_msg τ (t_g a b c d) k i j = τ k i j := fun k i j h h' => t_msg_k (fun z => h z.1) (fun z => h' (by rw [← hM]; exact z.2))
  by_cases h10 : q = 10
  · subst h10
    rw [ru_eq]
    show t_msg τ (t_g a b c d) 50 2 2 = _
    rw [e50, t_add2, hM]
  rw [ru_ne h10]
  by_cases hm : ∃ f, f < 4 ∧ q = 1087 + 4 * M + f
  · obtain ⟨f, hf, rfl⟩ := hm
    rw [g_49 _ hf]
    have e49 : t_msg τ (t_g a b c d) 49 M f = t_g a b c d f := by
      show (if 49 = 49 ∧ M = q_nn τ 2 then _ else _) = _
      rw [hM, if_pos ⟨rfl, rfl⟩]
    rw [e49]
    rcases (show f = 0 ∨ f = 1 ∨ f = 2 ∨ f = 3 by omega) with rfl | rfl | rfl | rfl
    · rw [ru_ne (by omega), ru_ne (by omega), ru_ne (by omega), Nat.add_zero, ru_eq]; rfl
    · rw [ru_ne (by omega), ru_ne (by omega), ru_eq]; rfl
    · rw [ru_ne (by omega), ru_eq]; rfl
    · rw [ru_eq]; rfl
  · have hq : ∀ f, f < 4 → q ≠ 1087 + 4 * M + f := fun f hf z => hm ⟨f, hf, z⟩
    rw [ru_ne (hq 3 (by decide)), ru_ne (hq 2 (by decide)), ru_ne (hq 1 (by decide)), ru_ne (show q ≠ 1087 + 4 * M from hq 0 (by decide))]
    unfold rwL
    by_cases h9 : q < 11
    · rw [if_pos h9, if_pos h9]
      rcases (show q = 0 ∨ q = 1 ∨ q = 2 ∨ q = 3 ∨ q = 4 ∨ q = 5 ∨ q = 6 ∨ q = 7 ∨ q = 8 ∨ q = 9 by omega) with rfl | rfl | rfl | rfl | rfl | rfl | rfl | rfl | rfl | rfl <;> rfl
    · rw [if_neg h9, if_neg h9]
      repeat' split
      all_goals first | rfl | skip
      refine eo 49 _ _ (by decide) (fun z => ?_)
      have z2 := z.2
      exact hq ((q - 1087) % 4) (by omega) (by omega)
theorem u_new49 {i M q : Nat} (h : i < M) (hq : q < 4) : 1087 + 4 * i + q ≠ 1087 + 4 * M := by omega
/-! what is made: costs -/
theorem ac_0 (x : Option (Int32 × Sg × Nat)) : ac 0 x = x := by
  unfold ac
  cases x with
  | none => rfl
  | some q =>
    show some (q.1, q.2.1, 0 + q.2.2) = some q
    rw [Nat.zero_add]
theorem ac_ac (a b : Nat) (x : Option (Int32 × Sg × Nat)) : ac a (ac b x) = ac (a + b) x := by
  unfold ac
  cases x with
  | none => rfl
  | some q =>
    show some (q.1, q.2.1, a + (b + q.2.2)) = some (q.1, q.2.1, a + b + q.2.2)
    rw [Nat.add_assoc]
theorem ac_some (n : Nat) (r : Int32) (τ : Sg) (d : Nat) : ac n (some (r, τ, d)) = some (r, τ, n + d) := rfl
theorem bq_some (r : Int32) (τ : Sg) (d : Nat) (f : Int32 → Sg → Option (Int32 × Sg × Nat)) : bq (some (r, τ, d)) f = ac d (f r τ) := rfl
theorem bqx_some (r : Int32) (τ : Sg) (d : Nat) (f : Int32 → Sg → Option (Int32 × Sg × Sg × Nat)) : bqx (some (r, τ, d)) f = acx d (f r τ) := rfl
theorem acx_some (n : Nat) (r : Int32) (σ τ : Sg) (d : Nat) : acx n (some (r, σ, τ, d)) = some (r, σ, τ, n + d) := rfl
theorem acx_0 (x : Option (Int32 × Sg × Sg × Nat)) : acx 0 x = x := by
  unfold acx
  cases x with
  | none => rfl
  | some q =>
    show some (q.1, q.2.1, q.2.2.1, 0 + q.2.2.2) = some q
    rw [Nat.zero_add]
theorem acx_acx (a b : Nat) (x : Option (Int32 × Sg × Sg × Nat)) : acx a (acx b x) = acx (a + b) x := by
  unfold acx
  cases x with
  | none => rfl
  | some q =>
    show some (q.1, q.2.1, q.2.2.1, a + (b + q.2.2.2)) = some (q.1, q.2.1, q.2.2.1, a + b + q.2.2.2)
    rw [Nat.add_assoc]
/-- two loops side by side, the second with what it makes -/
theorem lpL {A B R : Type} (g : Nat → A → Nat → R) (h : Nat → B → Nat → Option (Int32 × Sg × Nat)) (N : Nat) (hN : N < 65536) (Inv : Nat → A → B → Nat → Prop)
    (step : ∀ n m k a b D, k < N → Inv k a b D → ∃ a' b' d, Inv (k + 1) a' b' (D + d) ∧ g (n + 1) a k = g n a' (k + 1) ∧ h (m + 1) b k = ac d (h m b' (k + 1))) {a : A} {b : B} (h0 : Inv 0 a b 0) :
    ∃ n m a' b' D, Inv N a' b' D ∧ g FU a 0 = g (n + 1) a' N ∧ h FU b 0 = ac D (h (m + 1) b' N) := by
  have key : ∀ k, k ≤ N → ∃ a' b' D, Inv k a' b' D ∧ g (65535 - k + 1) a' k = g FU a 0 ∧ ac D (h (65535 - k + 1) b' k) = h FU b 0 := by
    intro k
    induction k with
    | zero => intro _; exact ⟨a, b, 0, h0, rfl, ac_0 _⟩
    | succ k ih =>
      intro hk
      obtain ⟨a', b', D, i1, i2, i3⟩ := ih (by omega)
      obtain ⟨a2, b2, d, j1, j2, j3⟩ := step (65535 - (k + 1) + 1) (65535 - (k + 1) + 1) k a' b' D (by omega) i1
      rw [show 65535 - (k + 1) + 1 = 65535 - k by omega] at j2 j3
      refine ⟨a2, b2, D + d, j1, ?_, ?_⟩
      · rw [show 65535 - (k + 1) + 1 = 65535 - k by omega]
        exact j2.symm.trans i2
      · rw [show 65535 - (k + 1) + 1 = 65535 - k by omega, ← ac_ac, ← j3]
        exact i3
  obtain ⟨a', b', D, i1, i2, i3⟩ := key N (Nat.le_refl N)
  exact ⟨_, _, a', b', D, i1, i2.symm, i3.symm⟩
/-- one loop, its index a number -/
theorem lpN {A R : Type} (g : Nat → A → Nat → R) (N : Nat) (hN : N < 65536) (Inv : Nat → A → Prop)
    (step : ∀ n k a, k < N → Inv k a → ∃ a', Inv (k + 1) a' ∧ g (n + 1) a k = g n a' (k + 1)) {a : A} (h0 : Inv 0 a) :
    ∃ n a', Inv N a' ∧ g FU a 0 = g (n + 1) a' N := by
  obtain ⟨n, m, a', b', D, i1, i2, i3⟩ := lpL g (fun (_ : Nat) (_ : Unit) (_ : Nat) => none) N hN (fun k a _ _ => Inv k a) (fun n m k a b D hk hI => by
    obtain ⟨a', j1, j2⟩ := step n k a hk hI
    exact ⟨a', (), 0, j1, j2, rfl⟩) (a := a) (b := ()) h0
  exact ⟨n, a', i1, i2⟩
/-- one loop with what it makes -/
theorem lpC {B : Type} (h : Nat → B → Nat → Option (Int32 × Sg × Nat)) (N : Nat) (hN : N < 65536) (Inv : Nat → B → Nat → Prop)
    (step : ∀ m k b D, k < N → Inv k b D → ∃ b' d, Inv (k + 1) b' (D + d) ∧ h (m + 1) b k = ac d (h m b' (k + 1))) {b : B} (h0 : Inv 0 b 0) :
    ∃ m b' D, Inv N b' D ∧ h FU b 0 = ac D (h (m + 1) b' N) := by
  obtain ⟨n, m, a', b', D, i1, i2, i3⟩ := lpL (fun (_ : Nat) (_ : Unit) (_ : Nat) => ()) h N hN (fun k _ b D => Inv k b D) (fun n m k a b D hk hI => by
    obtain ⟨b', d, j1, j2⟩ := step m k b D hk hI
    exact ⟨(), b', d, j1, rfl, j2⟩) (a := ()) (b := b) h0
  exact ⟨m, b', D, i1, i3⟩
/-! the law's lists -/
def CB (τ : Sg) : Prop := (q_cc τ 2 = 0 ∨ 10 ≤ q_cc τ 2) ∧ q_cc τ 2 ≤ 10 + 2 * q_nn τ 2 ∧ τ 40 0 12 = 30
def pt (τ : Sg) : Nat := 3 * q_nn τ 2 + 4 * q_cc τ 2
/-- the law's frame within a tick: what it does not touch -/
def TP (τ τ' : Sg) : Prop := τ' 51 = τ 51 ∧ τ' 50 3 = τ 50 3 ∧ τ' 50 0 = τ 50 0 ∧ τ' 50 1 = τ 50 1
def LL (F C K M T U j : Nat) (σ τ : Sg) : Prop := LU F C K M T U (vw j σ) (rwL τ) ∧ CB τ
def SQ (j : Nat) (σ τ σ' τ' : Sg) : Prop := Fr j σ σ' ∧ TP τ τ'
theorem TP.rf (τ : Sg) : TP τ τ := ⟨rfl, rfl, rfl, rfl⟩
theorem TP.trans {a b c : Sg} (h : TP a b) (h' : TP b c) : TP a c := ⟨h'.1.trans h.1, h'.2.1.trans h.2.1, h'.2.2.1.trans h.2.2.1, h'.2.2.2.trans h.2.2.2⟩
theorem TP.put {k : Nat} (h : k ≠ 50) (h' : k ≠ 51) (τ : Sg) (o i : Nat) (x : Int32) : TP τ (sup τ k o i x) := by
  refine ⟨s_ne (Ne.symm h'), ?_, ?_, ?_⟩ <;> exact congrFun (s_ne (Ne.symm h)) _
theorem SQ.rf (j : Nat) (σ τ : Sg) : SQ j σ τ σ τ := ⟨Fr.rf j σ, TP.rf τ⟩
theorem SQ.trans {j : Nat} {σ τ σ' τ' σ'' τ'' : Sg} (h : SQ j σ τ σ' τ') (h' : SQ j σ' τ' σ'' τ'') : SQ j σ τ σ'' τ'' := ⟨h.1.trans h'.1, h.2.trans h'.2⟩
theorem SQ.c {j k o : Nat} {σ τ σ' τ' : Sg} (h : SQ j σ τ σ' τ') (hO : Own j k o) (i : Nat) (x : Int32) : SQ j σ τ (sup σ' k o i x) τ' := ⟨h.1.trans (Fr.put hO σ' i x), h.2⟩
theorem SQ.l {j k : Nat} {σ τ σ' τ' : Sg} (h : SQ j σ τ σ' τ') (hk : k ≠ 50) (hk' : k ≠ 51) (o i : Nat) (x : Int32) : SQ j σ τ σ' (sup τ' k o i x) := ⟨h.1, h.2.trans (TP.put hk hk' τ' o i x)⟩
theorem pt_put {k : Nat} (hk : k ≠ 50) (τ : Sg) (o i : Nat) (x : Int32) : pt (sup τ k o i x) = pt τ := by
  unfold pt q_nn q_cc
  rw [s_ne (Ne.symm hk)]
theorem nn_put {k : Nat} (hk : k ≠ 50) (τ : Sg) (o i : Nat) (x : Int32) (q : Nat) : q_nn (sup τ k o i x) q = q_nn τ q := by
  unfold q_nn
  rw [s_ne (Ne.symm hk)]
theorem cb_put {k : Nat} (hk : k ≠ 50 ∧ k ≠ 40) {τ : Sg} (h : CB τ) (o i : Nat) (x : Int32) : CB (sup τ k o i x) := by
  unfold CB q_nn q_cc at h ⊢
  rw [s_ne (Ne.symm hk.1), s_ne (Ne.symm hk.2)]
  exact h
theorem cb_p40 {i : Nat} (hi : i ≠ 12) {τ : Sg} (h : CB τ) (x : Int32) : CB (sup τ 40 0 i x) := by
  unfold CB q_nn q_cc at h ⊢
  rw [s_ne (by decide), s_nf (Ne.symm hi)]
  exact h
section LW
variable {F C K M T U j : Nat} {σ τ v : Sg} {r : Nat → Int32}
theorem L_F (h : LU F C K M T U v (rwL τ)) : τ 40 0 3 = nI F := (show rwL τ 0 = nI F from B_F h)
theorem L_C (h : LU F C K M T U v (rwL τ)) : τ 50 0 2 = nI C := (show rwL τ 1 = nI C from B_C h)
theorem L_K (h : LU F C K M T U v (rwL τ)) : τ 50 1 2 = nI K := (show rwL τ 2 = nI K from B_K h)
theorem L_T (h : LU F C K M T U v (rwL τ)) : τ 40 0 7 = nI T := (show rwL τ 3 = nI T from B_T h)
theorem L_M (h : LU F C K M T U v (rwL τ)) : τ 50 2 2 = nI M := (show rwL τ 10 = nI M from B_M h)
theorem N_C (h : LU F C K M T U v (rwL τ)) : q_nn τ 0 = C := by
  have := D_C h
  unfold q_nn
  rw [L_C h, ni_cl (by omega)]
theorem N_K (h : LU F C K M T U v (rwL τ)) : q_nn τ 1 = K := by
  have := D_K h
  unfold q_nn
  rw [L_K h, ni_cl (by omega)]
theorem N_M (h : LU F C K M T U v (rwL τ)) : q_nn τ 2 = M := by
  have := D_M h
  unfold q_nn
  rw [L_M h, ni_cl (by omega)]
theorem L_set (h : LU F C K M T U v (rwL τ)) : τ 40 0 8 = v 12 0 0 ∧ τ 40 0 9 = v 12 0 1 ∧ τ 40 0 10 = v 12 0 2 ∧ τ 40 0 11 = v 12 0 3 ∧ τ 40 0 12 = v 12 0 4 := B_set h
theorem L_seed (h : LU F C K M T U v (rwL τ)) : τ 40 0 13 = v 4 0 4 := (show rwL τ 9 = v 4 0 4 from B_seed h)
theorem L_call (h : LU F C K M T U v (rwL τ)) {k f : Nat} (hk : k < K) (hf : f < 11) (h9 : f ≠ 9) : τ 42 k f = v 1 k f := by
  have := D_K h
  exact (g_42 τ (by omega) hf).symm.trans ((h.2.2.2.2.1 k hk).1 f hf h9)
theorem L_car (h : LU F C K M T U v (rwL τ)) {c f : Nat} (hc : c < C) (hf : f < 8) : τ 41 c f = v 2 c f := by
  have := D_C h
  exact (g_41 τ (by omega) hf).symm.trans ((h.2.2.2.1 c hc).1 f hf)
theorem L_held (h : LU F C K M T U v (rwL τ)) {c k : Nat} (hc : c < C) (hk : k < K) : τ 43 (4 * k + c) 0 = W_b (bt (v 2 c 8) k) := by
  have := D_C h
  have := D_K h
  have e := g_43 τ (c := c) (k := k) (f := 0) (by omega) (by omega) (by decide)
  exact e.symm.trans (B_held h hc hk)
theorem L_dec (h : LU F C K M T U v (rwL τ)) {c k : Nat} (hc : c < C) (hk : k < K) : τ 43 (4 * k + c) 2 = v 17 c k := by
  have := D_C h
  have := D_K h
  exact (g_43 τ (c := c) (k := k) (f := 2) (by omega) (by omega) (by decide)).symm.trans (h.2.2.2.2.2.2.2.1 c hc k hk).1
theorem L_own (h : LU F C K M T U v (rwL τ)) {c k : Nat} (hc : c < C) (hk : k < K) (hq : bt (v 2 c 8) k = true ∨ v 17 c k ≠ -1) : τ 43 (4 * k + c) 1 = v 16 c k := by
  have := D_C h
  have := D_K h
  exact (g_43 τ (c := c) (k := k) (f := 1) (by omega) (by omega) (by decide)).symm.trans ((h.2.2.2.2.2.2.2.1 c hc k hk).2.2.2.1 hq).1
theorem L_bid (h : LU F C K M T U v (rwL τ)) {c k q : Nat} (hc : c < C) (hk : k < K) (hq : q < 4) : τ 44 (4 * k + c) q = v 18 c (4 * k + q) := by
  have := D_C h
  have := D_K h
  exact (g_44 τ (c := c) (k := k) (q := q) (by omega) (by omega) hq).symm.trans ((h.2.2.2.2.2.2.2.1 c hc k hk).2.1 q hq)
theorem L_miss (h : LU F C K M T U v (rwL τ)) {c k t : Nat} (hc : c < C) (hk : k < K) (ht : t < 4) : bt (τ 43 (4 * k + c) 3) t = bt (v 19 c t) k := by
  have := D_C h
  have := D_K h
  rw [← g_43 τ (c := c) (k := k) (f := 3) (by omega) (by omega) (by decide)]
  exact (h.2.2.2.2.2.2.2.1 c hc k hk).2.2.1 t ht
theorem L_sent (h : LU F C K M T U v (rwL τ)) {i : Nat} (hi : i < 4) : τ 46 0 i = v 13 0 i := (g_46 τ hi).symm.trans (h.2.2.1 i hi).1
theorem L_lost (h : LU F C K M T U v (rwL τ)) {i : Nat} (hi : i < 4) : τ 47 0 i = v 14 0 i := (g_47 τ hi).symm.trans (h.2.2.1 i hi).2.1
theorem L_nob (h : LU F C K M T U v (rwL τ)) {i : Nat} (hi : i < 4) : τ 48 0 (i + 1) = v 15 0 (i + 1) := (g_48 τ hi).symm.trans (h.2.2.1 i hi).2.2.1
theorem a_send {σ : Sg} {j M d : Nat} (h5 : σ 5 j 0 = nI M) (hM : M < 240) (hd : d < 4) (s kk nn : Int32) : f_X4_send σ j s (nI d) kk nn = some (sup (sup (sup (sup (sup (sup σ 20 j M s) 21 j M (nI d)) 22 j M kk) 23 j M nn) 5 j 0 (nI (M + 1))) 13 j d (σ 13 j d + 1)) := by
  unfold f_X4_send f_X5_append
  simp (disch := omega) only [h5, q_240, if_false, ni_nn, ni_cl, p_nle, false_or, p_st, p_bv, s_ne, ni_1, f_X5_append_61]
/-- the law's send: what it makes, where it ends -/
def t_snd (τ : Sg) (d : Nat) (kk s nn : Int32) : Sg := sup (t_msg τ (t_g (nI d) kk s nn)) 46 0 d (τ 46 0 d + 1)
theorem t_snd_o {τ : Sg} {d : Nat} {kk s nn : Int32} {k : Nat} (h1 : k ≠ 46) (h2 : k ≠ 49) (h3 : k ≠ 50) (o i : Nat) : t_snd τ d kk s nn k o i = τ k o i := by
  unfold t_snd
  rw [s_ne h1]
  exact t_msg_k (fun z => h3 z.1) (fun z => h2 z.2.1)
theorem l_send0 (hb : CB τ) (hM : q_nn τ 2 = M) (hM2 : M < 240) {d : Nat} (hd : d < 4) (kk s nn : Int32) : ∃ e, f_L_send τ (nI d) kk s nn = some (0, t_snd τ d kk s nn, e) ∧ CB (t_snd τ d kk s nn) ∧ e + pt τ + 2 ≤ pt (t_snd τ d kk s nn) ∧ TP τ (t_snd τ d kk s nn) ∧ q_nn (t_snd τ d kk s nn) 2 = M + 1 := by
  obtain ⟨b1, b2, b3⟩ := hb
  have e46 : t_msg τ (t_g (nI d) kk s nn) 46 0 d = τ 46 0 d := t_msg_k (fun z => absurd z.1 (by decide)) (fun z => absurd z.2.1 (by decide))
  have n2 : q_nn (t_snd τ d kk s nn) 2 = M + 1 := by
    unfold t_snd
    rw [nn_put (by decide)]
    unfold q_nn
    rw [t_msg50, t_add2, hM, ni_cl (by omega)]
  have cc : q_cc (t_snd τ d kk s nn) 2 = t_cap τ 2 := by
    have hcap : t_cap τ 2 < 2147483648 := by
      unfold t_cap
      split
      · omega
      · split <;> omega
    unfold t_snd q_cc
    rw [s_ne (by decide), t_msg50, t_add3, ni_cl hcap]
  refine ⟨1 + t_cst τ 2, ?_, ?_, ?_, ?_, n2⟩
  · unfold f_L_send
    rw [if_neg (show ¬ 60000 ≤ q_cc τ 2 by omega), if_neg (show ¬ (nI d < 0 ∨ 4 ≤ (nI d).toNatClampNeg) by rw [gN hd (by decide)]; exact id), ni_cl (by omega), e46]
    rfl
  · refine ⟨?_, ?_, (t_snd_o (by decide) (by decide) (by decide) 0 12).trans b3⟩
    · rw [cc]
      unfold t_cap
      rw [hM] at b2 ⊢
      split
      · omega
      · split <;> omega
    · rw [cc, n2]
      unfold t_cap
      rw [hM] at b2 ⊢
      split
      · omega
      · split <;> omega
  · unfold pt
    rw [cc, n2, hM]
    unfold t_cst t_cap
    rw [hM]
    split
    · omega
    · split <;> omega
  · unfold t_snd
    refine TP.trans ⟨?_, ?_, ?_, ?_⟩ (TP.put (by decide) (by decide) _ _ _ _)
    · funext o i
      exact t_msg_k (fun z => absurd z.1 (by decide)) (fun z => absurd z.2.1 (by decide))
    · funext i
      exact t_msg_k (fun z => absurd z.2 (by decide)) (fun z => absurd z.2.1 (by decide))
    · funext i
      exact t_msg_k (fun z => absurd z.2 (by decide)) (fun z => absurd z.2.1 (by decide))
    · funext i
      exact t_msg_k (fun z => absurd z.2 (by decide)) (fun z => absurd z.2.1 (by decide))
theorem u_snd (hM : q_nn τ 2 = M) {d : Nat} (hd : d < 4) (kk s nn : Int32) : rwL (t_snd τ d kk s nn) = ru (ru (ru (ru (ru (ru (rwL τ) (1087 + 4 * M) (nI d)) (1087 + 4 * M + 1) kk) (1087 + 4 * M + 2) s) (1087 + 4 * M + 3) nn) 10 (nI (M + 1))) (11 + d) (τ 46 0 d + 1) := by
  unfold t_snd
  rw [u_46 _ hd, u_msg, hM]
theorem l_send (h : LL F C K M T U j σ τ) {d k n : Nat} {s : Int32} (hd : d < 4) (hk : k < K) (hn : n ≤ 1000) (hM : M < 240) (hs : (d = 0 ∧ s = -1) ∨ (1 ≤ d ∧ ∃ c, c < C ∧ s = nI c)) :
    ∃ σ' τ' e, f_X4_send σ j s (nI d) (nI k) (nI n) = some σ' ∧ f_L_send τ (nI d) (nI k) s (nI n) = some (0, τ', e) ∧ LL F C K (M + 1) T U j σ' τ' ∧ SQ j σ τ σ' τ' ∧ e + pt τ + 2 ≤ pt τ' ∧ V_ann (vw j σ') (M + 1) = V_ann (vw j σ) M + (if nI d = 0 then 1 else 0) ∧ ∀ q, q < 20 → q ≠ 5 → q ≠ 13 → vw j σ' q = vw j σ q := by
  obtain ⟨h, hb⟩ := h
  have hx : τ 46 0 d = σ 13 j d := L_sent h hd
  obtain ⟨e, i1, i2, i3, i4, i5⟩ := l_send0 hb (N_M h) hM hd (nI k) s (nI n)
  refine ⟨sup (sup (sup (sup (sup (sup σ 20 j M s) 21 j M (nI d)) 22 j M (nI k)) 23 j M (nI n)) 5 j 0 (nI (M + 1))) 13 j d (σ 13 j d + 1), _, e, a_send (A_M h) hM hd _ _ _, i1, ⟨?_, i2⟩, ⟨?_, i4⟩, i3, ?_, ?_⟩
  · rw [vs_13, vs_5, vs_23, vs_22, vs_21, vs_20, u_snd (N_M h) hd, hx]
    exact S_send h hd hk hn hM hs _
  · refine Fr.trans (Fr.trans (Fr.trans (Fr.trans (Fr.trans (Fr.put ?_ σ _ _) (Fr.put ?_ _ _ _)) (Fr.put ?_ _ _ _)) (Fr.put ?_ _ _ _)) (Fr.put ?_ _ _ _)) (Fr.put ?_ _ _ _) <;> exact (rfl : j = j)
  · rw [vs_13, vs_5, vs_23, vs_22, vs_21, vs_20]
    exact A_send d
  · intro q h1 h2 h3
    rw [vs_13, vs_5, vs_23, vs_22, vs_21, vs_20]
    rw [s_ne (by omega), s_ne (by omega), s_ne (by omega), s_ne (by omega), s_ne (by omega), s_ne (by omega)]
theorem l_announce (h : LL F C K M T U j σ τ) {k : Nat} (hk : k < K) (hM : M < 240) (hU : T < U) (h0 : vw j σ 1 k 3 ≠ 0) :
    ∃ σ' τ' e, f_X0_announce σ j (nI k) = some σ' ∧ f_L_announce τ (nI k) = some (0, τ', e) ∧ LL F C K (M + 1) T U j σ' τ' ∧ SQ j σ τ σ' τ' ∧ e + pt τ ≤ pt τ' ∧ V_ann (vw j σ') (M + 1) = V_ann (vw j σ) M + 1 ∧ (∀ k' f, f ≠ 7 → vw j σ' 1 k' f = if k' = k ∧ f = 10 then nI T else vw j σ 1 k' f) ∧ ∀ q, q < 20 → q ≠ 1 → q ≠ 5 → q ≠ 13 → vw j σ' q = vw j σ q := by
  have hK := D_K h.1
  have e7 : τ 42 k 7 = σ 1 (24 * j + k) 7 := L_call h.1 hk (by decide) (by decide)
  have g1 := S_told (S_rnd h.1 hk (σ 1 (24 * j + k) 7 + 1)) hk hU (by rw [s_nf (by decide)]; exact h0)
  rw [← vs_1, ← vs_1] at g1
  have e1 := u_42 τ (k := k) (f := 7) (by omega) (by decide) (σ 1 (24 * j + k) 7 + 1)
  have e2 := u_42 (sup τ 42 k 7 (σ 1 (24 * j + k) 7 + 1)) (k := k) (f := 10) (by omega) (by decide) (nI T)
  rw [e1] at e2
  have g2 : LL F C K M T U j (sup (sup σ 1 (24 * j + k) 7 (σ 1 (24 * j + k) 7 + 1)) 1 (24 * j + k) 10 (nI T)) (sup (sup τ 42 k 7 (σ 1 (24 * j + k) 7 + 1)) 42 k 10 (nI T)) := ⟨by rw [e2]; exact g1, cb_put (by decide) (cb_put (by decide) h.2 _ _ _) _ _ _⟩
  obtain ⟨σ', τ', e, i1, i2, i3, i4, i7, i5, i6⟩ := l_send g2 (d := 0) (n := 0) (s := -1) (by decide) hk (by decide) hM (Or.inl ⟨rfl, rfl⟩)
  rw [pt_put (by decide), pt_put (by decide)] at i7
  refine ⟨σ', τ', e, ?_, ?_, i3, ?_, by omega, ?_, ?_, ?_⟩
  · unfold f_X0_announce
    simp (disch := omega) only [ni_nn, ni_cl, p_nle, false_or, if_false, p_st, s_ne, A_T h.1]
    rw [show f_X4_send (sup (sup σ 1 (24 * j + k) 7 (σ 1 (24 * j + k) 7 + 1)) 1 (24 * j + k) 10 (nI T)) j (-1) 0 (nI k) 0 = some σ' from i1]
    rfl
  · unfold f_L_announce
    simp (disch := omega) only [N_K h.1, ni_nn, ni_cl, p_nle, false_or, if_false, p_st, s_ne, e7, L_T h.1]
    rw [show f_L_send (sup (sup τ 42 k 7 (σ 1 (24 * j + k) 7 + 1)) 42 k 10 (nI T)) 0 (nI k) (-1) 0 = some (0, τ', e) from i2, bq_some, ac_some]
    rfl
  · exact (SQ.l (SQ.l (SQ.c (SQ.c (SQ.rf j σ τ) (O_1 (by omega)) _ _) (O_1 (by omega)) _ _) (by decide) (by decide) _ _ _) (by decide) (by decide) _ _ _).trans i4
  · rw [i5, vs_1, vs_1, if_pos (show nI 0 = 0 from rfl)]
    unfold V_ann
    rw [s_ne (by decide), s_ne (by decide)]
  · intro k' f h7
    rw [i6 1 (by decide) (by decide) (by decide), vs_1, vs_1]
    by_cases w : k' = k
    · subst w
      by_cases w2 : f = 10
      · subst w2
        rw [s_at, if_pos ⟨rfl, rfl⟩]
      · rw [s_nf w2, s_nf h7, if_neg (fun q => w2 q.2)]
    · rw [s_no w, s_no w, if_neg (fun q => w q.1)]
  · intro q h1 h2 h3 h4
    rw [i6 q h1 h3 h4, vs_1, vs_1, s_ne h2, s_ne h2]
end LW
