/-! the law's text: its cars, its calls; the law's own numbers -/
section RDC
variable {n : Nat} {t : Nat → Int32} {σ τ : Sg} {F C K ns nc : Nat} {w : Nat → Int32} {X : Int32} {τ0 : Sg}
theorem rd_cars : ∀ k i x σ τ cnt, EX (g_carsT τ0 k i x) n t → i + k ≤ 4 → RD n (i_n t) x.1 σ → LU F i 0 0 0 0 (vw 1 σ) (rwL τ) → FR i 0 (rwL τ) → (∀ m, i ≤ m → m < i + k → q_d τ0 41 m 0 < F ∧ 1 ≤ q_d τ0 41 m 1 ∧ q_d τ0 41 m 1 ≤ 8 ∧ jrem (jbits (t_cell ns w (1 + m)) 0 4) X = nI (q_d τ0 41 m 0) ∧ 1 + jbits (t_cell ns w (1 + m)) 4 1 = nI (q_d τ0 41 m 1)) → cnt + k ≤ n →
    ∃ σ', (∀ f, f_X6_read_52 (f + k) σ 1 (nI cnt) = f_X6_read_52 f σ' 1 (nI (cnt + k))) ∧ RD n (i_n t) (g_carsT τ0 k i x).1 σ' ∧ LU F (i + k) 0 0 0 0 (vw 1 σ') (rwL (g_cars ns w X k i τ)) ∧ FR (i + k) 0 (rwL (g_cars ns w X k i τ)) ∧ GY σ σ' := by
  intro k
  induction k with
  | zero => exact fun i x σ τ cnt _ _ h1 h2 h3 _ _ => ⟨σ, fun f => rfl, h1, h2, h3, GY.rf σ⟩
  | succ k ih =>
    intro i x σ τ cnt hE hik hr hl hR hm hc
    obtain ⟨m1, m2, m3, m4, m5⟩ := hm i (Nat.le_refl i) (by omega)
    have hF := D_F hl
    obtain ⟨p1, p2, p3, p4, p5⟩ := P_car (EX.carsT k (i + 1) (g_carT τ0 i x) hE) (show q_d τ0 41 i 0 < 10000 by omega) (show q_d τ0 41 i 1 < 10000 by omega)
    obtain ⟨σ1, a1, a2, a3, a4⟩ := r_loop hr (show 1 < 9 by decide) (show cnt ≤ n by omega) p1
    have a2 : RD n (i_n t) (x.1 + 3) σ1 := a2
    obtain ⟨r1, r2, r3, r4⟩ := tc_row ns w X (show i < 4 by omega) (N_C hl) hR
    obtain ⟨σ2, b1, b2, b3, b4, b5⟩ := r_car a2 (hl.kf a1) (show i < 4 by omega) hR m1 m2 m3 p2 p3 p4 r1 (r2.trans m4) (r3.trans m5) r4
    rw [← p5] at b2
    obtain ⟨σ3, c1, c2, c3, c4, c5⟩ := ih (i + 1) (g_carT τ0 i x) σ2 (t_car ns w X τ i) (cnt + 1) hE (by omega) b2 b3 b4 (fun m h1 h2 => hm m (by omega) (by omega)) (by omega)
    refine ⟨σ3, fun f => ?_, c2, ?_, ?_, a1.gy.trans (b5.trans c5)⟩
    · rw [show f + (k + 1) = (f + k) + 1 by omega, a4 (f + k) σ2 (st_car a3 b1), c1 f, show cnt + 1 + k = cnt + (k + 1) by omega]
    · rw [show i + (k + 1) = i + 1 + k by omega]
      exact c3
    · rw [show i + (k + 1) = i + 1 + k by omega]
      exact c4
theorem rd_calls : ∀ k i x σ τ cnt, EX (g_calsT τ0 k i x) n t → i + k ≤ 24 → RD n (i_n t) x.1 σ → LU F C i 0 0 0 (vw 1 σ) (rwL τ) → (∀ m, i ≤ m → m < i + k → q_d τ0 42 m 0 < F ∧ q_d τ0 42 m 1 < F ∧ q_d τ0 42 m 0 ≠ q_d τ0 42 m 1 ∧ q_d τ0 42 m 2 ≤ 999 ∧ t_fro ns w X m = nI (q_d τ0 42 m 0) ∧ t_too ns w X m = nI (q_d τ0 42 m 1) ∧ jbits (t_cell ns w (4 + m)) 8 4 = nI (q_d τ0 42 m 2)) → cnt + k ≤ n →
    ∃ σ', (∀ f, f_X6_read_52 (f + k) σ 1 (nI cnt) = f_X6_read_52 f σ' 1 (nI (cnt + k))) ∧ RD n (i_n t) (g_calsT τ0 k i x).1 σ' ∧ LU F C (i + k) 0 0 0 (vw 1 σ') (rwL (g_calls ns w X k i τ)) ∧ GY σ σ' := by
  intro k
  induction k with
  | zero => exact fun i x σ τ cnt _ _ h1 h2 _ _ => ⟨σ, fun f => rfl, h1, h2, GY.rf σ⟩
  | succ k ih =>
    intro i x σ τ cnt hE hik hr hl hm hc
    obtain ⟨m1, m2, m3, m4, m5, m6, m7⟩ := hm i (Nat.le_refl i) (by omega)
    have hF := D_F hl
    obtain ⟨p1, p2, p3, p4, p5, p6⟩ := P_call (EX.calsT k (i + 1) (g_calT τ0 i x) hE) (show q_d τ0 42 i 2 < 10000 by omega) (show q_d τ0 42 i 0 < 10000 by omega) (show q_d τ0 42 i 1 < 10000 by omega)
    obtain ⟨σ1, a1, a2, a3, a4⟩ := r_loop hr (show 2 < 9 by decide) (show cnt ≤ n by omega) p1
    have a2 : RD n (i_n t) (x.1 + 4) σ1 := a2
    obtain ⟨σ2, b1, b2, b3, b5⟩ := r_call a2 (hl.kf a1) (show i < 24 by omega) m1 m2 m3 m4 p2 p3 p4 p5
    rw [← p6] at b2
    rw [← m5, ← m6, ← m7] at b3
    obtain ⟨σ3, c1, c2, c3, c5⟩ := ih (i + 1) (g_calT τ0 i x) σ2 (t_cal ns w X τ i) (cnt + 1) hE (by omega) b2 b3 (fun m h1 h2 => hm m (by omega) (by omega)) (by omega)
    refine ⟨σ3, fun f => ?_, c2, ?_, a1.gy.trans (b5.trans c5)⟩
    · rw [show f + (k + 1) = (f + k) + 1 by omega, a4 (f + k) σ2 (st_call a3 b1), c1 f, show cnt + 1 + k = cnt + (k + 1) by omega]
    · rw [show i + (k + 1) = i + 1 + k by omega]
      exact c3
/-! the law's own numbers -/
theorem nu_F (x : Int32) : ∃ F, 4 ≤ F ∧ F ≤ 11 ∧ 4 + jbits x 0 3 = nI F := by
  obtain ⟨b, hb, e⟩ := jb_ex x (f := 0) (m := 3) (by decide)
  exact ⟨4 + b, by omega, by omega, by rw [show jbits x 0 3 = nI b from e]; exact ni_add 4 b⟩
theorem nu_base (x : Int32) : ∃ N P W D S, N ≤ 90 ∧ 3 ≤ P ∧ P ≤ 6 ∧ W ≤ 3 ∧ D ≤ 3 ∧ S ≤ 4095 ∧ t_noi x = nI N ∧ 3 + jbits x 9 2 = nI P ∧ jbits x 11 2 = nI W ∧ jbits x 13 2 = nI D ∧ jbits x 15 12 = nI S := by
  obtain ⟨b1, hb1, e1⟩ := jb_ex x (f := 4) (m := 5) (by decide)
  obtain ⟨b2, hb2, e2⟩ := jb_ex x (f := 9) (m := 2) (by decide)
  obtain ⟨b3, hb3, e3⟩ := jb_ex x (f := 11) (m := 2) (by decide)
  obtain ⟨b4, hb4, e4⟩ := jb_ex x (f := 13) (m := 2) (by decide)
  obtain ⟨b5, hb5, e5⟩ := jb_ex x (f := 15) (m := 12) (by decide)
  refine ⟨if jbits x 3 1 = 0 then 0 else 10 + b1, 3 + b2, b3, b4, b5, ?_, by omega, by omega, by omega, by omega, by omega, ?_, ?_, e3, e4, e5⟩
  · split <;> omega
  · unfold t_noi
    split
    · rfl
    · rw [show jbits x 4 5 = nI b1 from e1]
      exact ni_add 10 b1
  · rw [show jbits x 9 2 = nI b2 from e2]
    exact ni_add 3 b2
theorem nu_car (ns : Nat) (w : Nat → Int32) (hF : 4 ≤ F ∧ F ≤ 11) (m : Nat) : ∃ a c, a < F ∧ 1 ≤ c ∧ c ≤ 2 ∧ jrem (jbits (t_cell ns w (1 + m)) 0 4) (nI F) = nI a ∧ 1 + jbits (t_cell ns w (1 + m)) 4 1 = nI c := by
  obtain ⟨b1, hb1, e1⟩ := jb_ex (t_cell ns w (1 + m)) (f := 0) (m := 4) (by decide)
  obtain ⟨b2, hb2, e2⟩ := jb_ex (t_cell ns w (1 + m)) (f := 4) (m := 1) (by decide)
  refine ⟨b1 % F, 1 + b2, Nat.mod_lt _ (by omega), by omega, by omega, ?_, ?_⟩
  · rw [show jbits (t_cell ns w (1 + m)) 0 4 = nI b1 from e1]
    exact jr_mod b1 (by omega) F (by omega) (by omega)
  · rw [show jbits (t_cell ns w (1 + m)) 4 1 = nI b2 from e2]
    exact ni_add 1 b2
theorem nu_call (ns : Nat) (w : Nat → Int32) (hF : 4 ≤ F ∧ F ≤ 11) (m : Nat) : ∃ a b c, a < F ∧ b < F ∧ a ≠ b ∧ c ≤ 15 ∧ t_fro ns w (nI F) m = nI a ∧ t_too ns w (nI F) m = nI b ∧ jbits (t_cell ns w (4 + m)) 8 4 = nI c := by
  obtain ⟨b1, hb1, e1⟩ := jb_ex (t_cell ns w (4 + m)) (f := 0) (m := 4) (by decide)
  obtain ⟨b2, hb2, e2⟩ := jb_ex (t_cell ns w (4 + m)) (f := 4) (m := 4) (by decide)
  obtain ⟨b3, hb3, e3⟩ := jb_ex (t_cell ns w (4 + m)) (f := 8) (m := 4) (by decide)
  have ea : t_fro ns w (nI F) m = nI (b1 % F) := by
    unfold t_fro
    rw [show jbits (t_cell ns w (4 + m)) 0 4 = nI b1 from e1]
    exact jr_mod b1 (by omega) F (by omega) (by omega)
  have ha : b1 % F < F := Nat.mod_lt _ (by omega)
  have he : b2 % (F - 1) < F - 1 := Nat.mod_lt _ (by omega)
  have eb : t_too ns w (nI F) m = nI ((b1 % F + 1 + b2 % (F - 1)) % F) := by
    unfold t_too
    rw [ea, show jbits (t_cell ns w (4 + m)) 4 4 = nI b2 from e2, show nI F - 1 = nI (F - 1) from ni_sub (b := 1) (by omega), jr_mod b2 (by omega) (F - 1) (by omega) (by omega), ni_1, ni_add]
    exact jr_mod _ (by omega) F (by omega) (by omega)
  refine ⟨b1 % F, (b1 % F + 1 + b2 % (F - 1)) % F, b3, ha, Nat.mod_lt _ (by omega), ?_, by omega, ea, eb, e3⟩
  generalize b1 % F = a at ha ⊢
  generalize b2 % (F - 1) = e at he ⊢
  rcases Nat.lt_or_ge (a + 1 + e) F with q | q
  · rw [Nat.mod_eq_of_lt q]
    omega
  · rw [Nat.mod_eq_sub_mod q, Nat.mod_eq_of_lt (by omega)]
    omega
/-! the law's own start, cell by cell -/
theorem gc_o : ∀ k i (τ : Sg) {k' o x : Nat}, ¬ (k' = 50 ∧ o = 0) → ¬ (k' = 41 ∧ i ≤ o) → g_cars ns w X k i τ k' o x = τ k' o x := by
  intro k
  induction k with
  | zero => exact fun _ _ _ _ _ _ _ => rfl
  | succ k ih =>
    intro i τ k' o x h1 h2
    show g_cars ns w X k (i + 1) (t_car ns w X τ i) k' o x = _
    rw [ih (i + 1) _ h1 (fun z => h2 ⟨z.1, by omega⟩), tc_o ns w X τ i h1 (fun z => h2 ⟨z.1, by omega⟩)]
theorem gc_41 : ∀ k i (τ : Sg) {m x : Nat}, i ≤ m → m < i + k → g_cars ns w X k i τ 41 m x = if x = 1 then 1 + jbits (t_cell ns w (1 + m)) 4 1 else if x = 0 then jrem (jbits (t_cell ns w (1 + m)) 0 4) X else 0 := by
  intro k
  induction k with
  | zero => intro i τ m x h1 h2; omega
  | succ k ih =>
    intro i τ m x h1 h2
    show g_cars ns w X k (i + 1) (t_car ns w X τ i) 41 m x = _
    by_cases e : m = i
    · subst e
      rw [gc_o k (m + 1) _ (by omega) (by omega), tc_41]
    · exact ih (i + 1) _ (by omega) (by omega)
theorem gc_nn : ∀ k i (τ : Sg), q_nn τ 0 = i → i + k < 1000 → q_nn (g_cars ns w X k i τ) 0 = i + k := by
  intro k
  induction k with
  | zero => exact fun i τ h _ => h
  | succ k ih =>
    intro i τ h hk
    show q_nn (g_cars ns w X k (i + 1) (t_car ns w X τ i)) 0 = _
    rw [ih (i + 1) _ (by unfold q_nn; rw [tc_502, h, ni_cl (by omega)]) (by omega)]
    omega
theorem tl_42 (τ : Sg) (k x : Nat) (h : q_nn τ 1 = k) : t_cal ns w X τ k 42 k x = c_new (t_fro ns w X k) (t_too ns w X k) (jbits (t_cell ns w (4 + k)) 8 4) x := by
  unfold t_cal t_add
  rw [s_ne (by decide), s_ne (by decide), s_ne (by decide)]
  exact if_pos ⟨rfl, h.symm⟩
theorem tl_o (τ : Sg) (k : Nat) (h : q_nn τ 1 = k) {k' o x : Nat} (h1 : ¬ (k' = 50 ∧ o = 1)) (h2 : ¬ (k' = 42 ∧ o = k)) (h3 : k' ≠ 43) (h4 : k' ≠ 44) : t_cal ns w X τ k k' o x = τ k' o x := by
  unfold t_cal
  rw [t_add_k (fun z => h1 z)]
  unfold t_new
  rw [if_neg (fun z => h2 ⟨z.1, z.2.trans h⟩), if_neg (fun z => h3 z.1), if_neg (fun z => h4 z.1)]
theorem tl_nn (τ : Sg) (k : Nat) (h : q_nn τ 1 = k) (hk : k < 1000) : q_nn (t_cal ns w X τ k) 1 = k + 1 := by
  unfold t_cal q_nn
  rw [t_add2, (tn_n _ _ _ 1).1, h, ni_cl (by omega)]
theorem gl_o : ∀ k i (τ : Sg) {k' o x : Nat}, q_nn τ 1 = i → i + k < 1000 → ¬ (k' = 50 ∧ o = 1) → ¬ (k' = 42 ∧ i ≤ o) → k' ≠ 43 → k' ≠ 44 → g_calls ns w X k i τ k' o x = τ k' o x := by
  intro k
  induction k with
  | zero => exact fun _ _ _ _ _ _ _ _ _ _ _ => rfl
  | succ k ih =>
    intro i τ k' o x h hk h1 h2 h3 h4
    show g_calls ns w X k (i + 1) (t_cal ns w X τ i) k' o x = _
    rw [ih (i + 1) _ (tl_nn τ i h (by omega)) (by omega) h1 (fun z => h2 ⟨z.1, by omega⟩) h3 h4, tl_o τ i h h1 (fun z => h2 ⟨z.1, by omega⟩) h3 h4]
theorem gl_42 : ∀ k i (τ : Sg) {m x : Nat}, q_nn τ 1 = i → i + k < 1000 → i ≤ m → m < i + k → g_calls ns w X k i τ 42 m x = c_new (t_fro ns w X m) (t_too ns w X m) (jbits (t_cell ns w (4 + m)) 8 4) x := by
  intro k
  induction k with
  | zero => intro i τ m x _ _ h1 h2; omega
  | succ k ih =>
    intro i τ m x h hk h1 h2
    show g_calls ns w X k (i + 1) (t_cal ns w X τ i) 42 m x = _
    by_cases e : m = i
    · subst e
      rw [gl_o k (m + 1) _ (tl_nn τ m h (by omega)) (by omega) (by omega) (by omega) (by decide) (by decide), tl_42 τ m x h]
    · exact ih (i + 1) _ (tl_nn τ i h (by omega)) (by omega) (by omega) (by omega)
theorem gl_nn : ∀ k i (τ : Sg), q_nn τ 1 = i → i + k < 10 → q_cc τ 1 = (if i = 0 then 0 else 10) → q_nn (g_calls ns w X k i τ) 1 = i + k ∧ q_cc (g_calls ns w X k i τ) 1 ≤ 10 := by
  intro k
  induction k with
  | zero => exact fun i τ h _ h2 => ⟨h, by show q_cc τ 1 ≤ 10; rw [h2]; split <;> omega⟩
  | succ k ih =>
    intro i τ h hk hc
    have e := q_cc10 (τ := t_new τ (t_fro ns w X i) (t_too ns w X i) (jbits (t_cell ns w (4 + i)) 8 4)) (o := 1) (k := i) h (by omega) hc
    obtain ⟨a, b⟩ := ih (i + 1) (t_cal ns w X τ i) (tl_nn τ i h (by omega)) (by omega) (by rw [if_neg (by omega)]; exact e.2.2.2)
    exact ⟨by show q_nn (g_calls ns w X k (i + 1) (t_cal ns w X τ i)) 1 = _; rw [a]; omega, b⟩
end RDC
