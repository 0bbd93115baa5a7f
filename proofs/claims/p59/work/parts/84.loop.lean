/-! reading a text: calls, settings; the loop over its statements -/
section TK
variable {F C K M T U j : Nat} {σ τ v v' : Sg} {r : Nat → Int32}
/-- the law's list with a call more -/
theorem S_tnew (h : LU F C K M T U v (rwL τ)) (hK24 : K < 24) {a b m : Nat} (ha : a < F) (hb : b < F) (hab : a ≠ b) (hm : m ≤ 400000) (hv : ∀ k o i, ¬ (k = 1 ∧ o = K) → ¬ (k = 4 ∧ i = 2) → v' k o i = v k o i) (v2 : v' 4 0 2 = nI (K + 1))
    (v10 : v' 1 K 0 = nI a ∧ v' 1 K 1 = nI b ∧ v' 1 K 2 = nI m ∧ v' 1 K 3 = 0 ∧ v' 1 K 4 = -1 ∧ v' 1 K 5 = -1 ∧ v' 1 K 6 = -1 ∧ v' 1 K 7 = 0 ∧ v' 1 K 8 = -1 ∧ v' 1 K 10 = -1) : LU F C (K + 1) M T U v' (rwL (t_add (t_new τ (nI a) (nI b) (nI m)) 1)) := by
  have nK := N_K h
  have e502 : t_add (t_new τ (nI a) (nI b) (nI m)) 1 50 1 2 = nI (K + 1) := by
    rw [t_add2, (tn_n (τ := τ) _ _ _ 1).1, nK]
  have cell42 : ∀ f, t_add (t_new τ (nI a) (nI b) (nI m)) 1 42 K f = c_new (nI a) (nI b) (nI m) f := by
    intro f
    unfold t_add
    rw [s_ne (by decide), s_ne (by decide), s_ne (by decide)]
    exact if_pos ⟨rfl, nK.symm⟩
  have cell43 : ∀ c f, t_add (t_new τ (nI a) (nI b) (nI m)) 1 43 (4 * K + c) f = if f = 2 then -1 else 0 := by
    intro c f
    unfold t_add
    rw [s_ne (by decide), s_ne (by decide), s_ne (by decide)]
    show (if 43 = 42 ∧ _ then _ else _) = _
    rw [if_neg (fun z => absurd z.1 (by decide)), if_pos ⟨rfl, by rw [nK]; omega⟩]
  have cell44 : ∀ c q, q < 4 → t_add (t_new τ (nI a) (nI b) (nI m)) 1 44 (4 * K + c) q = -1 := by
    intro c q hq
    unfold t_add
    rw [s_ne (by decide), s_ne (by decide), s_ne (by decide)]
    show (if 44 = 42 ∧ _ then _ else _) = _
    rw [if_neg (fun z => absurd z.1 (by decide)), if_neg (fun z => absurd z.1 (by decide)), if_pos ⟨rfl, by rw [nK]; omega⟩, if_pos hq]
  have r42 : ∀ f, f < 11 → rwL (t_add (t_new τ (nI a) (nI b) (nI m)) 1) (55 + 24 * f + K) = c_new (nI a) (nI b) (nI m) f := fun f hf => (g_42 _ hK24 hf).trans (cell42 f)
  refine S_call h hK24 ha hb hab hm hv v2 v10 ?_ ?_ ?_ ?_ ?_ ?_ ?_ ?_
  · exact e502
  · exact ⟨r42 0 (by decide), r42 1 (by decide), r42 2 (by decide), r42 3 (by decide), r42 4 (by decide), r42 5 (by decide), r42 6 (by decide), r42 7 (by decide), r42 8 (by decide), r42 10 (by decide)⟩
  · intro c hc
    exact ⟨(g_43 _ (c := c) (k := K) (f := 0) hc hK24 (by decide)).trans (cell43 c 0), (g_43 _ (c := c) (k := K) (f := 2) hc hK24 (by decide)).trans (cell43 c 2), (g_43 _ (c := c) (k := K) (f := 3) hc hK24 (by decide)).trans (cell43 c 3), fun q hq => (g_44 _ hc hK24 hq).trans (cell44 c q hq)⟩
  · intro i hi h2
    unfold rwL
    by_cases h9 : i < 11
    · rw [if_pos h9, if_pos h9]
      rcases (show i = 0 ∨ i = 1 ∨ i = 3 ∨ i = 4 ∨ i = 5 ∨ i = 6 ∨ i = 7 ∨ i = 8 ∨ i = 9 ∨ i = 10 by omega) with rfl | rfl | rfl | rfl | rfl | rfl | rfl | rfl | rfl | rfl <;> first | exact tn_o (by decide) (fun z => absurd z.1 (by decide)) (fun z => absurd z.1 (by decide)) (fun z => absurd z.1 (by decide)) | exact tn_50 (by decide)
    · rw [if_neg h9, if_neg h9]
      repeat' split
      all_goals first | exact tn_o (by decide) (fun z => absurd z.1 (by decide)) (fun z => absurd z.1 (by decide)) (fun z => absurd z.1 (by decide)) | (exfalso; omega)
  · intro i hi
    unfold rwL
    repeat' split
    all_goals first | (exfalso; omega) | exact tn_o (by decide) (fun z => absurd z.1 (by decide)) (fun z => absurd z.1 (by decide)) (fun z => absurd z.1 (by decide))
  · intro f k hf hk
    rw [g_42 _ (by omega) hf, g_42 _ (by omega) hf]
    exact tn_o (by decide) (fun z => by have := z.2; omega) (fun z => absurd z.1 (by decide)) (fun z => absurd z.1 (by decide))
  · intro g c k hg hc hk
    rw [g_43 _ hc (by omega) hg, g_43 _ hc (by omega) hg]
    exact tn_o (by decide) (fun z => absurd z.1 (by decide)) (fun z => by have := z.2; omega) (fun z => absurd z.1 (by decide))
  · intro c k q hc hk hq
    rw [g_44 _ hc (by omega) hq, g_44 _ hc (by omega) hq]
    exact tn_o (by decide) (fun z => absurd z.1 (by decide)) (fun z => absurd z.1 (by decide)) (fun z => by have := z.2; omega)
/-- both take a call more -/
theorem r_addCall (h : LU F C K M T U (vw 1 σ) (rwL τ)) (hK : K < 24) {a b m : Nat} (ha : a < F) (hb : b < F) (hab : a ≠ b) (hm : m ≤ 400000) : ∃ σ', f_X4_addCall σ 1 (nI m) (nI a) (nI b) = some (nI K, σ') ∧ LU F C (K + 1) M T U (vw 1 σ') (rwL (t_add (t_new τ (nI a) (nI b) (nI m)) 1)) ∧ GX σ σ' := by
  obtain ⟨σ2, c1, c2, c3⟩ := a_addCall h hK a b m
  refine ⟨σ2, c1, ?_, fun k i q => congrFun (congrFun (c3 k (by omega) (by omega)) 0) i⟩
  rw [c2]
  refine S_tnew h hK ha hb hab hm (fun k o i h1 h4 => ?_) (s_at _ _ _ _ _) ?_
  · rw [FrI h4, FrO h1, FrO h1, FrO h1, FrO h1, FrO h1, FrO h1, FrO h1, FrO h1, FrO h1, FrO h1, FrO h1]
  · refine ⟨?_, ?_, ?_, ?_, ?_, ?_, ?_, ?_, ?_, ?_⟩ <;> simp (disch := omega) only [s_ne, s_nf, s_at]
end TK
theorem RD.m8 {n p : Nat} {inp : Nat → Nat} {σ : Sg} (h : RD n inp p σ) (x : Int32) : RD n inp p (sup σ 6 0 8 x) := by
  obtain ⟨⟨a, b, c, d⟩, e⟩ := h
  exact ⟨⟨(s_nf (by decide)).trans a, (s_nf (by decide)).trans b, c, fun i hi => ⟨(d i hi).1, by rw [s_ne (by decide)]; exact (d i hi).2⟩⟩, (s_nf (by decide)).trans e⟩
theorem RD.o {n p k o i : Nat} {inp : Nat → Nat} {σ : Sg} (h : RD n inp p σ) (hk : k ≠ 6 ∧ k ≠ 10) (x : Int32) : RD n inp p (sup σ k o i x) := by
  obtain ⟨⟨a, b, c, d⟩, e⟩ := h
  refine ⟨⟨?_, ?_, c, fun i hi => ⟨(d i hi).1, ?_⟩⟩, ?_⟩
  · rw [s_ne (Ne.symm hk.1)]; exact a
  · rw [s_ne (Ne.symm hk.1)]; exact b
  · rw [s_ne (Ne.symm hk.2)]; exact (d i hi).2
  · rw [s_ne (Ne.symm hk.1)]; exact e
theorem KFT.k {σ σ' : Sg} (h : KFT σ σ') {k : Nat} (hk : k ≠ 6) : σ' k = σ k := by
  funext o i
  exact h k o i (fun z => hk z.1)
theorem KFT.m {σ σ' : Sg} (h : KFT σ σ') {i : Nat} (hi : i < 4 ∨ 7 < i) : σ' 6 0 i = σ 6 0 i := h 6 0 i (fun z => by omega)
section RDY
variable {n p L v : Nat} {inp : Nat → Nat} {σ τ τ' : Sg} {F C K : Nat}
/-- a call of the text -/
theorem r_call (h : RD n inp p σ) (hl : LU F C K 0 0 0 (vw 1 σ) (rwL τ)) (hK : K < 24) {m a b L1 L2 L3 : Nat} (ha : a < F) (hb : b < F) (hab : a ≠ b) (hm : m ≤ 999) (n1 : N_at inp n p L1 m) (n2 : N_at inp n (p + 1 + L1) L2 a) (n3 : N_at inp n (p + 1 + L1 + 1 + L2) L3 b) (hs : p + 1 + L1 + 1 + L2 + 1 + L3 < n ∧ inp (p + 1 + L1 + 1 + L2 + 1 + L3) = 59) :
    ∃ σ', f_X6_readCall σ 1 = some (1, σ') ∧ RD n inp (p + 1 + L1 + 1 + L2 + 1 + L3 + 1) σ' ∧ LU F C (K + 1) 0 0 0 (vw 1 σ') (rwL (t_add (t_new τ (nI a) (nI b) (nI m)) 1)) ∧ GY σ σ' := by
  have hF := D_F hl
  obtain ⟨σ1, a1, a2, a3, a4⟩ := r_num h n1 (lo := 0) (hi := 999) (by rw [ni_nn (by omega)]; exact id) (by rw [show (999 : Int32) = nI 999 from rfl, ni_le (by omega) (by omega)]; exact hm)
  have hl1 := hl.kf a2
  obtain ⟨σ2, b1, b2, b3, b4⟩ := r_num a3 n2 (lo := 0) (hi := nI (F - 1)) (by rw [ni_nn (by omega)]; exact id) (by rw [ni_le (by omega) (by omega)]; omega)
  have hl2 := hl1.kf b2
  obtain ⟨σ3, c1, c2, c3, c4⟩ := r_num b3 n3 (lo := 0) (hi := nI (F - 1)) (by rw [ni_nn (by omega)]; exact id) (by rw [ni_le (by omega) (by omega)]; omega)
  obtain ⟨σ4, d1, d2, d3⟩ := r_addCall (hl2.kf c2) hK ha hb hab (m := m) (by omega)
  obtain ⟨σ5, e1, e2, e3⟩ := r_semi (c3.gx d3) hs.1 hs.2
  refine ⟨σ5, ?_, e3, d2.kf e2, a2.gy.trans (b2.gy.trans (c2.gy.trans (d3.gy.trans e2.gy)))⟩
  have eF : nI F - 1 = nI (F - 1) := ni_sub (b := 1) (by omega)
  unfold f_X6_readCall
  rw [A_K hl, if_pos (by rw [show (24 : Int32) = nI 24 from rfl, ni_lt (by omega) (by omega)]; exact hK), a1, p_bi, if_neg (by decide), A_F hl1, eF, b1, p_bi, if_neg (by decide), A_F hl2, eF, c1, p_bi, if_neg (by decide), b4, c4, if_neg (by rw [ni_eq (by omega) (by omega)]; exact fun z => hab z.symm), a4, d1, p_bi, e1, p_bi]
  rfl
/-- a setting of the text -/
theorem r_set (h : RD n inp p σ) {w : Nat} (hw : w < 5) (hm : (jush (σ 6 0 8) (nI w)) &&& 1 = 0) (hN : N_at inp n p L v) (b1 : ¬ nI v < stab 0 w) (b2 : nI v ≤ stab 1 w) (hs : p + 1 + L < n ∧ inp (p + 1 + L) = 59) :
    ∃ σ', f_X6_readSetting σ 1 (nI w) = some (1, σ') ∧ RD n inp (p + 1 + L + 1) σ' ∧ σ' 6 0 8 = (σ 6 0 8) ||| (1 <<< (nI w &&& 31)) ∧ ∀ k, k ≠ 6 → σ' k = sup σ 12 1 w (nI v) k := by
  obtain ⟨σ1, a1, a2, a3, a4⟩ := r_num (h.m8 ((σ 6 0 8) ||| (1 <<< (nI w &&& 31)))) hN b1 b2
  obtain ⟨σ2, c1, c2, c3⟩ := r_semi (a3.o (k := 12) (o := 1) (i := w) (by decide) (nI v)) hs.1 hs.2
  have g5 : ¬ (nI w < 0 ∨ 5 ≤ w) := by rw [ni_nn (by omega)]; exact fun z => z.elim id (fun z => by omega)
  refine ⟨σ2, ?_, c3, ?_, fun k hk => ?_⟩
  · unfold f_X6_readSetting f_X6_readSetting_87
    rw [if_pos hm, p_st, if_neg (by rw [show (5 : Int32) = nI 5 from rfl, ni_eq (by omega) (by omega)]; omega), ni_cl (show w < 2147483648 by omega), if_neg g5, if_neg g5, a1, p_bi, if_neg (by decide), if_neg g5, a4, p_st, c1, p_bi]
    rfl
  · rw [c2.m (by omega), s_ne (by decide), a2.m (by omega), s_at]
  · rw [c2.k hk]
    funext o i
    by_cases z : k = 12 ∧ o = 1 ∧ i = w
    · obtain ⟨rfl, rfl, rfl⟩ := z
      rw [s_at, s_at]
    · unfold sup
      rw [if_neg z, if_neg z, a2.k hk, s_ne hk]
theorem r_seed (h : RD n inp p σ) (hm : (jush (σ 6 0 8) (nI 5)) &&& 1 = 0) (hN : N_at inp n p L v) (b2 : v ≤ 9999) (hs : p + 1 + L < n ∧ inp (p + 1 + L) = 59) :
    ∃ σ', f_X6_readSetting σ 1 (nI 5) = some (1, σ') ∧ RD n inp (p + 1 + L + 1) σ' ∧ ∀ k, k ≠ 6 → σ' k = sup σ 4 1 4 (nI v) k := by
  obtain ⟨σ1, a1, a2, a3, a4⟩ := r_num (h.m8 ((σ 6 0 8) ||| (1 <<< (nI 5 &&& 31)))) hN (lo := 0) (hi := 9999) (by rw [ni_nn (by omega)]; exact id) (by rw [show (9999 : Int32) = nI 9999 from rfl, ni_le (by omega) (by omega)]; exact b2)
  obtain ⟨σ2, c1, c2, c3⟩ := r_semi (a3.o (k := 4) (o := 1) (i := 4) (by decide) (nI v)) hs.1 hs.2
  refine ⟨σ2, ?_, c3, fun k hk => ?_⟩
  · unfold f_X6_readSetting f_X6_readSetting_87
    rw [if_pos hm, p_st, if_pos (show nI 5 = 5 from rfl), a1, p_bi, if_neg (by decide), a4, p_st, c1, p_bi]
    rfl
  · rw [c2.k hk]
    funext o i
    by_cases z : k = 4 ∧ o = 1 ∧ i = 4
    · obtain ⟨rfl, rfl, rfl⟩ := z
      rw [s_at, s_at]
    · unfold sup
      rw [if_neg z, if_neg z, a2.k hk, s_ne hk]
/-- the lifts being read, cleared -/
def CLR (F : Nat) (σ : Sg) : Prop := (σ 4 1 0 = nI F ∧ σ 4 1 1 = 0 ∧ σ 4 1 2 = 0 ∧ σ 4 1 3 = 0 ∧ σ 4 1 4 = 1 ∧ σ 5 1 0 = 0) ∧ (∀ i, i < 5 → σ 12 1 i = stab 2 i) ∧ (∀ i, i < 4 → σ 13 1 i = 0 ∧ σ 14 1 i = 0) ∧ ∀ i, i < 5 → σ 15 1 i = 0
theorem r_floors (h : RD n inp p σ) (hW : W_at inp n p 0) (hN : N_at inp n (p + 6) L F) (h2 : 2 ≤ F) (h30 : F ≤ 30) (hs : p + 6 + 1 + L < n ∧ inp (p + 6 + 1 + L) = 59) :
    ∃ σ', f_X6_readFloors σ 1 = some (1, σ') ∧ RD n inp (p + 6 + 1 + L + 1) σ' ∧ σ' 6 0 8 = σ 6 0 8 ∧ CLR F σ' ∧ GY σ σ' := by
  obtain ⟨σ1, a1, a2, a3, a4, a5⟩ := r_word h (by decide) hW
  obtain ⟨σ2, b1, b2, b3, b4⟩ := r_num (show RD n inp (p + 6) σ1 from a3) hN (lo := 2) (hi := 30) (by rw [show (2 : Int32) = nI 2 from rfl, ni_lt (by omega) (by omega)]; omega) (by rw [show (30 : Int32) = nI 30 from rfl, ni_le (by omega) (by omega)]; exact h30)
  obtain ⟨σ3, c1, c2, c3⟩ := a_clr σ2 1 (nI F)
  obtain ⟨σ4, d1, d2, d3⟩ := r_semi (b3.gx (GX.fr c2)) hs.1 hs.2
  refine ⟨σ4, ?_, d3, ?_, ?_, a2.gy.trans (b2.gy.trans ((GX.fr c2).gy.trans d2.gy))⟩
  · unfold f_X6_readFloors
    rw [a1, p_bv, a5 0 (by decide), p_bi, if_neg (by decide), b1, p_bi, if_neg (by decide), b4, c1, p_bv, d1, p_bi]
    rfl
  · rw [d2.m (by omega), GX.fr c2 6 8 (by omega), b2.m (by omega), a2.m (by omega)]
  · unfold CLR
    rw [d2.k (show (4 : Nat) ≠ 6 by decide), d2.k (show (5 : Nat) ≠ 6 by decide), d2.k (show (12 : Nat) ≠ 6 by decide), d2.k (show (13 : Nat) ≠ 6 by decide), d2.k (show (14 : Nat) ≠ 6 by decide), d2.k (show (15 : Nat) ≠ 6 by decide)]
    exact c3
/-! one statement -/
def WIs (σ : Sg) (w : Nat) : Prop := ∀ w', w' < 9 → f_X6_isWord σ w' = some (W_b (decide (w' = w)), σ)
theorem st_car (h : WIs σ 1) {σ' : Sg} (hr : f_X6_readCar σ 1 = some (1, σ')) : f_X6_readStatement σ 1 = some (1, σ') := by
  unfold f_X6_readStatement
  rw [h 1 (by decide), p_bi, if_neg (by decide), hr, p_bi]
  rfl
theorem st_call (h : WIs σ 2) {σ' : Sg} (hr : f_X6_readCall σ 1 = some (1, σ')) : f_X6_readStatement σ 1 = some (1, σ') := by
  unfold f_X6_readStatement
  rw [h 1 (by decide), p_bi, if_pos (by decide), h 2 (by decide), p_bi, if_neg (by decide), hr, p_bi]
  rfl
theorem st_word {w : Nat} (hw : 3 ≤ w ∧ w ≤ 6 ∨ w = 8) (h : WIs σ w) : f_X6_settingOfWord σ = some (if w = 8 then 5 else nI (w - 3), σ) := by
  unfold f_X6_settingOfWord
  rcases (show w = 3 ∨ w = 4 ∨ w = 5 ∨ w = 6 ∨ w = 8 by omega) with rfl | rfl | rfl | rfl | rfl
  · rw [h 3 (by decide), p_bi, if_neg (by decide)]
    rfl
  · rw [h 3 (by decide), p_bi, if_pos (by decide), h 4 (by decide), p_bi, if_neg (by decide)]
    rfl
  · rw [h 3 (by decide), p_bi, if_pos (by decide), h 4 (by decide), p_bi, if_pos (by decide), h 5 (by decide), p_bi, if_neg (by decide)]
    rfl
  · rw [h 3 (by decide), p_bi, if_pos (by decide), h 4 (by decide), p_bi, if_pos (by decide), h 5 (by decide), p_bi, if_pos (by decide), h 6 (by decide), p_bi, if_neg (by decide)]
    rfl
  · rw [h 3 (by decide), p_bi, if_pos (by decide), h 4 (by decide), p_bi, if_pos (by decide), h 5 (by decide), p_bi, if_pos (by decide), h 6 (by decide), p_bi, if_pos (by decide), h 7 (by decide), p_bi, if_pos (by decide), h 8 (by decide), p_bi, if_neg (by decide)]
    rfl
theorem st_set {w : Nat} (hw : w < 4) (h : WIs σ (w + 3)) {σ' : Sg} (hr : f_X6_readSetting σ 1 (nI w) = some (1, σ')) : f_X6_readStatement σ 1 = some (1, σ') := by
  unfold f_X6_readStatement
  have d1 : ¬ 1 = w + 3 := by omega
  have d2 : ¬ 2 = w + 3 := by omega
  rw [h 1 (by decide), p_bi, decide_eq_false d1, if_pos (by decide), h 2 (by decide), p_bi, decide_eq_false d2, if_pos (by decide), st_word (by omega) h, p_bi, if_neg (show ¬ w + 3 = 8 by omega), show w + 3 - 3 = w by omega, if_pos (by rw [show (0 : Int32) = nI 0 from rfl, ni_le (by omega) (by omega)]; omega), hr, p_bi]
  rfl
theorem st_seed (h : WIs σ 8) {σ' : Sg} (hr : f_X6_readSetting σ 1 (nI 5) = some (1, σ')) : f_X6_readStatement σ 1 = some (1, σ') := by
  unfold f_X6_readStatement
  rw [h 1 (by decide), p_bi, if_pos (by decide), h 2 (by decide), p_bi, if_pos (by decide), st_word (by omega) h, p_bi, if_pos rfl, if_pos (by decide), show (5 : Int32) = nI 5 from rfl, hr, p_bi]
  rfl
/-- one turn of the loop -/
theorem r_loop (h : RD n inp p σ) {w i : Nat} (hw : w < 9) (hi : i ≤ n) (hW : W_at inp n p w) : ∃ σ1, KFT σ σ1 ∧ RD n inp (p + Wln w) σ1 ∧ WIs σ1 w ∧ ∀ (f : Nat) (σ' : Sg), f_X6_readStatement σ1 1 = some (1, σ') → f_X6_read_52 (f + 1) σ 1 (nI i) = f_X6_read_52 f σ' 1 (nI (i + 1)) := by
  obtain ⟨σ1, a1, a2, a3, a4, a5⟩ := r_word h hw hW
  have hn := h.1.2.2.1
  refine ⟨σ1, a2, a3, a5, fun f σ' hr => ?_⟩
  rw [f_X6_read_52_s, h.1.2.1, if_neg (by rw [ni_lt (by omega) (by omega)]; omega), a1, p_bv, a4, if_neg (by decide), hr, p_bi, if_neg (by decide), ni_1]
/-- the end of the text -/
theorem r_end (h : RD n inp n σ) {i f : Nat} (hi : i ≤ n) (hC : 0 < C) (hc : σ 4 1 1 = nI C) (h4 : C ≤ 4) : ∃ σ', f_X6_read_52 (f + 1) σ 1 (nI i) = some (1, σ') ∧ KFT σ σ' := by
  have hn := h.1.2.2.1
  obtain ⟨σ', e1, e2, e3, e4, e5, e6⟩ := a_next h.1 h.2 (Nat.le_refl n)
  refine ⟨σ', ?_, e2⟩
  rw [f_X6_read_52_s, h.1.2.1, if_neg (by rw [ni_lt (by omega) (by omega)]; omega), e1, p_bv, e4, k_endT, if_pos (show nI 0 = 0 from rfl)]
  unfold f_X6_read_72 f_X6_read_87 f_X6_read_92
  rw [e2.k (show (4 : Nat) ≠ 6 by decide), hc, if_pos (by rw [show (0 : Int32) = nI 0 from rfl, ni_lt (by omega) (by omega)]; exact hC)]
  rfl
end RDY
