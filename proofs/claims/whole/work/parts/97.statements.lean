/-! statements of a text, side by side -/
theorem and1 (x : Int32) : (x &&& 1 = 0) ↔ bt x 0 = false := by
  have h1 : ∀ i, i < 32 → bt 1 i = decide (i = 0) := by decide +kernel
  constructor
  · intro h
    have e : bt (x &&& 1) 0 = bt 0 0 := congrArg (fun y => bt y 0) h
    rw [b_and, h1 0 (by decide), b_0] at e
    cases w : bt x 0
    · rfl
    · rw [w] at e; exact absurd e (by decide)
  · intro h
    refine b_ext (fun i hi => ?_)
    rw [b_and, h1 i hi, b_0]
    by_cases w : i = 0
    · subst w; rw [h]; rfl
    · rw [decide_eq_false w, Bool.and_false]
theorem bt_1s {w i : Nat} (hw : w < 32) (hi : i < 32) : bt (1 <<< (nI w &&& 31)) i = decide (i = w) := by
  have h1 : ∀ i, i < 32 → bt 1 i = decide (i = 0) := by decide +kernel
  rw [b_shl w hw 1 hi, h1 _ (by omega)]
  by_cases e : i = w
  · subst e
    rw [decide_eq_true (Nat.le_refl _), decide_eq_true (Nat.sub_self _), decide_eq_true rfl]; rfl
  · rw [decide_eq_false e]
    by_cases e2 : w ≤ i
    · rw [decide_eq_false (show ¬ i - w = 0 by omega), Bool.and_false]
    · rw [decide_eq_false e2, Bool.false_and]
/-- which settings have been seen -/
def SR (x y : Int32) : Prop := ∀ w, w < 6 → bt x w = bt y (w + 4)
theorem SR.or {x y : Int32} (h : SR x y) {w : Nat} (hw : w < 6) : SR (x ||| (1 <<< (nI w &&& 31))) (y ||| (1 <<< (nI (w + 4) &&& 31))) := by
  intro i hi
  rw [b_or, b_or, bt_1s (by omega) (by omega), bt_1s (by omega) (by omega), h i hi]
  by_cases e : i = w
  · rw [decide_eq_true e, decide_eq_true (show i + 4 = w + 4 by omega)]
  · rw [decide_eq_false e, decide_eq_false (show ¬ i + 4 = w + 4 by omega)]
def PS (σ0 ρ0 : Sg) (F C K : Nat) (σ ρ : Sg) : Prop := LV F C K 0 0 (vw 1 σ) (ρ 30 0) ∧ FR C K (ρ 30 0) ∧ GA σ0 σ ∧ GB ρ0 ρ ∧ σ 6 0 0 = 0 ∧ σ 6 0 1 = -1 ∧ ρ 8 0 14 = -1 ∧ SR (σ 6 0 8) (ρ 8 0 19)
/-- the reference's token and its three numbers -/
def KU (ρ ρ' : Sg) : Prop := ∀ k o i, ¬ (k = 8 ∧ 15 ≤ i ∧ i ≤ 18) → k ≠ 37 → ρ' k o i = ρ k o i
theorem KG.ku {ρ ρ' : Sg} (h : KG ρ ρ') : KU ρ ρ' := fun k o i q _ => h k o i q
theorem KT.ku {a : Nat} {ρ ρ' : Sg} (h : KT a ρ ρ') : KU ρ ρ' := fun k o i q q' => h k o i q (fun z => q' z.1)
theorem KU.trans {a b c : Sg} (h : KU a b) (h' : KU b c) : KU a c := fun k o i q q' => (h' k o i q q').trans (h k o i q q')
theorem KU.gb {ρ ρ' : Sg} (h : KU ρ ρ') : GB ρ ρ' := fun k o i _ q q' => h k o i (fun z => q' ⟨z.1, by omega, by omega⟩) q
theorem PS.kf {σ0 ρ0 σ ρ σ' ρ' : Sg} {F C K : Nat} (h : PS σ0 ρ0 F C K σ ρ) (a : KF σ σ') (b : KU ρ ρ') : PS σ0 ρ0 F C K σ' ρ' := by
  obtain ⟨h1, h2, h3, h4, h5, h6, h7, h8⟩ := h
  have e30 : ∀ q, ρ' 30 0 q = ρ 30 0 q := fun q => b 30 0 q (by omega) (by decide)
  have e30' : ρ' 30 0 = ρ 30 0 := funext e30
  refine ⟨h1.both (Veq.lk (D_C h1.1) (D_K h1.1) (fun k o i hk => a k o i (fun z => by unfold LK at hk; omega))) (fun q _ => e30 q), by rw [e30']; exact h2, h3.trans a.ga, h4.trans b.gb, (a 6 0 0 (by omega)).trans h5, (a 6 0 1 (by omega)).trans h6, (b 8 0 14 (by omega) (by decide)).trans h7, ?_⟩
  rw [a 6 0 8 (by omega), b 8 0 19 (by omega) (by decide)]
  exact h8
/-- the semicolon that the reference looks for after a statement -/
noncomputable def RSEMI (k : Sg → Option (Int32 × Sg)) (ρ : Sg) : Option (Int32 × Sg) := if (ρ 8 0 18) = 3 then (bv (f_X8_advanceToken ρ) fun σ3 => (k σ3)) else (f_X8_readText_33 ρ)
noncomputable def YR (x : Option (Int32 × Sg)) (k : Sg → Option (Int32 × Sg)) : Option (Int32 × Sg) := bi x fun r2 σ1 => if r2 = 0 then some (0, σ1) else RSEMI k σ1
theorem YR_1 (ρ : Sg) (k : Sg → Option (Int32 × Sg)) : YR (some (1, ρ)) k = RSEMI k ρ := by
  unfold YR
  rw [p_bi, if_neg (by decide)]
theorem YR_0 (ρ : Sg) (k : Sg → Option (Int32 × Sg)) : YR (some (0, ρ)) k = some (0, ρ) := by
  unfold YR
  rw [p_bi, if_pos rfl]
def OUT (n : Nat) (inp : Nat → Nat) (σ0 ρ0 : Sg) (p : Nat) (x : Option (Int32 × Sg)) (y : (Sg → Option (Int32 × Sg)) → Option (Int32 × Sg)) : Prop :=
  (∃ σ' ρ' F C K p', x = some (1, σ') ∧ (∀ k, y k = k ρ') ∧ PS σ0 ρ0 F C K σ' ρ' ∧ TKn n inp p' σ' ρ' ∧ p < p') ∨ ∃ σ' ρ', x = some (0, σ') ∧ (∀ k, y k = some (0, ρ')) ∧ FL σ0 ρ0 σ' ρ'
noncomputable def chk (x : Option (Int32 × Sg)) : Option (Int32 × Sg) := bi x fun r s => if ¬ (r = 0 ∨ r = 1) then none else some (r, s)
theorem chk_1 (σ : Sg) : chk (some (1, σ)) = some (1, σ) := by
  unfold chk
  rw [p_bi, if_neg (by decide)]
theorem chk_0 (σ : Sg) : chk (some (0, σ)) = some (0, σ) := by
  unfold chk
  rw [p_bi, if_neg (by decide)]
noncomputable def YC (x : Option (Int32 × Sg)) (k : Sg → Option (Int32 × Sg)) : Option (Int32 × Sg) := YR (chk x) k
theorem YC_1 (ρ : Sg) (k : Sg → Option (Int32 × Sg)) : YC (some (1, ρ)) k = RSEMI k ρ := by
  unfold YC
  rw [chk_1, YR_1]
theorem YC_0 (ρ : Sg) (k : Sg → Option (Int32 × Sg)) : YC (some (0, ρ)) k = some (0, ρ) := by
  unfold YC
  rw [chk_0, YR_0]
section ST
variable {n p : Nat} {inp : Nat → Nat} {σ ρ σ0 ρ0 : Sg} {F C K : Nat}
theorem OUT.chk {x : Option (Int32 × Sg)} {y : (Sg → Option (Int32 × Sg)) → Option (Int32 × Sg)} (h : OUT n inp σ0 ρ0 p x y) : OUT n inp σ0 ρ0 p (chk x) y := by
  rcases h with ⟨σ', ρ', F, C, K, p', rfl, h⟩ | ⟨σ', ρ', rfl, h⟩
  · exact Or.inl ⟨σ', ρ', F, C, K, p', chk_1 σ', h⟩
  · exact Or.inr ⟨σ', ρ', chk_0 σ', h⟩
theorem OUT.bad {x : Option (Int32 × Sg)} {y : (Sg → Option (Int32 × Sg)) → Option (Int32 × Sg)} (hP : PS σ0 ρ0 F C K σ ρ) {σ' ρ' : Sg} (hx : x = some (0, σ')) (hy : ∀ k, y k = some (0, ρ')) (hF : FL σ ρ σ' ρ') : OUT n inp σ0 ρ0 p x y :=
  Or.inr ⟨σ', ρ', hx, hy, hF.pre hP.2.2.1 hP.2.2.2.1⟩
theorem t_semi (h : TKn n inp p σ ρ) : (∃ σ' ρ', f_X6_readSemicolon σ = some (1, σ') ∧ (∀ k, RSEMI k ρ = k ρ') ∧ KF σ σ' ∧ KG ρ ρ' ∧ TKn n inp (LXe inp n p) σ' ρ' ∧ p ≤ LXe inp n p) ∨ ∃ σ' ρ', f_X6_readSemicolon σ = some (0, σ') ∧ (∀ k, RSEMI k ρ = some (0, ρ')) ∧ FL σ ρ σ' ρ' := by
  obtain ⟨hc, h4, hB⟩ := h
  obtain ⟨hcy, hp, b5, b8, b6, b7, b13⟩ := id hB
  have hn := hcy.2.1
  have hb := LX_bd (inp := inp) hp
  obtain ⟨σ1, a1, a2, a3, a4, a5, a6⟩ := a_next hc h4 hp
  obtain ⟨ρ1, c1, c2, c3⟩ := b_adv hB
  have hk : LXk inp n p = 3 ↔ LXr inp n p = 3 := by
    unfold LXk
    split <;> omega
  have hk4 : LXk inp n p ≤ 4 := by
    unfold LXk
    split <;> omega
  unfold f_X6_readSemicolon f_X6_readSemicolon_20 f_X6_readSemicolon_25
  rw [a1, p_bv, a4]
  by_cases w : LXr inp n p = 3
  · left
    refine ⟨σ1, ρ1, ?_, fun k => ?_, a2, c2, ⟨hc.kf a2, a3, c3⟩, by omega⟩
    · rw [if_pos (show nI (LXk inp n p) = 3 by rw [hk.2 w]; rfl), if_neg (by decide)]
    · unfold RSEMI
      rw [b8, if_pos (show nI (LXr inp n p) = 3 by rw [w]; rfl), c1, p_bv]
  · right
    refine ⟨sup (sup σ1 6 0 0 1) 6 0 1 (σ1 6 0 6), sup (sup ρ 8 0 13 1) 8 0 14 (ρ 8 0 16), ?_, fun k => ?_, (t_fail 1 (a5.trans b6.symm)).pre a2.ga (GB.rf ρ)⟩
    · rw [if_neg (show ¬ nI (LXk inp n p) = 3 by rw [show (3 : Int32) = nI 3 from rfl, ni_eq (by omega) (by omega), hk]; exact w), a_fail, p_bi, if_pos rfl, if_neg (by decide)]
    · unfold RSEMI f_X8_readText_33
      rw [b8, if_neg (show ¬ nI (LXr inp n p) = 3 by rw [show (3 : Int32) = nI 3 from rfl, ni_eq (by omega) (by omega)]; exact w), b_fail b13, p_bi, if_neg (by decide)]
theorem t_fin {p2 : Nat} (hP : PS σ0 ρ0 F C K σ ρ) (hT : TKn n inp p2 σ ρ) (hp : p < p2) : OUT n inp σ0 ρ0 p (f_X6_readSemicolon σ) (fun k => RSEMI k ρ) := by
  rcases t_semi hT with ⟨σ', ρ', e1, e2, e3, e4, e5, e6⟩ | ⟨σ', ρ', e1, e2, e3⟩
  · exact Or.inl ⟨σ', ρ', F, C, K, _, e1, e2, hP.kf e3 e4.ku, e5, by omega⟩
  · exact OUT.bad hP e1 e2 e3
/-- after a word: the class stands at its end, the reference reads on -/
theorem t_starts (hA : AK n inp p σ) (hB : BK n inp p ρ) (hP : PS σ0 ρ0 F C K σ ρ) : ∃ ρ1, f_X8_starts ρ 1 = some (1, ρ1) ∧ f_X8_starts ρ 0 = some (0, sup (sup ρ 8 0 13 3) 8 0 14 (ρ 8 0 16)) ∧ PS σ0 ρ0 F C K σ ρ1 ∧ TKn n inp (LXe inp n p) σ ρ1 ∧ f_X6_fail σ 3 = some (0, sup (sup σ 6 0 0 3) 6 0 1 (σ 6 0 6)) ∧ FL σ ρ (sup (sup σ 6 0 0 3) 6 0 1 (σ 6 0 6)) (sup (sup ρ 8 0 13 3) 8 0 14 (ρ 8 0 16)) ∧ f_X8_advanceToken ρ = some ρ1 := by
  obtain ⟨ρ1, c1, c2, c3⟩ := b_adv hB
  obtain ⟨hcy, hp, b5, b8, b6, b7, b13⟩ := id hB
  obtain ⟨hc, _, a4, a5, a6, a7⟩ := hA
  refine ⟨ρ1, ?_, ?_, hP.kf (KF.rf σ) c2.ku, ⟨hc, a4, c3⟩, a_fail σ 3, t_fail 3 (a6.trans b6.symm), c1⟩
  · unfold f_X8_starts
    rw [if_neg (by decide), c1, p_bv]
  · unfold f_X8_starts
    rw [if_pos rfl, b_fail b13, p_bi, if_neg (by decide)]
/-- the lifts being read have changed -/
theorem TKn.sp {p : Nat} {σ ρ σ' ρ' : Sg} (h : TKn n inp p σ ρ) (hs : SP 1 σ ρ σ' ρ') : TKn n inp p σ' ρ' := by
  obtain ⟨⟨c1, c2, c3, c4⟩, h4, ⟨⟨d1, d2, d3⟩, hp, b5, b8, b6, b7, b13⟩⟩ := h
  obtain ⟨a, b⟩ := hs
  have e6 : ∀ i, σ' 6 0 i = σ 6 0 i := fun i => a 6 0 i id
  have e8 := b 8 (by decide)
  have e36 := b 36 (by decide)
  refine ⟨⟨(e6 2).trans c1, (e6 3).trans c2, c3, fun i hi => ⟨(c4 i hi).1, (a 10 0 i id).trans (c4 i hi).2⟩⟩, (e6 4).trans h4, ⟨⟨?_, d2, fun i hi => ⟨(d3 i hi).1, ?_⟩⟩, hp, ?_, ?_, ?_, ?_, ?_⟩⟩
  · rw [e8]; exact d1
  · rw [e36]; exact (d3 i hi).2
  · rw [e8]; exact b5
  · rw [e8]; exact b8
  · rw [e8]; exact b6
  · rw [e8]; exact b7
  · rw [e8]; exact b13
theorem PS.sp {F' C' K' : Nat} {σ' ρ' : Sg} (h : PS σ0 ρ0 F C K σ ρ) (hs : SP 1 σ ρ σ' ρ') (h1 : LV F' C' K' 0 0 (vw 1 σ') (ρ' 30 0)) (h2 : FR C' K' (ρ' 30 0)) : PS σ0 ρ0 F' C' K' σ' ρ' := by
  obtain ⟨-, -, h3, h4, h5, h6, h7, h8⟩ := h
  obtain ⟨a, b⟩ := hs
  have e6 : ∀ i, σ' 6 0 i = σ 6 0 i := fun i => a 6 0 i id
  have e8 := b 8 (by decide)
  refine ⟨h1, h2, h3.trans (fun k o i _ q => a k o i q), h4.trans (fun k o i q _ _ => by rw [b k q]), (e6 0).trans h5, (e6 1).trans h6, ?_, ?_⟩
  · rw [e8]; exact h7
  · rw [e6, e8]; exact h8
theorem t_car (hA : AK n inp p σ) (hB : BK n inp p ρ) (hP : PS σ0 ρ0 F C K σ ρ) (hw : LXr inp n p = 1) : OUT n inp σ0 ρ0 p (f_X6_readCar σ 1) (fun k => YC (f_X8_readCar ρ) k) := by
  obtain ⟨ρ1, s1, s0, hP1, hT1, f3, hF, -⟩ := t_starts hA hB hP
  have hL := hP.1
  have hC := D_C hL.1
  have hb := LX_bd (inp := inp) hA.2.1
  have hlt := hb.2.2.2.1 (by omega)
  have hF2 : 2 ≤ F := hL.1.1.2.2.2.2.2.2.2.2.2.2.2.1
  have hF30 : F ≤ 30 := hL.1.1.2.2.2.2.2.2.2.2.2.2.2.2.1
  by_cases w : C < 4
  · have x1 : f_X6_readCar σ 1 = (bi (f_X6_readNumber σ (nI 0) (nI (F - 1))) fun r2 σ1 => (if r2 = 0 then (some (0, σ1)) else (bi (f_X6_readNumber σ1 (nI 1) (nI 8)) fun r4 σ3 => (if r4 = 0 then (some (0, σ3)) else (bv (f_X4_addCar σ3 1 (σ1 6 0 7) (σ3 6 0 7)) fun σ5 => chk (f_X6_readSemicolon σ5)))))) := by
      unfold f_X6_readCar
      rw [A_C hL.1, A_F hL.1, if_pos (show nI C < 4 by rw [show (4 : Int32) = nI 4 from rfl, ni_lt (by omega) (by omega)]; exact w), show nI F - 1 = nI (F - 1) from ni_sub (b := 1) (by omega)]
      rfl
    have y1 : f_X8_readCar ρ = (bi (f_X8_takes ρ1 (nI 0) (nI 0) (nI (F - 1))) fun r4 σ3 => (if r4 = 0 then some (0, σ3) else (bi (f_X8_takes σ3 (nI 1) (nI 1) (nI 8)) fun r6 σ5 => (if r6 = 0 then some (0, σ5) else (bv (f_X8_addCar σ5 (σ5 37 0 0) (σ5 37 0 1)) fun σ7 => (some (1, σ7))))))) := by
      unfold f_X8_readCar f_X8_readCar_16 f_X8_readCar_50
      rw [B_C hL.1, if_neg (show ¬ 4 ≤ nI C by rw [show (4 : Int32) = nI 4 from rfl, ni_le (by omega) (by omega)]; omega), s1, p_bi, if_neg (by decide), B_F hP1.1.1, show nI F - 1 = nI (F - 1) from ni_sub (b := 1) (by omega)]
      rfl
    rw [x1, y1]
    rcases t_take hT1 (lo := 0) (hi := F - 1) (a := 0) (by decide) (by omega) (by decide) with ⟨σ2, ρ2, v, e1, e2, e3, e4, e5, e6, e7, e8, e9, e10, -⟩ | ⟨σ2, ρ2, e1, e2, e3, -⟩
    · rw [e1, e2, p_bi, p_bi, if_neg (show ¬ (1 : Int32) = 0 by decide), if_neg (show ¬ (1 : Int32) = 0 by decide)]
      have hP2 := hP1.kf e3 e4.ku
      rcases t_take e9 (lo := 1) (hi := 8) (a := 1) (by decide) (by decide) (by decide) with ⟨σ3, ρ3, u, d1, d2, d3, d4, d5, d6, d7, d8, d9, d10, -⟩ | ⟨σ3, ρ3, d1, d2, d3, -⟩
      · rw [d1, d2, p_bi, p_bi, if_neg (show ¬ (1 : Int32) = 0 by decide), if_neg (show ¬ (1 : Int32) = 0 by decide)]
        have hP3 := hP2.kf d3 d4.ku
        obtain ⟨σ4, ρ4, g1, g2, g3, g4, g5⟩ := t_addCar (j := 1) hP3.1 w hP3.2.1 (a := v) (p := u) (by omega) d7 d8
        rw [e5, d5, g1, p_bv, show ρ3 37 0 0 = nI v from (d4 37 0 0 (by omega) (by omega)).trans e6, d6, g2, p_bv]
        have := (t_fin (hP3.sp g5 g3 g4) (d9.sp g5) (p := p) (by omega)).chk
        simpa only [YC_1] using this
      · rw [d1, d2, p_bi, p_bi, if_pos (show (0 : Int32) = 0 from rfl), if_pos (show (0 : Int32) = 0 from rfl)]
        exact OUT.bad hP2 rfl (fun k => YC_0 ρ3 k) d3
    · rw [e1, e2, p_bi, p_bi, if_pos (show (0 : Int32) = 0 from rfl), if_pos (show (0 : Int32) = 0 from rfl)]
      exact OUT.bad hP1 rfl (fun k => YC_0 ρ2 k) e3
  · have x1 : f_X6_readCar σ 1 = some (0, sup (sup σ 6 0 0 3) 6 0 1 (σ 6 0 6)) := by
      unfold f_X6_readCar
      rw [A_C hL.1, if_neg (show ¬ nI C < 4 by rw [show (4 : Int32) = nI 4 from rfl, ni_lt (by omega) (by omega)]; exact w), f3, p_bi, if_neg (by decide)]
    have y1 : f_X8_readCar ρ = some (0, sup (sup ρ 8 0 13 3) 8 0 14 (ρ 8 0 16)) := by
      unfold f_X8_readCar f_X8_readCar_16 f_X8_readCar_50
      rw [B_C hL.1, if_pos (show 4 ≤ nI C by rw [show (4 : Int32) = nI 4 from rfl, ni_le (by omega) (by omega)]; omega), s0, p_bi, if_pos rfl]
    rw [x1, y1]
    exact OUT.bad hP rfl (fun k => YC_0 _ k) hF
end ST
