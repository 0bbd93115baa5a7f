/-! writes of the view and of the row -/
section PX
variable {F C K M T U j : Nat} {σ ρ v v' : Sg} {r r' : Nat → Int32}
def ru (r : Nat → Int32) (q : Nat) (y : Int32) : Nat → Int32 := fun i => if i = q then y else r i
theorem ru_eq (r : Nat → Int32) (q : Nat) (y : Int32) : ru r q y q = y := if_pos rfl
theorem ru_ne {r : Nat → Int32} {q i : Nat} {y : Int32} (h : i ≠ q) : ru r q y i = r i := if_neg h
theorem s_ne {σ : Sg} {k o i : Nat} {x : Int32} {k' : Nat} (h : k' ≠ k) : (sup σ k o i x) k' = σ k' := by
  funext o' i'
  exact if_neg (fun q => h q.1)
theorem s_nf {σ : Sg} {k o i o' i' : Nat} {x : Int32} (h : i' ≠ i) : (sup σ k o i x) k o' i' = σ k o' i' := if_neg (fun q => h q.2.2)
theorem s_no {σ : Sg} {k o i o' i' : Nat} {x : Int32} (h : o' ≠ o) : (sup σ k o i x) k o' i' = σ k o' i' := if_neg (fun q => h q.2.1)
theorem s_at (σ : Sg) (k o i : Nat) (x : Int32) : (sup σ k o i x) k o i = x := if_pos ⟨rfl, rfl, rfl⟩
theorem vw_pt {σ σ' : Sg} {k : Nat} (h : ∀ o i, σ' k o i = σ k o i) (j o i : Nat) : vw j σ' k o i = vw j σ k o i := by
  unfold vw
  split <;> exact h _ _
theorem vs_1 (j : Nat) (σ : Sg) (o i : Nat) (x : Int32) : vw j (sup σ 1 (24 * j + o) i x) = sup (vw j σ) 1 o i x := by
  funext k o' i'
  by_cases hk : k = 1
  · subst hk
    show (if 1 = 1 ∧ 24 * j + o' = 24 * j + o ∧ i' = i then x else σ 1 (24 * j + o') i') = (if 1 = 1 ∧ o' = o ∧ i' = i then x else σ 1 (24 * j + o') i')
    by_cases h : o' = o ∧ i' = i
    · rw [if_pos ⟨rfl, by omega, h.2⟩, if_pos ⟨rfl, h⟩]
    · rw [if_neg (fun q => h ⟨by omega, q.2.2⟩), if_neg (fun q => h q.2)]
  · rw [vw_pt (σ := σ) (fun _ _ => if_neg (fun q => hk q.1))]
    exact (if_neg (fun q => hk q.1)).symm
theorem vs_2 (j : Nat) (σ : Sg) (o i : Nat) (x : Int32) : vw j (sup σ 2 (4 * j + o) i x) = sup (vw j σ) 2 o i x := by
  funext k o' i'
  by_cases hk : k = 2
  · subst hk
    show (if 2 = 2 ∧ 4 * j + o' = 4 * j + o ∧ i' = i then x else σ 2 (4 * j + o') i') = (if 2 = 2 ∧ o' = o ∧ i' = i then x else σ 2 (4 * j + o') i')
    by_cases h : o' = o ∧ i' = i
    · rw [if_pos ⟨rfl, by omega, h.2⟩, if_pos ⟨rfl, h⟩]
    · rw [if_neg (fun q => h ⟨by omega, q.2.2⟩), if_neg (fun q => h q.2)]
  · rw [vw_pt (σ := σ) (fun _ _ => if_neg (fun q => hk q.1))]
    exact (if_neg (fun q => hk q.1)).symm
theorem vs_16 (j : Nat) (σ : Sg) (o i : Nat) (x : Int32) : vw j (sup σ 16 (4 * j + o) i x) = sup (vw j σ) 16 o i x := by
  funext k o' i'
  by_cases hk : k = 16
  · subst hk
    show (if 16 = 16 ∧ 4 * j + o' = 4 * j + o ∧ i' = i then x else σ 16 (4 * j + o') i') = (if 16 = 16 ∧ o' = o ∧ i' = i then x else σ 16 (4 * j + o') i')
    by_cases h : o' = o ∧ i' = i
    · rw [if_pos ⟨rfl, by omega, h.2⟩, if_pos ⟨rfl, h⟩]
    · rw [if_neg (fun q => h ⟨by omega, q.2.2⟩), if_neg (fun q => h q.2)]
  · rw [vw_pt (σ := σ) (fun _ _ => if_neg (fun q => hk q.1))]
    exact (if_neg (fun q => hk q.1)).symm
theorem vs_17 (j : Nat) (σ : Sg) (o i : Nat) (x : Int32) : vw j (sup σ 17 (4 * j + o) i x) = sup (vw j σ) 17 o i x := by
  funext k o' i'
  by_cases hk : k = 17
  · subst hk
    show (if 17 = 17 ∧ 4 * j + o' = 4 * j + o ∧ i' = i then x else σ 17 (4 * j + o') i') = (if 17 = 17 ∧ o' = o ∧ i' = i then x else σ 17 (4 * j + o') i')
    by_cases h : o' = o ∧ i' = i
    · rw [if_pos ⟨rfl, by omega, h.2⟩, if_pos ⟨rfl, h⟩]
    · rw [if_neg (fun q => h ⟨by omega, q.2.2⟩), if_neg (fun q => h q.2)]
  · rw [vw_pt (σ := σ) (fun _ _ => if_neg (fun q => hk q.1))]
    exact (if_neg (fun q => hk q.1)).symm
theorem vs_18 (j : Nat) (σ : Sg) (o i : Nat) (x : Int32) : vw j (sup σ 18 (4 * j + o) i x) = sup (vw j σ) 18 o i x := by
  funext k o' i'
  by_cases hk : k = 18
  · subst hk
    show (if 18 = 18 ∧ 4 * j + o' = 4 * j + o ∧ i' = i then x else σ 18 (4 * j + o') i') = (if 18 = 18 ∧ o' = o ∧ i' = i then x else σ 18 (4 * j + o') i')
    by_cases h : o' = o ∧ i' = i
    · rw [if_pos ⟨rfl, by omega, h.2⟩, if_pos ⟨rfl, h⟩]
    · rw [if_neg (fun q => h ⟨by omega, q.2.2⟩), if_neg (fun q => h q.2)]
  · rw [vw_pt (σ := σ) (fun _ _ => if_neg (fun q => hk q.1))]
    exact (if_neg (fun q => hk q.1)).symm
theorem vs_19 (j : Nat) (σ : Sg) (o i : Nat) (x : Int32) : vw j (sup σ 19 (4 * j + o) i x) = sup (vw j σ) 19 o i x := by
  funext k o' i'
  by_cases hk : k = 19
  · subst hk
    show (if 19 = 19 ∧ 4 * j + o' = 4 * j + o ∧ i' = i then x else σ 19 (4 * j + o') i') = (if 19 = 19 ∧ o' = o ∧ i' = i then x else σ 19 (4 * j + o') i')
    by_cases h : o' = o ∧ i' = i
    · rw [if_pos ⟨rfl, by omega, h.2⟩, if_pos ⟨rfl, h⟩]
    · rw [if_neg (fun q => h ⟨by omega, q.2.2⟩), if_neg (fun q => h q.2)]
  · rw [vw_pt (σ := σ) (fun _ _ => if_neg (fun q => hk q.1))]
    exact (if_neg (fun q => hk q.1)).symm
theorem vs_4 (j : Nat) (σ : Sg) (i : Nat) (x : Int32) : vw j (sup σ 4 j i x) = sup (vw j σ) 4 0 i x := by
  funext k o' i'
  by_cases hk : k = 4
  · subst hk
    show (if 4 = 4 ∧ j + o' = j ∧ i' = i then x else σ 4 (j + o') i') = (if 4 = 4 ∧ o' = 0 ∧ i' = i then x else σ 4 (j + o') i')
    by_cases h : o' = 0 ∧ i' = i
    · rw [if_pos ⟨rfl, by omega, h.2⟩, if_pos ⟨rfl, h⟩]
    · rw [if_neg (fun q => h ⟨by omega, q.2.2⟩), if_neg (fun q => h q.2)]
  · rw [vw_pt (σ := σ) (fun _ _ => if_neg (fun q => hk q.1))]
    exact (if_neg (fun q => hk q.1)).symm
theorem vs_5 (j : Nat) (σ : Sg) (i : Nat) (x : Int32) : vw j (sup σ 5 j i x) = sup (vw j σ) 5 0 i x := by
  funext k o' i'
  by_cases hk : k = 5
  · subst hk
    show (if 5 = 5 ∧ j + o' = j ∧ i' = i then x else σ 5 (j + o') i') = (if 5 = 5 ∧ o' = 0 ∧ i' = i then x else σ 5 (j + o') i')
    by_cases h : o' = 0 ∧ i' = i
    · rw [if_pos ⟨rfl, by omega, h.2⟩, if_pos ⟨rfl, h⟩]
    · rw [if_neg (fun q => h ⟨by omega, q.2.2⟩), if_neg (fun q => h q.2)]
  · rw [vw_pt (σ := σ) (fun _ _ => if_neg (fun q => hk q.1))]
    exact (if_neg (fun q => hk q.1)).symm
theorem vs_12 (j : Nat) (σ : Sg) (i : Nat) (x : Int32) : vw j (sup σ 12 j i x) = sup (vw j σ) 12 0 i x := by
  funext k o' i'
  by_cases hk : k = 12
  · subst hk
    show (if 12 = 12 ∧ j + o' = j ∧ i' = i then x else σ 12 (j + o') i') = (if 12 = 12 ∧ o' = 0 ∧ i' = i then x else σ 12 (j + o') i')
    by_cases h : o' = 0 ∧ i' = i
    · rw [if_pos ⟨rfl, by omega, h.2⟩, if_pos ⟨rfl, h⟩]
    · rw [if_neg (fun q => h ⟨by omega, q.2.2⟩), if_neg (fun q => h q.2)]
  · rw [vw_pt (σ := σ) (fun _ _ => if_neg (fun q => hk q.1))]
    exact (if_neg (fun q => hk q.1)).symm
theorem vs_13 (j : Nat) (σ : Sg) (i : Nat) (x : Int32) : vw j (sup σ 13 j i x) = sup (vw j σ) 13 0 i x := by
  funext k o' i'
  by_cases hk : k = 13
  · subst hk
    show (if 13 = 13 ∧ j + o' = j ∧ i' = i then x else σ 13 (j + o') i') = (if 13 = 13 ∧ o' = 0 ∧ i' = i then x else σ 13 (j + o') i')
    by_cases h : o' = 0 ∧ i' = i
    · rw [if_pos ⟨rfl, by omega, h.2⟩, if_pos ⟨rfl, h⟩]
    · rw [if_neg (fun q => h ⟨by omega, q.2.2⟩), if_neg (fun q => h q.2)]
  · rw [vw_pt (σ := σ) (fun _ _ => if_neg (fun q => hk q.1))]
    exact (if_neg (fun q => hk q.1)).symm
theorem vs_14 (j : Nat) (σ : Sg) (i : Nat) (x : Int32) : vw j (sup σ 14 j i x) = sup (vw j σ) 14 0 i x := by
  funext k o' i'
  by_cases hk : k = 14
  · subst hk
    show (if 14 = 14 ∧ j + o' = j ∧ i' = i then x else σ 14 (j + o') i') = (if 14 = 14 ∧ o' = 0 ∧ i' = i then x else σ 14 (j + o') i')
    by_cases h : o' = 0 ∧ i' = i
    · rw [if_pos ⟨rfl, by omega, h.2⟩, if_pos ⟨rfl, h⟩]
    · rw [if_neg (fun q => h ⟨by omega, q.2.2⟩), if_neg (fun q => h q.2)]
  · rw [vw_pt (σ := σ) (fun _ _ => if_neg (fun q => hk q.1))]
    exact (if_neg (fun q => hk q.1)).symm
theorem vs_15 (j : Nat) (σ : Sg) (i : Nat) (x : Int32) : vw j (sup σ 15 j i x) = sup (vw j σ) 15 0 i x := by
  funext k o' i'
  by_cases hk : k = 15
  · subst hk
    show (if 15 = 15 ∧ j + o' = j ∧ i' = i then x else σ 15 (j + o') i') = (if 15 = 15 ∧ o' = 0 ∧ i' = i then x else σ 15 (j + o') i')
    by_cases h : o' = 0 ∧ i' = i
    · rw [if_pos ⟨rfl, by omega, h.2⟩, if_pos ⟨rfl, h⟩]
    · rw [if_neg (fun q => h ⟨by omega, q.2.2⟩), if_neg (fun q => h q.2)]
  · rw [vw_pt (σ := σ) (fun _ _ => if_neg (fun q => hk q.1))]
    exact (if_neg (fun q => hk q.1)).symm
theorem vs_20 (j : Nat) (σ : Sg) (i : Nat) (x : Int32) : vw j (sup σ 20 j i x) = sup (vw j σ) 20 0 i x := by
  funext k o' i'
  by_cases hk : k = 20
  · subst hk
    show (if 20 = 20 ∧ j + o' = j ∧ i' = i then x else σ 20 (j + o') i') = (if 20 = 20 ∧ o' = 0 ∧ i' = i then x else σ 20 (j + o') i')
    by_cases h : o' = 0 ∧ i' = i
    · rw [if_pos ⟨rfl, by omega, h.2⟩, if_pos ⟨rfl, h⟩]
    · rw [if_neg (fun q => h ⟨by omega, q.2.2⟩), if_neg (fun q => h q.2)]
  · rw [vw_pt (σ := σ) (fun _ _ => if_neg (fun q => hk q.1))]
    exact (if_neg (fun q => hk q.1)).symm
theorem vs_21 (j : Nat) (σ : Sg) (i : Nat) (x : Int32) : vw j (sup σ 21 j i x) = sup (vw j σ) 21 0 i x := by
  funext k o' i'
  by_cases hk : k = 21
  · subst hk
    show (if 21 = 21 ∧ j + o' = j ∧ i' = i then x else σ 21 (j + o') i') = (if 21 = 21 ∧ o' = 0 ∧ i' = i then x else σ 21 (j + o') i')
    by_cases h : o' = 0 ∧ i' = i
    · rw [if_pos ⟨rfl, by omega, h.2⟩, if_pos ⟨rfl, h⟩]
    · rw [if_neg (fun q => h ⟨by omega, q.2.2⟩), if_neg (fun q => h q.2)]
  · rw [vw_pt (σ := σ) (fun _ _ => if_neg (fun q => hk q.1))]
    exact (if_neg (fun q => hk q.1)).symm
theorem vs_22 (j : Nat) (σ : Sg) (i : Nat) (x : Int32) : vw j (sup σ 22 j i x) = sup (vw j σ) 22 0 i x := by
  funext k o' i'
  by_cases hk : k = 22
  · subst hk
    show (if 22 = 22 ∧ j + o' = j ∧ i' = i then x else σ 22 (j + o') i') = (if 22 = 22 ∧ o' = 0 ∧ i' = i then x else σ 22 (j + o') i')
    by_cases h : o' = 0 ∧ i' = i
    · rw [if_pos ⟨rfl, by omega, h.2⟩, if_pos ⟨rfl, h⟩]
    · rw [if_neg (fun q => h ⟨by omega, q.2.2⟩), if_neg (fun q => h q.2)]
  · rw [vw_pt (σ := σ) (fun _ _ => if_neg (fun q => hk q.1))]
    exact (if_neg (fun q => hk q.1)).symm
theorem vs_23 (j : Nat) (σ : Sg) (i : Nat) (x : Int32) : vw j (sup σ 23 j i x) = sup (vw j σ) 23 0 i x := by
  funext k o' i'
  by_cases hk : k = 23
  · subst hk
    show (if 23 = 23 ∧ j + o' = j ∧ i' = i then x else σ 23 (j + o') i') = (if 23 = 23 ∧ o' = 0 ∧ i' = i then x else σ 23 (j + o') i')
    by_cases h : o' = 0 ∧ i' = i
    · rw [if_pos ⟨rfl, by omega, h.2⟩, if_pos ⟨rfl, h⟩]
    · rw [if_neg (fun q => h ⟨by omega, q.2.2⟩), if_neg (fun q => h q.2)]
  · rw [vw_pt (σ := σ) (fun _ _ => if_neg (fun q => hk q.1))]
    exact (if_neg (fun q => hk q.1)).symm
/-- the cells of a Lifts -/
def Own (j k o : Nat) : Prop := match k with
  | 1 => o / 24 = j
  | 2 => o / 4 = j
  | 16 => o / 4 = j
  | 17 => o / 4 = j
  | 18 => o / 4 = j
  | 19 => o / 4 = j
  | 4 => o = j
  | 5 => o = j
  | 12 => o = j
  | 13 => o = j
  | 14 => o = j
  | 15 => o = j
  | 20 => o = j
  | 21 => o = j
  | 22 => o = j
  | 23 => o = j
  | _ => False
def Fr (j : Nat) (σ σ' : Sg) : Prop := ∀ k o i, ¬ Own j k o → σ' k o i = σ k o i
theorem Fr.rf (j : Nat) (σ : Sg) : Fr j σ σ := fun _ _ _ _ => rfl
theorem Fr.trans {j : Nat} {a b c : Sg} (h : Fr j a b) (h' : Fr j b c) : Fr j a c := fun k o i q => (h' k o i q).trans (h k o i q)
theorem Fr.put {j k o : Nat} (h : Own j k o) (σ : Sg) (i : Nat) (x : Int32) : Fr j σ (sup σ k o i x) := fun k' o' i' q => if_neg (fun z => q (by rw [z.1, z.2.1]; exact h))
theorem V_hd.ext (h : V_hd F C K M T v r) (hv : ∀ i, v' 4 0 i = v 4 0 i) (hm : v' 5 0 0 = v 5 0 0) (hr : ∀ i, i < 11 → r' i = r i) : V_hd F C K M T v' r' := by
  obtain ⟨a1, a2, a3, a4, a5, a6, a7, a8, a9, a10, a11, a12⟩ := h
  exact ⟨(hv 0).trans a1, (hv 1).trans a2, (hv 2).trans a3, (hv 3).trans a4, hm.trans a5, (hr 0 (by decide)).trans a6, (hr 1 (by decide)).trans a7, (hr 2 (by decide)).trans a8, (hr 3 (by decide)).trans a9, (hr 10 (by decide)).trans a10, ((hr 9 (by decide)).trans a11).trans (hv 4).symm, a12⟩
theorem V_set.ext (h : V_set v r) (hv : ∀ i, v' 12 0 i = v 12 0 i) (hr : ∀ i, 4 ≤ i → i < 9 → r' i = r i) : V_set v' r' := by
  obtain ⟨a, P, W, D, b1, b2, b3, b4, b5, b6, b7⟩ := h
  exact ⟨fun i hi => ((hr (4 + i) (by omega) (by omega)).trans (a i hi)).trans (hv i).symm, P, W, D, (hv 1).trans b1, b2, b3, (hv 2).trans b4, b5, (hv 3).trans b6, b7⟩
theorem V_cnt.ext (h : V_cnt v r) (h13 : ∀ i, v' 13 0 i = v 13 0 i) (h14 : ∀ i, v' 14 0 i = v 14 0 i) (h15 : ∀ i, v' 15 0 i = v 15 0 i) (hr : ∀ i, 11 ≤ i → i < 23 → r' i = r i) : V_cnt v' r' := by
  intro i hi
  obtain ⟨a, b, c⟩ := h i hi
  exact ⟨((hr _ (by omega) (by omega)).trans a).trans (h13 i).symm, ((hr _ (by omega) (by omega)).trans b).trans (h14 i).symm, ⟨((hr _ (by omega) (by omega)).trans c.1).trans (h15 _).symm, (h15 0).trans c.2⟩⟩
theorem V_car.ext (h : V_car F C v r) (hC : C ≤ 4) (hv : ∀ c f, f < 8 → v' 2 c f = v 2 c f) (hr : ∀ i, 23 ≤ i → i < 55 → r' i = r i) : V_car F C v' r' := by
  intro c hc
  obtain ⟨a, b, d, e, f, g⟩ := h c hc
  refine ⟨fun f hf => ((hr _ (by omega) (by omega)).trans (a f hf)).trans (hv c f hf).symm, ?_, ?_, ?_, ?_, ?_⟩
  · rw [hv c 0 (by decide)]; exact b
  · rw [hv c 1 (by decide)]; exact d
  · rw [hv c 2 (by decide)]; exact e
  · rw [hv c 3 (by decide)]; exact f
  · rw [hv c 4 (by decide)]; exact g
theorem V_call.ext (h : V_call F C K T U v r) (hK : K ≤ 24) (hv : ∀ k f, v' 1 k f = v 1 k f) (hr : ∀ i, 55 ≤ i → i < 319 → r' i = r i) : V_call F C K T U v' r' := by
  intro k hk
  obtain ⟨a, b, c, d, e, f⟩ := h k hk
  refine ⟨fun f hf h9 => ((hr _ (by omega) (by omega)).trans (a f hf h9)).trans (hv k f).symm, fun q => ?_, ?_, ?_, ?_, ?_⟩
  · rw [hv k 9, hr _ (by omega) (by omega)]
    exact b (by rw [← hv k 8]; exact q)
  · rw [hv k 0, hv k 1]; exact c
  · unfold V_time at d ⊢
    rw [hv k 2, hv k 3, hv k 5, hv k 10]; exact d
  · rw [hv k 8]; exact e
  · rw [hv k 10]; exact f
theorem V_held.ext (h : V_held C K v r) (hC : C ≤ 4) (hK : K ≤ 24) (hv : ∀ c, v' 2 c 8 = v 2 c 8) (hr : ∀ i, 319 ≤ i → i < 415 → r' i = r i) : V_held C K v' r' := by
  intro c hc
  obtain ⟨a, b⟩ := h c hc
  refine ⟨fun k hk => ?_, fun k hk => ?_⟩
  · rw [hv c, hr _ (by omega) (by omega)]; exact a k hk
  · rw [hv c]; exact b k hk
theorem V_abd.ext (h : V_abd C K v) (hv : ∀ c, v' 2 c 9 = v 2 c 9) (h3 : ∀ k, v' 1 k 3 = v 1 k 3) (h4 : ∀ k, v' 1 k 4 = v 1 k 4) : V_abd C K v' := by
  intro c hc k
  rw [hv c, h3 k, h4 k]; exact h c hc k
theorem V_kn1.ext (h : V_kn1 C K T v r) (hC : C ≤ 4) (hK : K ≤ 24) (hv : ∀ c, v' 2 c 8 = v 2 c 8) (h16 : ∀ c i, v' 16 c i = v 16 c i) (h17 : ∀ c i, v' 17 c i = v 17 c i) (h18 : ∀ c i, v' 18 c i = v 18 c i) (h19 : ∀ c i, v' 19 c i = v 19 c i) (hr : ∀ i, 415 ≤ i → i < 1087 → r' i = r i) : V_kn1 C K T v' r' := by
  intro c hc k hk
  obtain ⟨a, b, d, e, f, g⟩ := h c hc k hk
  refine ⟨?_, fun q hq => ?_, fun t ht => ?_, fun q => ?_, ?_, fun q hq => ?_⟩
  · rw [h17, hr _ (by omega) (by omega)]; exact a
  · rw [h18, hr _ (by omega) (by omega)]; exact b q hq
  · rw [h19, hr _ (by omega) (by omega)]; exact d t ht
  · rw [hv, h17] at q
    rw [h16, hr _ (by omega) (by omega)]; exact e q
  · rw [h17]; exact f
  · rw [h18]; exact g q hq
theorem V_kn0.ext (h : V_kn0 C K v) (h17 : ∀ c i, v' 17 c i = v 17 c i) (h18 : ∀ c i, v' 18 c i = v 18 c i) (h19 : ∀ c i, v' 19 c i = v 19 c i) : V_kn0 C K v' := by
  intro c hc k hk hk2
  obtain ⟨a, b, d⟩ := h c hc k hk hk2
  refine ⟨?_, fun q hq => ?_, fun t ht => ?_⟩
  · rw [h17]; exact a
  · rw [h18]; exact b q hq
  · rw [h19]; exact d t ht
theorem V_msg.ext (h : V_msg C K M v r) (h20 : ∀ i, v' 20 0 i = v 20 0 i) (h21 : ∀ i, v' 21 0 i = v 21 0 i) (h22 : ∀ i, v' 22 0 i = v 22 0 i) (h23 : ∀ i, v' 23 0 i = v 23 0 i) (hr : ∀ i, 1087 ≤ i → r' i = r i) : V_msg C K M v' r' := by
  intro i hi
  rw [h20, h21, h22, h23, hr _ (by omega), hr _ (by omega), hr _ (by omega), hr _ (by omega)]
  exact h i hi
theorem S_seed {F C K M T U : Nat} {v : Sg} {r : Nat → Int32} (h : LU F C K M T U v r) (x : Int32) : LU F C K M T U (sup v 4 0 4 x) (ru r 9 x) := by
  have dC := D_C h
  have dK := D_K h
  have dM := D_M h
  refine ⟨?_, V_set.ext h.2.1 (fun _ => by first | rfl | simp [sup]) (fun i h1 h2 => by simp (disch := omega) only [ru_ne]), V_cnt.ext h.2.2.1 (fun _ => by first | rfl | simp [sup]) (fun _ => by first | rfl | simp [sup]) (fun _ => by first | rfl | simp [sup]) (fun i h1 h2 => by simp (disch := omega) only [ru_ne]), V_car.ext h.2.2.2.1 dC (fun _ f hf => by first | rfl | (simp [sup]; done) | (unfold sup; repeat rw [if_neg (fun q => absurd q.2.2 (by omega))])) (fun i h1 h2 => by simp (disch := omega) only [ru_ne]), V_call.ext h.2.2.2.2.1 dK (fun _ _ => by first | rfl | simp [sup]) (fun i h1 h2 => by simp (disch := omega) only [ru_ne]), V_held.ext h.2.2.2.2.2.1 dC dK (fun _ => by first | rfl | simp [sup]) (fun i h1 h2 => by simp (disch := omega) only [ru_ne]), V_abd.ext h.2.2.2.2.2.2.1 (fun _ => by first | rfl | simp [sup]) (fun _ => by first | rfl | simp [sup]) (fun _ => by first | rfl | simp [sup]), V_kn1.ext h.2.2.2.2.2.2.2.1 dC dK (fun _ => by first | rfl | simp [sup]) (fun _ _ => by first | rfl | simp [sup]) (fun _ _ => by first | rfl | simp [sup]) (fun _ _ => by first | rfl | simp [sup]) (fun _ _ => by first | rfl | simp [sup]) (fun i h1 h2 => by simp (disch := omega) only [ru_ne]), V_kn0.ext h.2.2.2.2.2.2.2.2.1 (fun _ _ => by first | rfl | simp [sup]) (fun _ _ => by first | rfl | simp [sup]) (fun _ _ => by first | rfl | simp [sup]), V_msg.ext h.2.2.2.2.2.2.2.2.2 (fun _ => by first | rfl | simp [sup]) (fun _ => by first | rfl | simp [sup]) (fun _ => by first | rfl | simp [sup]) (fun _ => by first | rfl | simp [sup]) (fun i h1 => by simp (disch := omega) only [ru_ne])⟩
  · obtain ⟨a1, a2, a3, a4, a5, a6, a7, a8, a9, a10, a11, a12⟩ := h.1
    exact ⟨a1, a2, a3, a4, a5, a6, a7, a8, a9, a10, rfl, a12⟩
theorem S_lostK {F C K M T U : Nat} {v : Sg} {r : Nat → Int32} (h : LU F C K M T U v r) {d : Nat} (hd : d < 4) (x : Int32) : LU F C K M T U (sup v 14 0 d x) (ru r (15 + d) x) := by
  have dC := D_C h
  have dK := D_K h
  have dM := D_M h
  refine ⟨V_hd.ext h.1 (fun _ => by first | rfl | simp [sup]) (by first | rfl | simp [sup]) (fun i h1 => by simp (disch := omega) only [ru_ne]), V_set.ext h.2.1 (fun _ => by first | rfl | simp [sup]) (fun i h1 h2 => by simp (disch := omega) only [ru_ne]), ?_, V_car.ext h.2.2.2.1 dC (fun _ f hf => by first | rfl | (simp [sup]; done) | (unfold sup; repeat rw [if_neg (fun q => absurd q.2.2 (by omega))])) (fun i h1 h2 => by simp (disch := omega) only [ru_ne]), V_call.ext h.2.2.2.2.1 dK (fun _ _ => by first | rfl | simp [sup]) (fun i h1 h2 => by simp (disch := omega) only [ru_ne]), V_held.ext h.2.2.2.2.2.1 dC dK (fun _ => by first | rfl | simp [sup]) (fun i h1 h2 => by simp (disch := omega) only [ru_ne]), V_abd.ext h.2.2.2.2.2.2.1 (fun _ => by first | rfl | simp [sup]) (fun _ => by first | rfl | simp [sup]) (fun _ => by first | rfl | simp [sup]), V_kn1.ext h.2.2.2.2.2.2.2.1 dC dK (fun _ => by first | rfl | simp [sup]) (fun _ _ => by first | rfl | simp [sup]) (fun _ _ => by first | rfl | simp [sup]) (fun _ _ => by first | rfl | simp [sup]) (fun _ _ => by first | rfl | simp [sup]) (fun i h1 h2 => by simp (disch := omega) only [ru_ne]), V_kn0.ext h.2.2.2.2.2.2.2.2.1 (fun _ _ => by first | rfl | simp [sup]) (fun _ _ => by first | rfl | simp [sup]) (fun _ _ => by first | rfl | simp [sup]), V_msg.ext h.2.2.2.2.2.2.2.2.2 (fun _ => by first | rfl | simp [sup]) (fun _ => by first | rfl | simp [sup]) (fun _ => by first | rfl | simp [sup]) (fun _ => by first | rfl | simp [sup]) (fun i h1 => by simp (disch := omega) only [ru_ne])⟩
  · intro i hi
    obtain ⟨a, b, c⟩ := h.2.2.1 i hi
    refine ⟨by rw [ru_ne (by omega)]; exact a, ?_, by rw [ru_ne (by omega)]; exact c⟩
    by_cases e : i = d
    · subst e
      rw [ru_eq, s_at]
    · rw [ru_ne (by omega), s_nf e]
      exact b
theorem S_nob {F C K M T U : Nat} {v : Sg} {r : Nat → Int32} (h : LU F C K M T U v r) {d : Nat} (hd : d < 4) (x : Int32) : LU F C K M T U (sup v 15 0 (d + 1) x) (ru r (19 + d) x) := by
  have dC := D_C h
  have dK := D_K h
  have dM := D_M h
  refine ⟨V_hd.ext h.1 (fun _ => by first | rfl | simp [sup]) (by first | rfl | simp [sup]) (fun i h1 => by simp (disch := omega) only [ru_ne]), V_set.ext h.2.1 (fun _ => by first | rfl | simp [sup]) (fun i h1 h2 => by simp (disch := omega) only [ru_ne]), ?_, V_car.ext h.2.2.2.1 dC (fun _ f hf => by first | rfl | (simp [sup]; done) | (unfold sup; repeat rw [if_neg (fun q => absurd q.2.2 (by omega))])) (fun i h1 h2 => by simp (disch := omega) only [ru_ne]), V_call.ext h.2.2.2.2.1 dK (fun _ _ => by first | rfl | simp [sup]) (fun i h1 h2 => by simp (disch := omega) only [ru_ne]), V_held.ext h.2.2.2.2.2.1 dC dK (fun _ => by first | rfl | simp [sup]) (fun i h1 h2 => by simp (disch := omega) only [ru_ne]), V_abd.ext h.2.2.2.2.2.2.1 (fun _ => by first | rfl | simp [sup]) (fun _ => by first | rfl | simp [sup]) (fun _ => by first | rfl | simp [sup]), V_kn1.ext h.2.2.2.2.2.2.2.1 dC dK (fun _ => by first | rfl | simp [sup]) (fun _ _ => by first | rfl | simp [sup]) (fun _ _ => by first | rfl | simp [sup]) (fun _ _ => by first | rfl | simp [sup]) (fun _ _ => by first | rfl | simp [sup]) (fun i h1 h2 => by simp (disch := omega) only [ru_ne]), V_kn0.ext h.2.2.2.2.2.2.2.2.1 (fun _ _ => by first | rfl | simp [sup]) (fun _ _ => by first | rfl | simp [sup]) (fun _ _ => by first | rfl | simp [sup]), V_msg.ext h.2.2.2.2.2.2.2.2.2 (fun _ => by first | rfl | simp [sup]) (fun _ => by first | rfl | simp [sup]) (fun _ => by first | rfl | simp [sup]) (fun _ => by first | rfl | simp [sup]) (fun i h1 => by simp (disch := omega) only [ru_ne])⟩
  · intro i hi
    obtain ⟨a, b, c⟩ := h.2.2.1 i hi
    refine ⟨by rw [ru_ne (by omega)]; exact a, by rw [ru_ne (by omega)]; exact b, ?_⟩
    by_cases e : i = d
    · subst e
      exact ⟨by rw [ru_eq, s_at], by rw [s_nf (by omega)]; exact c.2⟩
    · exact ⟨by rw [ru_ne (by omega), s_nf (by omega)]; exact c.1, by rw [s_nf (by omega)]; exact c.2⟩
end PX
