/-! a list of cars or calls grows by an element that is there -/
section QD
variable {p : Program} {l : Launch} {e : Env} {R : Room} {s : State} {m : MethodId} {args : Array Value} {below : List Frame} {meth : Method} {c : Code} {H : Heap} {locs : List Loc} {cells slots : Nat} {Q : State → Prop}
variable {cc : ByteArray} {pc : Nat} {ls : Array Slot} {rest : List Value} {own : String} {nL : Nat} {ret : Option FieldType} {G : Gx} {ad : Ad} {N : Nn} {X : Ex} {τ : Sg} {A : Nat → Prop} {H0 : Heap}
theorem t_add_k {τ : Sg} {o k i j : Nat} (h : ¬ (k = 50 ∧ i = o)) : t_add τ o k i j = τ k i j := by
  unfold t_add sup
  rw [if_neg (fun q => h ⟨q.1, q.2.1⟩), if_neg (fun q => h ⟨q.1, q.2.1⟩), if_neg (fun q => h ⟨q.1, q.2.1⟩)]
theorem q_elk {o : Nat} (ho : o = 0 ∨ o = 1) {i : Nat} {ad' : Ad} (V : q_W G ad' N τ H) (h : lp N τ (q_ek o) i) : k_el G o (ad' (q_ek o) i) H := by
  rcases ho with rfl | rfl
  · exact ⟨_, V.1 41 i h⟩
  · exact ⟨_, V.1 42 i h⟩
theorem q_lpk {o i : Nat} (ho : o = 0 ∨ o = 1) (h : i < q_mk N τ o) : lp N τ (q_ek o) i := by
  rcases ho with rfl | rfl
  · exact h
  · exact h
set_option maxHeartbeats 4000000 in
theorem q_lsAdd (C : Cx p s m args meth c own cc nL ret G) (S : q_S G ad N X τ [] A H0 H locs) (o : Nat) (ho : o = 0 ∨ o = 1) (hmk : q_nn τ o < q_mk N τ o) (h9 : q_cc τ o ≤ 60000) {index count : Nat} (hl : Cond.methodLink own index ⟨"java/util/List", "add", "(Ljava/lang/Object;)Z"⟩ ∈ TT) (hR : 6 + 1 ≤ R.frames ∧ 8 + (2 + 11) + 136 ≤ R.locals) (hW8 : (rest.map fun v => v.category).sum ≤ 8) (hls : ls.size = nL) (hcs : cells + t_cst τ o ≤ R.cells ∧ slots + 6 * t_cst τ o ≤ R.slots) (hdg : decode cc pc = .ok (.invokeinterface index count, 5))
    (kk : ∀ (H1 : Heap) (locs1 : List Loc), q_S G ad N X (t_add τ o) [] A H0 H1 locs1 → W p l e R s m args below meth c H1 locs1 (cells + t_cst τ o) (slots + 6 * t_cst τ o) Q (F0 m (pc + 5) ls (.int 1 :: rest))) : W p l e R s m args below meth c H locs cells slots Q (F0 m pc ls (.ref (ad (q_ek o) (q_nn τ o)) :: .ref (ad 50 o) :: rest)) := by
  have hO := S.O
  have hO1 := hO.1
  obtain ⟨⟨ad', he, V, a, I, E⟩, S1, hA⟩ := S
  have ho2 : o ≠ 2 := by omega
  have ho3 : o < 3 := by omega
  rw [← he 50 o (q_st50 ho2), ← he _ _ (q_stek ho2 _)]
  obtain ⟨w1, w2, w3, w4, w5⟩ := V.2.2.2.2 o (Or.inl ho3)
  have hWlt : ∀ k i, lp N τ k i → ad' k i < H.size := fun k i h => (V.1 k i h).lt
  have h50 : lp N τ 50 o := Or.inl ho3
  have h5L : va_at G.1 z_cl (ad' 50 o, e_al (τ 50 o 0) (q_ed G ad' τ o) (τ 50 o 2)) H := V.1 50 o h50
  rw [w1] at h5L
  have hLs := V.2.2.1 50 o h50
  have hx := q_lpk (N := N) (τ := τ) ho hmk
  have hxe := q_elk ho V hx
  have hxL : ad' (q_ek o) (q_nn τ o) ≠ ad' 50 o := fun q => absurd (V.2.1 _ _ _ _ hx h50 q).1 (by rcases ho with rfl | rfl <;> decide)
  have fin : ∀ (H6 : Heap) (locs6 : List Loc) (ed' : Nat) (f1 : Nat → Option Nat), va_at G.1 z_cl (ad' 50 o, e_al (τ 50 o 0 + 1) ed' (nI (q_nn τ o + 1))) H6 → va_at G.1 z_cl (ed', e_oa G (t_cap τ o) f1) H6 →
      (f1 = fun i => if i < q_nn τ o + 1 then some (ad' (q_ek o) i) else none) → G.2.2.1.size ≤ ed' → A ed' → (∀ k i, lp N τ k i → ¬ (k = 52 ∧ i = o) → ad' k i ≠ ed') → (∀ q, X.1 q → ed' ≠ q) →
      (∀ k i, lp N τ k i → ¬ (k = 50 ∧ i = o) → ¬ (k = 52 ∧ i = o) → H6[ad' k i]? = H[ad' k i]?) → (∀ q, X.1 q → H6[q]? = H[q]?) → H.size ≤ H6.size → z_O G H6 → va_S A H0 H6 locs6 → q_S G ad N X (t_add τ o) [] A H0 H6 locs6 := by
    intro H6 locs6 ed' f1 hL hE hf1 hEs hEA hEn hEx hkp hkx hz6 hO6 S6
    have W6 : q_W G (fun k i => if k = 52 ∧ i = o then ed' else ad' k i) N (t_add τ o) H6 := by
      refine q_added V o ho3 (ad' (q_ek o) (q_nn τ o)) ed' (fun k i j h _ => t_add_k h) (t_add0 τ o) (t_add2 τ o) (t_add3 τ o) (fun k i h _ => if_neg h) (if_pos ⟨rfl, rfl⟩) (if_neg (fun q => q_ek52 o q.1)) (fun _ => hmk) (fun h => absurd h ho2) hL hE ?_ hEs hEn hkp hO6 h9
      rw [hf1]
      funext i
      by_cases c1 : i < q_nn τ o + 1
      · rw [if_pos c1, if_pos c1, if_neg (fun q => q_ek52 o q.1)]
      · rw [if_neg c1, if_neg c1]
    have hlp : ∀ k i, lp N (t_add τ o) k i → lp N τ k i ∨ (k = 52 ∧ i = o) := by
      intro k i h
      by_cases c1 : k = 52 ∧ i = o
      · exact Or.inr c1
      refine Or.inl ?_
      have en : ∀ i, i ≠ o → q_nn (t_add τ o) i = q_nn τ i := fun i hi => by unfold q_nn; rw [t_add_k (fun q => hi q.2)]
      have ec : ∀ i, i ≠ o → q_cc (t_add τ o) i = q_cc τ i := fun i hi => by unfold q_cc; rw [t_add_k (fun q => hi q.2)]
      unfold lp at h ⊢
      split at h <;> try exact h
      · rw [en 2 (Ne.symm ho2)] at h; exact h
      · have c3 : i ≠ o := fun q => c1 ⟨rfl, q⟩
        exact ⟨h.1, by rw [← ec i c3]; exact h.2⟩
    refine ⟨⟨_, fun k i h => ?_, W6, fun k i h => ?_, fun x hx => absurd hx List.not_mem_nil, E.step hz6 hkx (fun q hq h1 h2 k i h => ?_)⟩, S6, hA⟩
    · show (if k = 52 ∧ i = o then ed' else ad' k i) = ad k i
      rw [if_neg (fun q => by rw [q.1, q.2] at h; rcases ho with rfl | rfl <;> cases h)]
      exact he k i h
    · show A (if k = 52 ∧ i = o then ed' else ad' k i)
      by_cases c1 : k = 52 ∧ i = o
      · rw [if_pos c1]; exact hEA
      · rw [if_neg c1]; exact a k i ((hlp k i h).resolve_right c1)
    · show (if k = 52 ∧ i = o then ed' else ad' k i) ≠ q
      by_cases c1 : k = 52 ∧ i = o
      · rw [if_pos c1]; exact hEx q hq
      · rw [if_neg c1]; exact h2 k i ((hlp k i h).resolve_right c1)
  have hXw : ∀ q, X.1 q → q < H.size ∧ ∀ k i, lp N τ k i → ad' k i ≠ q := E.2.1
  by_cases cz : q_cc τ o = 0
  · have nz : q_nn τ o = 0 := by omega
    have ecap : t_cap τ o = 10 := by unfold t_cap; rw [if_neg (by omega), if_pos cz]
    have ecst : t_cst τ o = 10 := by unfold t_cst; rw [if_neg (by omega), ecap]
    rw [show q_ed G ad' τ o = G.2.2.2 3 from if_pos cz, nz] at h5L
    rw [ecst] at hcs kk
    refine k_callF C S1 hO (u_clsO C.2.2.2.2.2.1 h5L cf_12.1) (ci := 12) rfl [.ref (ad' (q_ek o) (q_nn τ o))] (k_addf l G (ad' 50 o) o _ (τ 50 o 0) hLs hxL H.size) rfl ⟨h5L, hxe⟩ kf_add hl ⟨by have := hR.1; omega, by have := hR.2; omega⟩ rfl rfl hW8 hls ⟨by omega, by omega⟩ hdg (fun q h => by rcases h with h | h <;> first | (rw [h]; exact a 50 o h50) | exact hA q (Nat.le_trans S1.1 h)) (fun H6 locs6 hp hle ok S6 => ?_)
    obtain ⟨p1, p2, p3⟩ := hp
    refine W.widen (k := cells + 10) (n := slots + 6 * 10) (by omega) (by omega) (kk H6 locs6 (fin H6 locs6 H.size _ (by rw [nz]; exact p2) (by rw [ecap]; exact p3) ?_ hO1 (hA _ S1.1) (fun k i h _ => Nat.ne_of_lt (hWlt k i h)) (fun q hq => Nat.ne_of_gt (hXw q hq).1) (fun k i h c1 c2 => ?_) (fun q hq => ok q (hXw q hq).1 (by rintro (h | h); exact (hXw q hq).2 50 o h50 h.symm; have := (hXw q hq).1; omega)) hle (hO.call hle ok (fun q hq h => by rcases h with h | h <;> omega)) S6))
    · funext i
      rw [nz]
      by_cases c1 : i = 0
      · subst c1; rfl
      · rw [if_neg (by omega)]; exact if_neg c1
    · have hw := hWlt k i h
      exact ok _ hw (by rintro (h' | h') <;> first | exact c1 (V.2.1 _ _ _ _ h h50 h') | omega)
  · have h52 : lp N τ 52 o := ⟨Or.inl ho3, cz⟩
    have h5E : va_at G.1 z_cl (ad' 52 o, e_oa G (q_cc τ o) (q_el ad' τ o)) H := V.1 52 o h52
    rw [show q_ed G ad' τ o = ad' 52 o from if_neg cz] at h5L
    have hEs := V.2.2.1 52 o h52
    have hLe : ad' 50 o ≠ ad' 52 o := fun q => absurd (V.2.1 _ _ _ _ h50 h52 q).1 (by decide)
    have hxed : ad' (q_ek o) (q_nn τ o) ≠ ad' 52 o := fun q => q_ek52 o (V.2.1 _ _ _ _ hx h52 q).1
    by_cases cn : q_nn τ o < q_cc τ o
    · have ecap : t_cap τ o = q_cc τ o := if_pos cn
      have ecst : t_cst τ o = 0 := if_pos cn
      rw [ecst] at hcs kk
      refine k_callF C S1 hO (u_clsO C.2.2.2.2.2.1 h5L cf_12.1) (ci := 12) rfl [.ref (ad' (q_ek o) (q_nn τ o))] (k_addin l G (ad' 50 o) (ad' 52 o) (q_nn τ o) (q_cc τ o) o _ (τ 50 o 0) (q_el ad' τ o) cn w3 hLs hEs hLe hxL H.size) rfl ⟨h5L, h5E, hxe⟩ kf_add hl ⟨by have := hR.1; omega, by have := hR.2; omega⟩ rfl rfl hW8 hls ⟨by omega, by omega⟩ hdg (fun q h => by rcases h with h | h | h <;> first | (rw [h]; exact a 50 o h50) | (rw [h]; exact a 52 o h52) | exact hA q (Nat.le_trans S1.1 h)) (fun H6 locs6 hp hle ok S6 => ?_)
      obtain ⟨p1, p2, p3⟩ := hp
      refine W.widen (k := cells + 0) (n := slots + 6 * 0) (by omega) (by omega) (kk H6 locs6 (fin H6 locs6 (ad' 52 o) _ p2 (by rw [ecap]; exact p3) ?_ hEs (a 52 o h52) (fun k i h c q => c (V.2.1 _ _ _ _ h h52 q)) (fun q hq => (hXw q hq).2 52 o h52) (fun k i h c1 c2 => ?_) (fun q hq => ok q (hXw q hq).1 (by rintro (h | h | h); exact (hXw q hq).2 50 o h50 h.symm; exact (hXw q hq).2 52 o h52 h.symm; have := (hXw q hq).1; omega)) hle (hO.call hle ok (fun q hq h => by rcases h with h | h | h <;> omega)) S6))
      · funext i
        unfold va_up q_el
        by_cases c1 : i = q_nn τ o
        · rw [if_pos c1, if_pos (by omega), c1]
        · rw [if_neg c1]
          by_cases c2 : i < q_nn τ o
          · rw [if_pos c2, if_pos (by omega)]
          · rw [if_neg c2, if_neg (by omega)]
      · have hw := hWlt k i h
        exact ok _ hw (by rintro (h' | h' | h') <;> first | exact c1 (V.2.1 _ _ _ _ h h50 h') | exact c2 (V.2.1 _ _ _ _ h h52 h') | omega)
    · have enc : q_nn τ o = q_cc τ o := by omega
      have ecap : t_cap τ o = q_cc τ o + q_cc τ o / 2 := by unfold t_cap; rw [if_neg cn, if_neg cz]
      have ecst : t_cst τ o = q_cc τ o + q_cc τ o / 2 := by unfold t_cst; rw [if_neg cn, ecap]
      rw [ecst] at hcs kk
      rw [enc] at h5L
      have hlpo : ∀ i, i < q_nn τ o → lp N τ (q_ek o) i := fun i h => q_lpk ho (Nat.lt_of_lt_of_le h w5)
      refine k_callF C S1 hO (u_clsO C.2.2.2.2.2.1 h5L cf_12.1) (ci := 12) rfl [.ref (ad' (q_ek o) (q_nn τ o))] (k_addg l G (ad' 50 o) (ad' 52 o) (q_cc τ o) o _ (τ 50 o 0) (q_el ad' τ o) (by omega) (by omega) hLs hEs hLe hxL hxed (fun i y hy => ?_) H.size) rfl ⟨h5L, h5E, fun i y hy => ?_, hxe⟩ kf_add hl ⟨by have := hR.1; omega, by have := hR.2; omega⟩ rfl rfl hW8 hls ⟨by omega, by omega⟩ hdg (fun q h => by rcases h with h | h | h <;> first | (rw [h]; exact a 50 o h50) | (rw [h]; exact a 52 o h52) | exact hA q (Nat.le_trans S1.1 h)) (fun H6 locs6 hp hle ok S6 => ?_)
      · unfold q_el at hy
        by_cases c1 : i < q_nn τ o
        · rw [if_pos c1] at hy; cases hy
          exact fun q => absurd (V.2.1 _ _ _ _ (hlpo i c1) h50 q).1 (by rcases ho with rfl | rfl <;> decide)
        · rw [if_neg c1] at hy; cases hy
      · unfold q_el at hy
        by_cases c1 : i < q_nn τ o
        · rw [if_pos c1] at hy; cases hy
          exact q_elk ho V (hlpo i c1)
        · rw [if_neg c1] at hy; cases hy
      obtain ⟨p1, p2, p3⟩ := hp
      refine W.widen (k := cells + (q_cc τ o + q_cc τ o / 2)) (n := slots + 6 * (q_cc τ o + q_cc τ o / 2)) (by omega) (by omega) (kk H6 locs6 (fin H6 locs6 H.size _ (by rw [enc]; exact p2) (by rw [ecap]; exact p3) ?_ hO1 (hA _ S1.1) (fun k i h _ => Nat.ne_of_lt (hWlt k i h)) (fun q hq => Nat.ne_of_gt (hXw q hq).1) (fun k i h c1 c2 => ?_) (fun q hq => ok q (hXw q hq).1 (by rintro (h | h | h); exact (hXw q hq).2 50 o h50 h.symm; exact (hXw q hq).2 52 o h52 h.symm; have := (hXw q hq).1; omega)) hle (hO.call hle ok (fun q hq h => by rcases h with h | h | h <;> omega)) S6))
      · funext i
        unfold va_up va_cpy q_el
        rw [enc]
        by_cases c1 : i = q_cc τ o
        · rw [if_pos c1, if_pos (by omega), c1]
        · rw [if_neg c1]
          by_cases c2 : i < q_cc τ o
          · rw [if_pos ⟨Nat.zero_le _, by omega⟩, if_pos (by omega), if_pos (by omega), Nat.zero_add, Nat.sub_zero]
          · rw [if_neg (by omega), if_neg (by omega)]
      · have hw := hWlt k i h
        exact ok _ hw (by rintro (h' | h' | h') <;> first | exact c1 (V.2.1 _ _ _ _ h h50 h') | exact c2 (V.2.1 _ _ _ _ h h52 h') | omega)
end QD
/-! a new call's cells in the world -/
def c_new (a b c : Int32) (i : Nat) : Int32 := match i with | 0 => a | 1 => b | 2 => c | 3 => 0 | 4 => -1 | 5 => -1 | 6 => -1 | 7 => 0 | 8 => -1 | 9 => 0 | 10 => -1 | _ => 0
def t_new (τ : Sg) (a b c : Int32) : Sg := fun k o i => if k = 42 ∧ o = q_nn τ 1 then c_new a b c i else if k = 43 ∧ 4 * q_nn τ 1 ≤ o then (if i = 2 then -1 else 0) else if k = 44 ∧ 4 * q_nn τ 1 ≤ o then (if i < 4 then -1 else 0) else τ k o i
def t_nad (ad : Ad) (n x : Nat) : Ad := fun k o => if k = 42 ∧ o = n then x else if k = 45 ∧ o = n then x + 1 else if k = 43 ∧ 4 * n ≤ o then x + 2 + 2 * (o - 4 * n) else if k = 44 ∧ 4 * n ≤ o then x + 3 + 2 * (o - 4 * n) else ad k o
theorem t_nad_o {ad : Ad} {n x k o : Nat} (h1 : ¬ (k = 42 ∧ o = n)) (h2 : ¬ (k = 45 ∧ o = n)) (h3 : ¬ (k = 43 ∧ 4 * n ≤ o)) (h4 : ¬ (k = 44 ∧ 4 * n ≤ o)) : t_nad ad n x k o = ad k o := by
  unfold t_nad
  rw [if_neg h1, if_neg h2, if_neg h3, if_neg h4]
theorem t_new_o {τ : Sg} {a b c : Int32} {k o : Nat} (h1 : ¬ (k = 42 ∧ o = q_nn τ 1)) (h3 : ¬ (k = 43 ∧ 4 * q_nn τ 1 ≤ o)) (h4 : ¬ (k = 44 ∧ 4 * q_nn τ 1 ≤ o)) : t_new τ a b c k o = τ k o := by
  funext i
  unfold t_new
  rw [if_neg h1, if_neg h3, if_neg h4]
def c_cells (G : Gx) (x : Nat) (a b c : Int32) (H : Heap) : Prop :=
  va_at G.1 z_cl (x, e_c0 a b c (x + 1)) H ∧ va_at G.1 z_cl (x + 1, .inl (G.2.1 4, 4, .inr (.inr (.inr (.inr (va_up (va_up (va_up (va_up (fun _ => none) 0 (some (x + 1 + 1))) 1 (some (x + 1 + 3))) 2 (some (x + 1 + 5))) 3 (some (x + 1 + 7)))))))) H ∧
  ∀ j, j < 4 → va_at G.1 z_cl (x + 2 + 2 * j, e_kn (x + 3 + 2 * j)) H ∧ va_at G.1 z_cl (x + 3 + 2 * j, e_m4 G) H
set_option maxHeartbeats 4000000 in
theorem q_newCall {G : Gx} {ad : Ad} {nc x : Nat} {τ : Sg} {H H1 : Heap} {a b c : Int32} (V : q_W G ad (nc, q_nn τ 1, 0, 0) τ H) (hx : H.size ≤ x) (hc : c_cells G x a b c H1) (hk : ∀ q : Nat, q < H.size → H1[q]? = H[q]?) (hO : z_O G H1) : q_W G (t_nad ad (q_nn τ 1) x) (nc, q_nn τ 1 + 1, 0, 0) (t_new τ a b c) H1 := by
  obtain ⟨V1, V2, V3, V4, V5⟩ := V
  have hn : ∀ o, q_nn (t_new τ a b c) o = q_nn τ o := fun o => by unfold q_nn; rw [t_new_o (by simp) (by simp) (by simp)]
  have hcc : ∀ o, q_cc (t_new τ a b c) o = q_cc τ o := fun o => by unfold q_cc; rw [t_new_o (by simp) (by simp) (by simp)]
  have hGx : G.2.2.1.size ≤ x := Nat.le_trans V4.1 hx
  have hlt : ∀ k o, lp (nc, q_nn τ 1, 0, 0) τ k o → ad k o < H.size := fun k o h => (V1 k o h).lt
  -- old or new
  have key : ∀ k o, lp (nc, q_nn τ 1 + 1, 0, 0) (t_new τ a b c) k o → (lp (nc, q_nn τ 1, 0, 0) τ k o ∧ ¬ (k = 42 ∧ o = q_nn τ 1) ∧ ¬ (k = 45 ∧ o = q_nn τ 1) ∧ ¬ (k = 43 ∧ 4 * q_nn τ 1 ≤ o) ∧ ¬ (k = 44 ∧ 4 * q_nn τ 1 ≤ o)) ∨ (k = 42 ∧ o = q_nn τ 1) ∨ (k = 45 ∧ o = q_nn τ 1) ∨ (k = 43 ∧ ∃ j, j < 4 ∧ o = 4 * q_nn τ 1 + j) ∨ (k = 44 ∧ ∃ j, j < 4 ∧ o = 4 * q_nn τ 1 + j) := by
    intro k o h
    unfold lp at h
    split at h
    · exact Or.inl ⟨h, by simp, by simp, by simp, by simp⟩
    · exact Or.inl ⟨h, by simp, by simp, by simp, by simp⟩
    · by_cases q : o = q_nn τ 1
      · exact Or.inr (Or.inl ⟨rfl, q⟩)
      · exact Or.inl ⟨(show o < q_nn τ 1 by have : o < q_nn τ 1 + 1 := h; omega), by simpa using q, by simp, by simp, by simp⟩
    · by_cases q : 4 * q_nn τ 1 ≤ o
      · exact Or.inr (Or.inr (Or.inr (Or.inl ⟨rfl, o - 4 * q_nn τ 1, by have : o < 4 * (q_nn τ 1 + 1) := h; omega, by omega⟩)))
      · exact Or.inl ⟨(show o < 4 * q_nn τ 1 by omega), by simp, by simp, by simpa using q, by simp⟩
    · by_cases q : 4 * q_nn τ 1 ≤ o
      · exact Or.inr (Or.inr (Or.inr (Or.inr ⟨rfl, o - 4 * q_nn τ 1, by have : o < 4 * (q_nn τ 1 + 1) := h; omega, by omega⟩)))
      · exact Or.inl ⟨(show o < 4 * q_nn τ 1 by omega), by simp, by simp, by simp, by simpa using q⟩
    · by_cases q : o = q_nn τ 1
      · exact Or.inr (Or.inr (Or.inl ⟨rfl, q⟩))
      · exact Or.inl ⟨(show o < q_nn τ 1 by have : o < q_nn τ 1 + 1 := h; omega), by simp, by simpa using q, by simp, by simp⟩
    · exact Or.inl ⟨h, by simp, by simp, by simp, by simp⟩
    · exact Or.inl ⟨h, by simp, by simp, by simp, by simp⟩
    · exact Or.inl ⟨h, by simp, by simp, by simp, by simp⟩
    · exact Or.inl ⟨(by rw [hn] at h; exact h), by simp, by simp, by simp, by simp⟩
    · exact Or.inl ⟨(by rcases h with h | h; exact Or.inl h; exact Or.inr h), by simp, by simp, by simp, by simp⟩
    · exact Or.inl ⟨h, by simp, by simp, by simp, by simp⟩
    · exact Or.inl ⟨(by rw [hcc] at h; exact ⟨(by rcases h.1 with h | h; exact Or.inl h; exact Or.inr h), h.2⟩), by simp, by simp, by simp, by simp⟩
    · exact h.elim
  have a42 : t_nad ad (q_nn τ 1) x 42 (q_nn τ 1) = x := if_pos ⟨rfl, rfl⟩
  have a45 : t_nad ad (q_nn τ 1) x 45 (q_nn τ 1) = x + 1 := (if_neg (by simp)).trans (if_pos ⟨rfl, rfl⟩)
  have a43 : ∀ j, t_nad ad (q_nn τ 1) x 43 (4 * q_nn τ 1 + j) = x + 2 + 2 * j := fun j => by
    unfold t_nad
    rw [if_neg (by simp), if_neg (by simp), if_pos ⟨rfl, by omega⟩, Nat.add_sub_cancel_left]
  have a44 : ∀ j, t_nad ad (q_nn τ 1) x 44 (4 * q_nn τ 1 + j) = x + 3 + 2 * j := fun j => by
    unfold t_nad
    rw [if_neg (by simp), if_neg (by simp), if_neg (by simp), if_pos ⟨rfl, by omega⟩, Nat.add_sub_cancel_left]
  have hcel : ∀ k o, lp (nc, q_nn τ 1, 0, 0) τ k o → ¬ (k = 42 ∧ o = q_nn τ 1) → ¬ (k = 45 ∧ o = q_nn τ 1) → ¬ (k = 43 ∧ 4 * q_nn τ 1 ≤ o) → ¬ (k = 44 ∧ 4 * q_nn τ 1 ≤ o) → q_cel G (t_nad ad (q_nn τ 1) x) (t_new τ a b c) k o = q_cel G ad τ k o := by
    intro k o h c1 c2 c3 c4
    have e0 : t_new τ a b c k o = τ k o := t_new_o c1 c3 c4
    have k50 : ∀ o, t_nad ad (q_nn τ 1) x 50 o = ad 50 o := fun o => t_nad_o (by simp) (by simp) (by simp) (by simp)
    have k52 : ∀ o, t_nad ad (q_nn τ 1) x 52 o = ad 52 o := fun o => t_nad_o (by simp) (by simp) (by simp) (by simp)
    have k46 : ∀ k o, k ≠ 42 → k ≠ 43 → k ≠ 44 → k ≠ 45 → t_nad ad (q_nn τ 1) x k o = ad k o := fun k o h1 h2 h3 h4 => t_nad_o (fun q => h1 q.1) (fun q => h4 q.1) (fun q => h2 q.1) (fun q => h3 q.1)
    unfold lp at h
    split at h
    · simp only [q_cel, e0, k50, k46 46 0 (by decide) (by decide) (by decide) (by decide), k46 47 0 (by decide) (by decide) (by decide) (by decide), k46 48 0 (by decide) (by decide) (by decide) (by decide)]
    · simp only [q_cel, e0]
    · simp only [q_cel, e0, t_nad_o (ad := ad) (x := x) (k := 45) (o := o) (by simp) (fun q => c1 ⟨rfl, q.2⟩) (by simp) (by simp)]
    · simp only [q_cel, e0, t_nad_o (ad := ad) (x := x) (k := 44) (o := o) (by simp) (by simp) (by simp) (fun q => c3 ⟨rfl, q.2⟩)]
    · simp only [q_cel, e0]
    · simp only [q_cel]
      have hlt : o < q_nn τ 1 := h
      have : (fun i => if i < 4 then some (t_nad ad (q_nn τ 1) x 43 (4 * o + i)) else none) = fun i => if i < 4 then some (ad 43 (4 * o + i)) else none := by
        funext i
        by_cases ci : i < 4
        · rw [if_pos ci, if_pos ci, t_nad_o (by simp) (by simp) (by simp; omega) (by simp)]
        · rw [if_neg ci, if_neg ci]
      rw [this]
    · simp only [q_cel, e0]
    · simp only [q_cel, e0]
    · simp only [q_cel, e0]
    · simp only [q_cel, e0]
    · show e_al _ _ _ = e_al _ _ _
      unfold q_ed
      rw [e0, hcc, k52]
    · simp only [q_cel, e0]
    · show e_oa _ _ _ = e_oa _ _ _
      rw [hcc]
      have : q_el (t_nad ad (q_nn τ 1) x) (t_new τ a b c) o = q_el ad τ o := by
        funext j
        unfold q_el
        rw [hn]
        by_cases cj : j < q_nn τ o
        · rw [if_pos cj, if_pos cj]
          have ho3 : o < 3 := by
            rcases h.1 with h | h
            · exact h
            · exact absurd (show (0 : Nat) = 1 from h.2) (by decide)
          rcases (show o = 0 ∨ o = 1 ∨ o = 2 by omega) with rfl | rfl | rfl
          · rw [k46 (q_ek 0) j (by decide) (by decide) (by decide) (by decide)]
          · rw [show t_nad ad (q_nn τ 1) x (q_ek 1) j = ad (q_ek 1) j from t_nad_o (fun q => by have := q.2; omega) (fun q => absurd q.1 (by decide)) (fun q => absurd q.1 (by decide)) (fun q => absurd q.1 (by decide))]
          · rw [k46 (q_ek 2) j (by decide) (by decide) (by decide) (by decide)]
        · rw [if_neg cj, if_neg cj]
      rw [this]
    · exact h.elim
  obtain ⟨hc1, hc2, hc3⟩ := hc
  refine ⟨fun k o h => ?_, fun k1 o1 k2 o2 h1 h2 he => ?_, fun k o h => ?_, hO, fun o ho => ?_⟩
  · rcases key k o h with ⟨h0, c1, c2, c3, c4⟩ | ⟨rfl, rfl⟩ | ⟨rfl, rfl⟩ | ⟨rfl, j, hj, rfl⟩ | ⟨rfl, j, hj, rfl⟩
    · rw [t_nad_o c1 c2 c3 c4, hcel k o h0 c1 c2 c3 c4]
      exact (V1 k o h0).kept (hk _ (hlt k o h0))
    · rw [a42]
      have e0 : t_new τ a b c 42 (q_nn τ 1) = c_new a b c := funext fun i => if_pos ⟨rfl, rfl⟩
      simp only [q_cel, e0, a45]
      exact hc1
    · rw [a45]
      simp only [q_cel]
      have : (fun i => if i < 4 then some (t_nad ad (q_nn τ 1) x 43 (4 * q_nn τ 1 + i)) else none) = va_up (va_up (va_up (va_up (fun _ => none) 0 (some (x + 1 + 1))) 1 (some (x + 1 + 3))) 2 (some (x + 1 + 5))) 3 (some (x + 1 + 7)) := by
        funext i
        by_cases ci : i < 4
        · rw [if_pos ci, a43]
          rcases (show i = 0 ∨ i = 1 ∨ i = 2 ∨ i = 3 by omega) with rfl | rfl | rfl | rfl <;> rfl
        · rw [if_neg ci]
          unfold va_up
          rw [if_neg (by omega), if_neg (by omega), if_neg (by omega), if_neg (by omega)]
      rw [this]
      exact hc2
    · rw [a43]
      have e0 : ∀ i, t_new τ a b c 43 (4 * q_nn τ 1 + j) i = if i = 2 then -1 else 0 := fun i => (if_neg (by simp)).trans (if_pos ⟨rfl, by omega⟩)
      simp only [q_cel, e0, a44]
      exact (hc3 j hj).1
    · rw [a44]
      have e0 : t_new τ a b c 44 (4 * q_nn τ 1 + j) = upd (upd (upd (upd (fun _ => 0) 0 (-1)) 1 (-1)) 2 (-1)) 3 (-1) := by
        funext i
        refine ((if_neg (by simp)).trans ((if_neg (by simp)).trans (if_pos ⟨rfl, by omega⟩))).trans ?_
        by_cases ci : i < 4
        · rw [if_pos ci]
          rcases (show i = 0 ∨ i = 1 ∨ i = 2 ∨ i = 3 by omega) with rfl | rfl | rfl | rfl <;> rfl
        · rw [if_neg ci]
          unfold upd
          rw [if_neg (by omega), if_neg (by omega), if_neg (by omega), if_neg (by omega)]
      simp only [q_cel, e0]
      exact (hc3 j hj).2
  · rcases key k1 o1 h1 with ⟨g0, c1, c2, c3, c4⟩ | ⟨rfl, rfl⟩ | ⟨rfl, rfl⟩ | ⟨rfl, j, hj, rfl⟩ | ⟨rfl, j, hj, rfl⟩ <;> rcases key k2 o2 h2 with ⟨g0', d1, d2, d3, d4⟩ | ⟨rfl, e2⟩ | ⟨rfl, e2⟩ | ⟨rfl, j', hj', e2⟩ | ⟨rfl, j', hj', e2⟩
    all_goals first | subst e2 | skip
    · rw [t_nad_o c1 c2 c3 c4, t_nad_o d1 d2 d3 d4] at he
      exact V2 _ _ _ _ g0 g0' he
    all_goals first | (rw [t_nad_o c1 c2 c3 c4] at he; have := hlt _ _ g0) | skip
    all_goals first | (rw [t_nad_o d1 d2 d3 d4] at he; have := hlt _ _ g0') | skip
    all_goals simp only [a42, a45, a43, a44] at he
    all_goals first | omega | exact ⟨rfl, rfl⟩ | exact ⟨rfl, by omega⟩
  · rcases key k o h with ⟨h0, c1, c2, c3, c4⟩ | ⟨rfl, rfl⟩ | ⟨rfl, rfl⟩ | ⟨rfl, j, hj, rfl⟩ | ⟨rfl, j, hj, rfl⟩
    · rw [t_nad_o c1 c2 c3 c4]
      exact V3 k o h0
    · rw [a42]; exact hGx
    · rw [a45]; omega
    · rw [a43]; omega
    · rw [a44]; omega
  · have ho3 : o < 3 := by
      rcases ho with h | h
      · exact h
      · exact absurd (show (0 : Nat) = 1 from h.2) (by decide)
    have := V5 o (Or.inl ho3)
    rw [hn, hcc, t_new_o (by simp) (by simp) (by simp)]
    refine ⟨this.1, this.2.1, this.2.2.1, this.2.2.2.1, ?_⟩
    have h5 := this.2.2.2.2
    rcases (show o = 0 ∨ o = 1 ∨ o = 2 by omega) with rfl | rfl | rfl
    · rw [q_mk0] at h5 ⊢; exact h5
    · rw [q_mk1]; exact Nat.le_succ _
    · rw [q_mk2, hn]; exact Nat.le_refl _
