/-! the law sends a message -/
theorem dL_send_0 : decode cL_send 0 = .ok (.aload_n 0, 1) := by decide +kernel
theorem dL_send_1 : decode cL_send 1 = .ok (.getfield 39, 3) := by decide +kernel
theorem dL_send_4 : decode cL_send 4 = .ok (.iconst 4, 1) := by decide +kernel
theorem dL_send_5 : decode cL_send 5 = .ok (.newarray .int, 2) := by decide +kernel
theorem dL_send_7 : decode cL_send 7 = .ok (.dup, 1) := by decide +kernel
theorem dL_send_8 : decode cL_send 8 = .ok (.iconst 0, 1) := by decide +kernel
theorem dL_send_9 : decode cL_send 9 = .ok (.iload_n 1, 1) := by decide +kernel
theorem dL_send_10 : decode cL_send 10 = .ok (.iastore, 1) := by decide +kernel
theorem dL_send_11 : decode cL_send 11 = .ok (.dup, 1) := by decide +kernel
theorem dL_send_12 : decode cL_send 12 = .ok (.iconst 1, 1) := by decide +kernel
theorem dL_send_13 : decode cL_send 13 = .ok (.iload_n 2, 1) := by decide +kernel
theorem dL_send_14 : decode cL_send 14 = .ok (.iastore, 1) := by decide +kernel
theorem dL_send_15 : decode cL_send 15 = .ok (.dup, 1) := by decide +kernel
theorem dL_send_16 : decode cL_send 16 = .ok (.iconst 2, 1) := by decide +kernel
theorem dL_send_17 : decode cL_send 17 = .ok (.iload_n 3, 1) := by decide +kernel
theorem dL_send_18 : decode cL_send 18 = .ok (.iastore, 1) := by decide +kernel
theorem dL_send_19 : decode cL_send 19 = .ok (.dup, 1) := by decide +kernel
theorem dL_send_20 : decode cL_send 20 = .ok (.iconst 3, 1) := by decide +kernel
theorem dL_send_21 : decode cL_send 21 = .ok (.iload 4, 2) := by decide +kernel
theorem dL_send_23 : decode cL_send 23 = .ok (.iastore, 1) := by decide +kernel
theorem dL_send_24 : decode cL_send 24 = .ok (.invokeinterface 91 2, 5) := by decide +kernel
theorem dL_send_29 : decode cL_send 29 = .ok (.pop, 1) := by decide +kernel
theorem dL_send_30 : decode cL_send 30 = .ok (.aload_n 0, 1) := by decide +kernel
theorem dL_send_31 : decode cL_send 31 = .ok (.getfield 42, 3) := by decide +kernel
theorem dL_send_34 : decode cL_send 34 = .ok (.iload_n 1, 1) := by decide +kernel
theorem dL_send_35 : decode cL_send 35 = .ok (.dup2, 1) := by decide +kernel
theorem dL_send_36 : decode cL_send 36 = .ok (.iaload, 1) := by decide +kernel
theorem dL_send_37 : decode cL_send 37 = .ok (.iconst 1, 1) := by decide +kernel
theorem dL_send_38 : decode cL_send 38 = .ok (.iadd, 1) := by decide +kernel
theorem dL_send_39 : decode cL_send 39 = .ok (.iastore, 1) := by decide +kernel
theorem dL_send_40 : decode cL_send 40 = .ok (.return_, 1) := by decide +kernel
theorem kv_L_send : KV yL_send cL_send 5 none 4 := ⟨tw_7_41, tw_7_40, tw_p_32, tw_1_0, by decide, by decide, by decide +kernel⟩
def t_g (a b c d : Int32) : Nat → Int32 := upd (upd (upd (upd (fun _ => 0) 0 a) 1 b) 2 c) 3 d
noncomputable def f_L_send (τ : Sg) (v1 v2 v3 v4 : Int32) : Option (Int32 × Sg × Nat) :=
  if 60000 ≤ q_cc τ 2 then none else if v1 < 0 ∨ 4 ≤ v1.toNatClampNeg then none else
  some (0, sup (t_msg τ (t_g v1 v2 v3 v4)) 46 0 v1.toNatClampNeg (t_msg τ (t_g v1 v2 v3 v4) 46 0 v1.toNatClampNeg + 1), 1 + t_cst τ 2)
theorem t_add0 (τ : Sg) (o : Nat) : t_add τ o 50 o 0 = τ 50 o 0 + 1 := by simp [t_add, sup]
theorem t_add2 (τ : Sg) (o : Nat) : t_add τ o 50 o 2 = nI (q_nn τ o + 1) := by simp [t_add, sup]
theorem t_add3 (τ : Sg) (o : Nat) : t_add τ o 50 o 3 = nI (t_cap τ o) := by simp [t_add, sup]
theorem t_msg50 (τ : Sg) (g : Nat → Int32) (i j : Nat) : t_msg τ g 50 i j = t_add τ 2 50 i j := if_neg (fun q => absurd q.1 (by decide))
theorem t_msg_k {τ : Sg} {g : Nat → Int32} {k i j : Nat} (h : ¬ (k = 50 ∧ i = 2)) (h' : ¬ (2 = 2 ∧ k = 49 ∧ i = q_nn τ 2)) : t_msg τ g k i j = τ k i j := by
  show (if k = 49 ∧ i = q_nn τ 2 then _ else _) = _
  rw [if_neg (fun q => h' ⟨rfl, q⟩)]
  unfold t_add sup
  rw [if_neg (fun q => h ⟨q.1, q.2.1⟩), if_neg (fun q => h ⟨q.1, q.2.1⟩), if_neg (fun q => h ⟨q.1, q.2.1⟩)]
set_option maxHeartbeats 4000000 in
set_option maxRecDepth 100000 in
theorem m_L_send (l : Launch) (G : Gx) (ad : Ad) (N : Nn) (τ : Sg) (v1 v2 v3 v4 : Int32) (res : Int32 × Sg) (n : Nat) (hf : f_L_send τ v1 v2 v3 v4 = some (res.1, res.2, n)) (sz : Nat) : q_M l yL_send cL_send 5 none 7 157 n G ad N τ sz [.ref (ad 40 0), .int v1, .int v2, .int v3, .int v4] none res.2 := by
  refine q_begin (by decide +kernel) (Nat.le_of_ble_eq_true rfl) [(0, .ref (ad 40 0)), (1, .int v1), (2, .int v2), (3, .int v3), (4, .int v4)] rfl (fun p e s m args below meth c ls C hz S hl => ?_)
  subst hz
  generalize q_A ad N τ s.heap.size = A at S ⊢
  unfold f_L_send at hf
  obtain ⟨g1, hf⟩ := gd hf
  obtain ⟨g2, hf⟩ := gd hf
  obtain ⟨-, r2, r3⟩ := q_end hf
  rw [← r2]
  have hO := S.O
  have hO1 := hO.1
  obtain ⟨⟨ad', he, V, a, I, E⟩, S1, hA⟩ := S
  rw [← he 40 0 rfl] at hl
  obtain ⟨w1, w2, w3, w4, w5⟩ := V.2.2.2.2 2 (Or.inl (by decide))
  have hn1 : 1 ≤ n := by omega
  refine lv_aload_n C.1 C.2.1 dL_send_0 rfl (lv_at hl 0 rfl) ?_
  refine u_get C (V.1 40 0 rfl) cf_11 2 (by decide) rfl tw_4_98 dL_send_1 ?_
  refine lv_iconst (v := 4) C.1 C.2.1 dL_send_4 (by decide) ?_
  refine u_newI C S1 4 (by decide) (by decide) (Nat.le_of_ble_eq_true rfl) (by show 0 + 1 ≤ n; omega) (by show 6 * 0 + 4 ≤ 6 * n; omega) dL_send_5 (fun H1 z1 o1 x1 S1 => ?_)
  refine lv_dup C.1 C.2.1 dL_send_7 rfl ?_
  refine lv_iconst (v := 0) C.1 C.2.1 dL_send_8 (by decide) ?_
  refine lv_iload_n C.1 C.2.1 dL_send_9 rfl (lv_at hl 1 rfl) ?_
  refine u_iast C S1 x1 (hA _ (Nat.le_refl _)) (by decide) dL_send_10 (fun H2 locs2 z2 o2 x2 S1 => ?_)
  refine lv_dup C.1 C.2.1 dL_send_11 rfl ?_
  refine lv_iconst (v := 1) C.1 C.2.1 dL_send_12 (by decide) ?_
  refine lv_iload_n C.1 C.2.1 dL_send_13 rfl (lv_at hl 2 rfl) ?_
  refine u_iast C S1 x2 (hA _ (Nat.le_refl _)) (by decide) dL_send_14 (fun H3 locs3 z3 o3 x3 S1 => ?_)
  refine lv_dup C.1 C.2.1 dL_send_15 rfl ?_
  refine lv_iconst (v := 2) C.1 C.2.1 dL_send_16 (by decide) ?_
  refine lv_iload_n C.1 C.2.1 dL_send_17 rfl (lv_at hl 3 rfl) ?_
  refine u_iast C S1 x3 (hA _ (Nat.le_refl _)) (by decide) dL_send_18 (fun H4 locs4 z4 o4 x4 S1 => ?_)
  refine lv_dup C.1 C.2.1 dL_send_19 rfl ?_
  refine lv_iconst (v := 3) C.1 C.2.1 dL_send_20 (by decide) ?_
  refine lv_iload C.1 C.2.1 dL_send_21 (lv_at hl 4 rfl) ?_
  refine u_iast C S1 x4 (hA _ (Nat.le_refl _)) (by decide) dL_send_23 (fun H5 locs5 z5 o5 x5 S1 => ?_)
  have hk : ∀ q : Nat, q < s.heap.size → H5[q]? = s.heap[q]? := fun q hq => by
    rw [o5 q (by omega), o4 q (by omega), o3 q (by omega), o2 q (by omega), o1 q hq]
  have z5' : H5.size = s.heap.size + 1 := by rw [z5, z4, z3, z2, z1]
  have x5' : va_at G.1 z_cl (s.heap.size, .inl (G.2.1 0, 4, .inl (t_g v1 v2 v3 v4))) H5 := x5
  have hO5 : z_O G H5 := ⟨by omega, fun q hq => (hk q (Nat.lt_of_lt_of_le hq hO.1)).trans (hO.2 q hq)⟩
  have hWlt : ∀ k i, lp N τ k i → ad' k i < s.heap.size := fun k i h => (V.1 k i h).lt
  have h5L : va_at G.1 z_cl (ad' 50 2, e_al (τ 50 2 0) (q_ed G ad' τ 2) (τ 50 2 2)) H5 := (V.1 50 2 (Or.inl (by decide))).kept (hk _ (hWlt 50 2 (Or.inl (by decide))))
  rw [w1] at h5L
  have hLs := V.2.2.1 50 2 (Or.inl (by decide))
  have hxL : s.heap.size ≠ ad' 50 2 := Nat.ne_of_gt (hWlt 50 2 (Or.inl (by decide)))
  -- what follows the call
  have fin : ∀ (H6 : Heap) (locs6 : List Loc) (ed' : Nat) (f1 : Nat → Option Nat), va_at G.1 z_cl (ad' 50 2, e_al (τ 50 2 0 + 1) ed' (nI (q_nn τ 2 + 1))) H6 → va_at G.1 z_cl (ed', e_oa G (t_cap τ 2) f1) H6 →
      (f1 = fun i => if i < q_nn τ 2 + 1 then some (if i = q_nn τ 2 then s.heap.size else ad' 49 i) else none) → G.2.2.1.size ≤ ed' → A ed' → (∀ k i, lp N τ k i → ¬ (k = 52 ∧ i = 2) → ad' k i ≠ ed') → s.heap.size ≠ ed' →
      (∀ k i, lp N τ k i → ¬ (k = 50 ∧ i = 2) → ¬ (k = 52 ∧ i = 2) → H6[ad' k i]? = s.heap[ad' k i]?) → H6[s.heap.size]? = H5[s.heap.size]? → z_O G H6 → va_S A s.heap H6 locs6 →
      W p l e { frames := 7, cells := n, slots := 6 * n, locals := 157 } s m args below meth c H6 locs6 n (6 * n) (MQ below (k_Q none (q_V G ad N (sup (t_msg τ (t_g v1 v2 v3 v4)) 46 0 v1.toNatClampNeg (t_msg τ (t_g v1 v2 v3 v4) 46 0 v1.toNatClampNeg + 1)) A) A) args s n (6 * n) A) (F0 m 29 ls [.int 1]) := by
    intro H6 locs6 ed' f1 hL hE hf1 hEs hEA hEn hxe hkp hx6 hO6 S6
    have W6 : q_W G (fun k i => if k = 52 ∧ i = 2 then ed' else if k = 49 ∧ i = q_nn τ 2 then s.heap.size else ad' k i) N (t_msg τ (t_g v1 v2 v3 v4)) H6 := by
      refine q_added V 2 (by decide) s.heap.size ed' (fun k i j h h' => t_msg_k h h') ?_ ?_ ?_ (fun k i h h' => ?_) (if_pos ⟨rfl, rfl⟩) ?_ (fun h => absurd rfl h) (fun _ => ⟨?_, hO.1, fun k i h => Nat.ne_of_lt (hWlt k i h), hxe⟩) hL hE ?_ hEs hEn hkp hO6 (by omega)
      · rw [t_msg50, t_add0]
      · rw [t_msg50, t_add2]
      · rw [t_msg50, t_add3]
      · show (if k = 52 ∧ i = 2 then ed' else if k = 49 ∧ i = q_nn τ 2 then s.heap.size else ad' k i) = _
        rw [if_neg h, if_neg (fun q => h' ⟨rfl, q⟩)]
      · show (if (49 : Nat) = 52 ∧ q_nn τ 2 = 2 then ed' else if (49 : Nat) = 49 ∧ q_nn τ 2 = q_nn τ 2 then s.heap.size else ad' 49 (q_nn τ 2)) = _
        rw [if_neg (fun q => absurd q.1 (by decide)), if_pos ⟨rfl, rfl⟩]
      · have e1 : t_msg τ (t_g v1 v2 v3 v4) 49 (q_nn τ 2) = t_g v1 v2 v3 v4 := funext fun j => if_pos ⟨rfl, rfl⟩
        rw [e1]
        exact x5'.kept hx6
      · rw [hf1]
        funext i
        by_cases c1 : i < q_nn τ 2 + 1
        · rw [if_pos c1, if_pos c1]
          have e49 : (if (49 : Nat) = 52 ∧ i = 2 then ed' else if (49 : Nat) = 49 ∧ i = q_nn τ 2 then s.heap.size else ad' 49 i) = if i = q_nn τ 2 then s.heap.size else ad' 49 i := by simp
          exact congrArg some e49.symm
        · rw [if_neg c1, if_neg c1]
    have S : q_S G ad N x_0 (t_msg τ (t_g v1 v2 v3 v4)) [] A s.heap H6 locs6 := by
      refine ⟨⟨_, fun k i h => ?_, W6, fun k i h => ?_, fun x hx => absurd hx List.not_mem_nil, q_X0 _ _ _ _⟩, S6, hA⟩
      · show (if k = 52 ∧ i = 2 then ed' else if k = 49 ∧ i = q_nn τ 2 then s.heap.size else ad' k i) = ad k i
        rw [if_neg (fun q => by rw [q.1, q.2] at h; exact absurd h (by decide)), if_neg (fun q => by rw [q.1] at h; cases h)]
        exact he k i h
      · show A (if k = 52 ∧ i = 2 then ed' else if k = 49 ∧ i = q_nn τ 2 then s.heap.size else ad' k i)
        by_cases c1 : k = 52 ∧ i = 2
        · rw [if_pos c1]; exact hEA
        · rw [if_neg c1]
          by_cases c2 : k = 49 ∧ i = q_nn τ 2
          · rw [if_pos c2]; exact hA _ (Nat.le_refl _)
          · rw [if_neg c2]
            refine a k i ?_
            have en : ∀ i, i ≠ 2 → q_nn (t_msg τ (t_g v1 v2 v3 v4)) i = q_nn τ i := fun i hi => by unfold q_nn; rw [t_msg_k (fun q => hi q.2) (fun q => absurd q.2.1 (by decide))]
            have ec : ∀ i, i ≠ 2 → q_cc (t_msg τ (t_g v1 v2 v3 v4)) i = q_cc τ i := fun i hi => by unfold q_cc; rw [t_msg_k (fun q => hi q.2) (fun q => absurd q.2.1 (by decide))]
            have en2 : q_nn (t_msg τ (t_g v1 v2 v3 v4)) 2 = q_nn τ 2 + 1 := by
              show (t_msg τ (t_g v1 v2 v3 v4) 50 2 2).toNatClampNeg = _
              rw [t_msg50, t_add2, nI_clamp (by omega)]
            unfold lp at h ⊢
            split at h <;> try exact h
            · rw [en2] at h
              have : i ≠ q_nn τ 2 := fun q => c2 ⟨rfl, q⟩
              show i < q_nn τ 2
              omega
            · have c3 : i ≠ 2 := fun q => c1 ⟨rfl, q⟩
              exact ⟨h.1, by rw [← ec i c3]; exact h.2⟩
    rw [he 40 0 rfl] at hl
    refine lv_pop C.1 C.2.1 dL_send_29 rfl ?_
    refine lv_aload_n C.1 C.2.1 dL_send_30 rfl (lv_at hl 0 rfl) ?_
    refine q_getR C S 40 0 46 0 rfl rfl rfl cf_11 4 (by decide) (qr_40_4 G _ 0) tw_4_100 dL_send_31 ?_
    refine lv_iload_n C.1 C.2.1 dL_send_34 rfl (lv_at hl 1 rfl) ?_
    refine lv_dup2_11 C.1 C.2.1 dL_send_35 rfl rfl ?_
    refine q_iald C S 46 0 4 rfl rfl (fun _ => rfl) g2 dL_send_36 ?_
    refine lv_iconst (v := 1) C.1 C.2.1 dL_send_37 (by decide) ?_
    refine lv_iadd C.1 C.2.1 dL_send_38 ?_
    refine q_iast C S 46 0 4 rfl rfl rfl (fun _ _ => rfl) g2 dL_send_39 (fun H7 locs7 S => ?_)
    exact q_vret C S (Nat.add_zero n) rfl dL_send_40
  have kO : ∀ (H6 : Heap) (F : Nat → Prop), H5.size ≤ H6.size → (∀ q : Nat, q < H5.size → ¬ F q → H6[q]? = H5[q]?) → (∀ q, q < G.2.2.1.size → ¬ F q) → z_O G H6 := fun H6 F h1 h2 h3 => hO5.call h1 h2 h3
  have h49 : ∀ i, i < q_nn τ 2 → va_at G.1 z_cl (ad' 49 i, .inl (G.2.1 0, 4, .inl (τ 49 i))) H5 := fun i h => (V.1 49 i h).kept (hk _ (hWlt 49 i h))
  by_cases cz : q_cc τ 2 = 0
  · -- the first of all
    have nz : q_nn τ 2 = 0 := by omega
    have ecap : t_cap τ 2 = 10 := by unfold t_cap; rw [if_neg (by omega), if_pos cz]
    have ecst : t_cst τ 2 = 10 := by unfold t_cst; rw [if_neg (by omega), ecap]
    rw [show q_ed G ad' τ 2 = G.2.2.2 3 from if_pos cz, nz] at h5L
    refine k_callF C S1 hO5 (u_clsO C.2.2.2.2.2.1 h5L cf_12.1) (ci := 12) rfl [.ref s.heap.size] (k_addf l G (ad' 50 2) 2 s.heap.size (τ 50 2 0) hLs hxL H5.size) rfl ⟨h5L, ⟨4, _, x5'⟩⟩ kf_add tw_3_194 ⟨(Nat.le_of_ble_eq_true rfl), (Nat.le_of_ble_eq_true rfl)⟩ rfl rfl (Nat.le_of_ble_eq_true rfl) hl.1 ⟨by show 0 + 1 + 1 ≤ n; omega, by show 6 * 0 + 4 + 10 ≤ 6 * n; omega⟩ dL_send_24 (fun q h => by rcases h with h | h <;> first | (rw [h]; exact a 50 2 (Or.inl (by decide))) | exact hA q (by omega)) (fun H6 locs6 hp hle ok S6 => ?_)
    obtain ⟨p1, p2, p3⟩ := hp
    refine W.widen (k := n) (n := 6 * n) (by show 0 + 1 + 1 ≤ n; omega) (by show 6 * 0 + 4 + 10 ≤ 6 * n; omega) ?_
    refine fin H6 locs6 H5.size _ (by rw [nz]; exact p2) (by rw [ecap]; exact p3) ?_ (by have := hO.1; omega) (hA _ (by omega)) (fun k i h _ => Nat.ne_of_lt (by have := hWlt k i h; omega)) (by omega) (fun k i h c1 c2 => ?_) (ok _ (by omega) (by rintro (h | h) <;> first | exact hxL h | omega)) (kO H6 _ hle ok (fun q hq h => by rcases h with h | h <;> omega)) S6
    · funext i
      rw [nz]
      by_cases c1 : i = 0
      · subst c1; rfl
      · rw [if_neg (by omega)]; exact if_neg c1
    · have hw := hWlt k i h
      rw [ok _ (by omega) (by rintro (h' | h') <;> first | exact c1 (V.2.1 _ _ _ _ h (show lp N τ 50 2 from Or.inl (by decide)) h') | omega), hk _ hw]
  · have h52 : lp N τ 52 2 := ⟨Or.inl (by decide), cz⟩
    have h5E : va_at G.1 z_cl (ad' 52 2, e_oa G (q_cc τ 2) (q_el ad' τ 2)) H5 := (V.1 52 2 h52).kept (hk _ (hWlt 52 2 h52))
    rw [show q_ed G ad' τ 2 = ad' 52 2 from if_neg cz] at h5L
    have hEs := V.2.2.1 52 2 h52
    have hLe : ad' 50 2 ≠ ad' 52 2 := fun q => absurd (V.2.1 _ _ _ _ (show lp N τ 50 2 from Or.inl (by decide)) h52 q).1 (by decide)
    have hxe : s.heap.size ≠ ad' 52 2 := Nat.ne_of_gt (hWlt 52 2 h52)
    by_cases cn : q_nn τ 2 < q_cc τ 2
    · have ecap : t_cap τ 2 = q_cc τ 2 := if_pos cn
      refine k_callF C S1 hO5 (u_clsO C.2.2.2.2.2.1 h5L cf_12.1) (ci := 12) rfl [.ref s.heap.size] (k_addin l G (ad' 50 2) (ad' 52 2) (q_nn τ 2) (q_cc τ 2) 2 s.heap.size (τ 50 2 0) (q_el ad' τ 2) cn w3 hLs hEs hLe hxL H5.size) rfl ⟨h5L, h5E, ⟨4, _, x5'⟩⟩ kf_add tw_3_194 ⟨(Nat.le_of_ble_eq_true rfl), (Nat.le_of_ble_eq_true rfl)⟩ rfl rfl (Nat.le_of_ble_eq_true rfl) hl.1 ⟨by show 0 + 1 + 0 ≤ n; omega, by show 6 * 0 + 4 + 0 ≤ 6 * n; omega⟩ dL_send_24 (fun q h => by rcases h with h | h | h <;> first | (rw [h]; exact a 50 2 (Or.inl (by decide))) | (rw [h]; exact a 52 2 h52) | exact hA q (by omega)) (fun H6 locs6 hp hle ok S6 => ?_)
      obtain ⟨p1, p2, p3⟩ := hp
      refine W.widen (k := n) (n := 6 * n) (by show 0 + 1 + 0 ≤ n; omega) (by show 6 * 0 + 4 + 0 ≤ 6 * n; omega) ?_
      refine fin H6 locs6 (ad' 52 2) _ p2 (by rw [ecap]; exact p3) ?_ hEs (a 52 2 h52) (fun k i h c q => c (V.2.1 _ _ _ _ h h52 q)) hxe (fun k i h c1 c2 => ?_) (ok _ (by omega) (by rintro (h | h | h) <;> first | exact hxL h | exact hxe h | omega)) (kO H6 _ hle ok (fun q hq h => by rcases h with h | h | h <;> omega)) S6
      · funext i
        unfold va_up q_el
        by_cases c1 : i = q_nn τ 2
        · rw [if_pos c1, if_pos (by omega), if_pos c1]
        · rw [if_neg c1]
          by_cases c2 : i < q_nn τ 2
          · rw [if_pos c2, if_pos (by omega), if_neg c1]; rfl
          · rw [if_neg c2, if_neg (by omega)]
      · have hw := hWlt k i h
        rw [ok _ (by omega) (by rintro (h' | h' | h') <;> first | exact c1 (V.2.1 _ _ _ _ h (show lp N τ 50 2 from Or.inl (by decide)) h') | exact c2 (V.2.1 _ _ _ _ h h52 h') | omega), hk _ hw]
    · have enc : q_nn τ 2 = q_cc τ 2 := by omega
      have ecap : t_cap τ 2 = q_cc τ 2 + q_cc τ 2 / 2 := by unfold t_cap; rw [if_neg cn, if_neg cz]
      have ecst : t_cst τ 2 = q_cc τ 2 + q_cc τ 2 / 2 := by unfold t_cst; rw [if_neg cn, ecap]
      rw [enc] at h5L
      refine k_callF C S1 hO5 (u_clsO C.2.2.2.2.2.1 h5L cf_12.1) (ci := 12) rfl [.ref s.heap.size] (k_addg l G (ad' 50 2) (ad' 52 2) (q_cc τ 2) 2 s.heap.size (τ 50 2 0) (q_el ad' τ 2) (by omega) (by omega) hLs hEs hLe hxL hxe (fun i y hy => ?_) H5.size) rfl ⟨h5L, h5E, fun i y hy => ?_, ⟨4, _, x5'⟩⟩ kf_add tw_3_194 ⟨(Nat.le_of_ble_eq_true rfl), (Nat.le_of_ble_eq_true rfl)⟩ rfl rfl (Nat.le_of_ble_eq_true rfl) hl.1 ⟨by show 0 + 1 + 1 ≤ n; omega, by show 6 * 0 + 4 + (q_cc τ 2 + q_cc τ 2 / 2) ≤ 6 * n; omega⟩ dL_send_24 (fun q h => by rcases h with h | h | h <;> first | (rw [h]; exact a 50 2 (Or.inl (by decide))) | (rw [h]; exact a 52 2 h52) | exact hA q (by omega)) (fun H6 locs6 hp hle ok S6 => ?_)
      · unfold q_el at hy
        by_cases c1 : i < q_nn τ 2
        · rw [if_pos c1] at hy; cases hy
          exact fun q => absurd (V.2.1 _ _ _ _ (show lp N τ 49 i from c1) (show lp N τ 50 2 from Or.inl (by decide)) q).1 (by decide)
        · rw [if_neg c1] at hy; cases hy
      · unfold q_el at hy
        by_cases c1 : i < q_nn τ 2
        · rw [if_pos c1] at hy; cases hy
          exact ⟨4, _, h49 i c1⟩
        · rw [if_neg c1] at hy; cases hy
      obtain ⟨p1, p2, p3⟩ := hp
      refine W.widen (k := n) (n := 6 * n) (by show 0 + 1 + 1 ≤ n; omega) (by show 6 * 0 + 4 + (q_cc τ 2 + q_cc τ 2 / 2) ≤ 6 * n; omega) ?_
      refine fin H6 locs6 H5.size _ (by rw [enc]; exact p2) (by rw [ecap]; exact p3) ?_ (by have := hO.1; omega) (hA _ (by omega)) (fun k i h _ => Nat.ne_of_lt (by have := hWlt k i h; omega)) (by omega) (fun k i h c1 c2 => ?_) (ok _ (by omega) (by rintro (h | h | h) <;> first | exact hxL h | exact hxe h | omega)) (kO H6 _ hle ok (fun q hq h => by rcases h with h | h | h <;> omega)) S6
      · funext i
        unfold va_up va_cpy q_el
        rw [enc]
        by_cases c1 : i = q_cc τ 2
        · rw [if_pos c1, if_pos (by omega), if_pos c1]
        · rw [if_neg c1]
          by_cases c2 : i < q_cc τ 2
          · rw [if_pos ⟨Nat.zero_le _, by omega⟩, if_pos (by omega), if_pos (by omega), if_neg c1]
            rw [Nat.zero_add, Nat.sub_zero]; rfl
          · rw [if_neg (by omega), if_neg (by omega)]
      · have hw := hWlt k i h
        rw [ok _ (by omega) (by rintro (h' | h' | h') <;> first | exact c1 (V.2.1 _ _ _ _ h (show lp N τ 50 2 from Or.inl (by decide)) h') | exact c2 (V.2.1 _ _ _ _ h h52 h') | omega), hk _ hw]

