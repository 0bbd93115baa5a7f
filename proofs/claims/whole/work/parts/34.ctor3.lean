theorem dX3_init_0 : decode cX3_init 0 = .ok (.aload_n 0, 1) := by decide +kernel
theorem dX3_init_1 : decode cX3_init 1 = .ok (.invokespecial 3, 3) := by decide +kernel
theorem dX3_init_4 : decode cX3_init 4 = .ok (.aload_n 0, 1) := by decide +kernel
theorem dX3_init_5 : decode cX3_init 5 = .ok (.bipush 10, 2) := by decide +kernel
theorem dX3_init_7 : decode cX3_init 7 = .ok (.anewarray 9, 3) := by decide +kernel
theorem dX3_init_10 : decode cX3_init 10 = .ok (.putfield 11, 3) := by decide +kernel
theorem dX3_init_13 : decode cX3_init 13 = .ok (.iconst 0, 1) := by decide +kernel
theorem dX3_init_14 : decode cX3_init 14 = .ok (.istore_n 1, 1) := by decide +kernel
theorem dX3_init_15 : decode cX3_init 15 = .ok (.iload_n 1, 1) := by decide +kernel
theorem dX3_init_16 : decode cX3_init 16 = .ok (.bipush 10, 2) := by decide +kernel
theorem dX3_init_18 : decode cX3_init 18 = .ok (.if_icmp .ge 22, 3) := by decide +kernel
theorem dX3_init_21 : decode cX3_init 21 = .ok (.aload_n 0, 1) := by decide +kernel
theorem dX3_init_22 : decode cX3_init 22 = .ok (.getfield 11, 3) := by decide +kernel
theorem dX3_init_25 : decode cX3_init 25 = .ok (.iload_n 1, 1) := by decide +kernel
theorem dX3_init_26 : decode cX3_init 26 = .ok (.new 9, 3) := by decide +kernel
theorem dX3_init_29 : decode cX3_init 29 = .ok (.dup, 1) := by decide +kernel
theorem dX3_init_30 : decode cX3_init 30 = .ok (.invokespecial 17, 3) := by decide +kernel
theorem dX3_init_33 : decode cX3_init 33 = .ok (.aastore, 1) := by decide +kernel
theorem dX3_init_34 : decode cX3_init 34 = .ok (.iinc 1 1, 3) := by decide +kernel
theorem dX3_init_37 : decode cX3_init 37 = .ok (.goto (-22), 3) := by decide +kernel
theorem dX3_init_40 : decode cX3_init 40 = .ok (.return_, 1) := by decide +kernel
theorem kv_X3_init : y_KI yX3_init cX3_init 2 := ⟨tw_2_39, tw_2_38, tw_1_6, rfl, by decide, by decide, by decide +kernel⟩
theorem y_ivHk {k t : Nat} (ht : t < 56) : z_ivH (2 + 56 * k + t) = z_ivL (3 + k) t := by
  unfold z_ivH
  rw [if_neg (by omega), if_neg (by omega), show (2 + 56 * k + t - 2) / 56 = k by omega, show (2 + 56 * k + t - 2) % 56 = t by omega]
theorem y_loH {n0 k a : Nat} (ha : n0 + 171 = a) : n0 + z_lo (3 + k) = a + 2 + 56 * k := by
  unfold z_lo
  rw [if_neg (by omega)]
  omega
set_option maxHeartbeats 4000000 in
set_option maxRecDepth 100000 in
theorem w_X3_init_15 {p : Program} {l : Launch} {e : Env} {s : State} {m : MethodId} {args : Array Value} {below : List Frame} {meth : Method} {c : Code} {G : Gx} {n0 m0 a : Nat} (ha : n0 + 171 = a) (C : y_C p s m args meth c yX3_init.cls cX3_init 2 G) : ∀ n k, k + n = 10 → ∀ (H : Heap) (locs : List Loc) (ls : Array Slot), y_S a s H locs → lv_has ls 2 [(0, .ref a), (1, .int (Int32.ofNat k))] → H.size = a + 2 + 56 * k →
    (∀ i, i < 2 + 56 * k → i ≠ 1 → va_at G.1 z_cl (a + i, y_eH G (z_ad n0 m0) i) H) → (∃ f, va_at G.1 z_cl (a + 1, .inl (G.2.1 3, 10, .inr (.inr (.inr (.inr f))))) H ∧ ∀ i, i < k → f i = some (z_ad n0 m0 4 (3 + i))) →
    W p l e { frames := 3, cells := 561, slots := 19360, locals := 85 } s m args below meth c H locs (1 + 56 * k) (10 + 1935 * k) (MQ below (va_Qv (S := Unit) (fun _ => True) (fun _ t => t.heap.size = a + 562 ∧ (fun H => ∀ i, i < 562 → va_at G.1 z_cl (a + i, y_eH G (z_ad n0 m0) i) H) t.heap) (fun q => a ≤ q)) args s 561 19360 (fun q => a ≤ q)) (F0 m 15 ls []) := by
  intro n
  induction n with
  | zero =>
    intro k hk H locs ls S hl hz hD ⟨f, hf, hfi⟩
    have hk10 : k = 10 := by omega
    subst hk10
    refine lv_iload_n C.1.1 C.1.2.1 dX3_init_15 rfl (lv_at hl 1 rfl) ?_
    refine lv_bipush (v := 10) C.1.1 C.1.2.1 dX3_init_16 (by decide) ?_
    refine lv_icmp_ge (tgt := 40) C.1.1 C.1.2.1 dX3_init_18 (by decide) (fun c9 => ?_) (fun c9 => absurd (show (10 : Int32) ≤ Int32.ofNat 10 by decide) c9)
    refine y_ret (n := 562) (D := fun H => ∀ i, i < 562 → va_at G.1 z_cl (a + i, y_eH G (z_ad n0 m0) i) H) C S hz (fun i hi => ?_) (Nat.le_of_ble_eq_true rfl) (Nat.le_of_ble_eq_true rfl) dX3_init_40
    by_cases h3 : i = 1
    · subst h3
      exact y_arrq hf hfi
    · exact hD i (by omega) h3
  | succ n ih =>
    intro k hk H locs ls S hl hz hD ⟨f, hf, hfi⟩
    obtain ⟨y1, y2, y3, y4⟩ := y_lt 10 (by decide) k (by omega)
    have hlo := y_loH (k := k) ha
    refine lv_iload_n C.1.1 C.1.2.1 dX3_init_15 rfl (lv_at hl 1 rfl) ?_
    refine lv_bipush (v := 10) C.1.1 C.1.2.1 dX3_init_16 (by decide) ?_
    refine lv_icmp_ge (tgt := 40) C.1.1 C.1.2.1 dX3_init_18 (by decide) (fun c9 => absurd (y1.mp c9) (by omega)) (fun c9 => ?_)
    refine lv_aload_n C.1.1 C.1.2.1 dX3_init_21 rfl (lv_at hl 0 rfl) ?_
    have h0 : va_at G.1 z_cl (a, .inr (3, [.int 0, .int 0, .ref (a + 1)])) H := y_qeq (q := (0, .inr (0, []))) (hD 0 (by omega) (by decide)) (show a + 0 = a from rfl) (by show Sum.inr (3, [Value.int 0, Value.int 0, Value.ref (n0 + 172)]) = _; rw [show n0 + 172 = a + 1 by omega])
    refine y_get C h0 cf_3 2 (by decide) rfl tw_2_47 dX3_init_22 ?_
    refine lv_iload_n C.1.1 C.1.2.1 dX3_init_25 rfl (lv_at hl 1 rfl) ?_
    refine y_newO (fs := [.int 0, .int 0, .int 0, .int 0, .int 0, .null, .null, .null, .null, .null, .null, .null]) C S hz cf_4 tw_2_41 tw_1_33 tw_1_2 y_df4 (by show 1 + 56 * k + 1 ≤ 561; omega) (by show 10 + 1935 * k + 12 ≤ 19360; omega) dX3_init_26 (fun H z9 o9 hc S => ?_)
    have hD : ∀ i, i < 2 + 56 * k → i ≠ 1 → va_at G.1 z_cl (a + i, y_eH G (z_ad n0 m0) i) H := fun i hi h3 => va_at.kept (hD i hi h3) (o9 _ (show a + i < a + 2 + 56 * k by omega))
    have hf := va_at.kept hf (o9 _ (show a + 1 < a + 2 + 56 * k by omega))
    clear o9
    refine lv_dup C.1.1 C.1.2.1 dX3_init_29 rfl ?_
    refine y_call C S (show a ≤ a + 2 + 56 * k by omega) (m_X4_init l G n0 m0 (3 + k) (a + 2 + 56 * k) (by omega) hlo) kv_X4_init tw_2_43 z9 hc ⟨(Nat.le_of_ble_eq_true rfl), (Nat.le_of_ble_eq_true rfl)⟩ (show 1 + (1 + (1 + 0)) ≤ 8 by decide) hl.1 ⟨by show 1 + 56 * k + 1 + 55 ≤ 561; omega, by show 10 + 1935 * k + 12 + 1923 ≤ 19360; omega⟩ dX3_init_30 (fun H locs z9 d9 o9 S => ?_)
    have hD : ∀ i, i < 2 + 56 * k → i ≠ 1 → va_at G.1 z_cl (a + i, y_eH G (z_ad n0 m0) i) H := fun i hi h3 => va_at.kept (hD i hi h3) (o9 _ (show a + i < a + 2 + 56 * k by omega))
    have hf := va_at.kept hf (o9 _ (show a + 1 < a + 2 + 56 * k by omega))
    clear o9 hc
    have hv := y_qeq (q := (0, .inr (0, []))) (d9 0 (by decide)) (show a + 2 + 56 * k + 0 = a + 2 + 56 * k from rfl) (y_this (by omega) hlo)
    refine y_ast (t := 3) (ci := 4) C S hf (by omega) rfl hv cf_4.1 (fun q => q.elim y3 (fun q => by rw [y2] at q; omega)) dX3_init_33 (fun H locs z8 o9 hf S => ?_)
    have d9 : ∀ t, t < 56 → va_at G.1 z_cl (a + 2 + 56 * k + t, y_eL G (z_ad n0 m0) (3 + k) t) H := fun t ht => va_at.kept (d9 t ht) (o9 _ (show a + 2 + 56 * k + t ≠ a + 1 by omega))
    have hD : ∀ i, i < 2 + 56 * k → i ≠ 1 → va_at G.1 z_cl (a + i, y_eH G (z_ad n0 m0) i) H := fun i hi h3 => va_at.kept (hD i hi h3) (o9 _ (show a + i ≠ a + 1 by omega))
    clear o9
    refine lv_iinc (v := Int32.ofNat k + 1) (lv' := [(1, .int (Int32.ofNat k + 1)), (0, .ref a)]) C.1.1 C.1.2.1 dX3_init_34 hl (k := 1) rfl rfl (by decide) rfl (fun ls hl => ?_)
    refine lv_goto (tgt := 15) C.1.1 C.1.2.1 dX3_init_37 (by decide) ?_
    rw [y4] at hl
    refine cast ?_ (ih (k + 1) (by omega) H locs ls S (lv_sub hl [1, 0] rfl) (by omega) (fun i hi h3 => ?_) ⟨_, hf, fun i hi => ?_⟩)
    · rw [show 1 + 56 * (k + 1) = 1 + 56 * k + 1 + 55 by omega, show 10 + 1935 * (k + 1) = 10 + 1935 * k + 12 + 1923 by omega]
    · by_cases h9 : i < 2 + 56 * k
      · exact hD i h9 h3
      · refine y_qeq (q := (0, .inr (0, []))) (d9 (i - 2 - 56 * k) (by omega)) (by omega) ?_
        unfold y_eH y_eL
        rw [show i = 2 + 56 * k + (i - 2 - 56 * k) by omega, y_ivHk (by omega), show 2 + 56 * k + (i - 2 - 56 * k) - 2 - 56 * k = i - 2 - 56 * k by omega]
    · rw [y2]
      unfold va_up
      by_cases h9 : i = k
      · rw [if_pos h9]
        subst h9
        exact congrArg some hlo.symm
      · rw [if_neg h9]
        exact hfi i (by omega)
set_option maxHeartbeats 4000000 in
set_option maxRecDepth 100000 in
theorem m_X3_init (l : Launch) (G : Gx) (n0 m0 a : Nat) (ha : n0 + 171 = a) : y_M l yX3_init cX3_init 2 3 85 561 19360 G a 3 [.int 0, .int 0, .null] 562 (fun H => ∀ i, i < 562 → va_at G.1 z_cl (a + i, y_eH G (z_ad n0 m0) i) H) := by
  refine y_begin (by decide +kernel) rfl (Nat.le_of_ble_eq_true rfl) (fun p e s m args below meth c ls C hz h0 S hl => ?_)
  refine lv_aload_n C.1.1 C.1.2.1 dX3_init_0 rfl (lv_at hl 0 rfl) ?_
  refine y_obj C tw_2_40 hl.1 (Nat.le_of_ble_eq_true rfl) (Nat.le_of_ble_eq_true rfl) dX3_init_1 ?_
  refine lv_aload_n C.1.1 C.1.2.1 dX3_init_4 rfl (lv_at hl 0 rfl) ?_
  refine lv_bipush (v := 10) C.1.1 C.1.2.1 dX3_init_5 (by decide) ?_
  refine y_newQ (t := 3) C S hz rfl C.2.1.2.2.2 tw_2_41 10 (by decide) (by decide) (Nat.le_of_ble_eq_true rfl) (Nat.le_of_ble_eq_true rfl) (Nat.le_of_ble_eq_true rfl) dX3_init_7 (fun H z9 o9 h1 S => ?_)
  have h0 := va_at.kept h0 (o9 _ (show a < a + 1 by omega))
  have hz : H.size = a + 2 := z9
  clear o9 z9
  refine y_putF C S h0 (Nat.le_refl _) cf_3 2 (by decide) (Nat.le_of_ble_eq_true rfl) rfl rfl rfl rfl tw_2_47 dX3_init_10 (fun H locs z9 o9 h0 S => ?_)
  have h0 : va_at G.1 z_cl (a, .inr (3, [.int 0, .int 0, .ref (a + 1)])) H := h0
  have h1 := va_at.kept h1 (o9 _ (show a + 1 ≠ a by omega))
  have hz : H.size = a + 2 := z9.trans hz
  clear o9 z9
  refine lv_iconst (v := 0) C.1.1 C.1.2.1 dX3_init_13 (by decide) ?_
  refine lv_istore_n (lv' := [(1, .int 0), (0, .ref a)]) C.1.1 C.1.2.1 dX3_init_14 rfl hl (by decide) rfl (fun ls hl => ?_)
  refine w_X3_init_15 (m0 := m0) ha C 10 0 rfl H locs ls S (lv_sub hl [1, 0] rfl) hz (fun i hi g1 => ?_) ⟨_, h1, fun i hi => absurd hi (by omega)⟩
  match i, hi, g1 with
  | 0, _, _ => exact y_qeq (q := (0, .inr (0, []))) h0 rfl (by show _ = Sum.inr (3, [Value.int 0, Value.int 0, Value.ref (n0 + 172)]); rw [show n0 + 172 = a + 1 by omega])
  | i + 2, hi, _ => exact absurd hi (by omega)
def y_σ0 : Sg := fun k _ i => if (k = 7 ∧ i = 3) ∨ (k = 8 ∧ i = 12) then -1 else 0
theorem y_ivX {j r : Nat} (hj : j < 13) (hr : r < 56) : z_lo j + r < 741 ∧ z_iv (z_lo j + r) = z_ivL j r := by
  unfold z_lo z_iv
  by_cases h : j < 3
  · rw [if_pos h]
    refine ⟨by omega, ?_⟩
    rw [if_neg (by omega), if_neg (by omega), if_neg (by omega), if_pos (by omega), show (3 + 56 * j + r - 3) / 56 = j by omega, show (3 + 56 * j + r - 3) % 56 = r by omega]
  · rw [if_neg h]
    refine ⟨by omega, ?_⟩
    rw [if_neg (by omega), if_neg (by omega), if_neg (by omega), if_neg (by omega), if_pos (by omega)]
    unfold z_ivH
    rw [if_neg (by omega), if_neg (by omega), show (5 + 56 * j + r - 171 - 2) / 56 = j - 3 by omega, show (5 + 56 * j + r - 171 - 2) % 56 = r by omega, show 3 + (j - 3) = j by omega]
set_option maxHeartbeats 4000000 in
set_option maxRecDepth 100000 in
theorem y_key0 (a : Nat) (k o : Nat) (hk : z_side k = 0) (ho : o < z_cnt k) : ∃ i, i < 741 ∧ z_ad a 0 k o = a + i ∧ z_iv i = (k, o) :=
  match k, hk, ho with
  | 0, _, ho => by
    have ho0 : o = 0 := Nat.lt_one_iff.mp ho
    subst ho0
    exact ⟨733, by decide, rfl, by decide⟩
  | 1, _, ho => by
    have ho : o < 312 := ho
    have hq := y_ivX (j := o / 24) (r := 32 + o % 24) (by omega) (by omega)
    refine ⟨z_lo (o / 24) + (32 + o % 24), hq.1, by show a + z_lo (o / 24) + 32 + o % 24 = _; omega, hq.2.trans ?_⟩
    rw [y_ivLc, show 24 * (o / 24) + o % 24 = o by omega]
  | 2, _, ho => by
    have ho : o < 52 := ho
    have hq := y_ivX (j := o / 4) (r := 12 + 5 * (o % 4) + 0) (by omega) (by omega)
    refine ⟨z_lo (o / 4) + (12 + 5 * (o % 4) + 0), hq.1, by show z_ca a o = _; unfold z_ca; omega, hq.2.trans ?_⟩
    rw [y_ivLk (by omega) (by decide), show 4 * (o / 4) + o % 4 = o by omega]
    rfl
  | 3, _, ho => by
    have ho0 : o = 0 := Nat.lt_one_iff.mp ho
    subst ho0
    exact ⟨171, by decide, rfl, by decide⟩
  | 4, _, ho => ⟨z_lo o + 0, (y_ivX ho (r := 0) (by decide)).1, by show a + z_lo o = _; omega, (y_ivX ho (r := 0) (by decide)).2⟩
  | 5, _, ho => by
    have ho : o < 14 := ho
    by_cases h13 : o < 13
    · have hq := y_ivX (j := o) (r := 4) h13 (by decide)
      exact ⟨z_lo o + 4, hq.1, by show z_mo a o = _; unfold z_mo; rw [if_pos h13]; omega, hq.2⟩
    · have h14 : o = 13 := by omega
      subst h14
      exact ⟨734, by decide, rfl, by decide⟩
  | 6, _, ho => by
    have ho0 : o = 0 := Nat.lt_one_iff.mp ho
    subst ho0
    exact ⟨739, by decide, rfl, by decide⟩
  | 7, _, ho => by
    have ho0 : o = 0 := Nat.lt_one_iff.mp ho
    subst ho0
    exact ⟨0, by decide, rfl, by decide⟩
  | 8, hk, _ => nomatch hk
  | 9, _, ho => absurd ho (Nat.not_lt_zero _)
  | 10, _, ho => by
    have ho0 : o = 0 := Nat.lt_one_iff.mp ho
    subst ho0
    exact ⟨1, by decide, rfl, by decide⟩
  | 11, _, ho => by
    have ho0 : o = 0 := Nat.lt_one_iff.mp ho
    subst ho0
    exact ⟨2, by decide, rfl, by decide⟩
  | 12, _, ho => ⟨z_lo o + 1, (y_ivX ho (r := 1) (by decide)).1, by show a + z_lo o + 1 = _; omega, (y_ivX ho (r := 1) (by decide)).2⟩
  | 13, _, ho => ⟨z_lo o + 9, (y_ivX ho (r := 9) (by decide)).1, by show a + z_lo o + 9 = _; omega, (y_ivX ho (r := 9) (by decide)).2⟩
  | 14, _, ho => ⟨z_lo o + 10, (y_ivX ho (r := 10) (by decide)).1, by show a + z_lo o + 10 = _; omega, (y_ivX ho (r := 10) (by decide)).2⟩
  | 15, _, ho => ⟨z_lo o + 11, (y_ivX ho (r := 11) (by decide)).1, by show a + z_lo o + 11 = _; omega, (y_ivX ho (r := 11) (by decide)).2⟩
  | 16, _, ho => by
    have ho : o < 52 := ho
    have hq := y_ivX (j := o / 4) (r := 12 + 5 * (o % 4) + 1) (by omega) (by omega)
    refine ⟨z_lo (o / 4) + (12 + 5 * (o % 4) + 1), hq.1, by show z_ca a o + 1 = _; unfold z_ca; omega, hq.2.trans ?_⟩
    rw [y_ivLk (by omega) (by decide), show 4 * (o / 4) + o % 4 = o by omega]
    rfl
  | 17, _, ho => by
    have ho : o < 52 := ho
    have hq := y_ivX (j := o / 4) (r := 12 + 5 * (o % 4) + 2) (by omega) (by omega)
    refine ⟨z_lo (o / 4) + (12 + 5 * (o % 4) + 2), hq.1, by show z_ca a o + 2 = _; unfold z_ca; omega, hq.2.trans ?_⟩
    rw [y_ivLk (by omega) (by decide), show 4 * (o / 4) + o % 4 = o by omega]
    rfl
  | 18, _, ho => by
    have ho : o < 52 := ho
    have hq := y_ivX (j := o / 4) (r := 12 + 5 * (o % 4) + 3) (by omega) (by omega)
    refine ⟨z_lo (o / 4) + (12 + 5 * (o % 4) + 3), hq.1, by show z_ca a o + 3 = _; unfold z_ca; omega, hq.2.trans ?_⟩
    rw [y_ivLk (by omega) (by decide), show 4 * (o / 4) + o % 4 = o by omega]
    rfl
  | 19, _, ho => by
    have ho : o < 52 := ho
    have hq := y_ivX (j := o / 4) (r := 12 + 5 * (o % 4) + 4) (by omega) (by omega)
    refine ⟨z_lo (o / 4) + (12 + 5 * (o % 4) + 4), hq.1, by show z_ca a o + 4 = _; unfold z_ca; omega, hq.2.trans ?_⟩
    rw [y_ivLk (by omega) (by decide), show 4 * (o / 4) + o % 4 = o by omega]
    rfl
  | 20, _, ho => by
    have ho : o < 14 := ho
    by_cases h13 : o < 13
    · have hq := y_ivX (j := o) (r := 5) h13 (by decide)
      exact ⟨z_lo o + 5, hq.1, by show z_mo a o + 1 = _; unfold z_mo; rw [if_pos h13]; omega, hq.2⟩
    · have h14 : o = 13 := by omega
      subst h14
      exact ⟨735, by decide, rfl, by decide⟩
  | 21, _, ho => by
    have ho : o < 14 := ho
    by_cases h13 : o < 13
    · have hq := y_ivX (j := o) (r := 6) h13 (by decide)
      exact ⟨z_lo o + 6, hq.1, by show z_mo a o + 2 = _; unfold z_mo; rw [if_pos h13]; omega, hq.2⟩
    · have h14 : o = 13 := by omega
      subst h14
      exact ⟨736, by decide, rfl, by decide⟩
  | 22, _, ho => by
    have ho : o < 14 := ho
    by_cases h13 : o < 13
    · have hq := y_ivX (j := o) (r := 7) h13 (by decide)
      exact ⟨z_lo o + 7, hq.1, by show z_mo a o + 3 = _; unfold z_mo; rw [if_pos h13]; omega, hq.2⟩
    · have h14 : o = 13 := by omega
      subst h14
      exact ⟨737, by decide, rfl, by decide⟩
  | 23, _, ho => by
    have ho : o < 14 := ho
    by_cases h13 : o < 13
    · have hq := y_ivX (j := o) (r := 8) h13 (by decide)
      exact ⟨z_lo o + 8, hq.1, by show z_mo a o + 4 = _; unfold z_mo; rw [if_pos h13]; omega, hq.2⟩
    · have h14 : o = 13 := by omega
      subst h14
      exact ⟨738, by decide, rfl, by decide⟩
  | 24, _, ho => by
    have ho0 : o = 0 := Nat.lt_one_iff.mp ho
    subst ho0
    exact ⟨740, by decide, rfl, by decide⟩
  | 25, _, ho => ⟨z_lo o + 2, (y_ivX ho (r := 2) (by decide)).1, by show a + z_lo o + 2 = _; omega, (y_ivX ho (r := 2) (by decide)).2⟩
  | 26, _, ho => ⟨z_lo o + 3, (y_ivX ho (r := 3) (by decide)).1, by show a + z_lo o + 3 = _; omega, (y_ivX ho (r := 3) (by decide)).2⟩
  | 27, _, ho => by
    have ho0 : o = 0 := Nat.lt_one_iff.mp ho
    subst ho0
    exact ⟨172, by decide, rfl, by decide⟩
  | 28, _, ho => absurd ho (Nat.not_lt_zero _)
  | 29, _, ho => absurd ho (Nat.not_lt_zero _)
  | 30, hk, _ => nomatch hk
  | 31, hk, _ => nomatch hk
  | 32, hk, _ => nomatch hk
  | 33, hk, _ => nomatch hk
  | 34, hk, _ => nomatch hk
  | 35, hk, _ => nomatch hk
  | 36, hk, _ => nomatch hk
  | 37, hk, _ => nomatch hk
  | 38, hk, _ => nomatch hk
  | n + 39, _, ho => absurd ho (Nat.not_lt_zero _)
set_option maxHeartbeats 4000000 in
set_option maxRecDepth 100000 in
theorem y_key1 (a : Nat) (k o : Nat) (hk : z_side k = 1) (ho : o < z_cnt k) : ∃ i, i < 10 ∧ z_ad 0 a k o = a + i ∧ z_ivX i = (k, o) :=
  match k, hk, ho with
  | 0, hk, ho => nomatch hk
  | 1, hk, ho => nomatch hk
  | 2, hk, ho => nomatch hk
  | 3, hk, ho => nomatch hk
  | 4, hk, ho => nomatch hk
  | 5, hk, ho => nomatch hk
  | 6, hk, ho => nomatch hk
  | 7, hk, ho => nomatch hk
  | 8, _, ho => by
    have ho0 : o = 0 := Nat.lt_one_iff.mp ho
    subst ho0
    exact ⟨0, by decide, rfl, by decide⟩
  | 9, hk, ho => nomatch hk
  | 10, hk, ho => nomatch hk
  | 11, hk, ho => nomatch hk
  | 12, hk, ho => nomatch hk
  | 13, hk, ho => nomatch hk
  | 14, hk, ho => nomatch hk
  | 15, hk, ho => nomatch hk
  | 16, hk, ho => nomatch hk
  | 17, hk, ho => nomatch hk
  | 18, hk, ho => nomatch hk
  | 19, hk, ho => nomatch hk
  | 20, hk, ho => nomatch hk
  | 21, hk, ho => nomatch hk
  | 22, hk, ho => nomatch hk
  | 23, hk, ho => nomatch hk
  | 24, hk, ho => nomatch hk
  | 25, hk, ho => nomatch hk
  | 26, hk, ho => nomatch hk
  | 27, hk, ho => nomatch hk
  | 28, hk, ho => nomatch hk
  | 29, hk, ho => nomatch hk
  | 30, _, ho => by
    have ho0 : o = 0 := Nat.lt_one_iff.mp ho
    subst ho0
    exact ⟨1, by decide, rfl, by decide⟩
  | 31, _, ho => by
    have ho0 : o = 0 := Nat.lt_one_iff.mp ho
    subst ho0
    exact ⟨2, by decide, rfl, by decide⟩
  | 32, _, ho => by
    have ho0 : o = 0 := Nat.lt_one_iff.mp ho
    subst ho0
    exact ⟨3, by decide, rfl, by decide⟩
  | 33, _, ho => by
    have ho0 : o = 0 := Nat.lt_one_iff.mp ho
    subst ho0
    exact ⟨4, by decide, rfl, by decide⟩
  | 34, _, ho => by
    have ho0 : o = 0 := Nat.lt_one_iff.mp ho
    subst ho0
    exact ⟨5, by decide, rfl, by decide⟩
  | 35, _, ho => by
    have ho0 : o = 0 := Nat.lt_one_iff.mp ho
    subst ho0
    exact ⟨6, by decide, rfl, by decide⟩
  | 36, _, ho => by
    have ho0 : o = 0 := Nat.lt_one_iff.mp ho
    subst ho0
    exact ⟨7, by decide, rfl, by decide⟩
  | 37, _, ho => by
    have ho0 : o = 0 := Nat.lt_one_iff.mp ho
    subst ho0
    exact ⟨8, by decide, rfl, by decide⟩
  | 38, _, ho => by
    have ho0 : o = 0 := Nat.lt_one_iff.mp ho
    subst ho0
    exact ⟨9, by decide, rfl, by decide⟩
  | n + 39, hk, _ => nomatch hk
theorem y_asm0 {G : Gx} {H : Heap} {a : Nat} (h0 : va_at G.1 z_cl (a, z_cel G (z_ad a 0) 7 0 (y_σ0 7 0)) H) (h : ∀ i, i < 741 → i ≠ 0 → va_at G.1 z_cl (a + i, y_e G (z_ad a 0) (z_iv i)) H) (h1 : G.2.2.1.size ≤ a) (h2 : a ≤ H.size) (h3 : ∀ q, q < G.2.2.1.size → H[q]? = G.2.2.1[q]?) : z_W 0 G (z_ad a 0) y_σ0 H := by
  refine ⟨fun k o hk ho => ?_, fun k o k' o' hk ho hk' ho' he => ?_, fun k o hk ho => ?_, by omega, h3⟩
  · obtain ⟨i, hi, e1, e2⟩ := y_key0 a k o hk ho
    by_cases hi0 : i = 0
    · subst hi0
      have e3 : (7, 0) = (k, o) := e2
      cases e3
      exact h0
    · have h9 := h i hi hi0
      rw [e2, ← e1] at h9
      have hk7 : ¬ k = 7 := by
        intro e
        subst e
        have ho0 : o = 0 := Nat.lt_one_iff.mp ho
        subst ho0
        have : a = a + i := e1
        omega
      have hs : y_σ0 k o = z_0 := by
        funext x
        refine if_neg (fun q => ?_)
        rcases q with q | q
        · exact hk7 q.1
        · (have e := q.1; subst e; cases hk)
      rw [hs]
      exact h9
  · obtain ⟨i, hi, e1, e2⟩ := y_key0 a k o hk ho
    obtain ⟨i', hi', e1', e2'⟩ := y_key0 a k' o' hk' ho'
    have : i = i' := by omega
    subst this
    have e3 : (k, o) = (k', o') := e2.symm.trans e2'
    exact ⟨congrArg Prod.fst e3, congrArg Prod.snd e3⟩
  · obtain ⟨i, hi, e1, e2⟩ := y_key0 a k o hk ho
    omega
theorem y_asm1 {G : Gx} {H : Heap} {a : Nat} (h0 : va_at G.1 z_cl (a, z_cel G (z_ad 0 a) 8 0 (y_σ0 8 0)) H) (h : ∀ i, i < 10 → i ≠ 0 → va_at G.1 z_cl (a + i, y_e G (z_ad 0 a) (z_ivX i)) H) (h1 : G.2.2.1.size ≤ a) (h2 : a ≤ H.size) (h3 : ∀ q, q < G.2.2.1.size → H[q]? = G.2.2.1[q]?) : z_W 1 G (z_ad 0 a) y_σ0 H := by
  refine ⟨fun k o hk ho => ?_, fun k o k' o' hk ho hk' ho' he => ?_, fun k o hk ho => ?_, by omega, h3⟩
  · obtain ⟨i, hi, e1, e2⟩ := y_key1 a k o hk ho
    by_cases hi0 : i = 0
    · subst hi0
      have e3 : (8, 0) = (k, o) := e2
      cases e3
      exact h0
    · have h9 := h i hi hi0
      rw [e2, ← e1] at h9
      have hk7 : ¬ k = 8 := by
        intro e
        subst e
        have ho0 : o = 0 := Nat.lt_one_iff.mp ho
        subst ho0
        have : a = a + i := e1
        omega
      have hs : y_σ0 k o = z_0 := by
        funext x
        refine if_neg (fun q => ?_)
        rcases q with q | q
        · (have e := q.1; subst e; cases hk)
        · exact hk7 q.1
      rw [hs]
      exact h9
  · obtain ⟨i, hi, e1, e2⟩ := y_key1 a k o hk ho
    obtain ⟨i', hi', e1', e2'⟩ := y_key1 a k' o' hk' ho'
    have : i = i' := by omega
    subst this
    have e3 : (k, o) = (k', o') := e2.symm.trans e2'
    exact ⟨congrArg Prod.fst e3, congrArg Prod.snd e3⟩
  · obtain ⟨i, hi, e1, e2⟩ := y_key1 a k o hk ho
    omega
