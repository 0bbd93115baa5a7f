theorem y_arrq {D : va_G} {cl : List vw_C} {a n : Nat} {cA : ClassId} {f g : Nat → Option Nat} {H : Heap} (h : va_at D cl (a, .inl (cA, n, .inr (.inr (.inr (.inr f))))) H) (he : ∀ i, i < n → f i = g i) : va_at D cl (a, .inl (cA, n, .inr (.inr (.inr (.inr g))))) H := by
  have h' : H[a]? = some (vp_cell cA (n, .inr (.inr (.inr (.inr f))))) := h
  show H[a]? = some (vp_cell cA (n, .inr (.inr (.inr (.inr g)))))
  rw [h', vp_cell_q, vp_cell_q]
  congr 1
  unfold arrV
  congr 2
  funext j
  show va_rf (f j.val) = va_rf (g j.val)
  rw [he j.val j.isLt]
theorem y_lt (n : Nat) (hn : n < 30) : ∀ k, k ≤ n → ((Int32.ofNat n ≤ Int32.ofNat k ↔ n ≤ k) ∧ (Int32.ofNat k).toNatClampNeg = k ∧ ¬ Int32.ofNat k < 0 ∧ Int32.ofNat k + 1 = Int32.ofNat (k + 1)) := by
  have h1 : ∀ n, n < 30 → ∀ k, k < 30 → (Int32.ofNat n ≤ Int32.ofNat k ↔ n ≤ k) := by decide +kernel
  have h2 : ∀ k, k < 30 → (Int32.ofNat k).toNatClampNeg = k := by decide +kernel
  have h3 : ∀ k, k < 30 → ¬ Int32.ofNat k < 0 := by decide +kernel
  have h4 : ∀ k, k < 30 → Int32.ofNat k + 1 = Int32.ofNat (k + 1) := by decide +kernel
  exact fun k hk => ⟨h1 n hn k (by omega), h2 k (by omega), h3 k (by omega), h4 k (by omega)⟩
theorem y_ivLc {j k : Nat} : z_ivL j (32 + k) = (1, 24 * j + k) := by
  unfold z_ivL
  rw [if_neg (by omega), if_neg (by omega), if_neg (by omega), if_neg (by omega), if_neg (by omega), if_neg (by omega), if_neg (by omega), if_neg (by omega), if_neg (by omega), show 32 + k - 32 = k by omega]
theorem y_ivLk {j k t : Nat} (hk : k < 4) (ht : t < 5) : z_ivL j (12 + 5 * k + t) = z_ivC (4 * j + k) t := by
  unfold z_ivL
  rw [if_neg (by omega), if_neg (by omega), if_neg (by omega), if_neg (by omega), if_neg (by omega), if_neg (by omega), if_neg (by omega), if_neg (by omega), if_pos (by omega), show (12 + 5 * k + t - 12) / 5 = k by omega, show (12 + 5 * k + t - 12) % 5 = t by omega]
theorem y_ivLm {j t : Nat} (ht : t < 5) : z_ivL j (4 + t) = z_ivM j t := by
  unfold z_ivL
  rw [if_neg (by omega), if_neg (by omega), if_neg (by omega), if_neg (by omega), if_pos (by omega), show 4 + t - 4 = t by omega]
theorem y_mo {n0 j a : Nat} (hj : j < 13) (ha : n0 + z_lo j = a) : z_mo n0 j = a + 4 := by
  unfold z_mo
  rw [if_pos hj, ha]
theorem y_ca {n0 j k a : Nat} (hk : k < 4) (ha : n0 + z_lo j = a) : z_ca n0 (4 * j + k) = a + 12 + 5 * k := by
  unfold z_ca
  rw [show (4 * j + k) / 4 = j by omega, show (4 * j + k) % 4 = k by omega, ha]
theorem dX4_init_0 : decode cX4_init 0 = .ok (.aload_n 0, 1) := by decide +kernel
theorem dX4_init_1 : decode cX4_init 1 = .ok (.invokespecial 3, 3) := by decide +kernel
theorem dX4_init_4 : decode cX4_init 4 = .ok (.aload_n 0, 1) := by decide +kernel
theorem dX4_init_5 : decode cX4_init 5 = .ok (.iconst 5, 1) := by decide +kernel
theorem dX4_init_6 : decode cX4_init 6 = .ok (.newarray .int, 2) := by decide +kernel
theorem dX4_init_8 : decode cX4_init 8 = .ok (.putfield 9, 3) := by decide +kernel
theorem dX4_init_11 : decode cX4_init 11 = .ok (.aload_n 0, 1) := by decide +kernel
theorem dX4_init_12 : decode cX4_init 12 = .ok (.iconst 4, 1) := by decide +kernel
theorem dX4_init_13 : decode cX4_init 13 = .ok (.anewarray 15, 3) := by decide +kernel
theorem dX4_init_16 : decode cX4_init 16 = .ok (.putfield 17, 3) := by decide +kernel
theorem dX4_init_19 : decode cX4_init 19 = .ok (.aload_n 0, 1) := by decide +kernel
theorem dX4_init_20 : decode cX4_init 20 = .ok (.bipush 24, 2) := by decide +kernel
theorem dX4_init_22 : decode cX4_init 22 = .ok (.anewarray 21, 3) := by decide +kernel
theorem dX4_init_25 : decode cX4_init 25 = .ok (.putfield 23, 3) := by decide +kernel
theorem dX4_init_28 : decode cX4_init 28 = .ok (.aload_n 0, 1) := by decide +kernel
theorem dX4_init_29 : decode cX4_init 29 = .ok (.new 27, 3) := by decide +kernel
theorem dX4_init_32 : decode cX4_init 32 = .ok (.dup, 1) := by decide +kernel
theorem dX4_init_33 : decode cX4_init 33 = .ok (.invokespecial 29, 3) := by decide +kernel
theorem dX4_init_36 : decode cX4_init 36 = .ok (.putfield 30, 3) := by decide +kernel
theorem dX4_init_39 : decode cX4_init 39 = .ok (.aload_n 0, 1) := by decide +kernel
theorem dX4_init_40 : decode cX4_init 40 = .ok (.iconst 4, 1) := by decide +kernel
theorem dX4_init_41 : decode cX4_init 41 = .ok (.newarray .int, 2) := by decide +kernel
theorem dX4_init_43 : decode cX4_init 43 = .ok (.putfield 34, 3) := by decide +kernel
theorem dX4_init_46 : decode cX4_init 46 = .ok (.aload_n 0, 1) := by decide +kernel
theorem dX4_init_47 : decode cX4_init 47 = .ok (.iconst 4, 1) := by decide +kernel
theorem dX4_init_48 : decode cX4_init 48 = .ok (.newarray .int, 2) := by decide +kernel
theorem dX4_init_50 : decode cX4_init 50 = .ok (.putfield 37, 3) := by decide +kernel
theorem dX4_init_53 : decode cX4_init 53 = .ok (.aload_n 0, 1) := by decide +kernel
theorem dX4_init_54 : decode cX4_init 54 = .ok (.iconst 5, 1) := by decide +kernel
theorem dX4_init_55 : decode cX4_init 55 = .ok (.newarray .int, 2) := by decide +kernel
theorem dX4_init_57 : decode cX4_init 57 = .ok (.putfield 40, 3) := by decide +kernel
theorem dX4_init_60 : decode cX4_init 60 = .ok (.iconst 0, 1) := by decide +kernel
theorem dX4_init_61 : decode cX4_init 61 = .ok (.istore_n 1, 1) := by decide +kernel
theorem dX4_init_62 : decode cX4_init 62 = .ok (.iload_n 1, 1) := by decide +kernel
theorem dX4_init_63 : decode cX4_init 63 = .ok (.iconst 4, 1) := by decide +kernel
theorem dX4_init_64 : decode cX4_init 64 = .ok (.if_icmp .ge 22, 3) := by decide +kernel
theorem dX4_init_67 : decode cX4_init 67 = .ok (.aload_n 0, 1) := by decide +kernel
theorem dX4_init_68 : decode cX4_init 68 = .ok (.getfield 17, 3) := by decide +kernel
theorem dX4_init_71 : decode cX4_init 71 = .ok (.iload_n 1, 1) := by decide +kernel
theorem dX4_init_72 : decode cX4_init 72 = .ok (.new 15, 3) := by decide +kernel
theorem dX4_init_75 : decode cX4_init 75 = .ok (.dup, 1) := by decide +kernel
theorem dX4_init_76 : decode cX4_init 76 = .ok (.invokespecial 43, 3) := by decide +kernel
theorem dX4_init_79 : decode cX4_init 79 = .ok (.aastore, 1) := by decide +kernel
theorem dX4_init_80 : decode cX4_init 80 = .ok (.iinc 1 1, 3) := by decide +kernel
theorem dX4_init_83 : decode cX4_init 83 = .ok (.goto (-21), 3) := by decide +kernel
theorem dX4_init_86 : decode cX4_init 86 = .ok (.iconst 0, 1) := by decide +kernel
theorem dX4_init_87 : decode cX4_init 87 = .ok (.istore_n 1, 1) := by decide +kernel
theorem dX4_init_88 : decode cX4_init 88 = .ok (.iload_n 1, 1) := by decide +kernel
theorem dX4_init_89 : decode cX4_init 89 = .ok (.bipush 24, 2) := by decide +kernel
theorem dX4_init_91 : decode cX4_init 91 = .ok (.if_icmp .ge 22, 3) := by decide +kernel
theorem dX4_init_94 : decode cX4_init 94 = .ok (.aload_n 0, 1) := by decide +kernel
theorem dX4_init_95 : decode cX4_init 95 = .ok (.getfield 23, 3) := by decide +kernel
theorem dX4_init_98 : decode cX4_init 98 = .ok (.iload_n 1, 1) := by decide +kernel
theorem dX4_init_99 : decode cX4_init 99 = .ok (.new 21, 3) := by decide +kernel
theorem dX4_init_102 : decode cX4_init 102 = .ok (.dup, 1) := by decide +kernel
theorem dX4_init_103 : decode cX4_init 103 = .ok (.invokespecial 44, 3) := by decide +kernel
theorem dX4_init_106 : decode cX4_init 106 = .ok (.aastore, 1) := by decide +kernel
theorem dX4_init_107 : decode cX4_init 107 = .ok (.iinc 1 1, 3) := by decide +kernel
theorem dX4_init_110 : decode cX4_init 110 = .ok (.goto (-22), 3) := by decide +kernel
theorem dX4_init_113 : decode cX4_init 113 = .ok (.return_, 1) := by decide +kernel
theorem kv_X4_init : y_KI yX4_init cX4_init 2 := ⟨tw_1_36, tw_1_35, tw_1_2, rfl, by decide, by decide, by decide +kernel⟩
theorem y_this {G : Gx} {n0 m0 j a : Nat} (hj : j < 13) (ha : n0 + z_lo j = a) : y_eL G (z_ad n0 m0) j 0 = .inr (4, [.int 0, .int 0, .int 0, .int 0, .int 0, .ref (a + 1), .ref (a + 2), .ref (a + 3), .ref (a + 4), .ref (a + 9), .ref (a + 10), .ref (a + 11)]) := by
  show z_cel G (z_ad n0 m0) 4 j z_0 = _
  simp only [z_cel, z_0, z_ad, y_mo hj ha, ha]
set_option maxHeartbeats 4000000 in
set_option maxRecDepth 100000 in
theorem w_X4_init_88 {p : Program} {l : Launch} {e : Env} {s : State} {m : MethodId} {args : Array Value} {below : List Frame} {meth : Method} {c : Code} {G : Gx} {n0 m0 j a : Nat} (hj : j < 13) (ha : n0 + z_lo j = a) (C : y_C p s m args meth c yX4_init.cls cX4_init 2 G) : ∀ n k, k + n = 24 → ∀ (H : Heap) (locs : List Loc) (ls : Array Slot), y_S a s H locs → lv_has ls 2 [(0, .ref a), (1, .int (Int32.ofNat k))] → H.size = a + 32 + k →
    (∀ i, i < 32 + k → i ≠ 3 → va_at G.1 z_cl (a + i, y_eL G (z_ad n0 m0) j i) H) → (∃ f, va_at G.1 z_cl (a + 3, .inl (G.2.1 2, 24, .inr (.inr (.inr (.inr f))))) H ∧ ∀ i, i < k → f i = some (z_ad n0 m0 1 (24 * j + i))) →
    W p l e { frames := 2, cells := 55, slots := 1923, locals := 60 } s m args below meth c H locs (31 + k) (1659 + 11 * k) (MQ below (va_Qv (S := Unit) (fun _ => True) (fun _ t => t.heap.size = a + 56 ∧ (fun H => ∀ i, i < 56 → va_at G.1 z_cl (a + i, y_eL G (z_ad n0 m0) j i) H) t.heap) (fun q => a ≤ q)) args s 55 1923 (fun q => a ≤ q)) (F0 m 88 ls []) := by
  intro n
  induction n with
  | zero =>
    intro k hk H locs ls S hl hz hD ⟨f, hf, hfi⟩
    have hk24 : k = 24 := by omega
    subst hk24
    refine lv_iload_n C.1.1 C.1.2.1 dX4_init_88 rfl (lv_at hl 1 rfl) ?_
    refine lv_bipush (v := 24) C.1.1 C.1.2.1 dX4_init_89 (by decide) ?_
    refine lv_icmp_ge (tgt := 113) C.1.1 C.1.2.1 dX4_init_91 (by decide) (fun c9 => ?_) (fun c9 => absurd (show (24 : Int32) ≤ Int32.ofNat 24 by decide) c9)
    refine y_ret (n := 56) (D := fun H => ∀ i, i < 56 → va_at G.1 z_cl (a + i, y_eL G (z_ad n0 m0) j i) H) C S hz (fun i hi => ?_) (Nat.le_of_ble_eq_true rfl) (Nat.le_of_ble_eq_true rfl) dX4_init_113
    by_cases h3 : i = 3
    · subst h3
      exact y_arrq hf hfi
    · exact hD i (by omega) h3
  | succ n ih =>
    intro k hk H locs ls S hl hz hD ⟨f, hf, hfi⟩
    obtain ⟨y1, y2, y3, y4⟩ := y_lt 24 (by decide) k (by omega)
    refine lv_iload_n C.1.1 C.1.2.1 dX4_init_88 rfl (lv_at hl 1 rfl) ?_
    refine lv_bipush (v := 24) C.1.1 C.1.2.1 dX4_init_89 (by decide) ?_
    refine lv_icmp_ge (tgt := 113) C.1.1 C.1.2.1 dX4_init_91 (by decide) (fun c9 => absurd (y1.mp c9) (by omega)) (fun c9 => ?_)
    refine lv_aload_n C.1.1 C.1.2.1 dX4_init_94 rfl (lv_at hl 0 rfl) ?_
    have h0 := y_qeq (q := (0, .inr (0, []))) (hD 0 (by omega) (by decide)) (show a + 0 = a from rfl) (y_this hj ha)
    refine y_get C h0 cf_4 7 (by decide) rfl tw_1_236 dX4_init_95 ?_
    refine lv_iload_n C.1.1 C.1.2.1 dX4_init_98 rfl (lv_at hl 1 rfl) ?_
    refine y_newO (fs := [.int 0, .int 0, .int 0, .int 0, .int 0, .int 0, .int 0, .int 0, .int 0, .int 0, .int 0]) C S hz cf_1 tw_1_40 tw_1_146 tw_1_5 y_df1 (by show 31 + k + 1 ≤ 55; omega) (by show 1659 + 11 * k + 11 ≤ 1923; omega) dX4_init_99 (fun H z9 o9 hc S => ?_)
    have hD : ∀ i, i < 32 + k → i ≠ 3 → va_at G.1 z_cl (a + i, y_eL G (z_ad n0 m0) j i) H := fun i hi h3 => va_at.kept (hD i hi h3) (o9 _ (show a + i < a + 32 + k by omega))
    have hf := va_at.kept hf (o9 _ (show a + 3 < a + 32 + k by omega))
    clear o9
    refine lv_dup C.1.1 C.1.2.1 dX4_init_102 rfl ?_
    refine y_callN C S (show a ≤ a + 32 + k by omega) (m_X1_init l G (z_ad n0 m0) (24 * j + k) (a + 32 + k)) kv_X1_init (List.mem_of_getElem? (i := 2) rfl) z9 hc ⟨(Nat.le_of_ble_eq_true rfl), (Nat.le_of_ble_eq_true rfl)⟩ (show 1 + (1 + (1 + 0)) ≤ 8 by decide) hl.1 ⟨by show 31 + k + 1 + 0 ≤ 55; omega, by show 1659 + 11 * k + 11 + 0 ≤ 1923; omega⟩ dX4_init_103 (fun H locs z9 d9 o9 S => ?_)
    have hD : ∀ i, i < 32 + k → i ≠ 3 → va_at G.1 z_cl (a + i, y_eL G (z_ad n0 m0) j i) H := fun i hi h3 => va_at.kept (hD i hi h3) (o9 _ (show a + i < a + 32 + k by omega))
    have hf := va_at.kept hf (o9 _ (show a + 3 < a + 32 + k by omega))
    clear o9 hc
    have hv : va_at G.1 z_cl (a + 32 + k, z_cel G (z_ad n0 m0) 1 (24 * j + k) z_0) H := d9 0 (by decide)
    refine y_ast (t := 2) (ci := 1) C S hf (by omega) rfl hv cf_1.1 (fun q => q.elim y3 (fun q => by rw [y2] at q; omega)) dX4_init_106 (fun H locs z8 o9 hf S => ?_)
    have hv := va_at.kept hv (o9 _ (show a + 32 + k ≠ a + 3 by omega))
    have hD : ∀ i, i < 32 + k → i ≠ 3 → va_at G.1 z_cl (a + i, y_eL G (z_ad n0 m0) j i) H := fun i hi h3 => va_at.kept (hD i hi h3) (o9 _ (show a + i ≠ a + 3 by omega))
    clear o9
    refine lv_iinc (v := Int32.ofNat k + 1) (lv' := [(1, .int (Int32.ofNat k + 1)), (0, .ref a)]) C.1.1 C.1.2.1 dX4_init_107 hl (k := 1) rfl rfl (by decide) rfl (fun ls hl => ?_)
    refine lv_goto (tgt := 88) C.1.1 C.1.2.1 dX4_init_110 (by decide) ?_
    rw [y4] at hl
    refine ih (k + 1) (by omega) H locs ls S (lv_sub hl [1, 0] rfl) (by omega) (fun i hi h3 => ?_) ⟨_, hf, fun i hi => ?_⟩
    · by_cases h9 : i = 32 + k
      · subst h9
        exact y_qeq (q := (0, .inr (0, []))) hv (by omega) (by unfold y_eL; rw [y_ivLc]; rfl)
      · exact hD i (by omega) h3
    · rw [y2]
      unfold va_up
      by_cases h9 : i = k
      · rw [if_pos h9]
        subst h9
        show some (a + 32 + i) = some (n0 + z_lo ((24 * j + i) / 24) + 32 + (24 * j + i) % 24)
        rw [show (24 * j + i) / 24 = j by omega, show (24 * j + i) % 24 = i by omega, ha]
      · rw [if_neg h9]
        exact hfi i (by omega)
set_option maxHeartbeats 4000000 in
set_option maxRecDepth 100000 in
theorem w_X4_init_62 {p : Program} {l : Launch} {e : Env} {s : State} {m : MethodId} {args : Array Value} {below : List Frame} {meth : Method} {c : Code} {G : Gx} {n0 m0 j a : Nat} (hj : j < 13) (ha : n0 + z_lo j = a) (C : y_C p s m args meth c yX4_init.cls cX4_init 2 G) : ∀ n k, k + n = 4 → ∀ (H : Heap) (locs : List Loc) (ls : Array Slot), y_S a s H locs → lv_has ls 2 [(0, .ref a), (1, .int (Int32.ofNat k))] → H.size = a + 12 + 5 * k →
    (∀ i, i < 12 + 5 * k → i ≠ 2 → i ≠ 3 → va_at G.1 z_cl (a + i, y_eL G (z_ad n0 m0) j i) H) → (∃ f, va_at G.1 z_cl (a + 2, .inl (G.2.1 1, 4, .inr (.inr (.inr (.inr f))))) H ∧ ∀ i, i < k → f i = some (z_ad n0 m0 2 (4 * j + i))) → va_at G.1 z_cl (a + 3, .inl (G.2.1 2, 24, .inr (.inr (.inr (.inr fun _ => none))))) H →
    W p l e { frames := 2, cells := 55, slots := 1923, locals := 60 } s m args below meth c H locs (11 + 5 * k) (1011 + 162 * k) (MQ below (va_Qv (S := Unit) (fun _ => True) (fun _ t => t.heap.size = a + 56 ∧ (fun H => ∀ i, i < 56 → va_at G.1 z_cl (a + i, y_eL G (z_ad n0 m0) j i) H) t.heap) (fun q => a ≤ q)) args s 55 1923 (fun q => a ≤ q)) (F0 m 62 ls []) := by
  intro n
  induction n with
  | zero =>
    intro k hk H locs ls S hl hz hD ⟨f, hf, hfi⟩ hq
    have hk4 : k = 4 := by omega
    subst hk4
    refine lv_iload_n C.1.1 C.1.2.1 dX4_init_62 rfl (lv_at hl 1 rfl) ?_
    refine lv_iconst (v := 4) C.1.1 C.1.2.1 dX4_init_63 (by decide) ?_
    refine lv_icmp_ge (tgt := 86) C.1.1 C.1.2.1 dX4_init_64 (by decide) (fun c9 => ?_) (fun c9 => absurd (show (4 : Int32) ≤ Int32.ofNat 4 by decide) c9)
    refine lv_iconst (v := 0) C.1.1 C.1.2.1 dX4_init_86 (by decide) ?_
    refine lv_istore_n (lv' := [(1, .int 0), (0, .ref a)]) C.1.1 C.1.2.1 dX4_init_87 rfl hl (by decide) rfl (fun ls hl => ?_)
    refine w_X4_init_88 hj ha C 24 0 rfl H locs ls S (lv_sub hl [1, 0] rfl) hz (fun i hi h3 => ?_) ⟨_, hq, fun i hi => absurd hi (by omega)⟩
    by_cases h2 : i = 2
    · subst h2
      exact y_arrq hf hfi
    · exact hD i (by omega) h2 h3
  | succ n ih =>
    intro k hk H locs ls S hl hz hD ⟨f, hf, hfi⟩ hq
    obtain ⟨y1, y2, y3, y4⟩ := y_lt 4 (by decide) k (by omega)
    have hca := y_ca (n0 := n0) (j := j) (k := k) (by omega) ha
    refine lv_iload_n C.1.1 C.1.2.1 dX4_init_62 rfl (lv_at hl 1 rfl) ?_
    refine lv_iconst (v := 4) C.1.1 C.1.2.1 dX4_init_63 (by decide) ?_
    refine lv_icmp_ge (tgt := 86) C.1.1 C.1.2.1 dX4_init_64 (by decide) (fun c9 => absurd (y1.mp c9) (by omega)) (fun c9 => ?_)
    refine lv_aload_n C.1.1 C.1.2.1 dX4_init_67 rfl (lv_at hl 0 rfl) ?_
    have h0 := y_qeq (q := (0, .inr (0, []))) (hD 0 (by omega) (by decide) (by decide)) (show a + 0 = a from rfl) (y_this hj ha)
    refine y_get C h0 cf_4 6 (by decide) rfl tw_1_233 dX4_init_68 ?_
    refine lv_iload_n C.1.1 C.1.2.1 dX4_init_71 rfl (lv_at hl 1 rfl) ?_
    refine y_newO (fs := [.int 0, .int 0, .int 0, .int 0, .int 0, .int 0, .int 0, .int 0, .int 0, .int 0, .null, .null, .null, .null]) C S hz cf_2 tw_1_38 tw_1_72 tw_1_4 y_df2 (by show 11 + 5 * k + 1 ≤ 55; omega) (by show 1011 + 162 * k + 14 ≤ 1923; omega) dX4_init_72 (fun H z9 o9 hc S => ?_)
    have hD : ∀ i, i < 12 + 5 * k → i ≠ 2 → i ≠ 3 → va_at G.1 z_cl (a + i, y_eL G (z_ad n0 m0) j i) H := fun i hi h2 h3 => va_at.kept (hD i hi h2 h3) (o9 _ (show a + i < a + 12 + 5 * k by omega))
    have hf := va_at.kept hf (o9 _ (show a + 2 < a + 12 + 5 * k by omega))
    have hq := va_at.kept hq (o9 _ (show a + 3 < a + 12 + 5 * k by omega))
    clear o9
    refine lv_dup C.1.1 C.1.2.1 dX4_init_75 rfl ?_
    refine y_callN C S (show a ≤ a + 12 + 5 * k by omega) (m_X2_init l G (z_ad n0 m0) (4 * j + k) (a + 12 + 5 * k) (congrArg (· + 1) hca) (congrArg (· + 2) hca) (congrArg (· + 3) hca) (congrArg (· + 4) hca)) kv_X2_init (List.mem_of_getElem? (i := 1) rfl) z9 hc ⟨(Nat.le_of_ble_eq_true rfl), (Nat.le_of_ble_eq_true rfl)⟩ (show 1 + (1 + (1 + 0)) ≤ 8 by decide) hl.1 ⟨by show 11 + 5 * k + 1 + 4 ≤ 55; omega, by show 1011 + 162 * k + 14 + 148 ≤ 1923; omega⟩ dX4_init_76 (fun H locs z9 d9 o9 S => ?_)
    have hD : ∀ i, i < 12 + 5 * k → i ≠ 2 → i ≠ 3 → va_at G.1 z_cl (a + i, y_eL G (z_ad n0 m0) j i) H := fun i hi h2 h3 => va_at.kept (hD i hi h2 h3) (o9 _ (show a + i < a + 12 + 5 * k by omega))
    have hf := va_at.kept hf (o9 _ (show a + 2 < a + 12 + 5 * k by omega))
    have hq := va_at.kept hq (o9 _ (show a + 3 < a + 12 + 5 * k by omega))
    clear o9 hc
    have hv : va_at G.1 z_cl (a + 12 + 5 * k, z_cel G (z_ad n0 m0) 2 (4 * j + k) z_0) H := d9 0 (by decide)
    refine y_ast (t := 1) (ci := 2) C S hf (by omega) rfl hv cf_2.1 (fun q => q.elim y3 (fun q => by rw [y2] at q; omega)) dX4_init_79 (fun H locs z8 o9 hf S => ?_)
    have d9 : ∀ t, t < 5 → va_at G.1 z_cl (a + 12 + 5 * k + t, y_eC G (z_ad n0 m0) (4 * j + k) t) H := fun t ht => va_at.kept (d9 t ht) (o9 _ (show a + 12 + 5 * k + t ≠ a + 2 by omega))
    have hD : ∀ i, i < 12 + 5 * k → i ≠ 2 → i ≠ 3 → va_at G.1 z_cl (a + i, y_eL G (z_ad n0 m0) j i) H := fun i hi h2 h3 => va_at.kept (hD i hi h2 h3) (o9 _ (show a + i ≠ a + 2 by omega))
    have hq := va_at.kept hq (o9 _ (show a + 3 ≠ a + 2 by omega))
    clear o9
    refine lv_iinc (v := Int32.ofNat k + 1) (lv' := [(1, .int (Int32.ofNat k + 1)), (0, .ref a)]) C.1.1 C.1.2.1 dX4_init_80 hl (k := 1) rfl rfl (by decide) rfl (fun ls hl => ?_)
    refine lv_goto (tgt := 62) C.1.1 C.1.2.1 dX4_init_83 (by decide) ?_
    rw [y4] at hl
    refine cast ?_ (ih (k + 1) (by omega) H locs ls S (lv_sub hl [1, 0] rfl) (by omega) (fun i hi h2 h3 => ?_) ⟨_, hf, fun i hi => ?_⟩ hq)
    · rw [show 11 + 5 * (k + 1) = 11 + 5 * k + 1 + 4 by omega, show 1011 + 162 * (k + 1) = 1011 + 162 * k + 14 + 148 by omega]
    · by_cases h9 : i < 12 + 5 * k
      · exact hD i h9 h2 h3
      · refine y_qeq (q := (0, .inr (0, []))) (d9 (i - 12 - 5 * k) (by omega)) (by omega) ?_
        unfold y_eL y_eC
        rw [show i = 12 + 5 * k + (i - 12 - 5 * k) by omega, y_ivLk (by omega) (by omega), show 12 + 5 * k + (i - 12 - 5 * k) - 12 - 5 * k = i - 12 - 5 * k by omega]
    · rw [y2]
      unfold va_up
      by_cases h9 : i = k
      · rw [if_pos h9]
        subst h9
        exact congrArg some hca.symm
      · rw [if_neg h9]
        exact hfi i (by omega)
set_option maxHeartbeats 4000000 in
set_option maxRecDepth 100000 in
theorem m_X4_init (l : Launch) (G : Gx) (n0 m0 j a : Nat) (hj : j < 13) (ha : n0 + z_lo j = a) : y_M l yX4_init cX4_init 2 2 60 55 1923 G a 4 [.int 0, .int 0, .int 0, .int 0, .int 0, .null, .null, .null, .null, .null, .null, .null] 56 (fun H => ∀ i, i < 56 → va_at G.1 z_cl (a + i, y_eL G (z_ad n0 m0) j i) H) := by
  have hmo := y_mo hj ha
  refine y_begin (by decide +kernel) rfl (Nat.le_of_ble_eq_true rfl) (fun p e s m args below meth c ls C hz h0 S hl => ?_)
  refine lv_aload_n C.1.1 C.1.2.1 dX4_init_0 rfl (lv_at hl 0 rfl) ?_
  refine y_obj C tw_1_37 hl.1 (Nat.le_of_ble_eq_true rfl) (Nat.le_of_ble_eq_true rfl) dX4_init_1 ?_
  refine lv_aload_n C.1.1 C.1.2.1 dX4_init_4 rfl (lv_at hl 0 rfl) ?_
  refine lv_iconst (v := 5) C.1.1 C.1.2.1 dX4_init_5 (by decide) ?_
  refine y_newI C S hz 5 (by decide) (by decide) (Nat.le_of_ble_eq_true rfl) (Nat.le_of_ble_eq_true rfl) (Nat.le_of_ble_eq_true rfl) dX4_init_6 (fun H z9 o9 h1 S => ?_)
  have h0 := va_at.kept h0 (o9 _ (show a < a + 1 by omega))
  have hz : H.size = a + 2 := z9
  clear o9 z9
  refine y_putF C S h0 (Nat.le_refl _) cf_4 5 (by decide) (Nat.le_of_ble_eq_true rfl) rfl rfl rfl rfl tw_1_229 dX4_init_8 (fun H locs z9 o9 h0 S => ?_)
  have h0 : va_at G.1 z_cl (a, .inr (4, [.int 0, .int 0, .int 0, .int 0, .int 0, .ref (a + 1), .null, .null, .null, .null, .null, .null])) H := h0
  have h1 := va_at.kept h1 (o9 _ (show a + 1 ≠ a by omega))
  have hz : H.size = a + 2 := z9.trans hz
  clear o9 z9
  refine lv_aload_n C.1.1 C.1.2.1 dX4_init_11 rfl (lv_at hl 0 rfl) ?_
  refine lv_iconst (v := 4) C.1.1 C.1.2.1 dX4_init_12 (by decide) ?_
  refine y_newQ (t := 1) C S hz rfl C.2.1.2.1 tw_1_38 4 (by decide) (by decide) (Nat.le_of_ble_eq_true rfl) (Nat.le_of_ble_eq_true rfl) (Nat.le_of_ble_eq_true rfl) dX4_init_13 (fun H z9 o9 h2 S => ?_)
  have h0 := va_at.kept h0 (o9 _ (show a < a + 2 by omega))
  have h1 := va_at.kept h1 (o9 _ (show a + 1 < a + 2 by omega))
  have hz : H.size = a + 3 := z9
  clear o9 z9
  refine y_putF C S h0 (Nat.le_refl _) cf_4 6 (by decide) (Nat.le_of_ble_eq_true rfl) rfl rfl rfl rfl tw_1_233 dX4_init_16 (fun H locs z9 o9 h0 S => ?_)
  have h0 : va_at G.1 z_cl (a, .inr (4, [.int 0, .int 0, .int 0, .int 0, .int 0, .ref (a + 1), .ref (a + 2), .null, .null, .null, .null, .null])) H := h0
  have h1 := va_at.kept h1 (o9 _ (show a + 1 ≠ a by omega))
  have h2 := va_at.kept h2 (o9 _ (show a + 2 ≠ a by omega))
  have hz : H.size = a + 3 := z9.trans hz
  clear o9 z9
  refine lv_aload_n C.1.1 C.1.2.1 dX4_init_19 rfl (lv_at hl 0 rfl) ?_
  refine lv_bipush (v := 24) C.1.1 C.1.2.1 dX4_init_20 (by decide) ?_
  refine y_newQ (t := 2) C S hz rfl C.2.1.2.2.1 tw_1_40 24 (by decide) (by decide) (Nat.le_of_ble_eq_true rfl) (Nat.le_of_ble_eq_true rfl) (Nat.le_of_ble_eq_true rfl) dX4_init_22 (fun H z9 o9 h3 S => ?_)
  have h0 := va_at.kept h0 (o9 _ (show a < a + 3 by omega))
  have h1 := va_at.kept h1 (o9 _ (show a + 1 < a + 3 by omega))
  have h2 := va_at.kept h2 (o9 _ (show a + 2 < a + 3 by omega))
  have hz : H.size = a + 4 := z9
  clear o9 z9
  refine y_putF C S h0 (Nat.le_refl _) cf_4 7 (by decide) (Nat.le_of_ble_eq_true rfl) rfl rfl rfl rfl tw_1_236 dX4_init_25 (fun H locs z9 o9 h0 S => ?_)
  have h0 : va_at G.1 z_cl (a, .inr (4, [.int 0, .int 0, .int 0, .int 0, .int 0, .ref (a + 1), .ref (a + 2), .ref (a + 3), .null, .null, .null, .null])) H := h0
  have h1 := va_at.kept h1 (o9 _ (show a + 1 ≠ a by omega))
  have h2 := va_at.kept h2 (o9 _ (show a + 2 ≠ a by omega))
  have h3 := va_at.kept h3 (o9 _ (show a + 3 ≠ a by omega))
  have hz : H.size = a + 4 := z9.trans hz
  clear o9 z9
  refine lv_aload_n C.1.1 C.1.2.1 dX4_init_28 rfl (lv_at hl 0 rfl) ?_
  refine y_newO (fs := [.int 0, .null, .null, .null, .null]) C S hz cf_5 tw_1_42 tw_1_43 tw_1_3 (y_df5) (Nat.le_of_ble_eq_true rfl) (Nat.le_of_ble_eq_true rfl) dX4_init_29 (fun H z9 o9 h4 S => ?_)
  have h0 := va_at.kept h0 (o9 _ (show a < a + 4 by omega))
  have h1 := va_at.kept h1 (o9 _ (show a + 1 < a + 4 by omega))
  have h2 := va_at.kept h2 (o9 _ (show a + 2 < a + 4 by omega))
  have h3 := va_at.kept h3 (o9 _ (show a + 3 < a + 4 by omega))
  have hz : H.size = a + 5 := z9
  clear o9 z9
  refine lv_dup C.1.1 C.1.2.1 dX4_init_32 rfl ?_
  refine y_callN C S (show a ≤ a + 4 by omega) (m_X5_init l G (z_ad n0 m0) j (a + 4) (congrArg (· + 1) hmo) (congrArg (· + 2) hmo) (congrArg (· + 3) hmo) (congrArg (· + 4) hmo)) kv_X5_init (List.mem_of_getElem? (i := 0) rfl) hz h4 ⟨(Nat.le_of_ble_eq_true rfl), (Nat.le_of_ble_eq_true rfl)⟩ (Nat.le_of_ble_eq_true rfl) hl.1 ⟨(Nat.le_of_ble_eq_true rfl), (Nat.le_of_ble_eq_true rfl)⟩ dX4_init_33 (fun H locs z9 d4 o9 S => ?_)
  have h0 := va_at.kept h0 (o9 _ (show a < a + 4 by omega))
  have h1 := va_at.kept h1 (o9 _ (show a + 1 < a + 4 by omega))
  have h2 := va_at.kept h2 (o9 _ (show a + 2 < a + 4 by omega))
  have h3 := va_at.kept h3 (o9 _ (show a + 3 < a + 4 by omega))
  have hz : H.size = a + 9 := z9
  clear o9 z9 h4
  refine y_putF C S h0 (Nat.le_refl _) cf_4 8 (by decide) (Nat.le_of_ble_eq_true rfl) rfl rfl rfl rfl tw_1_239 dX4_init_36 (fun H locs z9 o9 h0 S => ?_)
  have h0 : va_at G.1 z_cl (a, .inr (4, [.int 0, .int 0, .int 0, .int 0, .int 0, .ref (a + 1), .ref (a + 2), .ref (a + 3), .ref (a + 4), .null, .null, .null])) H := h0
  have h1 := va_at.kept h1 (o9 _ (show a + 1 ≠ a by omega))
  have h2 := va_at.kept h2 (o9 _ (show a + 2 ≠ a by omega))
  have h3 := va_at.kept h3 (o9 _ (show a + 3 ≠ a by omega))
  have d4 : ∀ i, i < 5 → va_at G.1 z_cl (a + 4 + i, y_eM G (z_ad n0 m0) j i) _ := fun i hi => va_at.kept (d4 i hi) (o9 _ (show a + 4 + i ≠ a by omega))
  have hz : H.size = a + 9 := z9.trans hz
  clear o9 z9
  refine lv_aload_n C.1.1 C.1.2.1 dX4_init_39 rfl (lv_at hl 0 rfl) ?_
  refine lv_iconst (v := 4) C.1.1 C.1.2.1 dX4_init_40 (by decide) ?_
  refine y_newI C S hz 4 (by decide) (by decide) (Nat.le_of_ble_eq_true rfl) (Nat.le_of_ble_eq_true rfl) (Nat.le_of_ble_eq_true rfl) dX4_init_41 (fun H z9 o9 h9 S => ?_)
  have h0 := va_at.kept h0 (o9 _ (show a < a + 9 by omega))
  have h1 := va_at.kept h1 (o9 _ (show a + 1 < a + 9 by omega))
  have h2 := va_at.kept h2 (o9 _ (show a + 2 < a + 9 by omega))
  have h3 := va_at.kept h3 (o9 _ (show a + 3 < a + 9 by omega))
  have d4 : ∀ i, i < 5 → va_at G.1 z_cl (a + 4 + i, y_eM G (z_ad n0 m0) j i) _ := fun i hi => va_at.kept (d4 i hi) (o9 _ (show a + 4 + i < a + 9 by omega))
  have hz : H.size = a + 10 := z9
  clear o9 z9
  refine y_putF C S h0 (Nat.le_refl _) cf_4 9 (by decide) (Nat.le_of_ble_eq_true rfl) rfl rfl rfl rfl tw_2_2 dX4_init_43 (fun H locs z9 o9 h0 S => ?_)
  have h0 : va_at G.1 z_cl (a, .inr (4, [.int 0, .int 0, .int 0, .int 0, .int 0, .ref (a + 1), .ref (a + 2), .ref (a + 3), .ref (a + 4), .ref (a + 9), .null, .null])) H := h0
  have h1 := va_at.kept h1 (o9 _ (show a + 1 ≠ a by omega))
  have h2 := va_at.kept h2 (o9 _ (show a + 2 ≠ a by omega))
  have h3 := va_at.kept h3 (o9 _ (show a + 3 ≠ a by omega))
  have h9 := va_at.kept h9 (o9 _ (show a + 9 ≠ a by omega))
  have d4 : ∀ i, i < 5 → va_at G.1 z_cl (a + 4 + i, y_eM G (z_ad n0 m0) j i) _ := fun i hi => va_at.kept (d4 i hi) (o9 _ (show a + 4 + i ≠ a by omega))
  have hz : H.size = a + 10 := z9.trans hz
  clear o9 z9
  refine lv_aload_n C.1.1 C.1.2.1 dX4_init_46 rfl (lv_at hl 0 rfl) ?_
  refine lv_iconst (v := 4) C.1.1 C.1.2.1 dX4_init_47 (by decide) ?_
  refine y_newI C S hz 4 (by decide) (by decide) (Nat.le_of_ble_eq_true rfl) (Nat.le_of_ble_eq_true rfl) (Nat.le_of_ble_eq_true rfl) dX4_init_48 (fun H z9 o9 h10 S => ?_)
  have h0 := va_at.kept h0 (o9 _ (show a < a + 10 by omega))
  have h1 := va_at.kept h1 (o9 _ (show a + 1 < a + 10 by omega))
  have h2 := va_at.kept h2 (o9 _ (show a + 2 < a + 10 by omega))
  have h3 := va_at.kept h3 (o9 _ (show a + 3 < a + 10 by omega))
  have h9 := va_at.kept h9 (o9 _ (show a + 9 < a + 10 by omega))
  have d4 : ∀ i, i < 5 → va_at G.1 z_cl (a + 4 + i, y_eM G (z_ad n0 m0) j i) _ := fun i hi => va_at.kept (d4 i hi) (o9 _ (show a + 4 + i < a + 10 by omega))
  have hz : H.size = a + 11 := z9
  clear o9 z9
  refine y_putF C S h0 (Nat.le_refl _) cf_4 10 (by decide) (Nat.le_of_ble_eq_true rfl) rfl rfl rfl rfl tw_2_4 dX4_init_50 (fun H locs z9 o9 h0 S => ?_)
  have h0 : va_at G.1 z_cl (a, .inr (4, [.int 0, .int 0, .int 0, .int 0, .int 0, .ref (a + 1), .ref (a + 2), .ref (a + 3), .ref (a + 4), .ref (a + 9), .ref (a + 10), .null])) H := h0
  have h1 := va_at.kept h1 (o9 _ (show a + 1 ≠ a by omega))
  have h2 := va_at.kept h2 (o9 _ (show a + 2 ≠ a by omega))
  have h3 := va_at.kept h3 (o9 _ (show a + 3 ≠ a by omega))
  have h9 := va_at.kept h9 (o9 _ (show a + 9 ≠ a by omega))
  have h10 := va_at.kept h10 (o9 _ (show a + 10 ≠ a by omega))
  have d4 : ∀ i, i < 5 → va_at G.1 z_cl (a + 4 + i, y_eM G (z_ad n0 m0) j i) _ := fun i hi => va_at.kept (d4 i hi) (o9 _ (show a + 4 + i ≠ a by omega))
  have hz : H.size = a + 11 := z9.trans hz
  clear o9 z9
  refine lv_aload_n C.1.1 C.1.2.1 dX4_init_53 rfl (lv_at hl 0 rfl) ?_
  refine lv_iconst (v := 5) C.1.1 C.1.2.1 dX4_init_54 (by decide) ?_
  refine y_newI C S hz 5 (by decide) (by decide) (Nat.le_of_ble_eq_true rfl) (Nat.le_of_ble_eq_true rfl) (Nat.le_of_ble_eq_true rfl) dX4_init_55 (fun H z9 o9 h11 S => ?_)
  have h0 := va_at.kept h0 (o9 _ (show a < a + 11 by omega))
  have h1 := va_at.kept h1 (o9 _ (show a + 1 < a + 11 by omega))
  have h2 := va_at.kept h2 (o9 _ (show a + 2 < a + 11 by omega))
  have h3 := va_at.kept h3 (o9 _ (show a + 3 < a + 11 by omega))
  have h9 := va_at.kept h9 (o9 _ (show a + 9 < a + 11 by omega))
  have h10 := va_at.kept h10 (o9 _ (show a + 10 < a + 11 by omega))
  have d4 : ∀ i, i < 5 → va_at G.1 z_cl (a + 4 + i, y_eM G (z_ad n0 m0) j i) _ := fun i hi => va_at.kept (d4 i hi) (o9 _ (show a + 4 + i < a + 11 by omega))
  have hz : H.size = a + 12 := z9
  clear o9 z9
  refine y_putF C S h0 (Nat.le_refl _) cf_4 11 (by decide) (Nat.le_of_ble_eq_true rfl) rfl rfl rfl rfl tw_2_7 dX4_init_57 (fun H locs z9 o9 h0 S => ?_)
  have h0 : va_at G.1 z_cl (a, .inr (4, [.int 0, .int 0, .int 0, .int 0, .int 0, .ref (a + 1), .ref (a + 2), .ref (a + 3), .ref (a + 4), .ref (a + 9), .ref (a + 10), .ref (a + 11)])) H := h0
  have h1 := va_at.kept h1 (o9 _ (show a + 1 ≠ a by omega))
  have h2 := va_at.kept h2 (o9 _ (show a + 2 ≠ a by omega))
  have h3 := va_at.kept h3 (o9 _ (show a + 3 ≠ a by omega))
  have h9 := va_at.kept h9 (o9 _ (show a + 9 ≠ a by omega))
  have h10 := va_at.kept h10 (o9 _ (show a + 10 ≠ a by omega))
  have h11 := va_at.kept h11 (o9 _ (show a + 11 ≠ a by omega))
  have d4 : ∀ i, i < 5 → va_at G.1 z_cl (a + 4 + i, y_eM G (z_ad n0 m0) j i) _ := fun i hi => va_at.kept (d4 i hi) (o9 _ (show a + 4 + i ≠ a by omega))
  have hz : H.size = a + 12 := z9.trans hz
  clear o9 z9
  refine lv_iconst (v := 0) C.1.1 C.1.2.1 dX4_init_60 (by decide) ?_
  refine lv_istore_n (lv' := [(1, .int 0), (0, .ref a)]) C.1.1 C.1.2.1 dX4_init_61 rfl hl (by decide) rfl (fun ls hl => ?_)
  refine w_X4_init_62 (m0 := m0) hj ha C 4 0 rfl H locs ls S (lv_sub hl [1, 0] rfl) hz (fun i hi g2 g3 => ?_) ⟨_, h2, fun i hi => absurd hi (by omega)⟩ h3
  match i, hi, g2, g3 with
  | 0, _, _, _ => exact y_qeq (q := (0, .inr (0, []))) h0 rfl (y_this hj ha).symm
  | 1, _, _, _ => exact h1
  | 4, _, _, _ => exact d4 0 (by decide)
  | 5, _, _, _ => exact d4 1 (by decide)
  | 6, _, _, _ => exact d4 2 (by decide)
  | 7, _, _, _ => exact d4 3 (by decide)
  | 8, _, _, _ => exact d4 4 (by decide)
  | 9, _, _, _ => exact h9
  | 10, _, _, _ => exact h10
  | 11, _, _, _ => exact h11
  | i + 12, hi, _, _ => exact absurd hi (by omega)
