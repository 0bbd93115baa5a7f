/-! bestPatience -/
theorem fo_jm {f g : Nat → Int32} {n : Nat} (h : ∀ k, k < n → (f k).toInt ≤ (g k).toInt) : (fo (fun k a => jmax a (f k)) n (-1)).toInt ≤ (fo (fun k a => jmax a (g k)) n (-1)).toInt := by
  induction n with
  | zero =>
    show (-1 : Int32).toInt ≤ (-1 : Int32).toInt
    exact Int.le_refl _
  | succ n ih =>
    have i := ih (fun k hk => h k (by omega))
    have j := h n (by omega)
    show (jmax (fo (fun k a => jmax a (f k)) n (-1)) (f n)).toInt ≤ (jmax (fo (fun k a => jmax a (g k)) n (-1)) (g n)).toInt
    rw [jmax_int, jmax_int]
    omega
theorem fo_jb {f : Nat → Int32} {n : Nat} {B : Int} (h0 : -1 ≤ B) (h : ∀ k, k < n → (f k).toInt ≤ B) : (fo (fun k a => jmax a (f k)) n (-1)).toInt ≤ B := by
  induction n with
  | zero =>
    have neg1 : (-1 : Int32).toInt = -1 := by decide
    show (-1 : Int32).toInt ≤ B
    rw [neg1]
    exact h0
  | succ n ih =>
    have i := ih (fun k hk => h k (by omega))
    have j := h n (by omega)
    show (jmax (fo (fun k a => jmax a (f k)) n (-1)) (f n)).toInt ≤ B
    rw [jmax_int]
    omega
section IT
variable {F C K M M' T U j : Nat} {σ ρ v v' : Sg} {r r' : Nat → Int32}
theorem wl_bd (h : LU F C K M T U v r) (hT : T < 400000) : (W_long v K).toInt ≤ 400000 := by
  refine fo_jb (by decide) (fun k hk => ?_)
  have neg1 : (-1 : Int32).toInt = -1 := by decide
  obtain ⟨m, s, a1, a2, a3, ⟨s0, w⟩ | ⟨s1, hm, w⟩ | ⟨s2, a, a5, a6, a7, w⟩⟩ := w_nat h hT hk
  · rw [w, neg1]; decide
  · rw [w, ni_int (by omega)]; omega
  · rw [w, ni_int (by omega)]; omega
theorem it_wl (h : LV F C K M T (vw j σ) (ρ 30 0)) (hj : j < 13) {k : Nat} (hk : T + k < 399998) : (W_long (vw j (itA j σ k)) K).toInt ≤ (W_long (vw j (itA j σ (k + 1))) K).toInt ∧ (QD j K σ k = true → W_long (vw j (itA j σ (k + 1))) K = W_long (vw j (itA j σ k)) K ∧ QD j K σ (k + 1) = true) := by
  obtain ⟨⟨M1, i1⟩, -⟩ := t_it h hj k (by omega)
  obtain ⟨⟨M2, i2⟩, -⟩ := t_it h hj (k + 1) (by omega)
  have hP := (t_itS h hj (k := k) (by omega)).2.2
  have hw := fun q (hq : q < K) => w_mono i1.1 (show LU F C K M2 (T + k + 1) (T + k + 1) _ _ from i2.1) (by omega) hP hq
  refine ⟨fo_jm (fun q hq => (hw q hq).1), fun hd => ?_⟩
  have hK := D_K i1.1
  have e := of_decide_eq_true hd
  rw [W_cnt_ct, ni_eq (by have := ct_le (fun q => decide (vw j (itA j σ k) 1 q 3 = 3)) K; omega) (by omega)] at e
  have all := ct_all e
  refine ⟨fo_congr (fun q hq a => by rw [(hw q hq).2 (of_decide_eq_true (all q hq))]) (-1), decide_eq_true ?_⟩
  rw [W_cnt_ct, show ct (fun q => decide (vw j (itA j σ (k + 1)) 1 q 3 = 3)) K = K from ?_]
  refine (ct_congr (fun q hq => ?_)).trans e
  have a3 := of_decide_eq_true (all q hq)
  rw [decide_eq_true (hP.g3 q hq a3), decide_eq_true a3]
theorem it_wl2 (h : LV F C K M T (vw j σ) (ρ 30 0)) (hj : j < 13) {k : Nat} (d : Nat) (hk : T + k + d < 399998) : (W_long (vw j (itA j σ k)) K).toInt ≤ (W_long (vw j (itA j σ (k + d))) K).toInt ∧ (QD j K σ k = true → W_long (vw j (itA j σ (k + d))) K = W_long (vw j (itA j σ k)) K ∧ QD j K σ (k + d) = true) := by
  induction d with
  | zero => exact ⟨Int.le_refl _, fun q => ⟨rfl, q⟩⟩
  | succ d ih =>
    obtain ⟨i1, i2⟩ := ih (by omega)
    obtain ⟨j1, j2⟩ := it_wl h hj (k := k + d) (by omega)
    refine ⟨Int.le_trans i1 j1, fun q => ?_⟩
    obtain ⟨x1, x2⟩ := i2 q
    obtain ⟨y1, y2⟩ := j2 x2
    exact ⟨y1.trans x1, y2⟩
theorem a_behind (h : LV F C K M T (vw 1 σ) (ρ 30 0)) {L : Nat} (hL : L ≤ 500) (hT : T + L < 399998) (en : Int32) :
    ∃ r k, f_X7_longestBehind σ (nI L) en = some (r, itA 1 σ k) ∧ k ≤ L ∧ r = W_long (vw 1 (itA 1 σ k)) K ∧ ((en ≤ r ∧ en ≤ W_long (vw 1 (itA 1 σ L)) K) ∨ r = W_long (vw 1 (itA 1 σ L)) K) := by
  unfold f_X7_longestBehind
  rw [a_long h.1, p_bi]
  obtain ⟨⟨r, x⟩, e, k, hk, hr, hx, hF⟩ := lpG (fun n (s : Sg × Int32) i => f_X7_longestBehind_11 n s.1 (nI L) en s.2 i) L (fun k s => s.1 = itA 1 σ k ∧ s.2 = W_long (vw 1 (itA 1 σ k)) K) (fun r => ∃ k, k ≤ L ∧ r.1 = W_long (vw 1 (itA 1 σ k)) K ∧ r.2 = itA 1 σ k ∧ ((en ≤ r.1 ∧ en ≤ W_long (vw 1 (itA 1 σ L)) K) ∨ r.1 = W_long (vw 1 (itA 1 σ L)) K)) (by
    rintro n k ⟨a, y⟩ hk ⟨ha, hy⟩
    dsimp only at ha hy ⊢
    subst ha
    subst hy
    obtain ⟨⟨M1, i1⟩, -⟩ := t_it h (by decide) k (by omega)
    obtain ⟨⟨M2, i2⟩, -⟩ := t_it h (by decide) (k + 1) (by omega)
    obtain ⟨z1, z2⟩ := it_wl2 h (by decide) (k := k) (L - k) (by omega)
    rw [show k + (L - k) = L by omega] at z1 z2
    rw [f_X7_longestBehind_11_s, if_neg (by rw [ni_le (by omega) (by omega)]; omega)]
    unfold f_X7_longestBehind_57
    by_cases w : en ≤ W_long (vw 1 (itA 1 σ k)) K
    · rw [if_pos w]
      refine Or.inr ⟨_, rfl, k, by omega, rfl, rfl, Or.inl ⟨w, ?_⟩⟩
      rw [Int32.le_iff_toInt_le] at w ⊢
      exact Int.le_trans w z1
    · rw [if_neg w, a_allDone i1.1, p_bi]
      cases hd : decide (W_cnt (vw 1 (itA 1 σ k)) K 3 = nI K)
      · rw [if_pos (show W_b false = 0 from rfl), (t_itS h (by decide) (k := k) (by omega)).1, p_bv, a_long i2.1, p_bi, ni_1]
        exact Or.inl ⟨(itA 1 σ (k + 1), W_long (vw 1 (itA 1 σ (k + 1))) K), ⟨rfl, rfl⟩, rfl⟩
      · rw [if_neg (show ¬ W_b true = 0 by decide)]
        exact Or.inr ⟨_, rfl, k, by omega, rfl, rfl, Or.inr (z2 hd).1.symm⟩) (by
    rintro n ⟨a, y⟩ ⟨ha, hy⟩
    dsimp only at ha hy ⊢
    subst ha
    subst hy
    refine ⟨(W_long (vw 1 (itA 1 σ L)) K, itA 1 σ L), ?_, L, Nat.le_refl L, rfl, rfl, Or.inr rfl⟩
    rw [f_X7_longestBehind_11_s, if_pos (by rw [ni_le (by omega) (by omega)]; exact Nat.le_refl L)]
    rfl) FU 0 (σ, W_long (vw 1 σ) K) (Nat.zero_le _) (by show L - 0 < 65536; omega) ⟨rfl, rfl⟩
  dsimp only at hr hx hF
  exact ⟨r, k, e.trans (by rw [hx]), hk, hr, hF⟩
end IT
theorem E1_bestPatience : E_bestPatience RelN := by
  intro nn σ ρ v1 hn hR
  rcases x_ticks σ ρ v1 with ⟨n, h1, h2, rfl, e1, e2⟩ | ⟨e1, e2⟩
  · obtain ⟨⟨F, C, K, M, T, hC1, hT, hL⟩, -⟩ := id hR
    have hLr : LV F C K M T (vw 0 σ) ((sup ρ 8 0 8 0) 30 0) := by rw [s_30]; exact hL
    obtain ⟨m1, m2, ⟨a, best, least⟩, ⟨b, best', least'⟩, ⟨i1, i2, i3, i4, i5⟩, i6, i7⟩ := lpE (fun m (s : Sg × Int32 × Int32) i => f_X7_bestPatience_18 m s.1 (nI n) s.2.1 s.2.2 (3 + i)) (fun m (s : Sg × Int32 × Int32) i => f_X8_bestPatience_17 m s.1 (nI n) s.2.1 s.2.2 (3 + i)) 48 (by decide)
      (fun _ s t => LV F C K M T (vw 0 s.1) (t.1 30 0) ∧ RestN nn s.1 t.1 ∧ t.1 8 0 8 = 0 ∧ s.2.1 = t.2.1 ∧ ((s.2.1 = -1 ∧ s.2.2 = 2147483647) ∨ ∃ m, m < 1000 ∧ s.2.1 = nI m ∧ t.2.2 = s.2.2)) (a := (σ, -1, 2147483647)) (b := (sup ρ 8 0 8 0, -1, 0)) (by
      rintro m1 m2 k ⟨a, best, least⟩ ⟨b, best', least'⟩ hk ⟨i1, i2, i3, i4, i5⟩
      dsimp only at i1 i2 i3 i4 i5 ⊢
      subst i4
      obtain ⟨σ1, ρ1, a1, a2, a3, -, a4⟩ := t_peek i1 i2
      have g := S_set a3.1 (w := 1) (y := 3 + k) (by decide) (fun _ => ⟨by omega, by omega⟩) (fun q => absurd q (by decide)) (fun q => absurd q (by decide))
      rw [← vs_12, ← s_ru] at g
      have g' : LV F C K M T (vw 1 (sup σ1 12 1 1 (nI (3 + k)))) ((sup ρ1 30 0 5 (nI (3 + k))) 30 0) := ⟨g, by
        rw [vs_12]
        unfold V_ann
        rw [s_ne (by decide)]
        exact a3.2⟩
      have sp : SP 1 σ1 ρ1 (sup σ1 12 1 1 (nI (3 + k))) (sup ρ1 30 0 5 (nI (3 + k))) := SP.r (SP.c (SP.rf 1 σ1 ρ1) (show Own 1 12 1 from (rfl : 1 = 1)) _ _) _ _
      obtain ⟨r1, k1, c1, c2, c3, c4⟩ := a_behind g' h2 (by omega) least
      have it1 := (t_it g' (by decide) k1 (by omega)).2
      obtain ⟨⟨M2, it3⟩, it2⟩ := t_it g' (by decide) n (by omega)
      obtain ⟨⟨M1, it4⟩, -⟩ := t_it g' (by decide) k1 (by omega)
      have bd := wl_bd it4.1 (by omega)
      rw [← c3] at bd
      obtain ⟨ρ3, b1, b2, b3, b4⟩ := a4 _ _ (sp.st.trans (t_mix it1 it2))
      have eA : f_X7_bestPatience_18 (m1 + 1) a (nI n) best least (3 + nI k) = if least ≤ r1 then f_X7_bestPatience_18 m1 (itA 1 (sup σ1 12 1 1 (nI (3 + k))) k1) (nI n) best least (3 + nI (k + 1)) else f_X7_bestPatience_18 m1 (itA 1 (sup σ1 12 1 1 (nI (3 + k))) k1) (nI n) (nI (3 + k)) r1 (3 + nI (k + 1)) := by
        rw [f_X7_bestPatience_18_s, show (3 : Int32) + nI k = nI (3 + k) from ni_add 3 k, show (3 : Int32) + nI (k + 1) = nI (3 + k + 1) from ni_add 3 (k + 1), if_neg (show ¬ stab 1 (1 : Int32).toNatClampNeg < nI (3 + k) by rw [show stab 1 (1 : Int32).toNatClampNeg = nI 50 from rfl, ni_lt (by omega) (by omega)]; omega), a1, p_bv, p_st, c1, p_bi]
        unfold f_X7_bestPatience_70
        rw [ni_1]
      have eB : f_X8_bestPatience_17 (m2 + 1) b (nI n) best least' (3 + nI k) = if best = -1 then f_X8_bestPatience_17 m2 ρ3 (nI n) (nI (3 + k)) (W_long (vw 1 (itA 1 (sup σ1 12 1 1 (nI (3 + k))) n)) K) (3 + nI (k + 1)) else if W_long (vw 1 (itA 1 (sup σ1 12 1 1 (nI (3 + k))) n)) K < least' then f_X8_bestPatience_17 m2 ρ3 (nI n) (nI (3 + k)) (W_long (vw 1 (itA 1 (sup σ1 12 1 1 (nI (3 + k))) n)) K) (3 + nI (k + 1)) else f_X8_bestPatience_17 m2 ρ3 (nI n) best least' (3 + nI (k + 1)) := by
        rw [f_X8_bestPatience_17_s, show (3 : Int32) + nI k = nI (3 + k) from ni_add 3 k, show (3 : Int32) + nI (k + 1) = nI (3 + k + 1) from ni_add 3 (k + 1), if_neg (show ¬ (50 : Int32) < nI (3 + k) by rw [show (50 : Int32) = nI 50 from rfl, ni_lt (by omega) (by omega)]; omega), a2, p_bv, p_st, b_passes g' (by decide) h2 (by omega), p_bi, if_pos (t_nneg g' (by decide) n (by omega)), b_long it3.1, p_bi]
        unfold f_X8_bestPatience_56 f_X8_bestPatience_76 f_X8_bestPatience_82
        rw [b1, p_bv, ni_1]
      rw [eA, eB]
      have b4' : ρ3 8 0 8 = 0 := b4.trans i3
      have big : ¬ (2147483647 : Int32) ≤ r1 := by
        rw [Int32.le_iff_toInt_le]
        have : (2147483647 : Int32).toInt = 2147483647 := by decide
        omega
      rcases i5 with ⟨y1, y2⟩ | ⟨m, y1, y2, y3⟩
      · subst y1
        subst y2
        rw [if_neg big, if_pos rfl]
        rcases c4 with ⟨z1, -⟩ | z1
        · exact absurd z1 big
        · rw [← z1]
          exact ⟨(itA 1 (sup σ1 12 1 1 (nI (3 + k))) k1, nI (3 + k), r1), (ρ3, nI (3 + k), r1), ⟨b2, b3, b4', rfl, Or.inr ⟨3 + k, by omega, rfl, rfl⟩⟩, rfl, rfl⟩
      · subst y3
        rw [y2, if_neg (nm_n (by omega))]
        rcases c4 with ⟨z1, z2⟩ | z1
        · rw [if_pos z1, if_neg (Int32.not_lt.mpr z2)]
          exact ⟨(itA 1 (sup σ1 12 1 1 (nI (3 + k))) k1, nI m, least'), (ρ3, nI m, least'), ⟨b2, b3, b4', rfl, Or.inr ⟨m, y1, rfl, rfl⟩⟩, rfl, rfl⟩
        · rw [← z1]
          by_cases w : least' ≤ r1
          · rw [if_pos w, if_neg (Int32.not_lt.mpr w)]
            exact ⟨(itA 1 (sup σ1 12 1 1 (nI (3 + k))) k1, nI m, least'), (ρ3, nI m, least'), ⟨b2, b3, b4', rfl, Or.inr ⟨m, y1, rfl, rfl⟩⟩, rfl, rfl⟩
          · rw [if_neg w, if_pos (Int32.not_le.mp w)]
            exact ⟨(itA 1 (sup σ1 12 1 1 (nI (3 + k))) k1, nI (3 + k), r1), (ρ3, nI (3 + k), r1), ⟨b2, b3, b4', rfl, Or.inr ⟨3 + k, by omega, rfl, rfl⟩⟩, rfl, rfl⟩) ⟨hLr, hR.cut 0, s_thr ρ 0, rfl, Or.inl ⟨rfl, rfl⟩⟩
    dsimp only at i1 i2 i3 i4 i5 i6 i7
    subst i4
    refine ⟨(0, best, a), best, b, ?_, Or.inl rfl, ?_, ⟨⟨F, C, K, M, T, hC1, by omega, i1⟩, i2.up⟩, ?_, fun _ => rfl⟩
    · unfold f_X7_bestPatience
      rw [e1, p_bx0]
      refine Eq.trans i6 ?_
      rw [f_X7_bestPatience_18_s, if_pos (by decide)]
      rfl
    · unfold f_X8_bestPatience
      rw [e2, p_bi, if_pos rfl]
      refine Eq.trans i7 ?_
      rw [f_X8_bestPatience_17_s, if_pos (by decide)]
      rfl
    · rw [i3]
      rfl
  · refine ⟨(2, 0, σ), 0, sup ρ 8 0 8 1, ?_, Or.inr rfl, ?_, hR.thr 1, s_thr ρ 1, fun h => absurd (show (2 : Nat) = 0 from h) (by decide)⟩
    · unfold f_X7_bestPatience
      rw [e1]
      rfl
    · unfold f_X8_bestPatience
      rw [e2, p_bi, if_neg (by decide)]
