/-! changes: what they write, and run, setJammed, setStopped, set, forget -/
theorem q_24 {q : Nat} (h : q < 2147483648) : ((24 : Int32) ≤ nI q) = (24 ≤ q) := by
  rw [show (24 : Int32) = nI 24 from rfl, ni_le (by omega) h]
theorem S_stp {F C K M T U : Nat} {v : Sg} {r : Nat → Int32} (h : LU F C K M T U v r) {c : Nat} (hc : c < C) {x : Int32} (hx : x = 0 ∨ x = 1) : LU F C K M T U (sup v 2 c 3 x) (ru r (35 + c) x) := by
  have dC := D_C h
  have dK := D_K h
  have dM := D_M h
  refine ⟨V_hd.ext h.1 (fun _ => by first | rfl | simp [sup]) (by first | rfl | simp [sup]) (fun i h1 => by simp (disch := omega) only [ru_ne]), V_set.ext h.2.1 (fun _ => by first | rfl | simp [sup]) (fun i h1 h2 => by simp (disch := omega) only [ru_ne]), V_cnt.ext h.2.2.1 (fun _ => by first | rfl | simp [sup]) (fun _ => by first | rfl | simp [sup]) (fun _ => by first | rfl | simp [sup]) (fun i h1 h2 => by simp (disch := omega) only [ru_ne]), ?_, V_call.ext h.2.2.2.2.1 dK (fun _ _ => by first | rfl | simp [sup]) (fun i h1 h2 => by simp (disch := omega) only [ru_ne]), V_held.ext h.2.2.2.2.2.1 dC dK (fun _ => by first | rfl | simp [sup]) (fun i h1 h2 => by simp (disch := omega) only [ru_ne]), V_abd.ext h.2.2.2.2.2.2.1 (fun _ => by first | rfl | simp [sup]) (fun _ => by first | rfl | simp [sup]) (fun _ => by first | rfl | simp [sup]), V_kn1.ext h.2.2.2.2.2.2.2.1 dC dK (fun _ => by first | rfl | simp [sup]) (fun _ _ => by first | rfl | simp [sup]) (fun _ _ => by first | rfl | simp [sup]) (fun _ _ => by first | rfl | simp [sup]) (fun _ _ => by first | rfl | simp [sup]) (fun i h1 h2 => by simp (disch := omega) only [ru_ne]), V_kn0.ext h.2.2.2.2.2.2.2.2.1 (fun _ _ => by first | rfl | simp [sup]) (fun _ _ => by first | rfl | simp [sup]) (fun _ _ => by first | rfl | simp [sup]), V_msg.ext h.2.2.2.2.2.2.2.2.2 (fun _ => by first | rfl | simp [sup]) (fun _ => by first | rfl | simp [sup]) (fun _ => by first | rfl | simp [sup]) (fun _ => by first | rfl | simp [sup]) (fun i h1 => by simp (disch := omega) only [ru_ne])⟩
  · intro c' hc'
    obtain ⟨a1, a2, a3, a4, a5, a6⟩ := h.2.2.2.1 c' hc'
    by_cases w : c' = c
    · subst w
      have z : ∀ f, f ≠ 3 → (sup v 2 c' 3 x) 2 c' f = v 2 c' f := fun f hf => s_nf hf
      refine ⟨fun f hf => ?_, by rw [z 0 (by decide)]; exact a2, by rw [z 1 (by decide)]; exact a3, by rw [z 2 (by decide)]; exact a4, by rw [s_at]; exact hx, by rw [z 4 (by decide)]; exact a6⟩
      by_cases wf : f = 3
      · subst wf
        rw [show 23 + 4 * 3 + c' = 35 + c' by omega, ru_eq, s_at]
      · rw [ru_ne (by omega), z f wf]; exact a1 f hf
    · have z : ∀ f, (sup v 2 c 3 x) 2 c' f = v 2 c' f := fun f => s_no w
      refine ⟨fun f hf => by rw [ru_ne (by omega), z f]; exact a1 f hf, by rw [z]; exact a2, by rw [z]; exact a3, by rw [z]; exact a4, by rw [z]; exact a5, by rw [z]; exact a6⟩
theorem S_jam {F C K M T U : Nat} {v : Sg} {r : Nat → Int32} (h : LU F C K M T U v r) {c : Nat} (hc : c < C) {x : Int32} (hx : x = 0 ∨ x = 1) : LU F C K M T U (sup v 2 c 4 x) (ru r (39 + c) x) := by
  have dC := D_C h
  have dK := D_K h
  have dM := D_M h
  refine ⟨V_hd.ext h.1 (fun _ => by first | rfl | simp [sup]) (by first | rfl | simp [sup]) (fun i h1 => by simp (disch := omega) only [ru_ne]), V_set.ext h.2.1 (fun _ => by first | rfl | simp [sup]) (fun i h1 h2 => by simp (disch := omega) only [ru_ne]), V_cnt.ext h.2.2.1 (fun _ => by first | rfl | simp [sup]) (fun _ => by first | rfl | simp [sup]) (fun _ => by first | rfl | simp [sup]) (fun i h1 h2 => by simp (disch := omega) only [ru_ne]), ?_, V_call.ext h.2.2.2.2.1 dK (fun _ _ => by first | rfl | simp [sup]) (fun i h1 h2 => by simp (disch := omega) only [ru_ne]), V_held.ext h.2.2.2.2.2.1 dC dK (fun _ => by first | rfl | simp [sup]) (fun i h1 h2 => by simp (disch := omega) only [ru_ne]), V_abd.ext h.2.2.2.2.2.2.1 (fun _ => by first | rfl | simp [sup]) (fun _ => by first | rfl | simp [sup]) (fun _ => by first | rfl | simp [sup]), V_kn1.ext h.2.2.2.2.2.2.2.1 dC dK (fun _ => by first | rfl | simp [sup]) (fun _ _ => by first | rfl | simp [sup]) (fun _ _ => by first | rfl | simp [sup]) (fun _ _ => by first | rfl | simp [sup]) (fun _ _ => by first | rfl | simp [sup]) (fun i h1 h2 => by simp (disch := omega) only [ru_ne]), V_kn0.ext h.2.2.2.2.2.2.2.2.1 (fun _ _ => by first | rfl | simp [sup]) (fun _ _ => by first | rfl | simp [sup]) (fun _ _ => by first | rfl | simp [sup]), V_msg.ext h.2.2.2.2.2.2.2.2.2 (fun _ => by first | rfl | simp [sup]) (fun _ => by first | rfl | simp [sup]) (fun _ => by first | rfl | simp [sup]) (fun _ => by first | rfl | simp [sup]) (fun i h1 => by simp (disch := omega) only [ru_ne])⟩
  · intro c' hc'
    obtain ⟨a1, a2, a3, a4, a5, a6⟩ := h.2.2.2.1 c' hc'
    by_cases w : c' = c
    · subst w
      have z : ∀ f, f ≠ 4 → (sup v 2 c' 4 x) 2 c' f = v 2 c' f := fun f hf => s_nf hf
      refine ⟨fun f hf => ?_, by rw [z 0 (by decide)]; exact a2, by rw [z 1 (by decide)]; exact a3, by rw [z 2 (by decide)]; exact a4, by rw [z 3 (by decide)]; exact a5, by rw [s_at]; exact hx⟩
      by_cases wf : f = 4
      · subst wf
        rw [show 23 + 4 * 4 + c' = 39 + c' by omega, ru_eq, s_at]
      · rw [ru_ne (by omega), z f wf]; exact a1 f hf
    · have z : ∀ f, (sup v 2 c 4 x) 2 c' f = v 2 c' f := fun f => s_no w
      refine ⟨fun f hf => by rw [ru_ne (by omega), z f]; exact a1 f hf, by rw [z]; exact a2, by rw [z]; exact a3, by rw [z]; exact a4, by rw [z]; exact a5, by rw [z]; exact a6⟩
theorem S_set {F C K M T U : Nat} {v : Sg} {r : Nat → Int32} (h : LU F C K M T U v r) {w y : Nat} (hw : w < 5) (h1 : w = 1 → 3 ≤ y ∧ y ≤ 50) (h2 : w = 2 → y ≤ 20) (h3 : w = 3 → y ≤ 5) : LU F C K M T U (sup v 12 0 w (nI y)) (ru r (4 + w) (nI y)) := by
  have dC := D_C h
  have dK := D_K h
  have dM := D_M h
  refine ⟨?_, ?_, V_cnt.ext h.2.2.1 (fun _ => by first | rfl | simp [sup]) (fun _ => by first | rfl | simp [sup]) (fun _ => by first | rfl | simp [sup]) (fun i h1 h2 => by simp (disch := omega) only [ru_ne]), V_car.ext h.2.2.2.1 dC (fun _ f hf => by first | rfl | (simp [sup]; done) | (unfold sup; repeat rw [if_neg (fun q => absurd q.2.2 (by omega))])) (fun i h1 h2 => by simp (disch := omega) only [ru_ne]), V_call.ext h.2.2.2.2.1 dK (fun _ _ => by first | rfl | simp [sup]) (fun i h1 h2 => by simp (disch := omega) only [ru_ne]), V_held.ext h.2.2.2.2.2.1 dC dK (fun _ => by first | rfl | simp [sup]) (fun i h1 h2 => by simp (disch := omega) only [ru_ne]), V_abd.ext h.2.2.2.2.2.2.1 (fun _ => by first | rfl | simp [sup]) (fun _ => by first | rfl | simp [sup]) (fun _ => by first | rfl | simp [sup]), V_kn1.ext h.2.2.2.2.2.2.2.1 dC dK (fun _ => by first | rfl | simp [sup]) (fun _ _ => by first | rfl | simp [sup]) (fun _ _ => by first | rfl | simp [sup]) (fun _ _ => by first | rfl | simp [sup]) (fun _ _ => by first | rfl | simp [sup]) (fun i h1 h2 => by simp (disch := omega) only [ru_ne]), V_kn0.ext h.2.2.2.2.2.2.2.2.1 (fun _ _ => by first | rfl | simp [sup]) (fun _ _ => by first | rfl | simp [sup]) (fun _ _ => by first | rfl | simp [sup]), V_msg.ext h.2.2.2.2.2.2.2.2.2 (fun _ => by first | rfl | simp [sup]) (fun _ => by first | rfl | simp [sup]) (fun _ => by first | rfl | simp [sup]) (fun _ => by first | rfl | simp [sup]) (fun i h1 => by simp (disch := omega) only [ru_ne])⟩
  · obtain ⟨a1, a2, a3, a4, a5, a6, a7, a8, a9, a10, a11, a12⟩ := h.1
    exact ⟨a1, a2, a3, a4, a5, by rw [ru_ne (by omega)]; exact a6, by rw [ru_ne (by omega)]; exact a7, by rw [ru_ne (by omega)]; exact a8, by rw [ru_ne (by omega)]; exact a9, by rw [ru_ne (by omega)]; exact a10, by rw [ru_ne (by omega)]; exact a11, a12⟩
  · obtain ⟨a, P, W, D, b1, b2, b3, b4, b5, b6, b7⟩ := h.2.1
    refine ⟨fun i hi => ?_, if w = 1 then y else P, if w = 2 then y else W, if w = 3 then y else D, ?_, ?_, ?_, ?_, ?_, ?_, ?_⟩
    · by_cases e : i = w
      · subst e; rw [ru_eq, s_at]
      · rw [ru_ne (by omega), s_nf e]; exact a i hi
    · by_cases e : w = 1
      · subst e; rw [if_pos rfl, s_at]
      · rw [if_neg e, s_nf (fun q => e q.symm)]; exact b1
    · split
      · exact (h1 (by assumption)).1
      · exact b2
    · split
      · exact (h1 (by assumption)).2
      · exact b3
    · by_cases e : w = 2
      · subst e; rw [if_pos rfl, s_at]
      · rw [if_neg e, s_nf (fun q => e q.symm)]; exact b4
    · split
      · exact h2 (by assumption)
      · exact b5
    · by_cases e : w = 3
      · subst e; rw [if_pos rfl, s_at]
      · rw [if_neg e, s_nf (fun q => e q.symm)]; exact b6
    · split
      · exact h3 (by assumption)
      · exact b7
section CH
variable {F C K M T U j : Nat} {σ ρ v v' : Sg} {r r' : Nat → Int32}
theorem S_drop (h : LU F C K M T U v r) {c : Nat} (hv : ∀ k o i, ¬ (k = 17 ∧ o = c) → v' k o i = v k o i) (h17 : ∀ i, i < 24 → v' 17 c i = -1) (hr1 : ∀ k, k < K → r' (511 + 24 * c + k) = -1) (hr : ∀ i, i < 511 ∨ 607 ≤ i → r' i = r i) (hr3 : ∀ c' k, c' ≠ c → k < K → r' (511 + 24 * c' + k) = r (511 + 24 * c' + k)) : LU F C K M T U v' r' := by
  have dC := D_C h
  have dK := D_K h
  have dM := D_M h
  refine ⟨V_hd.ext h.1 (fun _ => hv _ _ _ (by omega)) (hv _ _ _ (by omega)) (fun i h1 => hr i (by omega)), V_set.ext h.2.1 (fun _ => hv _ _ _ (by omega)) (fun i h1 h2 => hr i (by omega)), V_cnt.ext h.2.2.1 (fun _ => hv _ _ _ (by omega)) (fun _ => hv _ _ _ (by omega)) (fun _ => hv _ _ _ (by omega)) (fun i h1 h2 => hr i (by omega)), V_car.ext h.2.2.2.1 dC (fun _ f hf => hv _ _ _ (by omega)) (fun i h1 h2 => hr i (by omega)), V_call.ext h.2.2.2.2.1 dK (fun _ _ => hv _ _ _ (by omega)) (fun i h1 h2 => hr i (by omega)), V_held.ext h.2.2.2.2.2.1 dC dK (fun _ => hv _ _ _ (by omega)) (fun i h1 h2 => hr i (by omega)), V_abd.ext h.2.2.2.2.2.2.1 (fun _ => hv _ _ _ (by omega)) (fun _ => hv _ _ _ (by omega)) (fun _ => hv _ _ _ (by omega)), ?_, ?_, V_msg.ext h.2.2.2.2.2.2.2.2.2 (fun _ => hv _ _ _ (by omega)) (fun _ => hv _ _ _ (by omega)) (fun _ => hv _ _ _ (by omega)) (fun _ => hv _ _ _ (by omega)) (fun i h1 => hr i (by omega))⟩
  · intro c' hc' k hk
    obtain ⟨a, b, d, e, f, g⟩ := h.2.2.2.2.2.2.2.1 c' hc' k hk
    have z16 : v' 16 c' k = v 16 c' k := hv _ _ _ (by omega)
    have z2 : v' 2 c' 8 = v 2 c' 8 := hv _ _ _ (by omega)
    refine ⟨?_, fun q hq => ?_, fun t ht => ?_, fun z => ?_, ?_, fun q hq => ?_⟩
    · by_cases w : c' = c
      · subst w; rw [hr1 k hk, h17 k (by omega)]
      · rw [hr3 c' k w hk, hv _ _ _ (fun q => w q.2)]; exact a
    · rw [hv _ _ _ (by omega), hr _ (by omega)]; exact b q hq
    · rw [hv _ _ _ (by omega), hr _ (by omega)]; exact d t ht
    · rw [z16, hr _ (by omega)]
      refine e ?_
      rcases z with z | z
      · exact Or.inl (by rw [← z2]; exact z)
      · by_cases w : c' = c
        · subst w; exact absurd (h17 k (by omega)) z
        · exact Or.inr (by rw [← hv 17 c' k (fun q => w q.2)]; exact z)
    · by_cases w : c' = c
      · subst w; exact Or.inl (h17 k (by omega))
      · rw [hv _ _ _ (fun q => w q.2)]; exact f
    · rw [hv _ _ _ (by omega)]; exact g q hq
  · intro c' hc' k hk hk2
    obtain ⟨a, b, d⟩ := h.2.2.2.2.2.2.2.2.1 c' hc' k hk hk2
    refine ⟨?_, fun q hq => ?_, fun t ht => ?_⟩
    · by_cases w : c' = c
      · subst w; exact h17 k hk2
      · rw [hv _ _ _ (fun q => w q.2)]; exact a
    · rw [hv _ _ _ (by omega)]; exact b q hq
    · rw [hv _ _ _ (by omega)]; exact d t ht
theorem x_ticks (σ ρ : Sg) (v : Int32) : (∃ n, 1 ≤ n ∧ n ≤ 500 ∧ v = nI n ∧ f_X7_checkTicks σ v = some (0, 0, σ) ∧ f_X8_badTicks ρ v = some (0, sup ρ 8 0 8 0)) ∨ (f_X7_checkTicks σ v = some (2, 0, σ) ∧ f_X8_badTicks ρ v = some (1, sup ρ 8 0 8 1)) := by
  have bad : (v < 1 ∨ 500 < v) → f_X7_checkTicks σ v = some (2, 0, σ) ∧ f_X8_badTicks ρ v = some (1, sup ρ 8 0 8 1) := fun hb => by
    unfold f_X7_checkTicks f_X8_badTicks f_X8_badTicks_22
    rw [x_rg1 hb, p_st, x_in0 _ hb, p_bi, if_pos rfl, x_f1, p_bi, s_ss]
    exact ⟨rfl, rfl⟩
  rcases x_rng v 500 (by decide) with ⟨n, hn, rfl⟩ | hb
  · by_cases h1 : 1 ≤ n
    · refine Or.inl ⟨n, h1, hn, rfl, ?_, ?_⟩
      · unfold f_X7_checkTicks
        rw [x_rg0 (by rw [show (1 : Int32) = nI 1 from rfl, ni_lt (by omega) (by omega)]; omega) (by rw [show (500 : Int32) = nI 500 from rfl, ni_lt (by omega) (by omega)]; omega)]
        rfl
      · unfold f_X8_badTicks f_X8_badTicks_22
        rw [p_st, x_in1 _ (by rw [show (1 : Int32) = nI 1 from rfl, ni_lt (by omega) (by omega)]; omega) (by rw [show (500 : Int32) = nI 500 from rfl, ni_lt (by omega) (by omega)]; omega), p_bi, if_neg (by decide), x_f0, p_bi]
        rfl
    · refine Or.inr (bad (Or.inl ?_))
      rw [show (1 : Int32) = nI 1 from rfl, ni_lt (by omega) (by omega)]
      omega
  · refine Or.inr (bad ?_)
    rcases hb with hb | hb
    · refine Or.inl ?_
      rw [Int32.lt_iff_toInt_lt] at hb ⊢
      have e0 : (0 : Int32).toInt = 0 := by decide
      have e1 : (1 : Int32).toInt = 1 := by decide
      omega
    · exact Or.inr hb
end CH
/-- the parts of the relation once the reference's last throw is set -/
theorem RelN.cut {n : Nat} {σ ρ : Sg} (h : RelN n σ ρ) (x : Int32) : RestN n σ (sup ρ 8 0 8 x) := (h.ref (R_thr ρ x)).2
theorem E1_run : E_run RelN := by
  intro nn σ ρ v1 hn hR
  rcases x_ticks σ ρ v1 with ⟨n, h1, h2, rfl, e1, e2⟩ | ⟨e1, e2⟩
  · obtain ⟨⟨F, C, K, M, T, hC1, hT, hL⟩, -⟩ := id hR
    have hLr : LV F C K M T (vw 0 σ) ((sup ρ 8 0 8 0) 30 0) := by rw [s_30]; exact hL
    obtain ⟨σ1, ρ1, a1, a2, a3, a4, a5⟩ := t_remember (hR.cut 0) hLr hT hC1
    obtain ⟨σ2, ρ2, b1, b2, M2, b3, b4⟩ := t_passes a3 (by decide) h2 (by omega)
    refine ⟨(0, W_cnt (vw 0 σ2) K 3 - W_cnt (vw 0 σ1) K 3, σ2), W_cnt (vw 0 σ2) K 3 - W_cnt (vw 0 σ1) K 3, ρ2, ?_, Or.inl rfl, ?_, ⟨⟨F, C, K, M2, T + n, hC1, by omega, b3⟩, (a4.st b4 (by decide)).up⟩, ?_, fun _ => rfl⟩
    · unfold f_X7_run
      rw [e1, p_bx0, a1, p_bv, a_cnt a3.1, p_bi, b1, p_bv, a_cnt b3.1, p_bi]
    · unfold f_X8_run
      rw [e2, p_bi, if_pos rfl, a2, p_bv, b2, p_bi]
    · rw [b4.2 8 (by decide) (by decide), a5, s_thr]
      rfl
  · refine ⟨(2, 0, σ), 0, sup ρ 8 0 8 1, ?_, Or.inr rfl, ?_, hR.thr 1, s_thr ρ 1, fun h => absurd (show (2 : Nat) = 0 from h) (by decide)⟩
    · unfold f_X7_run
      rw [e1]
      rfl
    · unfold f_X8_run
      rw [e2, p_bi, if_neg (by decide)]
theorem E1_setJammed : E_setJammed RelN := by
  intro nn σ ρ v1 v2 hn hR hv2
  obtain ⟨⟨F, C, K, M, T, hC1, hT, hL⟩, -⟩ := id hR
  have dC := D_C hL.1
  rcases x_idx v1 (show C < 2147483648 by omega) with ⟨c, hc, rfl⟩ | hb
  · have hLr : LV F C K M T (vw 0 σ) ((sup ρ 8 0 8 0) 30 0) := by rw [s_30]; exact hL
    obtain ⟨σ1, ρ1, a1, a2, a3, a4, a5⟩ := t_remember (hR.cut 0) hLr hT hC1
    obtain ⟨-, -, -, -, c4, -⟩ := B_car a3.1 hc
    have c4' : ρ1 30 0 (39 + c) = σ1 2 (4 * 0 + c) 4 := c4
    have e : σ1 2 (4 * 0 + c) 4 = 0 ∨ σ1 2 (4 * 0 + c) 4 = 1 := (a3.1.2.2.2.1 c hc).2.2.2.2.2
    have g := S_jam a3.1 hc hv2
    rw [← vs_2, ← s_ru] at g
    have sp : SP 0 σ1 ρ1 (sup σ1 2 (4 * 0 + c) 4 v2) (sup ρ1 30 0 (39 + c) v2) := SP.r (SP.c (SP.rf 0 σ1 ρ1) (O_2 (by omega)) _ _) _ _
    have an' : V_ann (vw 0 (sup σ1 2 (4 * 0 + c) 4 v2)) M ≤ K := by
      rw [vs_2]
      unfold V_ann
      rw [s_ne (by decide)]
      exact a3.2
    refine ⟨(0, σ1 2 (4 * 0 + c) 4, sup σ1 2 (4 * 0 + c) 4 v2), σ1 2 (4 * 0 + c) 4, sup ρ1 30 0 (39 + c) v2, ?_, Or.inl rfl, ?_, ⟨⟨F, C, K, M, T, hC1, by omega, g, an'⟩, (a4.st sp.st (by decide)).up⟩, ?_, fun _ => rfl⟩
    · unfold f_X7_setJammed
      rw [x_car0 (A_C hL.1) dC hc, p_bx0, a1, p_bv]
      simp (disch := omega) only [ni_nn, ni_cl, p_nle, false_or, if_false, p_st]
      rw [if_neg (fun q => q hv2), if_neg (fun q => q e)]
    · unfold f_X8_setJammed f_X8_setJammed_32 f_X8_setJammed_50
      rw [x_nc0 (B_C hL.1) dC hc, p_bi, if_pos rfl, a2, p_bv]
      simp (disch := omega) only [l_39, ni_nn, ni_cl, p_nle, false_or, if_false, p_st, c4']
      rcases e with e | e <;> rcases hv2 with rfl | rfl <;> rw [e] <;> rfl
    · rw [sp.2 8 (by decide), a5, s_thr]
      rfl
  · refine ⟨(1, 0, σ), 0, sup ρ 8 0 8 1, ?_, Or.inr rfl, ?_, hR.thr 1, s_thr ρ 1, fun h => absurd (show (1 : Nat) = 0 from h) (by decide)⟩
    · unfold f_X7_setJammed
      rw [x_car1 (A_C hL.1) hb]
      rfl
    · unfold f_X8_setJammed
      rw [y_nc1 (B_C hL.1) dC hb, p_bi, if_neg (by decide)]
theorem E1_setStopped : E_setStopped RelN := by
  intro nn σ ρ v1 v2 hn hR hv2
  obtain ⟨⟨F, C, K, M, T, hC1, hT, hL⟩, -⟩ := id hR
  have dC := D_C hL.1
  have dK := D_K hL.1
  rcases x_idx v1 (show C < 2147483648 by omega) with ⟨c, hc, rfl⟩ | hb
  · have hLr : LV F C K M T (vw 0 σ) ((sup ρ 8 0 8 0) 30 0) := by rw [s_30]; exact hL
    obtain ⟨σ1, ρ1, a1, a2, a3, a4, a5⟩ := t_remember (hR.cut 0) hLr hT hC1
    obtain ⟨-, -, -, c3, -⟩ := B_car a3.1 hc
    have c3' : ρ1 30 0 (35 + c) = σ1 2 (4 * 0 + c) 3 := c3
    have e : σ1 2 (4 * 0 + c) 3 = 0 ∨ σ1 2 (4 * 0 + c) 3 = 1 := (a3.1.2.2.2.1 c hc).2.2.2.2.1
    have g := S_stp a3.1 hc hv2
    rw [← vs_2, ← s_ru] at g
    have sp : SP 0 σ1 ρ1 (sup σ1 2 (4 * 0 + c) 3 v2) (sup ρ1 30 0 (35 + c) v2) := SP.r (SP.c (SP.rf 0 σ1 ρ1) (O_2 (by omega)) _ _) _ _
    have an' : V_ann (vw 0 (sup σ1 2 (4 * 0 + c) 3 v2)) M ≤ K := by
      rw [vs_2]
      unfold V_ann
      rw [s_ne (by decide)]
      exact a3.2
    -- behind the flag
    have tail : ∃ σ2 ρ2, (if v2 = 0 then f_X7_setStopped_45 (sup σ1 2 (4 * 0 + c) 3 v2) (σ1 2 (4 * 0 + c) 3) else bv (f_X2_dropDecisions (sup σ1 2 (4 * 0 + c) 3 v2) (4 * 0 + c)) fun σ5 => f_X7_setStopped_45 σ5 (σ1 2 (4 * 0 + c) 3)) = some (0, σ1 2 (4 * 0 + c) 3, σ2) ∧ f_X8_setStopped_54 FU (sup ρ1 30 0 (35 + c) v2) (nI c) v2 (σ1 2 (4 * 0 + c) 3) 0 = some (σ1 2 (4 * 0 + c) 3, ρ2) ∧ LV F C K M T (vw 0 σ2) (ρ2 30 0) ∧ SP 0 σ1 ρ1 σ2 ρ2 := by
      rcases hv2 with rfl | rfl
      · refine ⟨sup σ1 2 (4 * 0 + c) 3 0, sup ρ1 30 0 (35 + c) 0, ?_, ?_, ⟨g, an'⟩, sp⟩
        · rw [if_pos rfl]
          unfold f_X7_setStopped_45
          rw [if_neg (fun q => q e)]
        · obtain ⟨y, hy⟩ : ∃ y, FU = y + 1 := ⟨65535, rfl⟩
          rw [hy, f_X8_setStopped_54_s]
          have fin : f_X8_setStopped_90 (sup ρ1 30 0 (35 + c) 0) (σ1 2 (4 * 0 + c) 3) = some (σ1 2 (4 * 0 + c) 3, sup ρ1 30 0 (35 + c) 0) := by
            unfold f_X8_setStopped_90
            rw [if_neg (fun q => q e)]
          rw [fin, if_pos rfl]
          split <;> rfl
      · obtain ⟨n1, A, ⟨A1, A2⟩, A3⟩ := lpE1 (fun n (a : Sg) i => f_X2_dropDecisions_2 n a (4 * 0 + c) i) 24 (by decide) (fun k a => (∀ k' o i, ¬ (k' = 17 ∧ o = 4 * 0 + c) → a k' o i = sup σ1 2 (4 * 0 + c) 3 1 k' o i) ∧ ∀ i, i < k → a 17 (4 * 0 + c) i = -1) (a := sup σ1 2 (4 * 0 + c) 3 1) (by
          rintro n k a hk ⟨j1, j2⟩
          refine ⟨sup a 17 (4 * 0 + c) k (-1), ⟨fun k' o i hn => (FrO hn).trans (j1 k' o i hn), fun i hi => ?_⟩, ?_⟩
          · by_cases w : i = k
            · subst w; exact s_at _ _ _ _ _
            · rw [s_nf w]; exact j2 i (by omega)
          · simp (disch := omega) only [f_X2_dropDecisions_2_s, q_24, p_nle, if_false, ni_nn, ni_cl, false_or, p_st, ni_1]) ⟨fun _ _ _ _ => rfl, fun i hi => absurd hi (Nat.not_lt_zero i)⟩
        obtain ⟨n2, B, ⟨B1, B2, B3⟩, B4⟩ := lpE1 (fun n (b : Sg) i => f_X8_setStopped_54 n b (nI c) 1 (σ1 2 (4 * 0 + c) 3) i) K (by omega) (fun k b => (∀ k', k' ≠ 30 → b k' = ρ1 k') ∧ (∀ i, (i < 511 + 24 * c ∨ 511 + 24 * c + k ≤ i) → b 30 0 i = sup ρ1 30 0 (35 + c) 1 30 0 i) ∧ ∀ k', k' < k → b 30 0 (511 + 24 * c + k') = -1) (a := sup ρ1 30 0 (35 + c) 1) (by
          rintro n k b hk ⟨j1, j2, j3⟩
          have bK : b 30 0 2 = nI K := by rw [j2 2 (by omega), s_nf (by omega)]; exact B_K a3.1
          refine ⟨sup b 30 0 (511 + 24 * c + k) (-1), ⟨fun k' hk' => (s_ne hk').trans (j1 k' hk'), fun i hi => ?_, fun k' hk' => ?_⟩, ?_⟩
          · rw [s_nf (by omega)]; exact j2 i (by omega)
          · by_cases w : k' = k
            · subst w; exact s_at _ _ _ _ _
            · rw [s_nf (by omega)]; exact j3 k' (by omega)
          · simp (disch := omega) only [f_X8_setStopped_54_s, bK, ni_le, p_nle, if_false, p_10, b_of511, p_bi, ni_nn, ni_cl, false_or, p_st, ni_1]) ⟨fun k' hk' => s_ne hk', fun i _ => rfl, fun i hi => absurd hi (Nat.not_lt_zero i)⟩
        have BK : B 30 0 2 = nI K := by rw [B2 2 (by omega), s_nf (by omega)]; exact B_K a3.1
        have gA : LU F C K M T T (vw 0 A) (B 30 0) := by
          refine S_drop (c := c) g (fun k o i hn => ?_) (fun i hi => A2 i hi) (fun k hk => B3 k hk) (fun i hi => B2 i (by omega)) (fun c' k hc' hk => B2 _ (by omega))
          have hA1 := A1
          by_cases w : k = 17
          · subst w
            exact hA1 17 (4 * 0 + o) i (fun q => hn ⟨rfl, by omega⟩)
          · exact vw_pt (fun o i => hA1 k o i (fun q => w q.1)) 0 o i
        refine ⟨A, B, ?_, ?_, ⟨gA, ?_⟩, sp.trans ⟨fun k o i hn => A1 k o i (fun q => hn ?_), fun k hk => (B1 k hk).trans (s_ne hk).symm⟩⟩
        · rw [if_neg (by decide)]
          unfold f_X2_dropDecisions
          have A3' : f_X2_dropDecisions_2 FU (sup σ1 2 (4 * 0 + c) 3 1) (4 * 0 + c) 0 = _ := A3
          rw [A3', f_X2_dropDecisions_2_s, if_pos (by decide)]
          unfold f_X2_dropDecisions_21
          rw [p_bv]
          unfold f_X7_setStopped_45
          rw [if_neg (fun q => q e)]
        · refine Eq.trans B4 ?_
          rw [f_X8_setStopped_54_s, BK, if_pos (by rw [ni_le (by omega) (by omega)]; exact Nat.le_refl K)]
          unfold f_X8_setStopped_90
          rw [if_neg (fun q => q e)]
        · have ea : V_ann (vw 0 A) M = V_ann (vw 0 (sup σ1 2 (4 * 0 + c) 3 1)) M := ct_congr (fun i _ => by
            rw [show vw 0 A 21 0 i = A 21 0 i from rfl, A1 21 0 i (by omega)]
            rfl)
          rw [ea]
          exact an'
        · obtain ⟨rfl, rfl⟩ := q
          exact O_17 (by omega)
    obtain ⟨σ2, ρ2, d1, d2, d3, d4⟩ := tail
    refine ⟨(0, σ1 2 (4 * 0 + c) 3, σ2), σ1 2 (4 * 0 + c) 3, ρ2, ?_, Or.inl rfl, ?_, ⟨⟨F, C, K, M, T, hC1, by omega, d3⟩, (a4.st d4.st (by decide)).up⟩, ?_, fun _ => rfl⟩
    · unfold f_X7_setStopped
      rw [x_car0 (A_C hL.1) dC hc, p_bx0, a1, p_bv]
      rw [if_neg (show ¬ (nI c < 0 ∨ 4 ≤ (nI c).toNatClampNeg) by rw [gN (by omega) (by decide)]; exact id), ni_cl (show c < 2147483648 by omega)]
      rw [if_neg (fun q => q hv2), p_st]
      exact d1
    · unfold f_X8_setStopped f_X8_setStopped_32 f_X8_setStopped_50
      rw [x_nc0 (B_C hL.1) dC hc, p_bi, if_pos rfl, a2, p_bv]
      simp (disch := omega) only [l_35, ni_nn, ni_cl, p_nle, false_or, if_false, p_st, c3']
      rcases e with e | e <;> rcases hv2 with rfl | rfl <;> rw [e] at d2 ⊢ <;> exact d2
    · rw [d4.2 8 (by decide), a5, s_thr]
      rfl
  · refine ⟨(1, 0, σ), 0, sup ρ 8 0 8 1, ?_, Or.inr rfl, ?_, hR.thr 1, s_thr ρ 1, fun h => absurd (show (1 : Nat) = 0 from h) (by decide)⟩
    · unfold f_X7_setStopped
      rw [x_car1 (A_C hL.1) hb]
      rfl
    · unfold f_X8_setStopped
      rw [y_nc1 (B_C hL.1) dC hb, p_bi, if_neg (by decide)]
