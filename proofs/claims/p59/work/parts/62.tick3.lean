/-! sends, getting off, coming aboard -/
theorem S_send {F C K M T U : Nat} {v : Sg} {r : Nat → Int32} (h : LU F C K M T U v r) {d k n : Nat} {s : Int32} (hd : d < 4) (hk : k < K) (hn : n ≤ 1000) (hM : M < 240) (hs : (d = 0 ∧ s = -1) ∨ (1 ≤ d ∧ ∃ c, c < C ∧ s = nI c)) (x : Int32) : LU F C K (M + 1) T U (sup (sup (sup (sup (sup (sup v 20 0 M s) 21 0 M (nI d)) 22 0 M (nI k)) 23 0 M (nI n)) 5 0 0 (nI (M + 1))) 13 0 d x) (ru (ru (ru (ru (ru (ru r (1087 + 4 * M) (nI d)) (1087 + 4 * M + 1) (nI k)) (1087 + 4 * M + 2) s) (1087 + 4 * M + 3) (nI n)) 10 (nI (M + 1))) (11 + d) x) := by
  have dC := D_C h
  have dK := D_K h
  have dM := D_M h
  refine ⟨?_, V_set.ext h.2.1 (fun _ => by first | rfl | simp [sup]) (fun i h1 h2 => by simp (disch := omega) only [ru_ne]), ?_, V_car.ext h.2.2.2.1 dC (fun _ f hf => by first | rfl | (simp [sup]; done) | (unfold sup; repeat rw [if_neg (fun q => absurd q.2.2 (by omega))])) (fun i h1 h2 => by simp (disch := omega) only [ru_ne]), V_call.ext h.2.2.2.2.1 dK (fun _ _ => by first | rfl | simp [sup]) (fun i h1 h2 => by simp (disch := omega) only [ru_ne]), V_held.ext h.2.2.2.2.2.1 dC dK (fun _ => by first | rfl | simp [sup]) (fun i h1 h2 => by simp (disch := omega) only [ru_ne]), V_abd.ext h.2.2.2.2.2.2.1 (fun _ => by first | rfl | simp [sup]) (fun _ => by first | rfl | simp [sup]) (fun _ => by first | rfl | simp [sup]), V_kn1.ext h.2.2.2.2.2.2.2.1 dC dK (fun _ => by first | rfl | simp [sup]) (fun _ _ => by first | rfl | simp [sup]) (fun _ _ => by first | rfl | simp [sup]) (fun _ _ => by first | rfl | simp [sup]) (fun _ _ => by first | rfl | simp [sup]) (fun i h1 h2 => by simp (disch := omega) only [ru_ne]), V_kn0.ext h.2.2.2.2.2.2.2.2.1 (fun _ _ => by first | rfl | simp [sup]) (fun _ _ => by first | rfl | simp [sup]) (fun _ _ => by first | rfl | simp [sup]), ?_⟩
  · obtain ⟨a1, a2, a3, a4, a5, a6, a7, a8, a9, a10, a11, a12, a13, a14, a15, a16⟩ := h.1
    refine ⟨a1, a2, a3, a4, by simp [sup], ?_, ?_, ?_, ?_, ?_, ?_, a12, a13, a14, a15, by omega⟩
    · simp (disch := omega) only [ru_ne]; exact a6
    · simp (disch := omega) only [ru_ne]; exact a7
    · simp (disch := omega) only [ru_ne]; exact a8
    · simp (disch := omega) only [ru_ne]; exact a9
    · rw [ru_ne (by omega), ru_eq]
    · simp (disch := omega) only [ru_ne]; exact a11
  · intro i hi
    obtain ⟨a, b, c⟩ := h.2.2.1 i hi
    refine ⟨?_, ?_, ?_⟩
    · by_cases e : i = d
      · subst e; rw [ru_eq]; simp [sup]
      · simp (disch := omega) only [ru_ne]; rw [a]; simp [sup, e]
    · simp (disch := omega) only [ru_ne]; exact b
    · simp (disch := omega) only [ru_ne]; exact c
  · intro i hi
    by_cases e : i = M
    · subst e
      refine ⟨?_, ?_, ?_, ?_, ⟨k, hk, by simp [sup]⟩, ?_, ⟨n, hn, by simp [sup]⟩⟩
      · simp (disch := omega) only [ru_ne, ru_eq]; simp [sup]
      · simp (disch := omega) only [ru_ne, ru_eq]; simp [sup]
      · simp (disch := omega) only [ru_ne, ru_eq]; simp [sup]
      · simp (disch := omega) only [ru_ne, ru_eq]; simp [sup]
      · rcases hs with ⟨rfl, rfl⟩ | ⟨h1, c, hc, rfl⟩
        · exact Or.inl ⟨by simp [sup]; rfl, by simp [sup]⟩
        · exact Or.inr ⟨d, c, h1, by omega, hc, by simp [sup], by simp [sup]⟩
    · have z20 : (sup (sup (sup (sup (sup (sup v 20 0 M s) 21 0 M (nI d)) 22 0 M (nI k)) 23 0 M (nI n)) 5 0 0 (nI (M + 1))) 13 0 d x) 20 0 i = v 20 0 i := by simp [sup, e]
      have z21 : (sup (sup (sup (sup (sup (sup v 20 0 M s) 21 0 M (nI d)) 22 0 M (nI k)) 23 0 M (nI n)) 5 0 0 (nI (M + 1))) 13 0 d x) 21 0 i = v 21 0 i := by simp [sup, e]
      have z22 : (sup (sup (sup (sup (sup (sup v 20 0 M s) 21 0 M (nI d)) 22 0 M (nI k)) 23 0 M (nI n)) 5 0 0 (nI (M + 1))) 13 0 d x) 22 0 i = v 22 0 i := by simp [sup, e]
      have z23 : (sup (sup (sup (sup (sup (sup v 20 0 M s) 21 0 M (nI d)) 22 0 M (nI k)) 23 0 M (nI n)) 5 0 0 (nI (M + 1))) 13 0 d x) 23 0 i = v 23 0 i := by simp [sup, e]
      rw [z20, z21, z22, z23]
      simp (disch := omega) only [ru_ne]
      exact h.2.2.2.2.2.2.2.2.2 i (by omega)
theorem A_send {M : Nat} {v : Sg} {s kd kk nn x y : Int32} (d : Nat) : V_ann (sup (sup (sup (sup (sup (sup v 20 0 M s) 21 0 M kd) 22 0 M kk) 23 0 M nn) 5 0 0 y) 13 0 d x) (M + 1) = V_ann v M + (if kd = 0 then 1 else 0) := by
  unfold V_ann
  rw [ct_s, ct_congr (Q := fun i => decide (v 21 0 i = 0)) (fun i hi => by
    have e : i ≠ M := by omega
    simp [sup, e])]
  have e2 : (sup (sup (sup (sup (sup (sup v 20 0 M s) 21 0 M kd) 22 0 M kk) 23 0 M nn) 5 0 0 y) 13 0 d x) 21 0 M = kd := by simp [sup]
  rw [e2]
  by_cases h : kd = 0 <;> simp [h]
theorem S_off {F C K M T U : Nat} {v : Sg} {r : Nat → Int32} (h : LU F C K M T U v r) {c k : Nat} (hc : c < C) (hk : k < K) (h2 : v 1 k 3 = 2) (h4 : v 1 k 4 = nI c) (x : Int32) : LU F C K M T U (sup (sup (sup v 1 k 3 3) 1 k 6 x) 2 c 9 (v 2 c 9 &&& ((1 <<< (nI k &&& 31)) ^^^ (-1)))) (ru (ru r (127 + k) 3) (199 + k) x) := by
  have dC := D_C h
  have dK := D_K h
  have dM := D_M h
  refine ⟨V_hd.ext h.1 (fun _ => by first | rfl | simp [sup]) (by first | rfl | simp [sup]) (fun i h1 => by simp (disch := omega) only [ru_ne]), V_set.ext h.2.1 (fun _ => by first | rfl | simp [sup]) (fun i h1 h2 => by simp (disch := omega) only [ru_ne]), V_cnt.ext h.2.2.1 (fun _ => by first | rfl | simp [sup]) (fun _ => by first | rfl | simp [sup]) (fun _ => by first | rfl | simp [sup]) (fun i h1 h2 => by simp (disch := omega) only [ru_ne]), ?_, ?_, V_held.ext h.2.2.2.2.2.1 dC dK (fun _ => by first | rfl | simp [sup]) (fun i h1 h2 => by simp (disch := omega) only [ru_ne]), ?_, V_kn1.ext h.2.2.2.2.2.2.2.1 dC dK (fun _ => by first | rfl | simp [sup]) (fun _ _ => by first | rfl | simp [sup]) (fun _ _ => by first | rfl | simp [sup]) (fun _ _ => by first | rfl | simp [sup]) (fun _ _ => by first | rfl | simp [sup]) (fun i h1 h2 => by simp (disch := omega) only [ru_ne]), V_kn0.ext h.2.2.2.2.2.2.2.2.1 (fun _ _ => by first | rfl | simp [sup]) (fun _ _ => by first | rfl | simp [sup]) (fun _ _ => by first | rfl | simp [sup]), V_msg.ext h.2.2.2.2.2.2.2.2.2 (fun _ => by first | rfl | simp [sup]) (fun _ => by first | rfl | simp [sup]) (fun _ => by first | rfl | simp [sup]) (fun _ => by first | rfl | simp [sup]) (fun i h1 => by simp (disch := omega) only [ru_ne])⟩
  · refine V_car.ext h.2.2.2.1 dC (fun c' f hf => ?_) (fun i h1 h2 => by simp (disch := omega) only [ru_ne])
    have : f ≠ 9 := by omega
    simp [sup, this]
  · intro k' hk'
    obtain ⟨a, b, d, e, f, g⟩ := h.2.2.2.2.1 k' hk'
    by_cases w : k' = k
    · subst w
      have z : ∀ f, f ≠ 3 → f ≠ 6 → (sup (sup (sup v 1 k' 3 3) 1 k' 6 x) 2 c 9 (v 2 c 9 &&& ((1 <<< (nI k' &&& 31)) ^^^ (-1)))) 1 k' f = v 1 k' f := fun f h3 h6 => by simp [sup, h3, h6]
      refine ⟨fun f hf h9 => ?_, ?_, ?_, ?_, ?_, ?_⟩
      · by_cases w3 : f = 3
        · subst w3
          rw [show 55 + 24 * 3 + k' = 127 + k' by omega]
          simp [ru, sup]; try omega
        · skip
          by_cases w6 : f = 6
          · subst w6
            rw [show 55 + 24 * 6 + k' = 199 + k' by omega]
            simp [ru, sup]; try omega
          · skip
            simp (disch := omega) only [ru_ne]
            rw [z f w3 w6]; exact a f hf h9
      · rw [z 8 (by decide) (by decide), z 9 (by decide) (by decide)]
        simp (disch := omega) only [ru_ne]
        exact b
      · rw [z 0 (by decide) (by decide), z 1 (by decide) (by decide)]; exact d
      · obtain ⟨m, s, e1, e2, e3, e4, e5, e6, e7⟩ := e
        have hs2 : s = 2 := by
          have e9 : nI s = 2 := e4.symm.trans h2
          rw [show (2 : Int32) = nI 2 from rfl, ni_eq (by omega) (by omega)] at e9
          exact e9
        subst hs2
        refine ⟨m, 3, e1, by decide, by rw [z 2 (by decide) (by decide)]; exact e3, by simp [sup]; rfl, fun _ => e5 (by decide), fun _ => by rw [z 5 (by decide) (by decide)]; exact e6 (by decide), fun q => absurd q (by decide)⟩
      · rw [z 8 (by decide) (by decide)]; exact f
      · rw [z 10 (by decide) (by decide)]; exact g
    · have z : ∀ f, (sup (sup (sup v 1 k 3 3) 1 k 6 x) 2 c 9 (v 2 c 9 &&& ((1 <<< (nI k &&& 31)) ^^^ (-1)))) 1 k' f = v 1 k' f := fun f => by simp [sup, w]
      refine ⟨fun f hf h9 => by simp (disch := omega) only [ru_ne, z]; exact a f hf h9, fun q => ?_, ?_, ?_, ?_, ?_⟩
      · rw [z] at q ⊢
        simp (disch := omega) only [ru_ne]
        exact b q
      · rw [z, z]; exact d
      · unfold V_time at e ⊢
        rw [z, z, z, z]; exact e
      · rw [z]; exact f
      · rw [z]; exact g
  · intro c' hc' k'
    have g := D_abd h hc' k'
    have z4 : (sup (sup (sup v 1 k 3 3) 1 k 6 x) 2 c 9 (v 2 c 9 &&& ((1 <<< (nI k &&& 31)) ^^^ (-1)))) 1 k' 4 = v 1 k' 4 := by simp [sup]
    have z3 : (sup (sup (sup v 1 k 3 3) 1 k 6 x) 2 c 9 (v 2 c 9 &&& ((1 <<< (nI k &&& 31)) ^^^ (-1)))) 1 k' 3 = if k' = k then 3 else v 1 k' 3 := by simp [sup]
    rw [z4, z3]
    by_cases w : c' = c
    · subst w
      rw [s_at]
      rcases Nat.lt_or_ge k' 32 with h3 | h3
      · rw [k_clr (by omega) h3, g]
        by_cases w2 : k' = k
        · subst w2; rw [if_pos rfl]; simp
        · rw [if_neg w2]; simp [w2]
      · rw [k_hi h3, decide_eq_false (fun q => absurd q.1 (by omega))]
    · have z9 : (sup (sup (sup v 1 k 3 3) 1 k 6 x) 2 c 9 (v 2 c 9 &&& ((1 <<< (nI k &&& 31)) ^^^ (-1)))) 2 c' 9 = v 2 c' 9 := by simp [sup, w]
      rw [z9, g]
      by_cases w2 : k' = k
      · subst w2
        rw [if_pos rfl, h4, decide_eq_false (fun q => w ?_), decide_eq_false (fun q => absurd q.2.1 (by decide))]
        have e9 := q.2.2
        rw [ni_eq (by omega) (by omega)] at e9
        exact e9.symm
      · rw [if_neg w2]
theorem S_board {F C K M T U : Nat} {v : Sg} {r : Nat → Int32} (h : LU F C K M T U v r) {c k : Nat} (hc : c < C) (hk : k < K) (h1 : v 1 k 3 = 1) : LU F C K M T U (sup (sup (sup (sup v 1 k 3 2) 1 k 4 (nI c)) 1 k 5 (nI T)) 2 c 9 (v 2 c 9 ||| (1 <<< (nI k &&& 31)))) (ru (ru (ru r (127 + k) 2) (151 + k) (nI c)) (175 + k) (nI T)) := by
  have dC := D_C h
  have dK := D_K h
  have dM := D_M h
  refine ⟨V_hd.ext h.1 (fun _ => by first | rfl | simp [sup]) (by first | rfl | simp [sup]) (fun i h1 => by simp (disch := omega) only [ru_ne]), V_set.ext h.2.1 (fun _ => by first | rfl | simp [sup]) (fun i h1 h2 => by simp (disch := omega) only [ru_ne]), V_cnt.ext h.2.2.1 (fun _ => by first | rfl | simp [sup]) (fun _ => by first | rfl | simp [sup]) (fun _ => by first | rfl | simp [sup]) (fun i h1 h2 => by simp (disch := omega) only [ru_ne]), ?_, ?_, V_held.ext h.2.2.2.2.2.1 dC dK (fun _ => by first | rfl | simp [sup]) (fun i h1 h2 => by simp (disch := omega) only [ru_ne]), ?_, V_kn1.ext h.2.2.2.2.2.2.2.1 dC dK (fun _ => by first | rfl | simp [sup]) (fun _ _ => by first | rfl | simp [sup]) (fun _ _ => by first | rfl | simp [sup]) (fun _ _ => by first | rfl | simp [sup]) (fun _ _ => by first | rfl | simp [sup]) (fun i h1 h2 => by simp (disch := omega) only [ru_ne]), V_kn0.ext h.2.2.2.2.2.2.2.2.1 (fun _ _ => by first | rfl | simp [sup]) (fun _ _ => by first | rfl | simp [sup]) (fun _ _ => by first | rfl | simp [sup]), V_msg.ext h.2.2.2.2.2.2.2.2.2 (fun _ => by first | rfl | simp [sup]) (fun _ => by first | rfl | simp [sup]) (fun _ => by first | rfl | simp [sup]) (fun _ => by first | rfl | simp [sup]) (fun i h1 => by simp (disch := omega) only [ru_ne])⟩
  · refine V_car.ext h.2.2.2.1 dC (fun c' f hf => ?_) (fun i h1 h2 => by simp (disch := omega) only [ru_ne])
    have : f ≠ 9 := by omega
    simp [sup, this]
  · intro k' hk'
    obtain ⟨a, b, d, e, f, g⟩ := h.2.2.2.2.1 k' hk'
    by_cases w : k' = k
    · subst w
      have z : ∀ f, f ≠ 3 → f ≠ 4 → f ≠ 5 → (sup (sup (sup (sup v 1 k' 3 2) 1 k' 4 (nI c)) 1 k' 5 (nI T)) 2 c 9 (v 2 c 9 ||| (1 <<< (nI k' &&& 31)))) 1 k' f = v 1 k' f := fun f h3 h4 h5 => by simp [sup, h3, h4, h5]
      refine ⟨fun f hf h9 => ?_, ?_, ?_, ?_, ?_, ?_⟩
      · by_cases w3 : f = 3
        · subst w3
          rw [show 55 + 24 * 3 + k' = 127 + k' by omega]
          simp [ru, sup]; try omega
        · skip
          by_cases w4 : f = 4
          · subst w4
            rw [show 55 + 24 * 4 + k' = 151 + k' by omega]
            simp [ru, sup]; try omega
          · skip
            by_cases w5 : f = 5
            · subst w5
              rw [show 55 + 24 * 5 + k' = 175 + k' by omega]
              simp [ru, sup]; try omega
            · skip
              simp (disch := omega) only [ru_ne]
              rw [z f w3 w4 w5]; exact a f hf h9
      · rw [z 8 (by decide) (by decide) (by decide), z 9 (by decide) (by decide) (by decide)]
        simp (disch := omega) only [ru_ne]
        exact b
      · rw [z 0 (by decide) (by decide) (by decide), z 1 (by decide) (by decide) (by decide)]; exact d
      · obtain ⟨m, s, e1, e2, e3, e4, e5, e6, e7⟩ := e
        have hs2 : s = 1 := by
          have e9 : nI s = 1 := e4.symm.trans h1
          rw [show (1 : Int32) = nI 1 from rfl, ni_eq (by omega) (by omega)] at e9
          exact e9
        subst hs2
        refine ⟨m, 2, e1, by decide, by rw [z 2 (by decide) (by decide) (by decide)]; exact e3, by simp [sup]; rfl, fun _ => e5 (by decide), fun _ => ⟨T, e5 (by decide), Nat.le_refl T, by simp [sup]⟩, fun q => absurd q (by decide)⟩
      · rw [z 8 (by decide) (by decide) (by decide)]; exact f
      · rw [z 10 (by decide) (by decide) (by decide)]; exact g
    · have z : ∀ f, (sup (sup (sup (sup v 1 k 3 2) 1 k 4 (nI c)) 1 k 5 (nI T)) 2 c 9 (v 2 c 9 ||| (1 <<< (nI k &&& 31)))) 1 k' f = v 1 k' f := fun f => by simp [sup, w]
      refine ⟨fun f hf h9 => by simp (disch := omega) only [ru_ne, z]; exact a f hf h9, fun q => ?_, ?_, ?_, ?_, ?_⟩
      · rw [z] at q ⊢
        simp (disch := omega) only [ru_ne]
        exact b q
      · rw [z, z]; exact d
      · unfold V_time at e ⊢
        rw [z, z, z, z]; exact e
      · rw [z]; exact f
      · rw [z]; exact g
  · intro c' hc' k'
    have g := D_abd h hc' k'
    have z4 : (sup (sup (sup (sup v 1 k 3 2) 1 k 4 (nI c)) 1 k 5 (nI T)) 2 c 9 (v 2 c 9 ||| (1 <<< (nI k &&& 31)))) 1 k' 4 = if k' = k then nI c else v 1 k' 4 := by simp [sup]
    have z3 : (sup (sup (sup (sup v 1 k 3 2) 1 k 4 (nI c)) 1 k 5 (nI T)) 2 c 9 (v 2 c 9 ||| (1 <<< (nI k &&& 31)))) 1 k' 3 = if k' = k then 2 else v 1 k' 3 := by simp [sup]
    rw [z4, z3]
    by_cases w : c' = c
    · subst w
      rw [s_at]
      rcases Nat.lt_or_ge k' 32 with h3 | h3
      · rw [k_set (by omega) h3, g]
        by_cases w2 : k' = k
        · subst w2; rw [if_pos rfl, if_pos rfl]; simp [hk]
        · rw [if_neg w2, if_neg w2]; simp [w2]
      · rw [k_hi h3, decide_eq_false (fun q => absurd q.1 (by omega))]
    · have z9 : (sup (sup (sup (sup v 1 k 3 2) 1 k 4 (nI c)) 1 k 5 (nI T)) 2 c 9 (v 2 c 9 ||| (1 <<< (nI k &&& 31)))) 2 c' 9 = v 2 c' 9 := by simp [sup, w]
      rw [z9, g]
      by_cases w2 : k' = k
      · subst w2
        rw [if_pos rfl, if_pos rfl, decide_eq_false (fun q => absurd (h1.symm.trans q.2.1) (by decide)), decide_eq_false (fun q => w ?_)]
        have e9 := q.2.2
        rw [ni_eq (by omega) (by omega)] at e9
        exact e9.symm
      · rw [if_neg w2, if_neg w2]
theorem S_time {F C K M T U : Nat} {v : Sg} {r : Nat → Int32} (h : LU F C K M T U v r) (hU : U = T + 1) : LU F C K M (T + 1) (T + 1) (sup v 4 0 3 (nI (T + 1))) (ru r 3 (nI (T + 1))) := by
  have dC := D_C h
  have dK := D_K h
  have dM := D_M h
  refine ⟨?_, V_set.ext h.2.1 (fun _ => by first | rfl | simp [sup]) (fun i h1 h2 => by simp (disch := omega) only [ru_ne]), V_cnt.ext h.2.2.1 (fun _ => by first | rfl | simp [sup]) (fun _ => by first | rfl | simp [sup]) (fun _ => by first | rfl | simp [sup]) (fun i h1 h2 => by simp (disch := omega) only [ru_ne]), V_car.ext h.2.2.2.1 dC (fun _ f hf => by first | rfl | (simp [sup]; done) | (unfold sup; repeat rw [if_neg (fun q => absurd q.2.2 (by omega))])) (fun i h1 h2 => by simp (disch := omega) only [ru_ne]), ?_, V_held.ext h.2.2.2.2.2.1 dC dK (fun _ => by first | rfl | simp [sup]) (fun i h1 h2 => by simp (disch := omega) only [ru_ne]), V_abd.ext h.2.2.2.2.2.2.1 (fun _ => by first | rfl | simp [sup]) (fun _ => by first | rfl | simp [sup]) (fun _ => by first | rfl | simp [sup]), ?_, V_kn0.ext h.2.2.2.2.2.2.2.2.1 (fun _ _ => by first | rfl | simp [sup]) (fun _ _ => by first | rfl | simp [sup]) (fun _ _ => by first | rfl | simp [sup]), V_msg.ext h.2.2.2.2.2.2.2.2.2 (fun _ => by first | rfl | simp [sup]) (fun _ => by first | rfl | simp [sup]) (fun _ => by first | rfl | simp [sup]) (fun _ => by first | rfl | simp [sup]) (fun i h1 => by simp (disch := omega) only [ru_ne])⟩
  · obtain ⟨a1, a2, a3, a4, a5, a6, a7, a8, a9, a10, a11, a12, a13, a14, a15, a16⟩ := h.1
    exact ⟨a1, a2, a3, rfl, a5, a6, a7, a8, rfl, a10, a11, a12, a13, a14, a15, a16⟩
  · subst hU
    have h9 := V_call.ext h.2.2.2.2.1 dK (v' := sup v 4 0 3 (nI (T + 1))) (r' := ru r 3 (nI (T + 1))) (fun _ _ => rfl) (fun i h1 h2 => by simp (disch := omega) only [ru_ne])
    intro k hk
    obtain ⟨a, b, d, ⟨m, s, e1, e2, e3, e4, e5, e6, e7⟩, f, g⟩ := h9 k hk
    exact ⟨a, b, d, ⟨m, s, e1, e2, e3, e4, fun q => by have := e5 q; omega, fun q => by obtain ⟨z, z1, z2, z3⟩ := e6 q; exact ⟨z, z1, by omega, z3⟩, e7⟩, f, g⟩
  · intro c hc k hk
    obtain ⟨a, b, d, e, f, g⟩ := h.2.2.2.2.2.2.2.1 c hc k hk
    refine ⟨by rw [ru_ne (by omega)]; exact a, fun q' hq' => by rw [ru_ne (by omega)]; exact b q' hq', fun t ht => by rw [ru_ne (by omega)]; exact d t ht, fun z => by rw [ru_ne (by omega)]; exact e z, ?_, g⟩
    rcases f with f | ⟨t, h1, h2⟩
    · exact Or.inl f
    · exact Or.inr ⟨t, by omega, h2⟩
