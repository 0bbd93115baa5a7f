/-! what may be written, cell by cell -/
theorem S_note {F C K M T U : Nat} {v : Sg} {r : Nat → Int32} (h : LU F C K M T U v r) {c k q : Nat} (hc : c < C) (hk : k < K) (hq : q < 4) {y : Int32} (hy : y = -1 ∨ ∃ n, n ≤ 1000 ∧ y = nI n) : LU F C K M T U (sup v 18 c (4 * k + q) y) (ru r (703 + 4 * (24 * c + k) + q) y) := by
  have dC := D_C h
  have dK := D_K h
  have dM := D_M h
  refine ⟨V_hd.ext h.1 (fun _ => by first | rfl | simp [sup]) (by first | rfl | simp [sup]) (fun i h1 => by simp (disch := omega) only [ru_ne]), V_set.ext h.2.1 (fun _ => by first | rfl | simp [sup]) (fun i h1 h2 => by simp (disch := omega) only [ru_ne]), V_cnt.ext h.2.2.1 (fun _ => by first | rfl | simp [sup]) (fun _ => by first | rfl | simp [sup]) (fun _ => by first | rfl | simp [sup]) (fun i h1 h2 => by simp (disch := omega) only [ru_ne]), V_car.ext h.2.2.2.1 dC (fun _ f hf => by first | rfl | (simp [sup]; done) | (unfold sup; repeat rw [if_neg (fun q => absurd q.2.2 (by omega))])) (fun i h1 h2 => by simp (disch := omega) only [ru_ne]), V_call.ext h.2.2.2.2.1 dK (fun _ _ => by first | rfl | simp [sup]) (fun i h1 h2 => by simp (disch := omega) only [ru_ne]), V_held.ext h.2.2.2.2.2.1 dC dK (fun _ => by first | rfl | simp [sup]) (fun i h1 h2 => by simp (disch := omega) only [ru_ne]), V_abd.ext h.2.2.2.2.2.2.1 (fun _ => by first | rfl | simp [sup]) (fun _ => by first | rfl | simp [sup]) (fun _ => by first | rfl | simp [sup]), ?_, ?_, V_msg.ext h.2.2.2.2.2.2.2.2.2 (fun _ => by first | rfl | simp [sup]) (fun _ => by first | rfl | simp [sup]) (fun _ => by first | rfl | simp [sup]) (fun _ => by first | rfl | simp [sup]) (fun i h1 => by simp (disch := omega) only [ru_ne])⟩
  · intro c' hc' k' hk'
    obtain ⟨a, b, d, e, f, g⟩ := h.2.2.2.2.2.2.2.1 c' hc' k' hk'
    refine ⟨by rw [ru_ne (by omega)]; exact a, fun q' hq' => ?_, fun t ht => by rw [ru_ne (by omega)]; exact d t ht, fun z => by rw [ru_ne (by omega)]; exact e z, f, fun q' hq' => ?_⟩
    · by_cases z : c' = c ∧ k' = k ∧ q' = q
      · obtain ⟨rfl, rfl, rfl⟩ := z
        rw [ru_eq, s_at]
      · rw [ru_ne (by omega)]
        refine (b q' hq').trans (Eq.symm ?_)
        exact if_neg (fun w => z ⟨w.2.1, by have := w.2.2; omega, by have := w.2.2; omega⟩)
    · by_cases z : c' = c ∧ k' = k ∧ q' = q
      · obtain ⟨rfl, rfl, rfl⟩ := z
        rw [s_at]; exact hy
      · have z2 : (sup v 18 c (4 * k + q) y) 18 c' (4 * k' + q') = v 18 c' (4 * k' + q') := if_neg (fun w => z ⟨w.2.1, by have := w.2.2; omega, by have := w.2.2; omega⟩)
        rw [z2]; exact g q' hq'
  · intro c' hc' k' hk' hk2
    obtain ⟨a, b, d⟩ := h.2.2.2.2.2.2.2.2.1 c' hc' k' hk' hk2
    refine ⟨a, fun q' hq' => ?_, d⟩
    exact (if_neg (fun w => by have := w.2.2; omega)).trans (b q' hq')
theorem S_cost {F C K M T U : Nat} {v : Sg} {r : Nat → Int32} (h : LU F C K M T U v r) {c k n : Nat} (hc : c < C) (hk : k < K) (hn : n ≤ 1000) : LU F C K M T U (sup v 16 c k (nI n)) (ru r (415 + 24 * c + k) (nI n)) := by
  have dC := D_C h
  have dK := D_K h
  have dM := D_M h
  refine ⟨V_hd.ext h.1 (fun _ => by first | rfl | simp [sup]) (by first | rfl | simp [sup]) (fun i h1 => by simp (disch := omega) only [ru_ne]), V_set.ext h.2.1 (fun _ => by first | rfl | simp [sup]) (fun i h1 h2 => by simp (disch := omega) only [ru_ne]), V_cnt.ext h.2.2.1 (fun _ => by first | rfl | simp [sup]) (fun _ => by first | rfl | simp [sup]) (fun _ => by first | rfl | simp [sup]) (fun i h1 h2 => by simp (disch := omega) only [ru_ne]), V_car.ext h.2.2.2.1 dC (fun _ f hf => by first | rfl | (simp [sup]; done) | (unfold sup; repeat rw [if_neg (fun q => absurd q.2.2 (by omega))])) (fun i h1 h2 => by simp (disch := omega) only [ru_ne]), V_call.ext h.2.2.2.2.1 dK (fun _ _ => by first | rfl | simp [sup]) (fun i h1 h2 => by simp (disch := omega) only [ru_ne]), V_held.ext h.2.2.2.2.2.1 dC dK (fun _ => by first | rfl | simp [sup]) (fun i h1 h2 => by simp (disch := omega) only [ru_ne]), V_abd.ext h.2.2.2.2.2.2.1 (fun _ => by first | rfl | simp [sup]) (fun _ => by first | rfl | simp [sup]) (fun _ => by first | rfl | simp [sup]), ?_, V_kn0.ext h.2.2.2.2.2.2.2.2.1 (fun _ _ => by first | rfl | simp [sup]) (fun _ _ => by first | rfl | simp [sup]) (fun _ _ => by first | rfl | simp [sup]), V_msg.ext h.2.2.2.2.2.2.2.2.2 (fun _ => by first | rfl | simp [sup]) (fun _ => by first | rfl | simp [sup]) (fun _ => by first | rfl | simp [sup]) (fun _ => by first | rfl | simp [sup]) (fun i h1 => by simp (disch := omega) only [ru_ne])⟩
  · intro c' hc' k' hk'
    obtain ⟨a, b, d, e, f, g⟩ := h.2.2.2.2.2.2.2.1 c' hc' k' hk'
    refine ⟨by rw [ru_ne (by omega)]; exact a, fun q' hq' => by rw [ru_ne (by omega)]; exact b q' hq', fun t ht => by rw [ru_ne (by omega)]; exact d t ht, fun z => ?_, f, g⟩
    by_cases w : c' = c ∧ k' = k
    · obtain ⟨rfl, rfl⟩ := w
      rw [ru_eq, s_at]; exact ⟨rfl, n, hn, rfl⟩
    · rw [ru_ne (by omega)]
      have z2 : (sup v 16 c k (nI n)) 16 c' k' = v 16 c' k' := if_neg (fun q => w ⟨q.2.1, q.2.2⟩)
      rw [z2]; exact e z
theorem S_dec {F C K M T U : Nat} {v : Sg} {r : Nat → Int32} (h : LU F C K M T U v r) {c k : Nat} (hc : c < C) (hk : k < K) {y : Int32} (hy : y = -1 ∨ ∃ t, t ≤ T + 2 ∧ y = nI t) (hq : y ≠ -1 → r (415 + 24 * c + k) = v 16 c k ∧ ∃ n, n ≤ 1000 ∧ v 16 c k = nI n) : LU F C K M T U (sup v 17 c k y) (ru r (511 + 24 * c + k) y) := by
  have dC := D_C h
  have dK := D_K h
  have dM := D_M h
  refine ⟨V_hd.ext h.1 (fun _ => by first | rfl | simp [sup]) (by first | rfl | simp [sup]) (fun i h1 => by simp (disch := omega) only [ru_ne]), V_set.ext h.2.1 (fun _ => by first | rfl | simp [sup]) (fun i h1 h2 => by simp (disch := omega) only [ru_ne]), V_cnt.ext h.2.2.1 (fun _ => by first | rfl | simp [sup]) (fun _ => by first | rfl | simp [sup]) (fun _ => by first | rfl | simp [sup]) (fun i h1 h2 => by simp (disch := omega) only [ru_ne]), V_car.ext h.2.2.2.1 dC (fun _ f hf => by first | rfl | (simp [sup]; done) | (unfold sup; repeat rw [if_neg (fun q => absurd q.2.2 (by omega))])) (fun i h1 h2 => by simp (disch := omega) only [ru_ne]), V_call.ext h.2.2.2.2.1 dK (fun _ _ => by first | rfl | simp [sup]) (fun i h1 h2 => by simp (disch := omega) only [ru_ne]), V_held.ext h.2.2.2.2.2.1 dC dK (fun _ => by first | rfl | simp [sup]) (fun i h1 h2 => by simp (disch := omega) only [ru_ne]), V_abd.ext h.2.2.2.2.2.2.1 (fun _ => by first | rfl | simp [sup]) (fun _ => by first | rfl | simp [sup]) (fun _ => by first | rfl | simp [sup]), ?_, ?_, V_msg.ext h.2.2.2.2.2.2.2.2.2 (fun _ => by first | rfl | simp [sup]) (fun _ => by first | rfl | simp [sup]) (fun _ => by first | rfl | simp [sup]) (fun _ => by first | rfl | simp [sup]) (fun i h1 => by simp (disch := omega) only [ru_ne])⟩
  · intro c' hc' k' hk'
    obtain ⟨a, b, d, e, f, g⟩ := h.2.2.2.2.2.2.2.1 c' hc' k' hk'
    by_cases w : c' = c ∧ k' = k
    · obtain ⟨rfl, rfl⟩ := w
      refine ⟨by rw [ru_eq, s_at], fun q' hq' => by rw [ru_ne (by omega)]; exact b q' hq', fun t ht => by rw [ru_ne (by omega)]; exact d t ht, fun z => ?_, by rw [s_at]; exact hy, g⟩
      rw [ru_ne (by omega)]
      rcases z with z | z
      · exact e (Or.inl z)
      · rw [s_at] at z
        exact hq z
    · have z2 : (sup v 17 c k y) 17 c' k' = v 17 c' k' := if_neg (fun q => w ⟨q.2.1, q.2.2⟩)
      refine ⟨by rw [ru_ne (by omega), z2]; exact a, fun q' hq' => by rw [ru_ne (by omega)]; exact b q' hq', fun t ht => by rw [ru_ne (by omega)]; exact d t ht, fun z => ?_, by rw [z2]; exact f, g⟩
      rw [ru_ne (by omega)]
      rw [z2] at z
      exact e z
  · intro c' hc' k' hk' hk2
    obtain ⟨a, b, d⟩ := h.2.2.2.2.2.2.2.2.1 c' hc' k' hk' hk2
    exact ⟨(if_neg (fun w => by have := w.2.2; omega)).trans a, b, d⟩
theorem S_hset {F C K M T U : Nat} {v : Sg} {r : Nat → Int32} (h : LU F C K M T U v r) {c k : Nat} (hc : c < C) (hk : k < K) (hq : r (415 + 24 * c + k) = v 16 c k ∧ ∃ n, n ≤ 1000 ∧ v 16 c k = nI n) : LU F C K M T U (sup v 2 c 8 (v 2 c 8 ||| (1 <<< (nI k &&& 31)))) (ru r (319 + 24 * c + k) 1) := by
  have dC := D_C h
  have dK := D_K h
  have dM := D_M h
  refine ⟨V_hd.ext h.1 (fun _ => by first | rfl | simp [sup]) (by first | rfl | simp [sup]) (fun i h1 => by simp (disch := omega) only [ru_ne]), V_set.ext h.2.1 (fun _ => by first | rfl | simp [sup]) (fun i h1 h2 => by simp (disch := omega) only [ru_ne]), V_cnt.ext h.2.2.1 (fun _ => by first | rfl | simp [sup]) (fun _ => by first | rfl | simp [sup]) (fun _ => by first | rfl | simp [sup]) (fun i h1 h2 => by simp (disch := omega) only [ru_ne]), V_car.ext h.2.2.2.1 dC (fun _ f hf => by first | rfl | (simp [sup]; done) | (unfold sup; repeat rw [if_neg (fun q => absurd q.2.2 (by omega))])) (fun i h1 h2 => by simp (disch := omega) only [ru_ne]), V_call.ext h.2.2.2.2.1 dK (fun _ _ => by first | rfl | simp [sup]) (fun i h1 h2 => by simp (disch := omega) only [ru_ne]), ?_, V_abd.ext h.2.2.2.2.2.2.1 (fun _ => by first | rfl | simp [sup]) (fun _ => by first | rfl | simp [sup]) (fun _ => by first | rfl | simp [sup]), ?_, V_kn0.ext h.2.2.2.2.2.2.2.2.1 (fun _ _ => by first | rfl | simp [sup]) (fun _ _ => by first | rfl | simp [sup]) (fun _ _ => by first | rfl | simp [sup]), V_msg.ext h.2.2.2.2.2.2.2.2.2 (fun _ => by first | rfl | simp [sup]) (fun _ => by first | rfl | simp [sup]) (fun _ => by first | rfl | simp [sup]) (fun _ => by first | rfl | simp [sup]) (fun i h1 => by simp (disch := omega) only [ru_ne])⟩
  · intro c' hc'
    obtain ⟨a, b⟩ := h.2.2.2.2.2.1 c' hc'
    by_cases e : c' = c
    · subst e
      rw [s_at]
      refine ⟨fun k' hk' => ?_, fun k' hk' => ?_⟩
      · rw [k_set (by omega) (by omega)]
        by_cases z : k' = k
        · subst z
          rw [ru_eq]; simp
        · rw [ru_ne (by omega), a k' hk']; simp [z]
      · rcases Nat.lt_or_ge k' 32 with h3 | h3
        · rw [k_set (by omega) h3, b k' hk']
          simp; try omega
        · exact k_hi h3
    · rw [s_no e]
      exact ⟨fun k' hk' => by rw [ru_ne (by omega)]; exact a k' hk', b⟩
  · intro c' hc' k' hk'
    obtain ⟨a, b, d, e, f, g⟩ := h.2.2.2.2.2.2.2.1 c' hc' k' hk'
    refine ⟨by rw [ru_ne (by omega)]; exact a, fun q' hq' => by rw [ru_ne (by omega)]; exact b q' hq', fun t ht => by rw [ru_ne (by omega)]; exact d t ht, fun z => ?_, f, g⟩
    rw [ru_ne (by omega)]
    rcases z with z | z
    · by_cases w : c' = c
      · subst w
        rw [s_at, k_set (by omega) (by omega)] at z
        by_cases w2 : k' = k
        · subst w2; exact hq
        · exact e (Or.inl (by simpa [w2] using z))
      · rw [s_no w] at z
        exact e (Or.inl z)
    · exact e (Or.inr z)
theorem S_hclr {F C K M T U : Nat} {v : Sg} {r : Nat → Int32} (h : LU F C K M T U v r) {c k : Nat} (hc : c < C) (hk : k < K)  : LU F C K M T U (sup v 2 c 8 (v 2 c 8 &&& ((1 <<< (nI k &&& 31)) ^^^ (-1)))) (ru r (319 + 24 * c + k) 0) := by
  have dC := D_C h
  have dK := D_K h
  have dM := D_M h
  refine ⟨V_hd.ext h.1 (fun _ => by first | rfl | simp [sup]) (by first | rfl | simp [sup]) (fun i h1 => by simp (disch := omega) only [ru_ne]), V_set.ext h.2.1 (fun _ => by first | rfl | simp [sup]) (fun i h1 h2 => by simp (disch := omega) only [ru_ne]), V_cnt.ext h.2.2.1 (fun _ => by first | rfl | simp [sup]) (fun _ => by first | rfl | simp [sup]) (fun _ => by first | rfl | simp [sup]) (fun i h1 h2 => by simp (disch := omega) only [ru_ne]), V_car.ext h.2.2.2.1 dC (fun _ f hf => by first | rfl | (simp [sup]; done) | (unfold sup; repeat rw [if_neg (fun q => absurd q.2.2 (by omega))])) (fun i h1 h2 => by simp (disch := omega) only [ru_ne]), V_call.ext h.2.2.2.2.1 dK (fun _ _ => by first | rfl | simp [sup]) (fun i h1 h2 => by simp (disch := omega) only [ru_ne]), ?_, V_abd.ext h.2.2.2.2.2.2.1 (fun _ => by first | rfl | simp [sup]) (fun _ => by first | rfl | simp [sup]) (fun _ => by first | rfl | simp [sup]), ?_, V_kn0.ext h.2.2.2.2.2.2.2.2.1 (fun _ _ => by first | rfl | simp [sup]) (fun _ _ => by first | rfl | simp [sup]) (fun _ _ => by first | rfl | simp [sup]), V_msg.ext h.2.2.2.2.2.2.2.2.2 (fun _ => by first | rfl | simp [sup]) (fun _ => by first | rfl | simp [sup]) (fun _ => by first | rfl | simp [sup]) (fun _ => by first | rfl | simp [sup]) (fun i h1 => by simp (disch := omega) only [ru_ne])⟩
  · intro c' hc'
    obtain ⟨a, b⟩ := h.2.2.2.2.2.1 c' hc'
    by_cases e : c' = c
    · subst e
      rw [s_at]
      refine ⟨fun k' hk' => ?_, fun k' hk' => ?_⟩
      · rw [k_clr (by omega) (by omega)]
        by_cases z : k' = k
        · subst z
          rw [ru_eq]; simp
        · rw [ru_ne (by omega), a k' hk']; simp [z]
      · rcases Nat.lt_or_ge k' 32 with h3 | h3
        · rw [k_clr (by omega) h3, b k' hk']
          simp; try omega
        · exact k_hi h3
    · rw [s_no e]
      exact ⟨fun k' hk' => by rw [ru_ne (by omega)]; exact a k' hk', b⟩
  · intro c' hc' k' hk'
    obtain ⟨a, b, d, e, f, g⟩ := h.2.2.2.2.2.2.2.1 c' hc' k' hk'
    refine ⟨by rw [ru_ne (by omega)]; exact a, fun q' hq' => by rw [ru_ne (by omega)]; exact b q' hq', fun t ht => by rw [ru_ne (by omega)]; exact d t ht, fun z => ?_, f, g⟩
    rw [ru_ne (by omega)]
    rcases z with z | z
    · by_cases w : c' = c
      · subst w
        rw [s_at, k_clr (by omega) (by omega)] at z
        exact e (Or.inl (by simp at z; exact z.1))
      · rw [s_no w] at z
        exact e (Or.inl z)
    · exact e (Or.inr z)
theorem S_miss {F C K M T U : Nat} {v : Sg} {r : Nat → Int32} (h : LU F C K M T U v r) {c k t : Nat} (hc : c < C) (hk : k < K) (ht : t < 4) : LU F C K M T U (sup v 19 c t (v 19 c t ||| (1 <<< (nI k &&& 31)))) (ru r (607 + 24 * c + k) (r (607 + 24 * c + k) ||| (1 <<< (nI t &&& 31)))) := by
  have dC := D_C h
  have dK := D_K h
  have dM := D_M h
  refine ⟨V_hd.ext h.1 (fun _ => by first | rfl | simp [sup]) (by first | rfl | simp [sup]) (fun i h1 => by simp (disch := omega) only [ru_ne]), V_set.ext h.2.1 (fun _ => by first | rfl | simp [sup]) (fun i h1 h2 => by simp (disch := omega) only [ru_ne]), V_cnt.ext h.2.2.1 (fun _ => by first | rfl | simp [sup]) (fun _ => by first | rfl | simp [sup]) (fun _ => by first | rfl | simp [sup]) (fun i h1 h2 => by simp (disch := omega) only [ru_ne]), V_car.ext h.2.2.2.1 dC (fun _ f hf => by first | rfl | (simp [sup]; done) | (unfold sup; repeat rw [if_neg (fun q => absurd q.2.2 (by omega))])) (fun i h1 h2 => by simp (disch := omega) only [ru_ne]), V_call.ext h.2.2.2.2.1 dK (fun _ _ => by first | rfl | simp [sup]) (fun i h1 h2 => by simp (disch := omega) only [ru_ne]), V_held.ext h.2.2.2.2.2.1 dC dK (fun _ => by first | rfl | simp [sup]) (fun i h1 h2 => by simp (disch := omega) only [ru_ne]), V_abd.ext h.2.2.2.2.2.2.1 (fun _ => by first | rfl | simp [sup]) (fun _ => by first | rfl | simp [sup]) (fun _ => by first | rfl | simp [sup]), ?_, ?_, V_msg.ext h.2.2.2.2.2.2.2.2.2 (fun _ => by first | rfl | simp [sup]) (fun _ => by first | rfl | simp [sup]) (fun _ => by first | rfl | simp [sup]) (fun _ => by first | rfl | simp [sup]) (fun i h1 => by simp (disch := omega) only [ru_ne])⟩
  · intro c' hc' k' hk'
    obtain ⟨a, b, d, e, f, g⟩ := h.2.2.2.2.2.2.2.1 c' hc' k' hk'
    refine ⟨by rw [ru_ne (by omega)]; exact a, fun q' hq' => by rw [ru_ne (by omega)]; exact b q' hq', fun t' ht' => ?_, fun z => by rw [ru_ne (by omega)]; exact e z, f, g⟩
    by_cases w : c' = c
    · subst w
      by_cases w2 : k' = k
      · subst w2
        rw [ru_eq, k_set (by omega) (by omega), d t' ht']
        by_cases w3 : t' = t
        · subst w3
          rw [s_at, k_set (by omega) (by omega)]; simp
        · rw [s_nf w3]; simp [w3]
      · rw [ru_ne (by omega), d t' ht']
        by_cases w3 : t' = t
        · subst w3
          rw [s_at, k_set (by omega) (by omega)]; simp [w2]
        · rw [s_nf w3]
    · rw [ru_ne (by omega), s_no w]; exact d t' ht'
  · intro c' hc' k' hk' hk2
    obtain ⟨a, b, d⟩ := h.2.2.2.2.2.2.2.2.1 c' hc' k' hk' hk2
    refine ⟨a, b, fun t' ht' => ?_⟩
    by_cases w : c' = c ∧ t' = t
    · obtain ⟨rfl, rfl⟩ := w
      rw [s_at, k_set (by omega) (by omega), d t' ht']
      simp; omega
    · exact (congrArg (fun z => bt z k') (if_neg (fun q => w ⟨q.2.1, q.2.2⟩))).trans (d t' ht')
theorem S_clm {F C K M T U : Nat} {v : Sg} {r : Nat → Int32} (h : LU F C K M T U v r) {c k : Nat} (hc : c < C) (hk : k < K) (x : Int32) : LU F C K M T U (sup (sup v 1 k 8 (nI c)) 1 k 9 x) (ru (ru r (247 + k) (nI c)) (271 + k) x) := by
  have dC := D_C h
  have dK := D_K h
  have dM := D_M h
  refine ⟨V_hd.ext h.1 (fun _ => by first | rfl | simp [sup]) (by first | rfl | simp [sup]) (fun i h1 => by simp (disch := omega) only [ru_ne]), V_set.ext h.2.1 (fun _ => by first | rfl | simp [sup]) (fun i h1 h2 => by simp (disch := omega) only [ru_ne]), V_cnt.ext h.2.2.1 (fun _ => by first | rfl | simp [sup]) (fun _ => by first | rfl | simp [sup]) (fun _ => by first | rfl | simp [sup]) (fun i h1 h2 => by simp (disch := omega) only [ru_ne]), V_car.ext h.2.2.2.1 dC (fun _ f hf => by first | rfl | (simp [sup]; done) | (unfold sup; repeat rw [if_neg (fun q => absurd q.2.2 (by omega))])) (fun i h1 h2 => by simp (disch := omega) only [ru_ne]), ?_, V_held.ext h.2.2.2.2.2.1 dC dK (fun _ => by first | rfl | simp [sup]) (fun i h1 h2 => by simp (disch := omega) only [ru_ne]), V_abd.ext h.2.2.2.2.2.2.1 (fun _ => by first | rfl | simp [sup]) (fun _ => by first | rfl | simp [sup]) (fun _ => by first | rfl | simp [sup]), V_kn1.ext h.2.2.2.2.2.2.2.1 dC dK (fun _ => by first | rfl | simp [sup]) (fun _ _ => by first | rfl | simp [sup]) (fun _ _ => by first | rfl | simp [sup]) (fun _ _ => by first | rfl | simp [sup]) (fun _ _ => by first | rfl | simp [sup]) (fun i h1 h2 => by simp (disch := omega) only [ru_ne]), V_kn0.ext h.2.2.2.2.2.2.2.2.1 (fun _ _ => by first | rfl | simp [sup]) (fun _ _ => by first | rfl | simp [sup]) (fun _ _ => by first | rfl | simp [sup]), V_msg.ext h.2.2.2.2.2.2.2.2.2 (fun _ => by first | rfl | simp [sup]) (fun _ => by first | rfl | simp [sup]) (fun _ => by first | rfl | simp [sup]) (fun _ => by first | rfl | simp [sup]) (fun i h1 => by simp (disch := omega) only [ru_ne])⟩
  · intro k' hk'
    obtain ⟨a, b, d, e, f, g⟩ := h.2.2.2.2.1 k' hk'
    by_cases w : k' = k
    · subst w
      have z : ∀ f, f ≠ 8 → f ≠ 9 → (sup (sup v 1 k' 8 (nI c)) 1 k' 9 x) 1 k' f = v 1 k' f := fun f h8 h9 => by simp [sup, h8, h9]
      refine ⟨fun f hf h9 => ?_, ?_, ?_, ?_, ?_, ?_⟩
      · by_cases w8 : f = 8
        · subst w8
          rw [show 55 + 24 * 8 + k' = 247 + k' by omega]
          simp [ru, sup]; try omega
        · skip
          simp (disch := omega) only [ru_ne]
          rw [z f w8 h9]; exact a f hf h9
      · intro q
        rw [ru_eq]; simp [sup]
      · rw [z 0 (by decide) (by decide), z 1 (by decide) (by decide)]; exact d
      · unfold V_time at e ⊢; rw [z 2 (by decide) (by decide), z 3 (by decide) (by decide), z 5 (by decide) (by decide), z 10 (by decide) (by decide)]; exact e
      · exact Or.inr ⟨c, hc, by simp [sup]⟩
      · rw [z 10 (by decide) (by decide)]; exact g
    · have z : ∀ f, (sup (sup v 1 k 8 (nI c)) 1 k 9 x) 1 k' f = v 1 k' f := fun f => by simp [sup, w]
      refine ⟨fun f hf h9 => by simp (disch := omega) only [ru_ne, z]; exact a f hf h9, fun q => ?_, ?_, ?_, ?_, ?_⟩
      · rw [z] at q ⊢
        simp (disch := omega) only [ru_ne]
        exact b q
      · rw [z, z]; exact d
      · unfold V_time at e ⊢
        rw [z, z, z, z]; exact e
      · rw [z]; exact f
      · rw [z]; exact g
theorem S_clr {F C K M T U : Nat} {v : Sg} {r : Nat → Int32} (h : LU F C K M T U v r) {k : Nat} (hk : k < K) : LU F C K M T U (sup v 1 k 8 (-1)) (ru r (247 + k) (-1)) := by
  have dC := D_C h
  have dK := D_K h
  have dM := D_M h
  refine ⟨V_hd.ext h.1 (fun _ => by first | rfl | simp [sup]) (by first | rfl | simp [sup]) (fun i h1 => by simp (disch := omega) only [ru_ne]), V_set.ext h.2.1 (fun _ => by first | rfl | simp [sup]) (fun i h1 h2 => by simp (disch := omega) only [ru_ne]), V_cnt.ext h.2.2.1 (fun _ => by first | rfl | simp [sup]) (fun _ => by first | rfl | simp [sup]) (fun _ => by first | rfl | simp [sup]) (fun i h1 h2 => by simp (disch := omega) only [ru_ne]), V_car.ext h.2.2.2.1 dC (fun _ f hf => by first | rfl | (simp [sup]; done) | (unfold sup; repeat rw [if_neg (fun q => absurd q.2.2 (by omega))])) (fun i h1 h2 => by simp (disch := omega) only [ru_ne]), ?_, V_held.ext h.2.2.2.2.2.1 dC dK (fun _ => by first | rfl | simp [sup]) (fun i h1 h2 => by simp (disch := omega) only [ru_ne]), V_abd.ext h.2.2.2.2.2.2.1 (fun _ => by first | rfl | simp [sup]) (fun _ => by first | rfl | simp [sup]) (fun _ => by first | rfl | simp [sup]), V_kn1.ext h.2.2.2.2.2.2.2.1 dC dK (fun _ => by first | rfl | simp [sup]) (fun _ _ => by first | rfl | simp [sup]) (fun _ _ => by first | rfl | simp [sup]) (fun _ _ => by first | rfl | simp [sup]) (fun _ _ => by first | rfl | simp [sup]) (fun i h1 h2 => by simp (disch := omega) only [ru_ne]), V_kn0.ext h.2.2.2.2.2.2.2.2.1 (fun _ _ => by first | rfl | simp [sup]) (fun _ _ => by first | rfl | simp [sup]) (fun _ _ => by first | rfl | simp [sup]), V_msg.ext h.2.2.2.2.2.2.2.2.2 (fun _ => by first | rfl | simp [sup]) (fun _ => by first | rfl | simp [sup]) (fun _ => by first | rfl | simp [sup]) (fun _ => by first | rfl | simp [sup]) (fun i h1 => by simp (disch := omega) only [ru_ne])⟩
  · intro k' hk'
    obtain ⟨a, b, d, e, f, g⟩ := h.2.2.2.2.1 k' hk'
    by_cases w : k' = k
    · subst w
      have z : ∀ f, f ≠ 8 → (sup v 1 k' 8 (-1)) 1 k' f = v 1 k' f := fun f h8 => by simp [sup, h8]
      refine ⟨fun f hf h9 => ?_, ?_, ?_, ?_, ?_, ?_⟩
      · by_cases w8 : f = 8
        · subst w8
          rw [show 55 + 24 * 8 + k' = 247 + k' by omega]
          simp [ru, sup]; try omega
        · skip
          simp (disch := omega) only [ru_ne]
          rw [z f w8]; exact a f hf h9
      · exact fun q => absurd (s_at v 1 k' 8 (-1)) q
      · rw [z 0 (by decide), z 1 (by decide)]; exact d
      · unfold V_time at e ⊢; rw [z 2 (by decide), z 3 (by decide), z 5 (by decide), z 10 (by decide)]; exact e
      · exact Or.inl (s_at _ _ _ _ _)
      · rw [z 10 (by decide)]; exact g
    · have z : ∀ f, (sup v 1 k 8 (-1)) 1 k' f = v 1 k' f := fun f => by simp [sup, w]
      refine ⟨fun f hf h9 => by simp (disch := omega) only [ru_ne, z]; exact a f hf h9, fun q => ?_, ?_, ?_, ?_, ?_⟩
      · rw [z] at q ⊢
        simp (disch := omega) only [ru_ne]
        exact b q
      · rw [z, z]; exact d
      · unfold V_time at e ⊢
        rw [z, z, z, z]; exact e
      · rw [z]; exact f
      · rw [z]; exact g
theorem S_rnd {F C K M T U : Nat} {v : Sg} {r : Nat → Int32} (h : LU F C K M T U v r) {k : Nat} (hk : k < K) (x : Int32) : LU F C K M T U (sup v 1 k 7 x) (ru r (223 + k) x) := by
  have dC := D_C h
  have dK := D_K h
  have dM := D_M h
  refine ⟨V_hd.ext h.1 (fun _ => by first | rfl | simp [sup]) (by first | rfl | simp [sup]) (fun i h1 => by simp (disch := omega) only [ru_ne]), V_set.ext h.2.1 (fun _ => by first | rfl | simp [sup]) (fun i h1 h2 => by simp (disch := omega) only [ru_ne]), V_cnt.ext h.2.2.1 (fun _ => by first | rfl | simp [sup]) (fun _ => by first | rfl | simp [sup]) (fun _ => by first | rfl | simp [sup]) (fun i h1 h2 => by simp (disch := omega) only [ru_ne]), V_car.ext h.2.2.2.1 dC (fun _ f hf => by first | rfl | (simp [sup]; done) | (unfold sup; repeat rw [if_neg (fun q => absurd q.2.2 (by omega))])) (fun i h1 h2 => by simp (disch := omega) only [ru_ne]), ?_, V_held.ext h.2.2.2.2.2.1 dC dK (fun _ => by first | rfl | simp [sup]) (fun i h1 h2 => by simp (disch := omega) only [ru_ne]), V_abd.ext h.2.2.2.2.2.2.1 (fun _ => by first | rfl | simp [sup]) (fun _ => by first | rfl | simp [sup]) (fun _ => by first | rfl | simp [sup]), V_kn1.ext h.2.2.2.2.2.2.2.1 dC dK (fun _ => by first | rfl | simp [sup]) (fun _ _ => by first | rfl | simp [sup]) (fun _ _ => by first | rfl | simp [sup]) (fun _ _ => by first | rfl | simp [sup]) (fun _ _ => by first | rfl | simp [sup]) (fun i h1 h2 => by simp (disch := omega) only [ru_ne]), V_kn0.ext h.2.2.2.2.2.2.2.2.1 (fun _ _ => by first | rfl | simp [sup]) (fun _ _ => by first | rfl | simp [sup]) (fun _ _ => by first | rfl | simp [sup]), V_msg.ext h.2.2.2.2.2.2.2.2.2 (fun _ => by first | rfl | simp [sup]) (fun _ => by first | rfl | simp [sup]) (fun _ => by first | rfl | simp [sup]) (fun _ => by first | rfl | simp [sup]) (fun i h1 => by simp (disch := omega) only [ru_ne])⟩
  · intro k' hk'
    obtain ⟨a, b, d, e, f, g⟩ := h.2.2.2.2.1 k' hk'
    by_cases w : k' = k
    · subst w
      have z : ∀ f, f ≠ 7 → (sup v 1 k' 7 x) 1 k' f = v 1 k' f := fun f h7 => by simp [sup, h7]
      refine ⟨fun f hf h9 => ?_, ?_, ?_, ?_, ?_, ?_⟩
      · by_cases w7 : f = 7
        · subst w7
          rw [show 55 + 24 * 7 + k' = 223 + k' by omega]
          simp [ru, sup]; try omega
        · skip
          simp (disch := omega) only [ru_ne]
          rw [z f w7]; exact a f hf h9
      · rw [z 8 (by decide), z 9 (by decide)]
        simp (disch := omega) only [ru_ne]
        exact b
      · rw [z 0 (by decide), z 1 (by decide)]; exact d
      · unfold V_time at e ⊢; rw [z 2 (by decide), z 3 (by decide), z 5 (by decide), z 10 (by decide)]; exact e
      · rw [z 8 (by decide)]; exact f
      · rw [z 10 (by decide)]; exact g
    · have z : ∀ f, (sup v 1 k 7 x) 1 k' f = v 1 k' f := fun f => by simp [sup, w]
      refine ⟨fun f hf h9 => by simp (disch := omega) only [ru_ne, z]; exact a f hf h9, fun q => ?_, ?_, ?_, ?_, ?_⟩
      · rw [z] at q ⊢
        simp (disch := omega) only [ru_ne]
        exact b q
      · rw [z, z]; exact d
      · unfold V_time at e ⊢
        rw [z, z, z, z]; exact e
      · rw [z]; exact f
      · rw [z]; exact g
theorem S_told {F C K M T U : Nat} {v : Sg} {r : Nat → Int32} (h : LU F C K M T U v r) {k : Nat} (hk : k < K) (hU : T < U) (h0 : v 1 k 3 ≠ 0) : LU F C K M T U (sup v 1 k 10 (nI T)) (ru r (295 + k) (nI T)) := by
  have dC := D_C h
  have dK := D_K h
  have dM := D_M h
  refine ⟨V_hd.ext h.1 (fun _ => by first | rfl | simp [sup]) (by first | rfl | simp [sup]) (fun i h1 => by simp (disch := omega) only [ru_ne]), V_set.ext h.2.1 (fun _ => by first | rfl | simp [sup]) (fun i h1 h2 => by simp (disch := omega) only [ru_ne]), V_cnt.ext h.2.2.1 (fun _ => by first | rfl | simp [sup]) (fun _ => by first | rfl | simp [sup]) (fun _ => by first | rfl | simp [sup]) (fun i h1 h2 => by simp (disch := omega) only [ru_ne]), V_car.ext h.2.2.2.1 dC (fun _ f hf => by first | rfl | (simp [sup]; done) | (unfold sup; repeat rw [if_neg (fun q => absurd q.2.2 (by omega))])) (fun i h1 h2 => by simp (disch := omega) only [ru_ne]), ?_, V_held.ext h.2.2.2.2.2.1 dC dK (fun _ => by first | rfl | simp [sup]) (fun i h1 h2 => by simp (disch := omega) only [ru_ne]), V_abd.ext h.2.2.2.2.2.2.1 (fun _ => by first | rfl | simp [sup]) (fun _ => by first | rfl | simp [sup]) (fun _ => by first | rfl | simp [sup]), V_kn1.ext h.2.2.2.2.2.2.2.1 dC dK (fun _ => by first | rfl | simp [sup]) (fun _ _ => by first | rfl | simp [sup]) (fun _ _ => by first | rfl | simp [sup]) (fun _ _ => by first | rfl | simp [sup]) (fun _ _ => by first | rfl | simp [sup]) (fun i h1 h2 => by simp (disch := omega) only [ru_ne]), V_kn0.ext h.2.2.2.2.2.2.2.2.1 (fun _ _ => by first | rfl | simp [sup]) (fun _ _ => by first | rfl | simp [sup]) (fun _ _ => by first | rfl | simp [sup]), V_msg.ext h.2.2.2.2.2.2.2.2.2 (fun _ => by first | rfl | simp [sup]) (fun _ => by first | rfl | simp [sup]) (fun _ => by first | rfl | simp [sup]) (fun _ => by first | rfl | simp [sup]) (fun i h1 => by simp (disch := omega) only [ru_ne])⟩
  · intro k' hk'
    obtain ⟨a, b, d, e, f, g⟩ := h.2.2.2.2.1 k' hk'
    by_cases w : k' = k
    · subst w
      have z : ∀ f, f ≠ 10 → (sup v 1 k' 10 (nI T)) 1 k' f = v 1 k' f := fun f h10 => by simp [sup, h10]
      refine ⟨fun f hf h9 => ?_, ?_, ?_, ?_, ?_, ?_⟩
      · by_cases w10 : f = 10
        · subst w10
          rw [show 55 + 24 * 10 + k' = 295 + k' by omega]
          simp [ru, sup]; try omega
        · skip
          simp (disch := omega) only [ru_ne]
          rw [z f w10]; exact a f hf h9
      · rw [z 8 (by decide), z 9 (by decide)]
        simp (disch := omega) only [ru_ne]
        exact b
      · rw [z 0 (by decide), z 1 (by decide)]; exact d
      · obtain ⟨m, s, e1, e2, e3, e4, e5, e6, e7⟩ := e
        refine ⟨m, s, e1, e2, by rw [z 2 (by decide)]; exact e3, by rw [z 3 (by decide)]; exact e4, e5, by rw [z 5 (by decide)]; exact e6, fun q => absurd ?_ h0⟩
        rw [e4, q]; rfl
      · rw [z 8 (by decide)]; exact f
      · exact Or.inr ⟨T, hU, s_at _ _ _ _ _⟩
    · have z : ∀ f, (sup v 1 k 10 (nI T)) 1 k' f = v 1 k' f := fun f => by simp [sup, w]
      refine ⟨fun f hf h9 => by simp (disch := omega) only [ru_ne, z]; exact a f hf h9, fun q => ?_, ?_, ?_, ?_, ?_⟩
      · rw [z] at q ⊢
        simp (disch := omega) only [ru_ne]
        exact b q
      · rw [z, z]; exact d
      · unfold V_time at e ⊢
        rw [z, z, z, z]; exact e
      · rw [z]; exact f
      · rw [z]; exact g
theorem S_wait {F C K M T U : Nat} {v : Sg} {r : Nat → Int32} (h : LU F C K M T U v r) {k : Nat} (hk : k < K) (h0 : v 1 k 3 = 0) (hm : ∀ m, m ≤ 400000 → v 1 k 2 = nI m → m ≤ T) : LU F C K M T U (sup v 1 k 3 1) (ru r (127 + k) 1) := by
  have dC := D_C h
  have dK := D_K h
  have dM := D_M h
  refine ⟨V_hd.ext h.1 (fun _ => by first | rfl | simp [sup]) (by first | rfl | simp [sup]) (fun i h1 => by simp (disch := omega) only [ru_ne]), V_set.ext h.2.1 (fun _ => by first | rfl | simp [sup]) (fun i h1 h2 => by simp (disch := omega) only [ru_ne]), V_cnt.ext h.2.2.1 (fun _ => by first | rfl | simp [sup]) (fun _ => by first | rfl | simp [sup]) (fun _ => by first | rfl | simp [sup]) (fun i h1 h2 => by simp (disch := omega) only [ru_ne]), V_car.ext h.2.2.2.1 dC (fun _ f hf => by first | rfl | (simp [sup]; done) | (unfold sup; repeat rw [if_neg (fun q => absurd q.2.2 (by omega))])) (fun i h1 h2 => by simp (disch := omega) only [ru_ne]), ?_, V_held.ext h.2.2.2.2.2.1 dC dK (fun _ => by first | rfl | simp [sup]) (fun i h1 h2 => by simp (disch := omega) only [ru_ne]), ?_, V_kn1.ext h.2.2.2.2.2.2.2.1 dC dK (fun _ => by first | rfl | simp [sup]) (fun _ _ => by first | rfl | simp [sup]) (fun _ _ => by first | rfl | simp [sup]) (fun _ _ => by first | rfl | simp [sup]) (fun _ _ => by first | rfl | simp [sup]) (fun i h1 h2 => by simp (disch := omega) only [ru_ne]), V_kn0.ext h.2.2.2.2.2.2.2.2.1 (fun _ _ => by first | rfl | simp [sup]) (fun _ _ => by first | rfl | simp [sup]) (fun _ _ => by first | rfl | simp [sup]), V_msg.ext h.2.2.2.2.2.2.2.2.2 (fun _ => by first | rfl | simp [sup]) (fun _ => by first | rfl | simp [sup]) (fun _ => by first | rfl | simp [sup]) (fun _ => by first | rfl | simp [sup]) (fun i h1 => by simp (disch := omega) only [ru_ne])⟩
  · intro k' hk'
    obtain ⟨a, b, d, e, f, g⟩ := h.2.2.2.2.1 k' hk'
    by_cases w : k' = k
    · subst w
      have z : ∀ f, f ≠ 3 → (sup v 1 k' 3 1) 1 k' f = v 1 k' f := fun f h3 => by simp [sup, h3]
      refine ⟨fun f hf h9 => ?_, ?_, ?_, ?_, ?_, ?_⟩
      · by_cases w3 : f = 3
        · subst w3
          rw [show 55 + 24 * 3 + k' = 127 + k' by omega]
          simp [ru, sup]; try omega
        · skip
          simp (disch := omega) only [ru_ne]
          rw [z f w3]; exact a f hf h9
      · rw [z 8 (by decide), z 9 (by decide)]
        simp (disch := omega) only [ru_ne]
        exact b
      · rw [z 0 (by decide), z 1 (by decide)]; exact d
      · obtain ⟨m, s, e1, e2, e3, e4, e5, e6, e7⟩ := e
        refine ⟨m, 1, e1, by decide, by rw [z 2 (by decide)]; exact e3, s_at _ _ _ _ _, fun _ => hm m e1 e3, fun q => absurd q (by decide), fun q => absurd q (by decide)⟩
      · rw [z 8 (by decide)]; exact f
      · rw [z 10 (by decide)]; exact g
    · have z : ∀ f, (sup v 1 k 3 1) 1 k' f = v 1 k' f := fun f => by simp [sup, w]
      refine ⟨fun f hf h9 => by simp (disch := omega) only [ru_ne, z]; exact a f hf h9, fun q => ?_, ?_, ?_, ?_, ?_⟩
      · rw [z] at q ⊢
        simp (disch := omega) only [ru_ne]
        exact b q
      · rw [z, z]; exact d
      · unfold V_time at e ⊢
        rw [z, z, z, z]; exact e
      · rw [z]; exact f
      · rw [z]; exact g
  · intro c hc k'
    have z9 : (sup v 1 k 3 1) 2 c 9 = v 2 c 9 := rfl
    have z4 : (sup v 1 k 3 1) 1 k' 4 = v 1 k' 4 := s_nf (by decide)
    rw [z9, z4, D_abd h hc k']
    by_cases w : k' = k
    · subst w
      rw [s_at, h0, decide_eq_false (fun q => absurd q.2.1 (by decide)), decide_eq_false (fun q => absurd q.2.1 (by decide))]
    · rw [s_no w]
theorem S_door {F C K M T U : Nat} {v : Sg} {r : Nat → Int32} (h : LU F C K M T U v r) {c : Nat} (hc : c < C) {d : Nat} (hd : d ≤ 5) : LU F C K M T U (sup v 2 c 2 (nI d)) (ru r (31 + c) (nI d)) := by
  have dC := D_C h
  have dK := D_K h
  have dM := D_M h
  refine ⟨V_hd.ext h.1 (fun _ => by first | rfl | simp [sup]) (by first | rfl | simp [sup]) (fun i h1 => by simp (disch := omega) only [ru_ne]), V_set.ext h.2.1 (fun _ => by first | rfl | simp [sup]) (fun i h1 h2 => by simp (disch := omega) only [ru_ne]), V_cnt.ext h.2.2.1 (fun _ => by first | rfl | simp [sup]) (fun _ => by first | rfl | simp [sup]) (fun _ => by first | rfl | simp [sup]) (fun i h1 h2 => by simp (disch := omega) only [ru_ne]), ?_, V_call.ext h.2.2.2.2.1 dK (fun _ _ => by first | rfl | simp [sup]) (fun i h1 h2 => by simp (disch := omega) only [ru_ne]), V_held.ext h.2.2.2.2.2.1 dC dK (fun _ => by first | rfl | simp [sup]) (fun i h1 h2 => by simp (disch := omega) only [ru_ne]), V_abd.ext h.2.2.2.2.2.2.1 (fun _ => by first | rfl | simp [sup]) (fun _ => by first | rfl | simp [sup]) (fun _ => by first | rfl | simp [sup]), V_kn1.ext h.2.2.2.2.2.2.2.1 dC dK (fun _ => by first | rfl | simp [sup]) (fun _ _ => by first | rfl | simp [sup]) (fun _ _ => by first | rfl | simp [sup]) (fun _ _ => by first | rfl | simp [sup]) (fun _ _ => by first | rfl | simp [sup]) (fun i h1 h2 => by simp (disch := omega) only [ru_ne]), V_kn0.ext h.2.2.2.2.2.2.2.2.1 (fun _ _ => by first | rfl | simp [sup]) (fun _ _ => by first | rfl | simp [sup]) (fun _ _ => by first | rfl | simp [sup]), V_msg.ext h.2.2.2.2.2.2.2.2.2 (fun _ => by first | rfl | simp [sup]) (fun _ => by first | rfl | simp [sup]) (fun _ => by first | rfl | simp [sup]) (fun _ => by first | rfl | simp [sup]) (fun i h1 => by simp (disch := omega) only [ru_ne])⟩
  · intro c' hc'
    obtain ⟨a1, a2, a3, a4, a5, a6⟩ := h.2.2.2.1 c' hc'
    by_cases w : c' = c
    · subst w
      have z : ∀ f, f ≠ 2 → (sup v 2 c' 2 (nI d)) 2 c' f = v 2 c' f := fun f hf => s_nf hf
      refine ⟨fun f hf => ?_, by rw [z 0 (by decide)]; exact a2, by rw [z 1 (by decide)]; exact a3, ⟨d, hd, s_at _ _ _ _ _⟩, by rw [z 3 (by decide)]; exact a5, by rw [z 4 (by decide)]; exact a6⟩
      by_cases wf : f = 2
      · subst wf
        rw [show 23 + 4 * 2 + c' = 31 + c' by omega, ru_eq, s_at]
      · rw [ru_ne (by omega), z f wf]; exact a1 f hf
    · have z : ∀ f, (sup v 2 c 2 (nI d)) 2 c' f = v 2 c' f := fun f => s_no w
      refine ⟨fun f hf => by rw [ru_ne (by omega), z f]; exact a1 f hf, by rw [z]; exact a2, by rw [z]; exact a3, by rw [z]; exact a4, by rw [z]; exact a5, by rw [z]; exact a6⟩
theorem S_stops {F C K M T U : Nat} {v : Sg} {r : Nat → Int32} (h : LU F C K M T U v r) {c : Nat} (hc : c < C) (x : Int32) : LU F C K M T U (sup v 2 c 6 x) (ru r (47 + c) x) := by
  have dC := D_C h
  have dK := D_K h
  have dM := D_M h
  refine ⟨V_hd.ext h.1 (fun _ => by first | rfl | simp [sup]) (by first | rfl | simp [sup]) (fun i h1 => by simp (disch := omega) only [ru_ne]), V_set.ext h.2.1 (fun _ => by first | rfl | simp [sup]) (fun i h1 h2 => by simp (disch := omega) only [ru_ne]), V_cnt.ext h.2.2.1 (fun _ => by first | rfl | simp [sup]) (fun _ => by first | rfl | simp [sup]) (fun _ => by first | rfl | simp [sup]) (fun i h1 h2 => by simp (disch := omega) only [ru_ne]), ?_, V_call.ext h.2.2.2.2.1 dK (fun _ _ => by first | rfl | simp [sup]) (fun i h1 h2 => by simp (disch := omega) only [ru_ne]), V_held.ext h.2.2.2.2.2.1 dC dK (fun _ => by first | rfl | simp [sup]) (fun i h1 h2 => by simp (disch := omega) only [ru_ne]), V_abd.ext h.2.2.2.2.2.2.1 (fun _ => by first | rfl | simp [sup]) (fun _ => by first | rfl | simp [sup]) (fun _ => by first | rfl | simp [sup]), V_kn1.ext h.2.2.2.2.2.2.2.1 dC dK (fun _ => by first | rfl | simp [sup]) (fun _ _ => by first | rfl | simp [sup]) (fun _ _ => by first | rfl | simp [sup]) (fun _ _ => by first | rfl | simp [sup]) (fun _ _ => by first | rfl | simp [sup]) (fun i h1 h2 => by simp (disch := omega) only [ru_ne]), V_kn0.ext h.2.2.2.2.2.2.2.2.1 (fun _ _ => by first | rfl | simp [sup]) (fun _ _ => by first | rfl | simp [sup]) (fun _ _ => by first | rfl | simp [sup]), V_msg.ext h.2.2.2.2.2.2.2.2.2 (fun _ => by first | rfl | simp [sup]) (fun _ => by first | rfl | simp [sup]) (fun _ => by first | rfl | simp [sup]) (fun _ => by first | rfl | simp [sup]) (fun i h1 => by simp (disch := omega) only [ru_ne])⟩
  · intro c' hc'
    obtain ⟨a1, a2, a3, a4, a5, a6⟩ := h.2.2.2.1 c' hc'
    by_cases w : c' = c
    · subst w
      have z : ∀ f, f ≠ 6 → (sup v 2 c' 6 x) 2 c' f = v 2 c' f := fun f hf => s_nf hf
      refine ⟨fun f hf => ?_, by rw [z 0 (by decide)]; exact a2, by rw [z 1 (by decide)]; exact a3, by rw [z 2 (by decide)]; exact a4, by rw [z 3 (by decide)]; exact a5, by rw [z 4 (by decide)]; exact a6⟩
      by_cases wf : f = 6
      · subst wf
        rw [show 23 + 4 * 6 + c' = 47 + c' by omega, ru_eq, s_at]
      · rw [ru_ne (by omega), z f wf]; exact a1 f hf
    · have z : ∀ f, (sup v 2 c 6 x) 2 c' f = v 2 c' f := fun f => s_no w
      refine ⟨fun f hf => by rw [ru_ne (by omega), z f]; exact a1 f hf, by rw [z]; exact a2, by rw [z]; exact a3, by rw [z]; exact a4, by rw [z]; exact a5, by rw [z]; exact a6⟩
theorem S_nobc {F C K M T U : Nat} {v : Sg} {r : Nat → Int32} (h : LU F C K M T U v r) {c : Nat} (hc : c < C) (x : Int32) : LU F C K M T U (sup v 2 c 7 x) (ru r (51 + c) x) := by
  have dC := D_C h
  have dK := D_K h
  have dM := D_M h
  refine ⟨V_hd.ext h.1 (fun _ => by first | rfl | simp [sup]) (by first | rfl | simp [sup]) (fun i h1 => by simp (disch := omega) only [ru_ne]), V_set.ext h.2.1 (fun _ => by first | rfl | simp [sup]) (fun i h1 h2 => by simp (disch := omega) only [ru_ne]), V_cnt.ext h.2.2.1 (fun _ => by first | rfl | simp [sup]) (fun _ => by first | rfl | simp [sup]) (fun _ => by first | rfl | simp [sup]) (fun i h1 h2 => by simp (disch := omega) only [ru_ne]), ?_, V_call.ext h.2.2.2.2.1 dK (fun _ _ => by first | rfl | simp [sup]) (fun i h1 h2 => by simp (disch := omega) only [ru_ne]), V_held.ext h.2.2.2.2.2.1 dC dK (fun _ => by first | rfl | simp [sup]) (fun i h1 h2 => by simp (disch := omega) only [ru_ne]), V_abd.ext h.2.2.2.2.2.2.1 (fun _ => by first | rfl | simp [sup]) (fun _ => by first | rfl | simp [sup]) (fun _ => by first | rfl | simp [sup]), V_kn1.ext h.2.2.2.2.2.2.2.1 dC dK (fun _ => by first | rfl | simp [sup]) (fun _ _ => by first | rfl | simp [sup]) (fun _ _ => by first | rfl | simp [sup]) (fun _ _ => by first | rfl | simp [sup]) (fun _ _ => by first | rfl | simp [sup]) (fun i h1 h2 => by simp (disch := omega) only [ru_ne]), V_kn0.ext h.2.2.2.2.2.2.2.2.1 (fun _ _ => by first | rfl | simp [sup]) (fun _ _ => by first | rfl | simp [sup]) (fun _ _ => by first | rfl | simp [sup]), V_msg.ext h.2.2.2.2.2.2.2.2.2 (fun _ => by first | rfl | simp [sup]) (fun _ => by first | rfl | simp [sup]) (fun _ => by first | rfl | simp [sup]) (fun _ => by first | rfl | simp [sup]) (fun i h1 => by simp (disch := omega) only [ru_ne])⟩
  · intro c' hc'
    obtain ⟨a1, a2, a3, a4, a5, a6⟩ := h.2.2.2.1 c' hc'
    by_cases w : c' = c
    · subst w
      have z : ∀ f, f ≠ 7 → (sup v 2 c' 7 x) 2 c' f = v 2 c' f := fun f hf => s_nf hf
      refine ⟨fun f hf => ?_, by rw [z 0 (by decide)]; exact a2, by rw [z 1 (by decide)]; exact a3, by rw [z 2 (by decide)]; exact a4, by rw [z 3 (by decide)]; exact a5, by rw [z 4 (by decide)]; exact a6⟩
      by_cases wf : f = 7
      · subst wf
        rw [show 23 + 4 * 7 + c' = 51 + c' by omega, ru_eq, s_at]
      · rw [ru_ne (by omega), z f wf]; exact a1 f hf
    · have z : ∀ f, (sup v 2 c 7 x) 2 c' f = v 2 c' f := fun f => s_no w
      refine ⟨fun f hf => by rw [ru_ne (by omega), z f]; exact a1 f hf, by rw [z]; exact a2, by rw [z]; exact a3, by rw [z]; exact a4, by rw [z]; exact a5, by rw [z]; exact a6⟩
theorem S_gone {F C K M T U : Nat} {v : Sg} {r : Nat → Int32} (h : LU F C K M T U v r) {c : Nat} (hc : c < C) (x : Int32) : LU F C K M T U (sup v 2 c 5 x) (ru r (43 + c) x) := by
  have dC := D_C h
  have dK := D_K h
  have dM := D_M h
  refine ⟨V_hd.ext h.1 (fun _ => by first | rfl | simp [sup]) (by first | rfl | simp [sup]) (fun i h1 => by simp (disch := omega) only [ru_ne]), V_set.ext h.2.1 (fun _ => by first | rfl | simp [sup]) (fun i h1 h2 => by simp (disch := omega) only [ru_ne]), V_cnt.ext h.2.2.1 (fun _ => by first | rfl | simp [sup]) (fun _ => by first | rfl | simp [sup]) (fun _ => by first | rfl | simp [sup]) (fun i h1 h2 => by simp (disch := omega) only [ru_ne]), ?_, V_call.ext h.2.2.2.2.1 dK (fun _ _ => by first | rfl | simp [sup]) (fun i h1 h2 => by simp (disch := omega) only [ru_ne]), V_held.ext h.2.2.2.2.2.1 dC dK (fun _ => by first | rfl | simp [sup]) (fun i h1 h2 => by simp (disch := omega) only [ru_ne]), V_abd.ext h.2.2.2.2.2.2.1 (fun _ => by first | rfl | simp [sup]) (fun _ => by first | rfl | simp [sup]) (fun _ => by first | rfl | simp [sup]), V_kn1.ext h.2.2.2.2.2.2.2.1 dC dK (fun _ => by first | rfl | simp [sup]) (fun _ _ => by first | rfl | simp [sup]) (fun _ _ => by first | rfl | simp [sup]) (fun _ _ => by first | rfl | simp [sup]) (fun _ _ => by first | rfl | simp [sup]) (fun i h1 h2 => by simp (disch := omega) only [ru_ne]), V_kn0.ext h.2.2.2.2.2.2.2.2.1 (fun _ _ => by first | rfl | simp [sup]) (fun _ _ => by first | rfl | simp [sup]) (fun _ _ => by first | rfl | simp [sup]), V_msg.ext h.2.2.2.2.2.2.2.2.2 (fun _ => by first | rfl | simp [sup]) (fun _ => by first | rfl | simp [sup]) (fun _ => by first | rfl | simp [sup]) (fun _ => by first | rfl | simp [sup]) (fun i h1 => by simp (disch := omega) only [ru_ne])⟩
  · intro c' hc'
    obtain ⟨a1, a2, a3, a4, a5, a6⟩ := h.2.2.2.1 c' hc'
    by_cases w : c' = c
    · subst w
      have z : ∀ f, f ≠ 5 → (sup v 2 c' 5 x) 2 c' f = v 2 c' f := fun f hf => s_nf hf
      refine ⟨fun f hf => ?_, by rw [z 0 (by decide)]; exact a2, by rw [z 1 (by decide)]; exact a3, by rw [z 2 (by decide)]; exact a4, by rw [z 3 (by decide)]; exact a5, by rw [z 4 (by decide)]; exact a6⟩
      by_cases wf : f = 5
      · subst wf
        rw [show 23 + 4 * 5 + c' = 43 + c' by omega, ru_eq, s_at]
      · rw [ru_ne (by omega), z f wf]; exact a1 f hf
    · have z : ∀ f, (sup v 2 c 5 x) 2 c' f = v 2 c' f := fun f => s_no w
      refine ⟨fun f hf => by rw [ru_ne (by omega), z f]; exact a1 f hf, by rw [z]; exact a2, by rw [z]; exact a3, by rw [z]; exact a4, by rw [z]; exact a5, by rw [z]; exact a6⟩
theorem S_floor {F C K M T U : Nat} {v : Sg} {r : Nat → Int32} (h : LU F C K M T U v r) {c : Nat} (hc : c < C) {a : Nat} (ha : a < F) : LU F C K M T U (sup v 2 c 0 (nI a)) (ru r (23 + c) (nI a)) := by
  have dC := D_C h
  have dK := D_K h
  have dM := D_M h
  refine ⟨V_hd.ext h.1 (fun _ => by first | rfl | simp [sup]) (by first | rfl | simp [sup]) (fun i h1 => by simp (disch := omega) only [ru_ne]), V_set.ext h.2.1 (fun _ => by first | rfl | simp [sup]) (fun i h1 h2 => by simp (disch := omega) only [ru_ne]), V_cnt.ext h.2.2.1 (fun _ => by first | rfl | simp [sup]) (fun _ => by first | rfl | simp [sup]) (fun _ => by first | rfl | simp [sup]) (fun i h1 h2 => by simp (disch := omega) only [ru_ne]), ?_, V_call.ext h.2.2.2.2.1 dK (fun _ _ => by first | rfl | simp [sup]) (fun i h1 h2 => by simp (disch := omega) only [ru_ne]), V_held.ext h.2.2.2.2.2.1 dC dK (fun _ => by first | rfl | simp [sup]) (fun i h1 h2 => by simp (disch := omega) only [ru_ne]), V_abd.ext h.2.2.2.2.2.2.1 (fun _ => by first | rfl | simp [sup]) (fun _ => by first | rfl | simp [sup]) (fun _ => by first | rfl | simp [sup]), V_kn1.ext h.2.2.2.2.2.2.2.1 dC dK (fun _ => by first | rfl | simp [sup]) (fun _ _ => by first | rfl | simp [sup]) (fun _ _ => by first | rfl | simp [sup]) (fun _ _ => by first | rfl | simp [sup]) (fun _ _ => by first | rfl | simp [sup]) (fun i h1 h2 => by simp (disch := omega) only [ru_ne]), V_kn0.ext h.2.2.2.2.2.2.2.2.1 (fun _ _ => by first | rfl | simp [sup]) (fun _ _ => by first | rfl | simp [sup]) (fun _ _ => by first | rfl | simp [sup]), V_msg.ext h.2.2.2.2.2.2.2.2.2 (fun _ => by first | rfl | simp [sup]) (fun _ => by first | rfl | simp [sup]) (fun _ => by first | rfl | simp [sup]) (fun _ => by first | rfl | simp [sup]) (fun i h1 => by simp (disch := omega) only [ru_ne])⟩
  · intro c' hc'
    obtain ⟨a1, a2, a3, a4, a5, a6⟩ := h.2.2.2.1 c' hc'
    by_cases w : c' = c
    · subst w
      have z : ∀ f, f ≠ 0 → (sup v 2 c' 0 (nI a)) 2 c' f = v 2 c' f := fun f hf => s_nf hf
      refine ⟨fun f hf => ?_, ⟨a, ha, s_at _ _ _ _ _⟩, by rw [z 1 (by decide)]; exact a3, by rw [z 2 (by decide)]; exact a4, by rw [z 3 (by decide)]; exact a5, by rw [z 4 (by decide)]; exact a6⟩
      by_cases wf : f = 0
      · subst wf
        rw [show 23 + 4 * 0 + c' = 23 + c' by omega, ru_eq, s_at]
      · rw [ru_ne (by omega), z f wf]; exact a1 f hf
    · have z : ∀ f, (sup v 2 c 0 (nI a)) 2 c' f = v 2 c' f := fun f => s_no w
      refine ⟨fun f hf => by rw [ru_ne (by omega), z f]; exact a1 f hf, by rw [z]; exact a2, by rw [z]; exact a3, by rw [z]; exact a4, by rw [z]; exact a5, by rw [z]; exact a6⟩
