/-! a tick, whole -/
theorem p_nl {a b : Nat} (h : b ≤ a) : (a < b) = False := eq_false (Nat.not_lt.mpr h)
theorem c_ne {σ : Sg} {k1 o1 sp k2 o2 dp n k' : Nat} (h : k' ≠ k2) : scp σ k1 o1 sp k2 o2 dp n k' = σ k' := by
  funext o i
  exact if_neg (fun q => h q.1)
theorem c_no {σ : Sg} {k1 o1 sp k2 o2 dp n k' o' i' : Nat} (h : o' ≠ o2) : scp σ k1 o1 sp k2 o2 dp n k' o' i' = σ k' o' i' := if_neg (fun q => h q.2.1)
theorem c_in {σ : Sg} {k1 o1 sp k2 o2 dp n i' : Nat} (h : dp ≤ i') (h2 : i' < dp + n) : scp σ k1 o1 sp k2 o2 dp n k2 o2 i' = σ k1 o1 (sp + (i' - dp)) := if_pos ⟨rfl, rfl, h, h2⟩
theorem c_in0 {σ : Sg} {k1 o1 k2 o2 n i' : Nat} (h2 : i' < n) : scp σ k1 o1 0 k2 o2 0 n k2 o2 i' = σ k1 o1 i' := by
  rw [c_in (Nat.zero_le _) (by omega), Nat.zero_add, Nat.sub_zero]
theorem c_out {σ : Sg} {k1 o1 sp k2 o2 dp n k' o' i' : Nat} (h : i' < dp ∨ dp + n ≤ i') : scp σ k1 o1 sp k2 o2 dp n k' o' i' = σ k' o' i' := if_neg (fun q => by omega)
theorem b_copies (ρ : Sg) {ka oa na p kb ob nb q n : Nat} (h1 : p + n ≤ na) (h2 : q + n ≤ nb) (h3 : na < 65536) (h4 : nb < 65536) (hd : ¬ (ka = kb ∧ oa = ob) ∨ q ≤ p) : f_X8_copies ρ ka oa na (nI p) kb ob nb (nI q) (nI n) = some (scp ρ ka oa p kb ob q n) := by
  unfold f_X8_copies
  obtain ⟨m, a, ha, e⟩ := lpE1 (fun m (a : Sg) i => f_X8_copies_3 m a ka oa na (nI p) kb ob nb (nI q) (nI n) i) n (by omega) (fun k a => a = scp ρ ka oa p kb ob q k) (a := ρ) (fun m k a hk ha => by
    refine ⟨scp ρ ka oa p kb ob q (k + 1), rfl, ?_⟩
    simp (disch := omega) only [f_X8_copies_3_s, ni_le, p_nle, if_false, ni_add, ni_nn, ni_cl, false_or, p_st, ni_1, ha]
    have e1 : scp ρ ka oa p kb ob q k ka oa (p + k) = ρ ka oa (p + k) := by
      unfold scp
      rw [if_neg]
      rintro ⟨x1, x2, x3, x4⟩
      rcases hd with hd | hd
      · exact hd ⟨x1, x2⟩
      · omega
    have e2 : sup (scp ρ ka oa p kb ob q k) kb ob (q + k) (ρ ka oa (p + k)) = scp ρ ka oa p kb ob q (k + 1) := by
      funext x y z
      unfold sup scp
      by_cases w : x = kb ∧ y = ob ∧ z = q + k
      · rw [if_pos w, if_pos ⟨w.1, w.2.1, by omega, by omega⟩, show z - q = k by omega]
      · rw [if_neg w]
        by_cases w2 : x = kb ∧ y = ob ∧ q ≤ z ∧ z < q + k
        · rw [if_pos w2, if_pos ⟨w2.1, w2.2.1, w2.2.2.1, by omega⟩]
        · rw [if_neg w2, if_neg (fun u => w2 ⟨u.1, u.2.1, u.2.2.1, by
            have : z ≠ q + k := fun e => w ⟨u.1, u.2.1, e⟩
            omega⟩)]
    rw [e1, e2]) (by
      funext x y z
      unfold scp
      exact (if_neg (fun u => by omega)).symm)
  refine e.trans ?_
  simp (disch := omega) only [f_X8_copies_3_s, ni_le, Nat.le_refl, if_true, ha, f_X8_copies_28]
def ST (j : Nat) (σ ρ σ' ρ' : Sg) : Prop := (∀ k o i, ¬ Own j k o → ¬ (o = 13 ∧ (k = 5 ∨ (20 ≤ k ∧ k ≤ 23))) → σ' k o i = σ k o i) ∧ ∀ k, k ≠ 30 → k ≠ 35 → ρ' k = ρ k
theorem ST.rf (j : Nat) (σ ρ : Sg) : ST j σ ρ σ ρ := ⟨fun _ _ _ _ _ => rfl, fun _ _ _ => rfl⟩
theorem ST.trans {j : Nat} {σ ρ σ' ρ' σ'' ρ'' : Sg} (h : ST j σ ρ σ' ρ') (h' : ST j σ' ρ' σ'' ρ'') : ST j σ ρ σ'' ρ'' := ⟨fun k o i q q2 => (h'.1 k o i q q2).trans (h.1 k o i q q2), fun k q q2 => (h'.2 k q q2).trans (h.2 k q q2)⟩
theorem SP.st {j : Nat} {σ ρ σ' ρ' : Sg} (h : SP j σ ρ σ' ρ') : ST j σ ρ σ' ρ' := ⟨fun k o i q _ => h.1 k o i q, fun k q _ => h.2 k q⟩
theorem LU.up {F C K M T U : Nat} {v : Sg} {r : Nat → Int32} (h : LU F C K M T U v r) : LU F C K M T (U + 1) v r := by
  refine ⟨h.1, h.2.1, h.2.2.1, h.2.2.2.1, fun k hk => ?_, h.2.2.2.2.2⟩
  obtain ⟨x1, x2, x3, x4, x5, x6⟩ := h.2.2.2.2.1 k hk
  refine ⟨x1, x2, x3, x4, x5, ?_⟩
  rcases x6 with x6 | ⟨t, h1, h2⟩
  · exact Or.inl x6
  · exact Or.inr ⟨t, by omega, h2⟩
theorem S_zero {F C K M T U : Nat} {v : Sg} {r : Nat → Int32} (h : LU F C K M T U v r) : LU F C K 0 T U (sup v 5 0 0 0) (ru r 10 0) := by
  have dC := D_C h
  have dK := D_K h
  have dM := D_M h
  refine ⟨?_, V_set.ext h.2.1 (fun _ => by first | rfl | simp [sup]) (fun i h1 h2 => by simp (disch := omega) only [ru_ne]), V_cnt.ext h.2.2.1 (fun _ => by first | rfl | simp [sup]) (fun _ => by first | rfl | simp [sup]) (fun _ => by first | rfl | simp [sup]) (fun i h1 h2 => by simp (disch := omega) only [ru_ne]), V_car.ext h.2.2.2.1 dC (fun _ f hf => by first | rfl | (simp [sup]; done)) (fun i h1 h2 => by simp (disch := omega) only [ru_ne]), V_call.ext h.2.2.2.2.1 dK (fun _ _ => by first | rfl | simp [sup]) (fun i h1 h2 => by simp (disch := omega) only [ru_ne]), V_held.ext h.2.2.2.2.2.1 dC dK (fun _ => by first | rfl | simp [sup]) (fun i h1 h2 => by simp (disch := omega) only [ru_ne]), V_abd.ext h.2.2.2.2.2.2.1 (fun _ => by first | rfl | simp [sup]) (fun _ => by first | rfl | simp [sup]) (fun _ => by first | rfl | simp [sup]), V_kn1.ext h.2.2.2.2.2.2.2.1 dC dK (fun _ => by first | rfl | simp [sup]) (fun _ _ => by first | rfl | simp [sup]) (fun _ _ => by first | rfl | simp [sup]) (fun _ _ => by first | rfl | simp [sup]) (fun _ _ => by first | rfl | simp [sup]) (fun i h1 h2 => by simp (disch := omega) only [ru_ne]), V_kn0.ext h.2.2.2.2.2.2.2.2.1 (fun _ _ => by first | rfl | simp [sup]) (fun _ _ => by first | rfl | simp [sup]) (fun _ _ => by first | rfl | simp [sup]), fun i hi => absurd hi (Nat.not_lt_zero i)⟩
  obtain ⟨a1, a2, a3, a4, a5, a6, a7, a8, a9, a10, a11, a12, a13, a14, a15, a16⟩ := h.1
  exact ⟨a1, a2, a3, a4, rfl, a6, a7, a8, a9, rfl, a11, a12, a13, a14, a15, Nat.zero_le _⟩
section TK
variable {F C K M T U j : Nat} {σ ρ : Sg}
def Veq (C K M : Nat) (v v' : Sg) : Prop := (∀ i, i < 5 → v' 4 0 i = v 4 0 i) ∧ v' 5 0 0 = v 5 0 0 ∧ (∀ i, i < 5 → v' 12 0 i = v 12 0 i) ∧ (∀ i, i < 4 → v' 13 0 i = v 13 0 i ∧ v' 14 0 i = v 14 0 i) ∧ (∀ i, i < 5 → v' 15 0 i = v 15 0 i) ∧ (∀ c, c < C → (∀ f, f < 10 → v' 2 c f = v 2 c f) ∧ (∀ i, i < 24 → v' 16 c i = v 16 c i ∧ v' 17 c i = v 17 c i) ∧ (∀ i, i < 96 → v' 18 c i = v 18 c i) ∧ ∀ i, i < 4 → v' 19 c i = v 19 c i) ∧ (∀ k, k < K → ∀ f, f < 11 → v' 1 k f = v 1 k f) ∧ ∀ i, i < M → v' 20 0 i = v 20 0 i ∧ v' 21 0 i = v 21 0 i ∧ v' 22 0 i = v 22 0 i ∧ v' 23 0 i = v 23 0 i
theorem LU.both {v v' : Sg} {r r' : Nat → Int32} (h : LU F C K M T U v r) (e : Veq C K M v v') (er : ∀ q, q < 2111 → r' q = r q) : LU F C K M T U v' r' := by
  have dC := D_C h
  have dK := D_K h
  have dM := D_M h
  obtain ⟨e4, e5, e12, e13, e15, ec, ek, em⟩ := e
  obtain ⟨h1, h2, h3, h4, h5, h6, h7, h8, h9, h10⟩ := h
  refine ⟨?_, ?_, ?_, ?_, ?_, ?_, ?_, ?_, ?_, ?_⟩
  · obtain ⟨a1, a2, a3, a4, a5, a6, a7, a8, a9, a10, a11, a12⟩ := h1
    exact ⟨(e4 0 (by decide)).trans a1, (e4 1 (by decide)).trans a2, (e4 2 (by decide)).trans a3, (e4 3 (by decide)).trans a4, e5.trans a5, (er 0 (by decide)).trans a6, (er 1 (by decide)).trans a7, (er 2 (by decide)).trans a8, (er 3 (by decide)).trans a9, (er 10 (by decide)).trans a10, ((er 9 (by decide)).trans a11).trans (e4 4 (by decide)).symm, a12⟩
  · obtain ⟨a, P, W, D, b1, b2, b3, b4, b5, b6, b7⟩ := h2
    exact ⟨fun i hi => ((er (4 + i) (by omega)).trans (a i hi)).trans (e12 i hi).symm, P, W, D, (e12 1 (by decide)).trans b1, b2, b3, (e12 2 (by decide)).trans b4, b5, (e12 3 (by decide)).trans b6, b7⟩
  · intro i hi
    obtain ⟨a, b, c⟩ := h3 i hi
    exact ⟨((er _ (by omega)).trans a).trans (e13 i hi).1.symm, ((er _ (by omega)).trans b).trans (e13 i hi).2.symm, ⟨((er _ (by omega)).trans c.1).trans (e15 _ (by omega)).symm, (e15 0 (by decide)).trans c.2⟩⟩
  · intro c hc
    obtain ⟨a, b, d, e, f, g⟩ := h4 c hc
    have z := (ec c hc).1
    refine ⟨fun f hf => ((er _ (by omega)).trans (a f hf)).trans (z f (by omega)).symm, ?_, ?_, ?_, ?_, ?_⟩
    · rw [z 0 (by decide)]; exact b
    · rw [z 1 (by decide)]; exact d
    · rw [z 2 (by decide)]; exact e
    · rw [z 3 (by decide)]; exact f
    · rw [z 4 (by decide)]; exact g
  · intro k hk
    obtain ⟨a, b, c, d, e, f⟩ := h5 k hk
    have z := ek k hk
    refine ⟨fun f hf h9 => ((er _ (by omega)).trans (a f hf h9)).trans (z f hf).symm, fun q => ?_, ?_, ?_, ?_, ?_⟩
    · rw [z 9 (by decide), er _ (by omega)]
      exact b (by rw [← z 8 (by decide)]; exact q)
    · rw [z 0 (by decide), z 1 (by decide)]; exact c
    · unfold V_time at d ⊢
      rw [z 2 (by decide), z 3 (by decide), z 5 (by decide), z 10 (by decide)]; exact d
    · rw [z 8 (by decide)]; exact e
    · rw [z 10 (by decide)]; exact f
  · intro c hc
    obtain ⟨a, b⟩ := h6 c hc
    have z := (ec c hc).1
    refine ⟨fun k hk => ?_, fun k hk => ?_⟩
    · rw [z 8 (by decide), er _ (by omega)]; exact a k hk
    · rw [z 8 (by decide)]; exact b k hk
  · intro c hc k
    rw [(ec c hc).1 9 (by decide), h7 c hc k]
    by_cases hk : k < K
    · rw [ek k hk 3 (by decide), ek k hk 4 (by decide)]
    · rw [decide_eq_false (fun q => hk q.1), decide_eq_false (fun q => hk q.1)]
  · intro c hc k hk
    obtain ⟨a, b, d, e, f, g⟩ := h8 c hc k hk
    obtain ⟨z2, z16, z18, z19⟩ := ec c hc
    refine ⟨?_, fun q hq => ?_, fun t ht => ?_, fun q => ?_, ?_, fun q hq => ?_⟩
    · rw [(z16 k (by omega)).2, er _ (by omega)]; exact a
    · rw [z18 _ (by omega), er _ (by omega)]; exact b q hq
    · rw [z19 _ ht, er _ (by omega)]; exact d t ht
    · rw [z2 8 (by decide), (z16 k (by omega)).2] at q
      rw [(z16 k (by omega)).1, er _ (by omega)]; exact e q
    · rw [(z16 k (by omega)).2]; exact f
    · rw [z18 _ (by omega)]; exact g q hq
  · intro c hc k hk hk2
    obtain ⟨a, b, d⟩ := h9 c hc k hk hk2
    obtain ⟨z2, z16, z18, z19⟩ := ec c hc
    refine ⟨?_, fun q hq => ?_, fun t ht => ?_⟩
    · rw [(z16 k (by omega)).2]; exact a
    · rw [z18 _ (by omega)]; exact b q hq
    · rw [z19 _ ht]; exact d t ht
  · intro i hi
    obtain ⟨z20, z21, z22, z23⟩ := em i hi
    rw [z20, z21, z22, z23, er _ (by omega), er _ (by omega), er _ (by omega), er _ (by omega)]
    exact h10 i hi
theorem V_ann_eq {v v' : Sg} (e : Veq C K M v v') : V_ann v' M = V_ann v M := ct_congr (fun i hi => by rw [(e.2.2.2.2.2.2.2 i hi).2.1])
theorem Veq.of {v v' : Sg} (e0 : ∀ k i, v' k 0 i = v k 0 i) (e1 : ∀ k o i, k = 1 ∨ k = 2 ∨ (16 ≤ k ∧ k ≤ 19) → v' k o i = v k o i) : Veq C K M v v' :=
  ⟨fun i _ => e0 4 i, e0 5 0, fun i _ => e0 12 i, fun i _ => ⟨e0 13 i, e0 14 i⟩, fun i _ => e0 15 i, fun c _ => ⟨fun f _ => e1 2 c f (by decide), fun i _ => ⟨e1 16 c i (by decide), e1 17 c i (by decide)⟩, fun i _ => e1 18 c i (by decide), fun i _ => e1 19 c i (by decide)⟩, fun k _ f _ => e1 1 k f (by decide), fun i _ => ⟨e0 20 i, e0 21 i, e0 22 i, e0 23 i⟩⟩
/-- the messages of the last tick, laid aside -/
theorem t_aside (h : LU F C K M T U (vw j σ) (ρ 30 0)) (hj : j < 13) :
    ∃ σ1 ρ1, f_X5_copyFrom σ 13 j = some σ1 ∧ f_X8_copies ρ 30 0 2111 1087 35 0 1024 0 (4 * (ρ 30 0 10)) = some ρ1 ∧ Veq C K M (vw j σ) (vw j σ1) ∧ ρ1 30 = ρ 30 ∧ ST j σ ρ σ1 ρ1 ∧ Ar C K M σ1 ρ1 ∧ ∀ i, i < M → σ1 21 13 i = σ 21 j i := by
  have hM := D_M h
  refine ⟨scp (scp (scp (scp (sup σ 5 13 0 (nI M)) 20 j 0 20 13 0 M) 21 j 0 21 13 0 M) 22 j 0 22 13 0 M) 23 j 0 23 13 0 M, scp ρ 30 0 1087 35 0 0 (4 * M), ?_, ?_, ?_, ?_, ?_, ?_, ?_⟩
  · unfold f_X5_copyFrom
    simp (disch := omega) only [A_M h, p_st, c_ne, s_at, ni_nn, ni_cl, p_nl, false_or, if_false]
  · rw [B_M h, m_4]
    exact b_copies ρ (p := 1087) (q := 0) (by omega) (by omega) (by decide) (by decide) (Or.inl (by decide))
  · have e : ∀ k o i, o ≠ 13 → (scp (scp (scp (scp (sup σ 5 13 0 (nI M)) 20 j 0 20 13 0 M) 21 j 0 21 13 0 M) 22 j 0 22 13 0 M) 23 j 0 23 13 0 M) k o i = σ k o i := by
      intro k o i ho
      rw [c_no ho, c_no ho, c_no ho, c_no ho]
      unfold sup
      rw [if_neg (fun q => ho q.2.1)]
    have e2 : ∀ k o i, k < 20 → k ≠ 5 → (scp (scp (scp (scp (sup σ 5 13 0 (nI M)) 20 j 0 20 13 0 M) 21 j 0 21 13 0 M) 22 j 0 22 13 0 M) 23 j 0 23 13 0 M) k o i = σ k o i := by
      intro k o i h1 h2
      rw [c_ne (by omega), c_ne (by omega), c_ne (by omega), c_ne (by omega), s_ne h2]
    refine Veq.of (fun k i => ?_) (fun k o i hk => ?_)
    · by_cases w : k = 1 ∨ k = 2 ∨ (16 ≤ k ∧ k ≤ 19)
      · exact vw_pt (fun o i => e2 k o i (by omega) (by omega)) j 0 i
      · have x : ∀ τ : Sg, vw j τ k 0 i = τ k (j + 0) i := by
          intro τ
          unfold vw
          split <;> first | rfl | (exfalso; omega)
        rw [x, x]
        exact e k j i (by omega)
    · exact vw_pt (fun o i => e2 k o i (by omega) (by omega)) j o i
  · rw [c_ne (by decide)]
  · refine ⟨fun k o i q1 q2 => ?_, fun k q1 q2 => c_ne q2⟩
    unfold scp sup
    rw [if_neg (fun q => q2 ⟨q.2.1, Or.inr (by omega)⟩), if_neg (fun q => q2 ⟨q.2.1, Or.inr (by omega)⟩), if_neg (fun q => q2 ⟨q.2.1, Or.inr (by omega)⟩), if_neg (fun q => q2 ⟨q.2.1, Or.inr (by omega)⟩), if_neg (fun q => q2 ⟨q.2.1, Or.inl q.1⟩)]
  · refine ⟨?_, hM, fun i hi => ?_⟩
    · simp (disch := omega) only [c_ne, s_at]
    · simp (disch := omega) only [c_ne, c_in0, s_ne]
      obtain ⟨e1, e2, e3, e4, e5, e6, e7⟩ := h.2.2.2.2.2.2.2.2.2 i hi
      rw [c_in (Nat.zero_le _) (by omega), c_in (Nat.zero_le _) (by omega), c_in (Nat.zero_le _) (by omega), c_in (Nat.zero_le _) (by omega)]
      simp only [Nat.sub_zero, ← Nat.add_assoc]
      exact ⟨e1, e2, e3, e4, e5, e6, e7⟩
  · intro i hi
    simp (disch := omega) only [c_ne, c_in0, s_ne]
end TK
