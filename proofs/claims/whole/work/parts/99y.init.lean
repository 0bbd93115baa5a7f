/-! every call of the law, the two initial states, the claim's part -/
theorem E_all_N : E_all RelN := ⟨E1_appendInput, E1_truncateInput, E1_loadLifts, E1_errorCode, E1_errorOffset, E1_count, E1_car, E1_call, E1_waitOf, E1_holds, E1_ownCost, E1_decides, E1_noted, E1_costNow, E1_held, E1_goal, E1_messages, E1_hasLost, E1_nobody, E1_makeCall, E1_run, E1_setStopped, E1_setJammed, E1_set, E1_forget, E1_longestWait, E1_meanWait, E1_lateShare, E1_doubles, E1_orphans, E1_ride, E1_busiest, E1_fullestFloor, E1_riders, E1_served, E1_meanRide, E1_knownBest, E1_cheapest, E1_allRounds, E1_claimLeft, E1_lateIn, E1_crowd, E1_meanCost, E1_waitsWithin, E1_mostRounds, E1_aboardIn, E1_doneIn, E1_nobodyIn, E1_bestNoise, E1_wouldWait, E1_bestPatience, E1_printCar, E1_outputByte, E1_undo, E1_saveState, E1_restoreState⟩
theorem y_init : ∃ σa σb ρa ρb, f_X4_clear y_σ0 0 2 = some σa ∧ f_X4_addCar σa 0 0 1 = some σb ∧ f_X8_clear y_σ0 = some ρa ∧ f_X8_addCar (sup ρa 30 0 0 2) 0 1 = some ρb ∧ RelN 0 σb ρb := by
  obtain ⟨ρa, b1, b2, b3⟩ := b_clr y_σ0
  obtain ⟨σa, a1, a2, a3, a4⟩ := t_clear y_σ0 ρa 0 (F := 2) (by decide) (by decide) b3
  obtain ⟨σb, ρb, c1, c2, c3, c4, c5, c6⟩ := t_addCar a3 (by decide) a4 (a := 0) (p := 1) (by decide) (by decide) (by decide)
  have sk : ∀ k o i, ¬ Own 0 k o → σb k o i = y_σ0 k o i := fun k o i h => (c5 k o i h).trans (a2 k o i h)
  have rk : ∀ k, k ≠ 30 → ∀ o i, ρb k o i = y_σ0 k o i := fun k h o i => by rw [c6 k h, s_ne h, b2 k h]
  refine ⟨σa, σb, ρa, ρb, a1, c1, b1, c2, ⟨2, 1, 0, 0, 0, Nat.le_refl _, Nat.zero_le _, c3⟩, ⟨0, Nat.zero_le _, ?_, ?_, fun i hi => absurd hi (Nat.not_lt_zero i)⟩, ⟨0, Nat.zero_le _, ?_, ?_, fun i hi => absurd hi (Nat.not_lt_zero i)⟩, ⟨?_, ?_⟩, Or.inl ⟨?_, ?_⟩, 0, 0, Nat.zero_le _, by decide, ?_, ?_, ?_, fun i hi => absurd hi (Nat.not_lt_zero i)⟩
  · rw [sk 7 0 1 id]; rfl
  · rw [rk 8 (by decide)]; rfl
  · rw [sk 7 0 5 id]; rfl
  · rw [rk 8 (by decide)]; rfl
  · rw [sk 7 0 2 id, rk 8 (by decide)]; rfl
  · rw [sk 7 0 3 id, rk 8 (by decide)]; rfl
  · rw [sk 7 0 9 id]; rfl
  · rw [rk 8 (by decide)]; rfl
  · rw [sk 3 0 0 id]; rfl
  · rw [sk 3 0 1 id]; rfl
  · rw [rk 8 (by decide)]; rfl
