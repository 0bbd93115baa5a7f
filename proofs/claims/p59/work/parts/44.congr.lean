/-! what is told depends on the text's own letters alone -/
theorem g_let_congr {n : Nat} {t t2 : Nat → Int32} (h : ∀ j, j < n → t2 j = t j) (j : Nat) : g_let n t2 j = g_let n t j := by
  unfold g_let
  by_cases hj : j < n
  · rw [if_pos hj, if_pos hj, h j hj]
  · rw [if_neg hj, if_neg hj]
theorem g_in_congr {n : Nat} {t t2 : Nat → Int32} (h : ∀ j, j < n → t2 j = t j) (k : Nat) : ∀ i, g_in n t2 k i = g_in n t k i := by
  intro i
  induction i with
  | zero => rfl
  | succ i ih =>
    show upd (g_in n t2 k i) (i / 4) ((g_in n t2 k i (i / 4)) <<< ((8 : Int32) &&& 31) ||| g_let n t2 (k + i)) = upd (g_in n t k i) (i / 4) ((g_in n t k i (i / 4)) <<< ((8 : Int32) &&& 31) ||| g_let n t (k + i))
    rw [ih, g_let_congr h]
theorem g_out_congr {n : Nat} {t t2 : Nat → Int32} (h : ∀ j, j < n → t2 j = t j) : ∀ (j k : Nat) (σ : Sg), g_out n t2 j k σ = g_out n t j k σ := by
  intro j
  induction j with
  | zero => exact fun k σ => rfl
  | succ j ih =>
    intro k σ
    show (if k < n then bi (f_X7_appendInput σ (g_in n t2 k 20 0) (g_in n t2 k 20 1) (g_in n t2 k 20 2) (g_in n t2 k 20 3) (g_in n t2 k 20 4)) (fun _ σ1 => g_out n t2 j (k + 20) σ1) else some σ) = if k < n then bi (f_X7_appendInput σ (g_in n t k 20 0) (g_in n t k 20 1) (g_in n t k 20 2) (g_in n t k 20 3) (g_in n t k 20 4)) (fun _ σ1 => g_out n t j (k + 20) σ1) else some σ
    rw [g_in_congr h, show (fun (_ : Int32) σ1 => g_out n t2 j (k + 20) σ1) = fun _ σ1 => g_out n t j (k + 20) σ1 from funext fun _ => funext fun σ1 => ih (k + 20) σ1]
theorem g_told_congr {n : Nat} {t t2 : Nat → Int32} (h : ∀ j, j < n → t2 j = t j) (σ : Sg) : g_told n t2 σ = g_told n t σ := by
  unfold g_told
  rw [g_out_congr h]
