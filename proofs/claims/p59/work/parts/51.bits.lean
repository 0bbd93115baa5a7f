/-! counts of bits -/
theorem c_ush {n s : Nat} (hn : n < 4294967296) (hs : s < 32) : jush (nI n) (nI s) = nI (n >>> s) := by
  apply b_ext
  intro i hi
  unfold jush
  rw [b_ushr s hs]
  show (BitVec.ofNat 32 n).getLsbD (s + i) = (BitVec.ofNat 32 (n >>> s)).getLsbD i
  rw [BitVec.getLsbD_ofNat, BitVec.getLsbD_ofNat, Nat.testBit_shiftRight]
  rcases Nat.lt_or_ge (s + i) 32 with h | h
  · simp [h, hi]
  · have h0 : n.testBit (s + i) = false := Nat.testBit_lt_two_pow (Nat.lt_of_lt_of_le (show n < 2 ^ 32 from hn) (Nat.pow_le_pow_right (by decide) h))
    simp [hi, h0, Nat.not_lt.mpr h]
theorem c_lane {a m P K s : Nat} (ha : a < 256) (hs : s ≤ 8) (hP : P < 2 ^ (8 - s)) : ((256 * m + a) >>> s) &&& (256 * K + P) = 256 * ((m >>> s) &&& K) + ((a >>> s) &&& P) := by
  have hP8 : P < 2 ^ 8 := Nat.lt_of_lt_of_le hP (Nat.pow_le_pow_right (by decide) (by omega))
  have hq : ((a >>> s) &&& P) < 2 ^ 8 := Nat.lt_of_le_of_lt Nat.and_le_right hP8
  apply Nat.eq_of_testBit_eq
  intro i
  rw [Nat.testBit_and, Nat.testBit_shiftRight]
  have e1 : ∀ (x y i : Nat), y < 2 ^ 8 → (256 * x + y).testBit i = if i < 8 then y.testBit i else x.testBit (i - 8) := fun x y i hy => Nat.testBit_two_pow_mul_add x hy i
  rw [e1 m a _ ha, e1 K P _ hP8, e1 _ _ _ hq, Nat.testBit_and, Nat.testBit_and, Nat.testBit_shiftRight, Nat.testBit_shiftRight]
  by_cases hi : i < 8
  · rw [if_pos hi, if_pos hi]
    by_cases hsi : s + i < 8
    · rw [if_pos hsi]
    · have h0 : P.testBit i = false := Nat.testBit_lt_two_pow (Nat.lt_of_lt_of_le hP (Nat.pow_le_pow_right (by decide) (by omega)))
      rw [h0, Bool.and_false, Bool.and_false]
  · rw [if_neg hi, if_neg hi, if_neg (by omega), show s + i - 8 = s + (i - 8) by omega]
/-- the formula on numbers -/
def c_1 (n : Nat) : Nat := n - ((n >>> 1) &&& 1431655765)
def c_2 (n : Nat) : Nat := (n &&& 858993459) + ((n >>> 2) &&& 858993459)
def c_3 (n : Nat) : Nat := (n + n >>> 4) &&& 252645135
def c_b1 (a : Nat) : Nat := a - ((a >>> 1) &&& 85)
def c_b2 (a : Nat) : Nat := (a &&& 51) + ((a >>> 2) &&& 51)
def c_b (a : Nat) : Nat := (c_b2 (c_b1 a) % 16 + c_b2 (c_b1 a) / 16) % 16
/-- how many of the first n places hold -/
def ct (P : Nat → Bool) (n : Nat) : Nat := fo (fun k s => if P k then s + 1 else s) n 0
theorem ct_0 (P : Nat → Bool) : ct P 0 = 0 := rfl
theorem ct_s (P : Nat → Bool) (n : Nat) : ct P (n + 1) = if P n then ct P n + 1 else ct P n := rfl
theorem ct_congr {P Q : Nat → Bool} {n : Nat} (h : ∀ k, k < n → P k = Q k) : ct P n = ct Q n := fo_congr (fun k hk s => by rw [h k hk]) 0
theorem ct_le (P : Nat → Bool) (n : Nat) : ct P n ≤ n := by
  induction n with
  | zero => exact Nat.le_refl _
  | succ n ih => rw [ct_s]; split <;> omega
theorem ct_add (P : Nat → Bool) (m n : Nat) : ct P (m + n) = ct P m + ct (fun k => P (m + k)) n := by
  induction n with
  | zero => rfl
  | succ n ih =>
    rw [← Nat.add_assoc, ct_s, ct_s, ih]
    cases P (m + n) <;> simp <;> omega
theorem ct_none {P : Nat → Bool} {n : Nat} (h : ∀ k, k < n → P k = false) : ct P n = 0 := by
  induction n with
  | zero => rfl
  | succ n ih => rw [ct_s, h n (Nat.lt_succ_self n), ih (fun k hk => h k (Nat.lt_succ_of_lt hk))]; rfl
theorem c_tb {m a : Nat} (ha : a < 256) (i : Nat) : (256 * m + a).testBit i = if i < 8 then a.testBit i else m.testBit (i - 8) := Nat.testBit_two_pow_mul_add m (show a < 2 ^ 8 from ha) i
theorem c_ct {m a : Nat} (ha : a < 256) (L : Nat) : ct (fun k => (256 * m + a).testBit k) (8 + L) = ct (fun k => a.testBit k) 8 + ct (fun k => m.testBit k) L := by
  rw [ct_add]
  congr 1
  · exact ct_congr (fun k hk => by rw [c_tb ha, if_pos hk])
  · exact ct_congr (fun k hk => by rw [c_tb ha, if_neg (by omega), show 8 + k - 8 = k by omega])
theorem c_by : ∀ a, a < 256 → c_b1 a < 256 ∧ c_b2 (c_b1 a) ≤ 68 ∧ c_b2 (c_b1 a) % 16 ≤ 4 ∧ c_b a ≤ 8 ∧ c_b a = ct (fun k => a.testBit k) 8 := by decide +kernel
theorem c_l1 {m a K : Nat} (ha : a < 256) : (256 * m + a) - (((256 * m + a) >>> 1) &&& (256 * K + 85)) = 256 * (m - ((m >>> 1) &&& K)) + c_b1 a := by
  rw [c_lane ha (by decide) (by decide)]
  have h1 : (m >>> 1) &&& K ≤ m := Nat.le_trans Nat.and_le_left (Nat.shiftRight_le _ _)
  have h2 : (a >>> 1) &&& 85 ≤ a := Nat.le_trans Nat.and_le_left (Nat.shiftRight_le _ _)
  unfold c_b1
  omega
theorem c_l2 {m a K : Nat} (ha : a < 256) : ((256 * m + a) &&& (256 * K + 51)) + (((256 * m + a) >>> 2) &&& (256 * K + 51)) = 256 * ((m &&& K) + ((m >>> 2) &&& K)) + c_b2 a := by
  have h0 := c_lane (m := m) (K := K) (P := 51) (s := 0) ha (by decide) (by decide)
  rw [c_lane ha (by decide) (by decide)]
  simp only [Nat.shiftRight_zero] at h0
  rw [h0]
  unfold c_b2
  omega
theorem c_l3 {m d K : Nat} (h1 : d ≤ 68) (h2 : m % 16 ≤ 4) : ((256 * m + d) + (256 * m + d) >>> 4) &&& (256 * K + 15) = 256 * ((m + m >>> 4) &&& K) + (d % 16 + d / 16) % 16 := by
  have e : (256 * m + d) + (256 * m + d) >>> 4 = 256 * (m + m >>> 4) + (d + d / 16 + 16 * (m % 16)) := by
    rw [Nat.shiftRight_eq_div_pow, Nat.shiftRight_eq_div_pow]
    show 256 * m + d + (256 * m + d) / 16 = 256 * (m + m / 16) + (d + d / 16 + 16 * (m % 16))
    omega
  have h0 := c_lane (m := m + m >>> 4) (a := d + d / 16 + 16 * (m % 16)) (K := K) (P := 15) (s := 0) (by omega) (by decide) (by decide)
  simp only [Nat.shiftRight_zero] at h0
  rw [e, h0]
  have e2 : (d + d / 16 + 16 * (m % 16)) &&& 15 = (d + d / 16 + 16 * (m % 16)) % 16 := Nat.and_two_pow_sub_one_eq_mod _ 4
  rw [e2]
  omega
def c_sum (n : Nat) : Nat := (let x := c_3 (c_2 (c_1 n)); let y := x + x >>> 8; (y + y >>> 16) &&& 63)
theorem c_fin {p0 p1 p2 p3 : Nat} (h0 : p0 ≤ 8) (h1 : p1 ≤ 8) (h2 : p2 ≤ 8) (h3 : p3 ≤ 8) : (256 * (256 * (256 * (256 * 0 + p3) + p2) + p1) + p0 + (256 * (256 * (256 * (256 * 0 + p3) + p2) + p1) + p0) / 2 ^ 8 + (256 * (256 * (256 * (256 * 0 + p3) + p2) + p1) + p0 + (256 * (256 * (256 * (256 * 0 + p3) + p2) + p1) + p0) / 2 ^ 8) / 2 ^ 16) % 64 = p0 + (p1 + (p2 + p3)) := by
  have d1 : (256 * (256 * (256 * (256 * 0 + p3) + p2) + p1) + p0) / 2 ^ 8 = 65536 * p3 + 256 * p2 + p1 := by omega
  rw [d1]
  have d2 : (256 * (256 * (256 * (256 * 0 + p3) + p2) + p1) + p0 + (65536 * p3 + 256 * p2 + p1)) / 2 ^ 16 = 256 * p3 + p2 + p3 := by omega
  rw [d2]
  omega
theorem c_main {n : Nat} (hn : n < 4294967296) : c_1 n < 4294967296 ∧ c_2 (c_1 n) < 4294967296 ∧ c_2 (c_1 n) + c_2 (c_1 n) >>> 4 < 4294967296 ∧ c_3 (c_2 (c_1 n)) < 268435456 ∧ c_sum n = ct (fun k => n.testBit k) 32 := by
  obtain ⟨a0, a1, a2, a3, h0, h1, h2, h3, rfl⟩ : ∃ a0 a1 a2 a3, a0 < 256 ∧ a1 < 256 ∧ a2 < 256 ∧ a3 < 256 ∧ n = 256 * (256 * (256 * (256 * 0 + a3) + a2) + a1) + a0 := ⟨n % 256, n / 256 % 256, n / 65536 % 256, n / 16777216, by omega, by omega, by omega, by omega, by omega⟩
  obtain ⟨p0, q0, r0, s0, t0⟩ := c_by a0 h0
  obtain ⟨p1, q1, r1, s1, t1⟩ := c_by a1 h1
  obtain ⟨p2, q2, r2, s2, t2⟩ := c_by a2 h2
  obtain ⟨p3, q3, r3, s3, t3⟩ := c_by a3 h3
  have e1 : c_1 (256 * (256 * (256 * (256 * 0 + a3) + a2) + a1) + a0) = 256 * (256 * (256 * (256 * 0 + c_b1 a3) + c_b1 a2) + c_b1 a1) + c_b1 a0 := by
    unfold c_1
    rw [show (1431655765 : Nat) = 256 * (256 * (256 * (256 * 0 + 85) + 85) + 85) + 85 by rfl, c_l1 h0, c_l1 h1, c_l1 h2, c_l1 h3]
    simp
  have e2 : c_2 (256 * (256 * (256 * (256 * 0 + c_b1 a3) + c_b1 a2) + c_b1 a1) + c_b1 a0) = 256 * (256 * (256 * (256 * 0 + c_b2 (c_b1 a3)) + c_b2 (c_b1 a2)) + c_b2 (c_b1 a1)) + c_b2 (c_b1 a0) := by
    unfold c_2
    rw [show (858993459 : Nat) = 256 * (256 * (256 * (256 * 0 + 51) + 51) + 51) + 51 by rfl, c_l2 p0, c_l2 p1, c_l2 p2, c_l2 p3]
    simp
  have e3 : c_3 (256 * (256 * (256 * (256 * 0 + c_b2 (c_b1 a3)) + c_b2 (c_b1 a2)) + c_b2 (c_b1 a1)) + c_b2 (c_b1 a0)) = 256 * (256 * (256 * (256 * 0 + c_b a3) + c_b a2) + c_b a1) + c_b a0 := by
    unfold c_3
    rw [show (252645135 : Nat) = 256 * (256 * (256 * (256 * 0 + 15) + 15) + 15) + 15 by rfl, c_l3 q0 (by omega), c_l3 q1 (by omega), c_l3 q2 (by omega), c_l3 q3 (by omega)]
    simp [c_b]
  unfold c_sum
  rw [e1, e2, e3]
  refine ⟨by omega, by omega, ?_, by omega, ?_⟩
  · rw [Nat.shiftRight_eq_div_pow]
    show _ + _ / 16 < _
    omega
  · have e4 := c_ct (m := 256 * (256 * (256 * 0 + a3) + a2) + a1) h0 24
    have e5 := c_ct (m := 256 * (256 * 0 + a3) + a2) h1 16
    have e6 := c_ct (m := 256 * 0 + a3) h2 8
    have e7 := c_ct (m := 0) h3 0
    rw [show (32 : Nat) = 8 + 24 by rfl, e4, show (24 : Nat) = 8 + 16 by rfl, e5, show (16 : Nat) = 8 + 8 by rfl, e6, show ct (fun k => (256 * 0 + a3).testBit k) 8 = ct (fun k => a3.testBit k) 8 by simp, ← t0, ← t1, ← t2, ← t3]
    have e8 : ∀ z : Nat, z &&& 63 = z % 64 := fun z => Nat.and_two_pow_sub_one_eq_mod z 6
    simp only [e8, Nat.shiftRight_eq_div_pow]
    clear e1 e2 e3 e4 e5 e6 e7 e8 t0 t1 t2 t3
    generalize c_b a0 = p0 at *
    generalize c_b a1 = p1 at *
    generalize c_b a2 = p2 at *
    generalize c_b a3 = p3 at *
    exact c_fin s0 s1 s2 s3
theorem c_cnt (σ : Sg) (x : Int32) : f_J6_bitCount_0f7a4 σ x = some (nI (ct (bt x) 32), σ) := by
  obtain ⟨n, hn, rfl⟩ : ∃ n, n < 4294967296 ∧ x = nI n := ⟨x.toBitVec.toNat, x.toBitVec.isLt, Int32.toBitVec_inj.mp (by show _ = BitVec.ofNat 32 _; simp)⟩
  obtain ⟨h1, h2, h3, h4, h5⟩ := c_main hn
  have hb : ct (bt (nI n)) 32 = ct (fun k => n.testBit k) 32 := ct_congr (fun k hk => by
    show (BitVec.ofNat 32 n).getLsbD k = _
    rw [BitVec.getLsbD_ofNat]
    simp [hk])
  rw [hb, ← h5]
  have s1 : (1431655765 : Int32) = nI 1431655765 := rfl
  have s2 : (858993459 : Int32) = nI 858993459 := rfl
  have s3 : (252645135 : Int32) = nI 252645135 := rfl
  have g1 : nI n - (jush (nI n) 1 &&& 1431655765) = nI (c_1 n) := by
    rw [show (1 : Int32) = nI 1 from rfl, c_ush hn (by decide), s1, nx_and, ni_sub (Nat.le_trans Nat.and_le_left (Nat.shiftRight_le _ _))]
    rfl
  have g2 : (nI (c_1 n) &&& 858993459) + (jush (nI (c_1 n)) 2 &&& 858993459) = nI (c_2 (c_1 n)) := by
    rw [show (2 : Int32) = nI 2 from rfl, c_ush h1 (by decide), s2, nx_and, nx_and, ni_add]
    rfl
  have g3 : (nI (c_2 (c_1 n)) + jush (nI (c_2 (c_1 n))) 4) &&& 252645135 = nI (c_3 (c_2 (c_1 n))) := by
    rw [show (4 : Int32) = nI 4 from rfl, c_ush h2 (by decide), ni_add, s3, nx_and]
    rfl
  unfold f_J6_bitCount_0f7a4
  rw [g1, g2, g3]
  generalize hx : c_3 (c_2 (c_1 n)) = x at *
  have hx4 : x < 268435456 := h4
  have g4 : nI x + jush (nI x) 8 = nI (x + x >>> 8) := by
    rw [show (8 : Int32) = nI 8 from rfl, c_ush (by omega) (by decide), ni_add]
  have hy : x + x >>> 8 < 4294967296 := by
    rw [Nat.shiftRight_eq_div_pow]
    show x + x / 256 < _
    omega
  rw [g4, show (16 : Int32) = nI 16 from rfl, c_ush hy (by decide), ni_add, show (63 : Int32) = nI 63 from rfl, nx_and]
  unfold c_sum
  rw [hx]
