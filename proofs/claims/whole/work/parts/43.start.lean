/-! the start: what the tables and the Statement give of the machine -/
def Y_nar : List Cond := flatC (Cond.and given_1 narrow_1)
theorem Y_trace {l : Launch} (h : l.flags = flags0) : l.stackTraces = false := by
  unfold Launch.stackTraces
  rw [h]
  decide +kernel
theorem tb_1 {w : Cond} (h : w ∈ tables_1_1) : w ∈ lw_tbl := tt_tbl (show w ∈ tables_1_1 ++ (tables_1_2 ++ (tables_1_3 ++ (tables_1_4 ++ (tables_1_5 ++ (tables_1_6 ++ (tables_1_7 ++ tables_1_8)))))) from List.mem_append_left _ h)
theorem tb_2 {w : Cond} (h : w ∈ tables_1_2) : w ∈ lw_tbl := tt_tbl (show w ∈ tables_1_1 ++ (tables_1_2 ++ (tables_1_3 ++ (tables_1_4 ++ (tables_1_5 ++ (tables_1_6 ++ (tables_1_7 ++ tables_1_8)))))) from List.mem_append_right _ (List.mem_append_left _ h))
theorem tb_3 {w : Cond} (h : w ∈ tables_1_3) : w ∈ lw_tbl := tt_tbl (show w ∈ tables_1_1 ++ (tables_1_2 ++ (tables_1_3 ++ (tables_1_4 ++ (tables_1_5 ++ (tables_1_6 ++ (tables_1_7 ++ tables_1_8)))))) from List.mem_append_right _ (List.mem_append_right _ (List.mem_append_left _ h)))
theorem tb_4 {w : Cond} (h : w ∈ tables_1_4) : w ∈ lw_tbl := tt_tbl (show w ∈ tables_1_1 ++ (tables_1_2 ++ (tables_1_3 ++ (tables_1_4 ++ (tables_1_5 ++ (tables_1_6 ++ (tables_1_7 ++ tables_1_8)))))) from List.mem_append_right _ (List.mem_append_right _ (List.mem_append_right _ (List.mem_append_left _ h))))
theorem tb_5 {w : Cond} (h : w ∈ tables_1_5) : w ∈ lw_tbl := tt_tbl (show w ∈ tables_1_1 ++ (tables_1_2 ++ (tables_1_3 ++ (tables_1_4 ++ (tables_1_5 ++ (tables_1_6 ++ (tables_1_7 ++ tables_1_8)))))) from List.mem_append_right _ (List.mem_append_right _ (List.mem_append_right _ (List.mem_append_right _ (List.mem_append_left _ h)))))
theorem tb_6 {w : Cond} (h : w ∈ tables_1_6) : w ∈ lw_tbl := tt_tbl (show w ∈ tables_1_1 ++ (tables_1_2 ++ (tables_1_3 ++ (tables_1_4 ++ (tables_1_5 ++ (tables_1_6 ++ (tables_1_7 ++ tables_1_8)))))) from List.mem_append_right _ (List.mem_append_right _ (List.mem_append_right _ (List.mem_append_right _ (List.mem_append_right _ (List.mem_append_left _ h))))))
theorem tb_7 {w : Cond} (h : w ∈ tables_1_7) : w ∈ lw_tbl := tt_tbl (show w ∈ tables_1_1 ++ (tables_1_2 ++ (tables_1_3 ++ (tables_1_4 ++ (tables_1_5 ++ (tables_1_6 ++ (tables_1_7 ++ tables_1_8)))))) from List.mem_append_right _ (List.mem_append_right _ (List.mem_append_right _ (List.mem_append_right _ (List.mem_append_right _ (List.mem_append_right _ (List.mem_append_left _ h)))))))
theorem tb_8 {w : Cond} (h : w ∈ tables_1_8) : w ∈ lw_tbl := tt_tbl (show w ∈ tables_1_1 ++ (tables_1_2 ++ (tables_1_3 ++ (tables_1_4 ++ (tables_1_5 ++ (tables_1_6 ++ (tables_1_7 ++ tables_1_8)))))) from List.mem_append_right _ (List.mem_append_right _ (List.mem_append_right _ (List.mem_append_right _ (List.mem_append_right _ (List.mem_append_right _ (List.mem_append_right _ (h))))))))
def Y_str (own : String) (k n : Nat) (bs : List Int32) (A : Nat → Prop) (s : State) (q : Nat × Nat) : Prop := va_O "java/lang/String" q.1 A s s.heap ∧ va_OF "java/lang/String" "coder" "B" (.int 0) q.1 A s s.heap ∧ va_OF "java/lang/String" "value" "[B" (.ref q.2) q.1 A s s.heap ∧ va_T .byte q.2 n (fun j => .int (bs.getD j 0)) A s s.heap
theorem Y_strOf {args : Array Value} {s : State} {own : String} {k n : Nat} {bs : List Int32} {A : Nat → Prop} (hN : n < 2 ^ 31) (hex : (Cond.exactly (.string own k) "java/lang/String").before args s = true) (hco : (Cond.eq (.field (.string own k) "java/lang/String" "coder" "B") (.int 0)).before args s = true)
    (har : (Cond.arrayOf (.field (.string own k) "java/lang/String" "value" "[B") .byte).before args s = true) (hle : (Cond.eq (.length (.field (.string own k) "java/lang/String" "value" "[B")) (.int (Int32.ofNat n))).before args s = true)
    (hel : ∀ j : Nat, j < n → (Cond.eq (.elem (.field (.string own k) "java/lang/String" "value" "[B") (.int (Int32.ofNat j))) (.int (bs.getD j 0))).before args s = true) (hA : ∀ a : Nat, a < s.heap.size → ¬ A a) :
    ∃ q : Nat × Nat, (Term.string own k).eval args s none [] s = some (.ref q.1) ∧ Y_str own k n bs A s q := by
  obtain ⟨a, c, cA, kA, q1, q2, q3, q4, q5, q6, -⟩ := Cond.exactly_spec (args := args) (first := s) (o := none) (s := s) (idx := []) (t := Term.string own k) (cls := "java/lang/String") hex
  obtain ⟨t, ht, hT⟩ := va_Tof (f := fun j => .int (bs.getD j 0)) (A := A) hN har (va_eqt hle) (fun j hj => va_eqt (hel j hj)) hA
  exact ⟨(a, t), q1, ⟨cA, q3, q5, by rw [q6]; exact q2, hA a (Array.getElem?_eq_some_iff.mp q3).1⟩, vk_OFof q1 (va_eqt hco) hA, vk_OFof q1 ht hA, hT⟩
theorem Y_strSame {own own' : String} {k k' n n' : Nat} {bs bs' : List Int32} {A : Nat → Prop} {s : State} {q q' : Nat × Nat} (h : Y_str own k n bs A s q) (h' : Y_str own' k' n' bs' A s q') (he : q.1 = q'.1) (h0 : 0 < n) (h0' : 0 < n') : Int32.ofNat n = Int32.ofNat n' ∧ bs.getD 0 0 = bs'.getD 0 0 := by
  obtain ⟨-, -, hv, ht⟩ := h
  obtain ⟨-, -, hv', ht'⟩ := h'
  obtain ⟨cf, k, i, f, cell, h1, h2, h3, h4, h5, h6⟩ := hv
  obtain ⟨cf', k', i', f', cell', h1', h2', h3', h4', h5', h6'⟩ := hv'
  cases h1.symm.trans h1'
  rw [he] at h3
  cases h3.symm.trans h3'
  have e : q.2 = q'.2 := by
    have := h5.symm.trans h5'
    simpa using this
  obtain ⟨cell, g1, g2, g3, g4, g5, g6, g7⟩ := ht
  obtain ⟨cell', g1', g2', g3', g4', g5', g6', g7'⟩ := ht'
  rw [e] at g1
  cases g1.symm.trans g1'
  refine ⟨g5.symm.trans g5', ?_⟩
  have := (g6 0 h0).symm.trans (g6' 0 h0')
  simpa using this
theorem Y_w0 {s : State} {b : Nat} {A : Nat → Prop} (hs : ∀ w ∈ Y_nar, w.before #[Value.ref b] s = true) (hA : ∀ a : Nat, a < s.heap.size → ¬ A a) : ∃ q : Nat × Nat, (Term.string "BusLifts$SetupReader" 62).eval #[Value.ref b] s none [] s = some (.ref q.1) ∧ Y_str "BusLifts$SetupReader" 62 6 [102, 108, 111, 111, 114, 115] A s q :=
  Y_strOf (by decide) (hs _ (List.mem_of_getElem? (i := 125) (by decide +kernel))) (hs _ (List.mem_of_getElem? (i := 126) (by decide +kernel))) (hs _ (List.mem_of_getElem? (i := 127) (by decide +kernel))) (hs _ (List.mem_of_getElem? (i := 128) (by decide +kernel))) (fun j hj => match j, hj with
    | 0, _ => hs _ (List.mem_of_getElem? (i := 129) (by decide +kernel))
    | 1, _ => hs _ (List.mem_of_getElem? (i := 130) (by decide +kernel))
    | 2, _ => hs _ (List.mem_of_getElem? (i := 131) (by decide +kernel))
    | 3, _ => hs _ (List.mem_of_getElem? (i := 132) (by decide +kernel))
    | 4, _ => hs _ (List.mem_of_getElem? (i := 133) (by decide +kernel))
    | 5, _ => hs _ (List.mem_of_getElem? (i := 134) (by decide +kernel))
    | j + 6, hj => absurd hj (by omega)) hA
theorem Y_w1 {s : State} {b : Nat} {A : Nat → Prop} (hs : ∀ w ∈ Y_nar, w.before #[Value.ref b] s = true) (hA : ∀ a : Nat, a < s.heap.size → ¬ A a) : ∃ q : Nat × Nat, (Term.string "BusLifts$SetupReader" 83).eval #[Value.ref b] s none [] s = some (.ref q.1) ∧ Y_str "BusLifts$SetupReader" 83 3 [99, 97, 114] A s q :=
  Y_strOf (by decide) (hs _ (List.mem_of_getElem? (i := 135) (by decide +kernel))) (hs _ (List.mem_of_getElem? (i := 136) (by decide +kernel))) (hs _ (List.mem_of_getElem? (i := 137) (by decide +kernel))) (hs _ (List.mem_of_getElem? (i := 138) (by decide +kernel))) (fun j hj => match j, hj with
    | 0, _ => hs _ (List.mem_of_getElem? (i := 139) (by decide +kernel))
    | 1, _ => hs _ (List.mem_of_getElem? (i := 140) (by decide +kernel))
    | 2, _ => hs _ (List.mem_of_getElem? (i := 141) (by decide +kernel))
    | j + 3, hj => absurd hj (by omega)) hA
theorem Y_w2 {s : State} {b : Nat} {A : Nat → Prop} (hs : ∀ w ∈ Y_nar, w.before #[Value.ref b] s = true) (hA : ∀ a : Nat, a < s.heap.size → ¬ A a) : ∃ q : Nat × Nat, (Term.string "BusLifts$SetupReader" 88).eval #[Value.ref b] s none [] s = some (.ref q.1) ∧ Y_str "BusLifts$SetupReader" 88 4 [99, 97, 108, 108] A s q :=
  Y_strOf (by decide) (hs _ (List.mem_of_getElem? (i := 142) (by decide +kernel))) (hs _ (List.mem_of_getElem? (i := 143) (by decide +kernel))) (hs _ (List.mem_of_getElem? (i := 144) (by decide +kernel))) (hs _ (List.mem_of_getElem? (i := 145) (by decide +kernel))) (fun j hj => match j, hj with
    | 0, _ => hs _ (List.mem_of_getElem? (i := 146) (by decide +kernel))
    | 1, _ => hs _ (List.mem_of_getElem? (i := 147) (by decide +kernel))
    | 2, _ => hs _ (List.mem_of_getElem? (i := 148) (by decide +kernel))
    | 3, _ => hs _ (List.mem_of_getElem? (i := 149) (by decide +kernel))
    | j + 4, hj => absurd hj (by omega)) hA
theorem Y_w3 {s : State} {b : Nat} {A : Nat → Prop} (hs : ∀ w ∈ Y_nar, w.before #[Value.ref b] s = true) (hA : ∀ a : Nat, a < s.heap.size → ¬ A a) : ∃ q : Nat × Nat, (Term.string "BusLifts$SetupReader" 126).eval #[Value.ref b] s none [] s = some (.ref q.1) ∧ Y_str "BusLifts$SetupReader" 126 5 [110, 111, 105, 115, 101] A s q :=
  Y_strOf (by decide) (hs _ (List.mem_of_getElem? (i := 150) (by decide +kernel))) (hs _ (List.mem_of_getElem? (i := 151) (by decide +kernel))) (hs _ (List.mem_of_getElem? (i := 152) (by decide +kernel))) (hs _ (List.mem_of_getElem? (i := 153) (by decide +kernel))) (fun j hj => match j, hj with
    | 0, _ => hs _ (List.mem_of_getElem? (i := 154) (by decide +kernel))
    | 1, _ => hs _ (List.mem_of_getElem? (i := 155) (by decide +kernel))
    | 2, _ => hs _ (List.mem_of_getElem? (i := 156) (by decide +kernel))
    | 3, _ => hs _ (List.mem_of_getElem? (i := 157) (by decide +kernel))
    | 4, _ => hs _ (List.mem_of_getElem? (i := 158) (by decide +kernel))
    | j + 5, hj => absurd hj (by omega)) hA
theorem Y_w4 {s : State} {b : Nat} {A : Nat → Prop} (hs : ∀ w ∈ Y_nar, w.before #[Value.ref b] s = true) (hA : ∀ a : Nat, a < s.heap.size → ¬ A a) : ∃ q : Nat × Nat, (Term.string "BusLifts$SetupReader" 128).eval #[Value.ref b] s none [] s = some (.ref q.1) ∧ Y_str "BusLifts$SetupReader" 128 8 [112, 97, 116, 105, 101, 110, 99, 101] A s q :=
  Y_strOf (by decide) (hs _ (List.mem_of_getElem? (i := 159) (by decide +kernel))) (hs _ (List.mem_of_getElem? (i := 160) (by decide +kernel))) (hs _ (List.mem_of_getElem? (i := 161) (by decide +kernel))) (hs _ (List.mem_of_getElem? (i := 162) (by decide +kernel))) (fun j hj => match j, hj with
    | 0, _ => hs _ (List.mem_of_getElem? (i := 163) (by decide +kernel))
    | 1, _ => hs _ (List.mem_of_getElem? (i := 164) (by decide +kernel))
    | 2, _ => hs _ (List.mem_of_getElem? (i := 165) (by decide +kernel))
    | 3, _ => hs _ (List.mem_of_getElem? (i := 166) (by decide +kernel))
    | 4, _ => hs _ (List.mem_of_getElem? (i := 167) (by decide +kernel))
    | 5, _ => hs _ (List.mem_of_getElem? (i := 168) (by decide +kernel))
    | 6, _ => hs _ (List.mem_of_getElem? (i := 169) (by decide +kernel))
    | 7, _ => hs _ (List.mem_of_getElem? (i := 170) (by decide +kernel))
    | j + 8, hj => absurd hj (by omega)) hA
theorem Y_w5 {s : State} {b : Nat} {A : Nat → Prop} (hs : ∀ w ∈ Y_nar, w.before #[Value.ref b] s = true) (hA : ∀ a : Nat, a < s.heap.size → ¬ A a) : ∃ q : Nat × Nat, (Term.string "BusLifts$SetupReader" 130).eval #[Value.ref b] s none [] s = some (.ref q.1) ∧ Y_str "BusLifts$SetupReader" 130 6 [119, 101, 105, 103, 104, 116] A s q :=
  Y_strOf (by decide) (hs _ (List.mem_of_getElem? (i := 171) (by decide +kernel))) (hs _ (List.mem_of_getElem? (i := 172) (by decide +kernel))) (hs _ (List.mem_of_getElem? (i := 173) (by decide +kernel))) (hs _ (List.mem_of_getElem? (i := 174) (by decide +kernel))) (fun j hj => match j, hj with
    | 0, _ => hs _ (List.mem_of_getElem? (i := 175) (by decide +kernel))
    | 1, _ => hs _ (List.mem_of_getElem? (i := 176) (by decide +kernel))
    | 2, _ => hs _ (List.mem_of_getElem? (i := 177) (by decide +kernel))
    | 3, _ => hs _ (List.mem_of_getElem? (i := 178) (by decide +kernel))
    | 4, _ => hs _ (List.mem_of_getElem? (i := 179) (by decide +kernel))
    | 5, _ => hs _ (List.mem_of_getElem? (i := 180) (by decide +kernel))
    | j + 6, hj => absurd hj (by omega)) hA
theorem Y_w6 {s : State} {b : Nat} {A : Nat → Prop} (hs : ∀ w ∈ Y_nar, w.before #[Value.ref b] s = true) (hA : ∀ a : Nat, a < s.heap.size → ¬ A a) : ∃ q : Nat × Nat, (Term.string "BusLifts$SetupReader" 132).eval #[Value.ref b] s none [] s = some (.ref q.1) ∧ Y_str "BusLifts$SetupReader" 132 4 [100, 111, 111, 114] A s q :=
  Y_strOf (by decide) (hs _ (List.mem_of_getElem? (i := 181) (by decide +kernel))) (hs _ (List.mem_of_getElem? (i := 182) (by decide +kernel))) (hs _ (List.mem_of_getElem? (i := 183) (by decide +kernel))) (hs _ (List.mem_of_getElem? (i := 184) (by decide +kernel))) (fun j hj => match j, hj with
    | 0, _ => hs _ (List.mem_of_getElem? (i := 185) (by decide +kernel))
    | 1, _ => hs _ (List.mem_of_getElem? (i := 186) (by decide +kernel))
    | 2, _ => hs _ (List.mem_of_getElem? (i := 187) (by decide +kernel))
    | 3, _ => hs _ (List.mem_of_getElem? (i := 188) (by decide +kernel))
    | j + 4, hj => absurd hj (by omega)) hA
theorem Y_w7 {s : State} {b : Nat} {A : Nat → Prop} (hs : ∀ w ∈ Y_nar, w.before #[Value.ref b] s = true) (hA : ∀ a : Nat, a < s.heap.size → ¬ A a) : ∃ q : Nat × Nat, (Term.string "BusLifts$SetupReader" 134).eval #[Value.ref b] s none [] s = some (.ref q.1) ∧ Y_str "BusLifts$SetupReader" 134 5 [98, 111, 117, 110, 100] A s q :=
  Y_strOf (by decide) (hs _ (List.mem_of_getElem? (i := 189) (by decide +kernel))) (hs _ (List.mem_of_getElem? (i := 190) (by decide +kernel))) (hs _ (List.mem_of_getElem? (i := 191) (by decide +kernel))) (hs _ (List.mem_of_getElem? (i := 192) (by decide +kernel))) (fun j hj => match j, hj with
    | 0, _ => hs _ (List.mem_of_getElem? (i := 193) (by decide +kernel))
    | 1, _ => hs _ (List.mem_of_getElem? (i := 194) (by decide +kernel))
    | 2, _ => hs _ (List.mem_of_getElem? (i := 195) (by decide +kernel))
    | 3, _ => hs _ (List.mem_of_getElem? (i := 196) (by decide +kernel))
    | 4, _ => hs _ (List.mem_of_getElem? (i := 197) (by decide +kernel))
    | j + 5, hj => absurd hj (by omega)) hA
theorem Y_w8 {s : State} {b : Nat} {A : Nat → Prop} (hs : ∀ w ∈ Y_nar, w.before #[Value.ref b] s = true) (hA : ∀ a : Nat, a < s.heap.size → ¬ A a) : ∃ q : Nat × Nat, (Term.string "BusLifts$SetupReader" 136).eval #[Value.ref b] s none [] s = some (.ref q.1) ∧ Y_str "BusLifts$SetupReader" 136 4 [115, 101, 101, 100] A s q :=
  Y_strOf (by decide) (hs _ (List.mem_of_getElem? (i := 198) (by decide +kernel))) (hs _ (List.mem_of_getElem? (i := 199) (by decide +kernel))) (hs _ (List.mem_of_getElem? (i := 200) (by decide +kernel))) (hs _ (List.mem_of_getElem? (i := 201) (by decide +kernel))) (fun j hj => match j, hj with
    | 0, _ => hs _ (List.mem_of_getElem? (i := 202) (by decide +kernel))
    | 1, _ => hs _ (List.mem_of_getElem? (i := 203) (by decide +kernel))
    | 2, _ => hs _ (List.mem_of_getElem? (i := 204) (by decide +kernel))
    | 3, _ => hs _ (List.mem_of_getElem? (i := 205) (by decide +kernel))
    | j + 4, hj => absurd hj (by omega)) hA
theorem Y_t0 {s : State} {b : Nat} {A : Nat → Prop} (hts : ∀ w ∈ lw_tbl, w.before #[Value.ref b] s = true) (hs : ∀ w ∈ Y_nar, w.before #[Value.ref b] s = true) (hA : ∀ a : Nat, a < s.heap.size → ¬ A a) : ∃ t : Nat, va_Z RX7 "LEAST_SETTING" "[I" (.ref t) A s s.heap ∧ va_T .int t 5 (fun j => .int (([0, 3, 0, 0, 1] : List Int32).getD j 0)) A s s.heap := by
  obtain ⟨t, ht, hT⟩ := va_Tof (args := #[Value.ref b]) (s := s) (tm := (Term.static "BusLifts" "LEAST_SETTING" "[I")) (ty := .int) (N := 5) (f := fun j => .int (([0, 3, 0, 0, 1] : List Int32).getD j 0)) (A := A) (by decide) (hs _ (List.mem_of_getElem? (i := 18) (by decide +kernel))) (va_eqt (hs _ (List.mem_of_getElem? (i := 19) (by decide +kernel)))) (fun j hj => match j, hj with
    | 0, _ => va_eqt (hs _ (List.mem_of_getElem? (i := 20) (by decide +kernel)))
    | 1, _ => va_eqt (hs _ (List.mem_of_getElem? (i := 21) (by decide +kernel)))
    | 2, _ => va_eqt (hs _ (List.mem_of_getElem? (i := 22) (by decide +kernel)))
    | 3, _ => va_eqt (hs _ (List.mem_of_getElem? (i := 23) (by decide +kernel)))
    | 4, _ => va_eqt (hs _ (List.mem_of_getElem? (i := 24) (by decide +kernel)))
    | j + 5, hj => absurd hj (by omega)) hA
  exact ⟨t, va_Zof (hts _ (tb_3 (List.mem_of_getElem? (i := 83) (by decide +kernel)))) (hts _ (tb_1 (List.mem_of_getElem? (i := 1) (by decide +kernel)))) ht hA, hT⟩
theorem Y_t1 {s : State} {b : Nat} {A : Nat → Prop} (hts : ∀ w ∈ lw_tbl, w.before #[Value.ref b] s = true) (hs : ∀ w ∈ Y_nar, w.before #[Value.ref b] s = true) (hA : ∀ a : Nat, a < s.heap.size → ¬ A a) : ∃ t : Nat, va_Z RX7 "MOST_SETTING" "[I" (.ref t) A s s.heap ∧ va_T .int t 5 (fun j => .int (([90, 50, 20, 5, 999] : List Int32).getD j 0)) A s s.heap := by
  obtain ⟨t, ht, hT⟩ := va_Tof (args := #[Value.ref b]) (s := s) (tm := (Term.static "BusLifts" "MOST_SETTING" "[I")) (ty := .int) (N := 5) (f := fun j => .int (([90, 50, 20, 5, 999] : List Int32).getD j 0)) (A := A) (by decide) (hs _ (List.mem_of_getElem? (i := 26) (by decide +kernel))) (va_eqt (hs _ (List.mem_of_getElem? (i := 27) (by decide +kernel)))) (fun j hj => match j, hj with
    | 0, _ => va_eqt (hs _ (List.mem_of_getElem? (i := 28) (by decide +kernel)))
    | 1, _ => va_eqt (hs _ (List.mem_of_getElem? (i := 29) (by decide +kernel)))
    | 2, _ => va_eqt (hs _ (List.mem_of_getElem? (i := 30) (by decide +kernel)))
    | 3, _ => va_eqt (hs _ (List.mem_of_getElem? (i := 31) (by decide +kernel)))
    | 4, _ => va_eqt (hs _ (List.mem_of_getElem? (i := 32) (by decide +kernel)))
    | j + 5, hj => absurd hj (by omega)) hA
  exact ⟨t, va_Zof (hts _ (tb_3 (List.mem_of_getElem? (i := 85) (by decide +kernel)))) (hts _ (tb_1 (List.mem_of_getElem? (i := 1) (by decide +kernel)))) ht hA, hT⟩
theorem Y_t2 {s : State} {b : Nat} {A : Nat → Prop} (hts : ∀ w ∈ lw_tbl, w.before #[Value.ref b] s = true) (hs : ∀ w ∈ Y_nar, w.before #[Value.ref b] s = true) (hA : ∀ a : Nat, a < s.heap.size → ¬ A a) : ∃ t : Nat, va_Z RX7 "FIRST_SETTING" "[I" (.ref t) A s s.heap ∧ va_T .int t 5 (fun j => .int (([0, 6, 2, 1, 30] : List Int32).getD j 0)) A s s.heap := by
  obtain ⟨t, ht, hT⟩ := va_Tof (args := #[Value.ref b]) (s := s) (tm := (Term.static "BusLifts" "FIRST_SETTING" "[I")) (ty := .int) (N := 5) (f := fun j => .int (([0, 6, 2, 1, 30] : List Int32).getD j 0)) (A := A) (by decide) (hs _ (List.mem_of_getElem? (i := 5) (by decide +kernel))) (va_eqt (hs _ (List.mem_of_getElem? (i := 6) (by decide +kernel)))) (fun j hj => match j, hj with
    | 0, _ => va_eqt (hs _ (List.mem_of_getElem? (i := 7) (by decide +kernel)))
    | 1, _ => va_eqt (hs _ (List.mem_of_getElem? (i := 8) (by decide +kernel)))
    | 2, _ => va_eqt (hs _ (List.mem_of_getElem? (i := 9) (by decide +kernel)))
    | 3, _ => va_eqt (hs _ (List.mem_of_getElem? (i := 10) (by decide +kernel)))
    | 4, _ => va_eqt (hs _ (List.mem_of_getElem? (i := 11) (by decide +kernel)))
    | j + 5, hj => absurd hj (by omega)) hA
  exact ⟨t, va_Zof (hts _ (tb_2 (List.mem_of_getElem? (i := 108) (by decide +kernel)))) (hts _ (tb_1 (List.mem_of_getElem? (i := 1) (by decide +kernel)))) ht hA, hT⟩
theorem Y_x30 {s : State} {b : Nat} (hts : ∀ w ∈ lw_tbl, w.before #[Value.ref b] s = true) (hs : ∀ w ∈ Y_nar, w.before #[Value.ref b] s = true) : ∃ a : Nat, vk_R "BusLifts" 119 "out of range" a s := by
  obtain ⟨a, c, cA, kA, q1, -⟩ := Cond.exactly_spec (args := #[Value.ref b]) (first := s) (o := none) (s := s) (idx := []) (t := Term.string "BusLifts" 119) (cls := "java/lang/String") (hs _ (List.mem_of_getElem? (i := 206) (by decide +kernel)))
  exact ⟨a, vk_R.of (hts _ (tb_4 (List.mem_of_getElem? (i := 21) (by decide +kernel)))) q1⟩
theorem Y_x31 {s : State} {b : Nat} (hts : ∀ w ∈ lw_tbl, w.before #[Value.ref b] s = true) (hs : ∀ w ∈ Y_nar, w.before #[Value.ref b] s = true) : ∃ a : Nat, vk_R "BusLifts" 92 "no such car" a s := by
  obtain ⟨a, c, cA, kA, q1, -⟩ := Cond.exactly_spec (args := #[Value.ref b]) (first := s) (o := none) (s := s) (idx := []) (t := Term.string "BusLifts" 92) (cls := "java/lang/String") (hs _ (List.mem_of_getElem? (i := 222) (by decide +kernel)))
  exact ⟨a, vk_R.of (hts _ (tb_4 (List.mem_of_getElem? (i := 68) (by decide +kernel)))) q1⟩
theorem Y_x32 {s : State} {b : Nat} (hts : ∀ w ∈ lw_tbl, w.before #[Value.ref b] s = true) (hs : ∀ w ∈ Y_nar, w.before #[Value.ref b] s = true) : ∃ a : Nat, vk_R "BusLifts" 100 "no such call" a s := by
  obtain ⟨a, c, cA, kA, q1, -⟩ := Cond.exactly_spec (args := #[Value.ref b]) (first := s) (o := none) (s := s) (idx := []) (t := Term.string "BusLifts" 100) (cls := "java/lang/String") (hs _ (List.mem_of_getElem? (i := 237) (by decide +kernel)))
  exact ⟨a, vk_R.of (hts _ (tb_4 (List.mem_of_getElem? (i := 92) (by decide +kernel)))) q1⟩
theorem Y_x33 {s : State} {b : Nat} (hts : ∀ w ∈ lw_tbl, w.before #[Value.ref b] s = true) (hs : ∀ w ∈ Y_nar, w.before #[Value.ref b] s = true) : ∃ a : Nat, vk_R "BusLifts" 252 "no such index" a s := by
  obtain ⟨a, c, cA, kA, q1, -⟩ := Cond.exactly_spec (args := #[Value.ref b]) (first := s) (o := none) (s := s) (idx := []) (t := Term.string "BusLifts" 252) (cls := "java/lang/String") (hs _ (List.mem_of_getElem? (i := 253) (by decide +kernel)))
  exact ⟨a, vk_R.of (hts _ (tb_4 (List.mem_of_getElem? (i := 170) (by decide +kernel)))) q1⟩
theorem Y_x34 {s : State} {b : Nat} (hts : ∀ w ∈ lw_tbl, w.before #[Value.ref b] s = true) (hs : ∀ w ∈ Y_nar, w.before #[Value.ref b] s = true) : ∃ a : Nat, vk_R "BusLifts" 107 "no such floor" a s := by
  obtain ⟨a, c, cA, kA, q1, -⟩ := Cond.exactly_spec (args := #[Value.ref b]) (first := s) (o := none) (s := s) (idx := []) (t := Term.string "BusLifts" 107) (cls := "java/lang/String") (hs _ (List.mem_of_getElem? (i := 270) (by decide +kernel)))
  exact ⟨a, vk_R.of (hts _ (tb_5 (List.mem_of_getElem? (i := 4) (by decide +kernel)))) q1⟩
theorem Y_x35 {s : State} {b : Nat} (hts : ∀ w ∈ lw_tbl, w.before #[Value.ref b] s = true) (hs : ∀ w ∈ Y_nar, w.before #[Value.ref b] s = true) : ∃ a : Nat, vk_R "BusLifts" 113 "the same floor twice" a s := by
  obtain ⟨a, c, cA, kA, q1, -⟩ := Cond.exactly_spec (args := #[Value.ref b]) (first := s) (o := none) (s := s) (idx := []) (t := Term.string "BusLifts" 113) (cls := "java/lang/String") (hs _ (List.mem_of_getElem? (i := 287) (by decide +kernel)))
  exact ⟨a, vk_R.of (hts _ (tb_5 (List.mem_of_getElem? (i := 5) (by decide +kernel)))) q1⟩
theorem Y_x36 {s : State} {b : Nat} (hts : ∀ w ∈ lw_tbl, w.before #[Value.ref b] s = true) (hs : ∀ w ∈ Y_nar, w.before #[Value.ref b] s = true) : ∃ a : Nat, vk_R "BusLifts" 302 "too many calls" a s := by
  obtain ⟨a, c, cA, kA, q1, -⟩ := Cond.exactly_spec (args := #[Value.ref b]) (first := s) (o := none) (s := s) (idx := []) (t := Term.string "BusLifts" 302) (cls := "java/lang/String") (hs _ (List.mem_of_getElem? (i := 311) (by decide +kernel)))
  exact ⟨a, vk_R.of (hts _ (tb_5 (List.mem_of_getElem? (i := 15) (by decide +kernel)))) q1⟩
theorem Y_x37 {s : State} {b : Nat} (hts : ∀ w ∈ lw_tbl, w.before #[Value.ref b] s = true) (hs : ∀ w ∈ Y_nar, w.before #[Value.ref b] s = true) : ∃ a : Nat, vk_R "BusLifts" 328 "the car does not hold the call" a s := by
  obtain ⟨a, c, cA, kA, q1, -⟩ := Cond.exactly_spec (args := #[Value.ref b]) (first := s) (o := none) (s := s) (idx := []) (t := Term.string "BusLifts" 328) (cls := "java/lang/String") (hs _ (List.mem_of_getElem? (i := 329) (by decide +kernel)))
  exact ⟨a, vk_R.of (hts _ (tb_5 (List.mem_of_getElem? (i := 196) (by decide +kernel)))) q1⟩
theorem Y_x38 {s : State} {b : Nat} (hts : ∀ w ∈ lw_tbl, w.before #[Value.ref b] s = true) (hs : ∀ w ∈ Y_nar, w.before #[Value.ref b] s = true) : ∃ a : Nat, vk_R "BusLifts" 336 "no state is saved" a s := by
  obtain ⟨a, c, cA, kA, q1, -⟩ := Cond.exactly_spec (args := #[Value.ref b]) (first := s) (o := none) (s := s) (idx := []) (t := Term.string "BusLifts" 336) (cls := "java/lang/String") (hs _ (List.mem_of_getElem? (i := 363) (by decide +kernel)))
  exact ⟨a, vk_R.of (hts _ (tb_6 (List.mem_of_getElem? (i := 103) (by decide +kernel)))) q1⟩
theorem Y_nest {s : State} {b : Nat} (hts : ∀ w ∈ lw_tbl, w.before #[Value.ref b] s = true) : ∀ w ∈ z_nest, va_Nw w s := by
  have h : ∀ w ∈ z_nest, w ∈ lw_tbl := by decide +kernel
  intro w hw
  have ho : w.onTables = true := by
    have hw2 := hw
    simp only [z_nest, List.mem_cons, List.not_mem_nil, or_false] at hw2
    rcases hw2 with rfl | rfl | rfl | rfl | rfl | rfl | rfl | rfl | rfl | rfl | rfl | rfl | rfl | rfl | rfl | rfl | rfl | rfl | rfl <;> rfl
  exact va_Nw.of ho (hts _ (h w hw))
theorem Y_ncs {s : State} {b : Nat} (hs : ∀ w ∈ Y_nar, w.before #[Value.ref b] s = true) : ∀ q ∈ z_ncs, va_Nc q.1 q.2 s := by
  intro q hq
  simp only [z_ncs, List.mem_cons, List.not_mem_nil, or_false] at hq
  rcases hq with rfl | rfl | rfl | rfl
  · exact va_Nc.of (hs _ (List.mem_of_getElem? (i := 56) (by decide +kernel)))
  · exact va_Nc.of (hs _ (List.mem_of_getElem? (i := 57) (by decide +kernel)))
  · exact va_Nc.of (hs _ (List.mem_of_getElem? (i := 58) (by decide +kernel)))
  · exact va_Nc.of (hs _ (List.mem_of_getElem? (i := 46) (by decide +kernel)))
def Y_misc (t0 t1 t2 : Nat) (q0 q1 q2 q3 q4 q5 q6 q7 q8 : Nat × Nat) (x30 x31 x32 x33 x34 x35 x36 x37 x38 : Nat) : Nat → Nat := fun n => match n with
  | 0 => t0
  | 1 => t1
  | 2 => t2
  | 10 => q0.1
  | 11 => q1.1
  | 12 => q2.1
  | 13 => q3.1
  | 14 => q4.1
  | 15 => q5.1
  | 16 => q6.1
  | 17 => q7.1
  | 18 => q8.1
  | 20 => q0.2
  | 21 => q1.2
  | 22 => q2.2
  | 23 => q3.2
  | 24 => q4.2
  | 25 => q5.2
  | 26 => q6.2
  | 27 => q7.2
  | 28 => q8.2
  | 30 => x30
  | 31 => x31
  | 32 => x32
  | 33 => x33
  | 34 => x34
  | 35 => x35
  | 36 => x36
  | 37 => x37
  | 38 => x38
  | _ => 0
set_option maxHeartbeats 4000000 in
set_option maxRecDepth 100000 in
theorem Y_F0 {s : State} {b : Nat} (hts : ∀ w ∈ lw_tbl, w.before #[Value.ref b] s = true) (hs : ∀ w ∈ Y_nar, w.before #[Value.ref b] s = true) (D : va_G × (Nat → ClassId)) : ∃ mi : Nat → Nat, z_F (D.1, D.2, s.heap, mi) s := by
  have hA : ∀ a : Nat, a < s.heap.size → ¬ (s.heap.size ≤ a) := fun a h => Nat.not_le.mpr h
  obtain ⟨t0, hz0, ht0⟩ := Y_t0 hts hs hA
  obtain ⟨t1, hz1, ht1⟩ := Y_t1 hts hs hA
  obtain ⟨t2, hz2, ht2⟩ := Y_t2 hts hs hA
  obtain ⟨q0, e0, h0⟩ := Y_w0 hs hA
  obtain ⟨q1, e1, h1⟩ := Y_w1 hs hA
  obtain ⟨q2, e2, h2⟩ := Y_w2 hs hA
  obtain ⟨q3, e3, h3⟩ := Y_w3 hs hA
  obtain ⟨q4, e4, h4⟩ := Y_w4 hs hA
  obtain ⟨q5, e5, h5⟩ := Y_w5 hs hA
  obtain ⟨q6, e6, h6⟩ := Y_w6 hs hA
  obtain ⟨q7, e7, h7⟩ := Y_w7 hs hA
  obtain ⟨q8, e8, h8⟩ := Y_w8 hs hA
  obtain ⟨x30, hx30⟩ := Y_x30 hts hs
  obtain ⟨x31, hx31⟩ := Y_x31 hts hs
  obtain ⟨x32, hx32⟩ := Y_x32 hts hs
  obtain ⟨x33, hx33⟩ := Y_x33 hts hs
  obtain ⟨x34, hx34⟩ := Y_x34 hts hs
  obtain ⟨x35, hx35⟩ := Y_x35 hts hs
  obtain ⟨x36, hx36⟩ := Y_x36 hts hs
  obtain ⟨x37, hx37⟩ := Y_x37 hts hs
  obtain ⟨x38, hx38⟩ := Y_x38 hts hs
  refine ⟨Y_misc t0 t1 t2 q0 q1 q2 q3 q4 q5 q6 q7 q8 x30 x31 x32 x33 x34 x35 x36 x37 x38, ?_, ⟨?_, ?_⟩, ?_, Y_nest hts, ?_, ?_, ?_, ?_, Y_ncs hs⟩
  · intro q hq
    simp only [z_tabs, List.mem_cons, List.not_mem_nil, or_false] at hq
    rcases hq with rfl | rfl | rfl
    · exact ⟨hz0, ht0⟩
    · exact ⟨hz1, ht1⟩
    · exact ⟨hz2, ht2⟩
  · intro i hi
    match i, hi with
    | 0, _ => exact h0
    | 1, _ => exact h1
    | 2, _ => exact h2
    | 3, _ => exact h3
    | 4, _ => exact h4
    | 5, _ => exact h5
    | 6, _ => exact h6
    | 7, _ => exact h7
    | 8, _ => exact h8
    | i + 9, hi => exact absurd hi (by omega)
  · have key : ∀ i : Nat, i < 9 → ∃ (own : String) (k : Nat), 0 < z_lens.getD i 0 ∧ Y_str own k (z_lens.getD i 0) (z_byts.getD i []) (fun q => s.heap.size ≤ q) s (Y_misc t0 t1 t2 q0 q1 q2 q3 q4 q5 q6 q7 q8 x30 x31 x32 x33 x34 x35 x36 x37 x38 (10 + i), Y_misc t0 t1 t2 q0 q1 q2 q3 q4 q5 q6 q7 q8 x30 x31 x32 x33 x34 x35 x36 x37 x38 (20 + i)) := by
      intro i hi
      match i, hi with
      | 0, _ => exact ⟨_, _, by decide, h0⟩
      | 1, _ => exact ⟨_, _, by decide, h1⟩
      | 2, _ => exact ⟨_, _, by decide, h2⟩
      | 3, _ => exact ⟨_, _, by decide, h3⟩
      | 4, _ => exact ⟨_, _, by decide, h4⟩
      | 5, _ => exact ⟨_, _, by decide, h5⟩
      | 6, _ => exact ⟨_, _, by decide, h6⟩
      | 7, _ => exact ⟨_, _, by decide, h7⟩
      | 8, _ => exact ⟨_, _, by decide, h8⟩
      | i + 9, hi => exact absurd hi (by omega)
    intro i j hi hj he
    obtain ⟨o1, k1, n1, g1⟩ := key i hi
    obtain ⟨o2, k2, n2, g2⟩ := key j hj
    have hq := Y_strSame g1 g2 he n1 n2
    have hd : ∀ i, i < 9 → ∀ j, j < 9 → Int32.ofNat (z_lens.getD i 0) = Int32.ofNat (z_lens.getD j 0) → (z_byts.getD i []).getD 0 0 = (z_byts.getD j []).getD 0 0 → i = j := by decide +kernel
    exact hd i hi j hj hq.1 hq.2
  · intro q hq
    simp only [z_txts, List.mem_cons, List.not_mem_nil, or_false] at hq
    rcases hq with rfl | rfl | rfl | rfl | rfl | rfl | rfl | rfl | rfl | rfl | rfl | rfl | rfl | rfl | rfl | rfl | rfl | rfl | rfl | rfl | rfl | rfl | rfl | rfl | rfl | rfl | rfl
    · exact vk_R.of (hts _ (tb_2 (List.mem_of_getElem? (i := 219) (by decide +kernel)))) e0
    · exact vk_R.of (hts _ (tb_3 (List.mem_of_getElem? (i := 49) (by decide +kernel)))) e1
    · exact vk_R.of (hts _ (tb_3 (List.mem_of_getElem? (i := 55) (by decide +kernel)))) e2
    · exact vk_R.of (hts _ (tb_3 (List.mem_of_getElem? (i := 72) (by decide +kernel)))) e3
    · exact vk_R.of (hts _ (tb_3 (List.mem_of_getElem? (i := 73) (by decide +kernel)))) e4
    · exact vk_R.of (hts _ (tb_3 (List.mem_of_getElem? (i := 74) (by decide +kernel)))) e5
    · exact vk_R.of (hts _ (tb_3 (List.mem_of_getElem? (i := 75) (by decide +kernel)))) e6
    · exact vk_R.of (hts _ (tb_3 (List.mem_of_getElem? (i := 76) (by decide +kernel)))) e7
    · exact vk_R.of (hts _ (tb_3 (List.mem_of_getElem? (i := 77) (by decide +kernel)))) e8
    · exact hx30
    · exact hx31
    · exact hx32
    · exact hx33
    · exact hx34
    · exact hx35
    · exact hx36
    · exact hx37
    · exact hx38
    · exact vk_R.of (hts _ (tb_6 (List.mem_of_getElem? (i := 230) (by decide +kernel)))) (va_eqR (hs _ (List.mem_of_getElem? (i := 394) (by decide +kernel))) e0)
    · exact vk_R.of (hts _ (tb_7 (List.mem_of_getElem? (i := 9) (by decide +kernel)))) (va_eqR (hs _ (List.mem_of_getElem? (i := 402) (by decide +kernel))) e1)
    · exact vk_R.of (hts _ (tb_7 (List.mem_of_getElem? (i := 18) (by decide +kernel)))) (va_eqR (hs _ (List.mem_of_getElem? (i := 411) (by decide +kernel))) e2)
    · exact vk_R.of (hts _ (tb_7 (List.mem_of_getElem? (i := 34) (by decide +kernel)))) (va_eqR (hs _ (List.mem_of_getElem? (i := 421) (by decide +kernel))) e3)
    · exact vk_R.of (hts _ (tb_7 (List.mem_of_getElem? (i := 39) (by decide +kernel)))) (va_eqR (hs _ (List.mem_of_getElem? (i := 430) (by decide +kernel))) e8)
    · exact vk_R.of (hts _ (tb_7 (List.mem_of_getElem? (i := 40) (by decide +kernel)))) (va_eqR (hs _ (List.mem_of_getElem? (i := 443) (by decide +kernel))) e4)
    · exact vk_R.of (hts _ (tb_7 (List.mem_of_getElem? (i := 41) (by decide +kernel)))) (va_eqR (hs _ (List.mem_of_getElem? (i := 454) (by decide +kernel))) e5)
    · exact vk_R.of (hts _ (tb_7 (List.mem_of_getElem? (i := 42) (by decide +kernel)))) (va_eqR (hs _ (List.mem_of_getElem? (i := 463) (by decide +kernel))) e6)
    · exact vk_R.of (hts _ (tb_7 (List.mem_of_getElem? (i := 43) (by decide +kernel)))) (va_eqR (hs _ (List.mem_of_getElem? (i := 473) (by decide +kernel))) e7)
  · exact vx_Zqof (hts _ (tb_4 (List.mem_of_getElem? (i := 6) (by decide +kernel)))) (hts _ (tb_1 (List.mem_of_getElem? (i := 16) (by decide +kernel)))) (hs _ (List.mem_of_getElem? (i := 33) (by decide +kernel))) hA
  · exact vx_Zqof (hts _ (tb_4 (List.mem_of_getElem? (i := 8) (by decide +kernel)))) (hts _ (tb_1 (List.mem_of_getElem? (i := 16) (by decide +kernel)))) (hs _ (List.mem_of_getElem? (i := 34) (by decide +kernel))) hA
  · exact va_Zof (hts _ (tb_2 (List.mem_of_getElem? (i := 233) (by decide +kernel)))) (hts _ (tb_1 (List.mem_of_getElem? (i := 12) (by decide +kernel)))) (va_eqi (hs _ (List.mem_of_getElem? (i := 12) (by decide +kernel)))) hA
  · exact va_Zqof (hts _ (tb_3 (List.mem_of_getElem? (i := 9) (by decide +kernel)))) (hts _ (tb_1 (List.mem_of_getElem? (i := 14) (by decide +kernel)))) (hs _ (List.mem_of_getElem? (i := 13) (by decide +kernel))) hA
set_option maxHeartbeats 4000000 in
set_option maxRecDepth 100000 in
theorem Y_K0 {s : State} {b : Nat} (hts : ∀ w ∈ lw_tbl, w.before #[Value.ref b] s = true) (hs : ∀ w ∈ Y_nar, w.before #[Value.ref b] s = true) : ∃ G : Gx, G.2.2.1 = s.heap ∧ z_K G s := by
  have ht : ∀ w ∈ TT, w.before #[Value.ref b] s = true := fun w hw => hts w (List.mem_filter.mp hw).1
  obtain ⟨c0, i0, k0⟩ := u_known (N := 1) (T := TX0) (C := RX0) ht cf_0.2.1 (ht _ tw_2_56)
  obtain ⟨c1, i1, k1⟩ := u_known (N := 11) (T := TX1) (C := RX1) ht cf_1.2.1 (ht _ tw_1_146)
  obtain ⟨c2, i2, k2⟩ := u_known (N := 14) (T := TX2) (C := RX2) ht cf_2.2.1 (ht _ tw_1_72)
  obtain ⟨c3, i3, k3⟩ := u_known (N := 3) (T := TX3) (C := RX3) ht cf_3.2.1 (ht _ tw_2_36)
  obtain ⟨c4, i4, k4⟩ := u_known (N := 12) (T := TX4) (C := RX4) ht cf_4.2.1 (ht _ tw_1_33)
  obtain ⟨c5, i5, k5⟩ := u_known (N := 5) (T := TX5) (C := RX5) ht cf_5.2.1 (ht _ tw_1_43)
  obtain ⟨c6, i6, k6⟩ := u_known (N := 9) (T := TX6) (C := RX6) ht cf_6.2.1 (ht _ tw_2_68)
  obtain ⟨c7, i7, k7⟩ := u_known (N := 13) (T := TX7) (C := RX7) ht cf_7.2.1 (ht _ tw_1_25)
  obtain ⟨c8, i8, k8⟩ := u_known (N := 23) (T := TX8) (C := RX8) ht cf_8.2.1 (ht _ tw_6_105)
  obtain ⟨a0, ka0, comp0, f0, g0, d0⟩ := Cond.arrayClass_spec (ht _ tw_1_71)
  obtain ⟨m1, a1, ka1, r11, r12, r13, r14, r15⟩ := Cond.arrayOver_spec (hts (Cond.arrayOver (FieldType.object "BusLifts$Car")) (tb_1 (List.mem_of_getElem? (i := 39) (by decide +kernel))))
  obtain ⟨m2, a2, ka2, r21, r22, r23, r24, r25⟩ := Cond.arrayOver_spec (hts (Cond.arrayOver (FieldType.object "BusLifts$Call")) (tb_1 (List.mem_of_getElem? (i := 41) (by decide +kernel))))
  obtain ⟨m3, a3, ka3, r31, r32, r33, r34, r35⟩ := Cond.arrayOver_spec (hts (Cond.arrayOver (FieldType.object "BusLifts$Lifts")) (tb_2 (List.mem_of_getElem? (i := 42) (by decide +kernel))))
  obtain ⟨mi, hF⟩ := Y_F0 hts hs ((fun n => match n with | 0 => c0 | 1 => c1 | 2 => c2 | 3 => c3 | 4 => c4 | 5 => c5 | 6 => c6 | 7 => c7 | _ => c8, fun n => match n with | 0 => i0 | 1 => i1 | 2 => i2 | 3 => i3 | 4 => i4 | 5 => i5 | 6 => i6 | 7 => i7 | _ => i8), fun n => match n with | 0 => a0 | 1 => a1 | 2 => a2 | _ => a3)
  refine ⟨_, rfl, ⟨fun c q hc => ?_, fun k q hk => ?_⟩, hF⟩
  · match c, hc with
    | 0, hc => cases hc; exact k0
    | 1, hc => cases hc; exact k1
    | 2, hc => cases hc; exact k2
    | 3, hc => cases hc; exact k3
    | 4, hc => cases hc; exact k4
    | 5, hc => cases hc; exact k5
    | 6, hc => cases hc; exact k6
    | 7, hc => cases hc; exact k7
    | 8, hc => cases hc; exact k8
    | c + 9, hc => exact nomatch hc
  · match k, hk with
    | 0, hk => cases hk; exact ⟨fun n z => ⟨(fun k h => by cases h), ka0, g0, comp0, d0⟩, f0⟩
    | 1, hk => cases hk; exact ⟨fun n z => ⟨(fun k h => by cases h), ka1, r13, m1, r14⟩, ka1, m1, r13, r14, r11, r15⟩
    | 2, hk => cases hk; exact ⟨fun n z => ⟨(fun k h => by cases h), ka2, r23, m2, r24⟩, ka2, m2, r23, r24, r21, r25⟩
    | 3, hk => cases hk; exact ⟨fun n z => ⟨(fun k h => by cases h), ka3, r33, m3, r34⟩, ka3, m3, r33, r34, r31, r35⟩
    | k + 4, hk => exact nomatch hk
