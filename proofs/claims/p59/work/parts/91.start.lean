/-! the start: what the tables and the Statement give of the machine -/
def Y_nar : List Cond := flatC (Cond.and given_1 narrow_1)
theorem Y_trace {l : Launch} (h : l.flags = flags0) : l.stackTraces = false := by
  unfold Launch.stackTraces
  rw [h]
  decide +kernel
theorem tb_1 {w : Cond} (h : w ∈ tables_1_1) : w ∈ lw_tbl := tt_tbl (show w ∈ tables_1_1 ++ (tables_1_2 ++ (tables_1_3 ++ (tables_1_4 ++ (tables_1_5 ++ (tables_1_6 ++ tables_1_7))))) from List.mem_append_left _ h)
theorem tb_2 {w : Cond} (h : w ∈ tables_1_2) : w ∈ lw_tbl := tt_tbl (show w ∈ tables_1_1 ++ (tables_1_2 ++ (tables_1_3 ++ (tables_1_4 ++ (tables_1_5 ++ (tables_1_6 ++ tables_1_7))))) from List.mem_append_right _ (List.mem_append_left _ h))
theorem tb_3 {w : Cond} (h : w ∈ tables_1_3) : w ∈ lw_tbl := tt_tbl (show w ∈ tables_1_1 ++ (tables_1_2 ++ (tables_1_3 ++ (tables_1_4 ++ (tables_1_5 ++ (tables_1_6 ++ tables_1_7))))) from List.mem_append_right _ (List.mem_append_right _ (List.mem_append_left _ h)))
theorem tb_4 {w : Cond} (h : w ∈ tables_1_4) : w ∈ lw_tbl := tt_tbl (show w ∈ tables_1_1 ++ (tables_1_2 ++ (tables_1_3 ++ (tables_1_4 ++ (tables_1_5 ++ (tables_1_6 ++ tables_1_7))))) from List.mem_append_right _ (List.mem_append_right _ (List.mem_append_right _ (List.mem_append_left _ h))))
theorem tb_5 {w : Cond} (h : w ∈ tables_1_5) : w ∈ lw_tbl := tt_tbl (show w ∈ tables_1_1 ++ (tables_1_2 ++ (tables_1_3 ++ (tables_1_4 ++ (tables_1_5 ++ (tables_1_6 ++ tables_1_7))))) from List.mem_append_right _ (List.mem_append_right _ (List.mem_append_right _ (List.mem_append_right _ (List.mem_append_left _ h)))))
theorem tb_6 {w : Cond} (h : w ∈ tables_1_6) : w ∈ lw_tbl := tt_tbl (show w ∈ tables_1_1 ++ (tables_1_2 ++ (tables_1_3 ++ (tables_1_4 ++ (tables_1_5 ++ (tables_1_6 ++ tables_1_7))))) from List.mem_append_right _ (List.mem_append_right _ (List.mem_append_right _ (List.mem_append_right _ (List.mem_append_right _ (List.mem_append_left _ h))))))
theorem tb_7 {w : Cond} (h : w ∈ tables_1_7) : w ∈ lw_tbl := tt_tbl (show w ∈ tables_1_1 ++ (tables_1_2 ++ (tables_1_3 ++ (tables_1_4 ++ (tables_1_5 ++ (tables_1_6 ++ tables_1_7))))) from List.mem_append_right _ (List.mem_append_right _ (List.mem_append_right _ (List.mem_append_right _ (List.mem_append_right _ (List.mem_append_right _ (h)))))))
def Y_str (own : String) (k n : Nat) (bs : List Int32) (A : Nat → Prop) (s : State) (q : Nat × Nat) : Prop := va_O "java/lang/String" q.1 A s s.heap ∧ va_OF "java/lang/String" "coder" "B" (.int 0) q.1 A s s.heap ∧ va_OF "java/lang/String" "value" "[B" (.ref q.2) q.1 A s s.heap ∧ va_T .byte q.2 n (fun j => .int (bs.getD j 0)) A s s.heap
theorem Y_strOf {args : Array Value} {s : State} {own : String} {k n : Nat} {bs : List Int32} {A : Nat → Prop} (hN : n < 2 ^ 31) (hex : (Cond.exactly (.string own k) "java/lang/String").before args s = true) (hco : (Cond.eq (.field (.string own k) "java/lang/String" "coder" "B") (.int 0)).before args s = true)
    (har : (Cond.arrayOf (.field (.string own k) "java/lang/String" "value" "[B") .byte).before args s = true) (hle : (Cond.eq (.length (.field (.string own k) "java/lang/String" "value" "[B")) (.int (Int32.ofNat n))).before args s = true)
    (hel : ∀ j : Nat, j < n → (Cond.eq (.elem (.field (.string own k) "java/lang/String" "value" "[B") (.int (Int32.ofNat j))) (.int (bs.getD j 0))).before args s = true) (hA : ∀ a : Nat, a < s.heap.size → ¬ A a) :
    ∃ q : Nat × Nat, (Term.string own k).eval args s none [] s = some (.ref q.1) ∧ Y_str own k n bs A s q := by
  obtain ⟨a, c, cA, kA, q1, q2, q3, q4, q5, q6, -⟩ := Cond.exactly_spec (args := args) (first := s) (o := none) (s := s) (idx := []) (t := Term.string own k) (cls := "java/lang/String") hex
  obtain ⟨t, ht, hT⟩ := va_Tof (f := fun j => .int (bs.getD j 0)) (A := A) hN har (va_eqt hle) (fun j hj => va_eqt (hel j hj)) hA
  exact ⟨(a, t), q1, ⟨cA, q3, q5, by rw [q6]; exact q2, hA a (Array.getElem?_eq_some_iff.mp q3).1⟩, vk_OFof q1 (va_eqt hco) hA, vk_OFof q1 ht hA, hT⟩
theorem Y_strSame {own own' : String} {k k' n n' : Nat} {bs bs' : List Int32} {A : Nat → Prop} {s : State} {q q' : Nat × Nat} (h : Y_str own k n bs A s q) (h' : Y_str own' k' n' bs' A s q') (he : q.1 = q'.1) : Int32.ofNat n = Int32.ofNat n' ∧ ∀ j, j < n → j < n' → bs.getD j 0 = bs'.getD j 0 := by
  obtain ⟨-, -, hv, ht⟩ := h
  obtain ⟨-, -, hv', ht'⟩ := h'
  obtain ⟨cf, k, i, f, cell, h1, h2, h3, h4, h5, h6⟩ := hv
  obtain ⟨cf', k', i', f', cell', h1', h2', h3', h4', h5', h6'⟩ := hv'
  cases h1.symm.trans h1'
  rw [he] at h3
  cases h3.symm.trans h3'
  have e : q.2 = q'.2 := by
    have := h5.symm.trans h5'
    simpa using this
  obtain ⟨cell, g1, g2, g3, g4, g5, g6, g7⟩ := ht
  obtain ⟨cell', g1', g2', g3', g4', g5', g6', g7'⟩ := ht'
  rw [e] at g1
  cases g1.symm.trans g1'
  refine ⟨g5.symm.trans g5', fun j hj hj' => ?_⟩
  have := (g6 j hj).symm.trans (g6' j hj')
  simpa using this
theorem Y_w0 {s : State} {b : Nat} {A : Nat → Prop} (hs : ∀ w ∈ Y_nar, w.before #[Value.ref b] s = true) (hA : ∀ a : Nat, a < s.heap.size → ¬ A a) : ∃ q : Nat × Nat, (Term.string "BusLifts$SetupReader" 62).eval #[Value.ref b] s none [] s = some (.ref q.1) ∧ Y_str "BusLifts$SetupReader" 62 6 [102, 108, 111, 111, 114, 115] A s q :=
  Y_strOf (by decide) (hs _ (List.mem_of_getElem? (i := 322) (by decide +kernel))) (hs _ (List.mem_of_getElem? (i := 323) (by decide +kernel))) (hs _ (List.mem_of_getElem? (i := 324) (by decide +kernel))) (hs _ (List.mem_of_getElem? (i := 325) (by decide +kernel))) (fun j hj => match j, hj with
    | 0, _ => hs _ (List.mem_of_getElem? (i := 326) (by decide +kernel))
    | 1, _ => hs _ (List.mem_of_getElem? (i := 327) (by decide +kernel))
    | 2, _ => hs _ (List.mem_of_getElem? (i := 328) (by decide +kernel))
    | 3, _ => hs _ (List.mem_of_getElem? (i := 329) (by decide +kernel))
    | 4, _ => hs _ (List.mem_of_getElem? (i := 330) (by decide +kernel))
    | 5, _ => hs _ (List.mem_of_getElem? (i := 331) (by decide +kernel))
    | j + 6, hj => absurd hj (by omega)) hA
theorem Y_w1 {s : State} {b : Nat} {A : Nat → Prop} (hs : ∀ w ∈ Y_nar, w.before #[Value.ref b] s = true) (hA : ∀ a : Nat, a < s.heap.size → ¬ A a) : ∃ q : Nat × Nat, (Term.string "BusLifts$SetupReader" 83).eval #[Value.ref b] s none [] s = some (.ref q.1) ∧ Y_str "BusLifts$SetupReader" 83 3 [99, 97, 114] A s q :=
  Y_strOf (by decide) (hs _ (List.mem_of_getElem? (i := 332) (by decide +kernel))) (hs _ (List.mem_of_getElem? (i := 333) (by decide +kernel))) (hs _ (List.mem_of_getElem? (i := 334) (by decide +kernel))) (hs _ (List.mem_of_getElem? (i := 335) (by decide +kernel))) (fun j hj => match j, hj with
    | 0, _ => hs _ (List.mem_of_getElem? (i := 336) (by decide +kernel))
    | 1, _ => hs _ (List.mem_of_getElem? (i := 337) (by decide +kernel))
    | 2, _ => hs _ (List.mem_of_getElem? (i := 338) (by decide +kernel))
    | j + 3, hj => absurd hj (by omega)) hA
theorem Y_w2 {s : State} {b : Nat} {A : Nat → Prop} (hs : ∀ w ∈ Y_nar, w.before #[Value.ref b] s = true) (hA : ∀ a : Nat, a < s.heap.size → ¬ A a) : ∃ q : Nat × Nat, (Term.string "BusLifts$SetupReader" 88).eval #[Value.ref b] s none [] s = some (.ref q.1) ∧ Y_str "BusLifts$SetupReader" 88 4 [99, 97, 108, 108] A s q :=
  Y_strOf (by decide) (hs _ (List.mem_of_getElem? (i := 340) (by decide +kernel))) (hs _ (List.mem_of_getElem? (i := 341) (by decide +kernel))) (hs _ (List.mem_of_getElem? (i := 342) (by decide +kernel))) (hs _ (List.mem_of_getElem? (i := 343) (by decide +kernel))) (fun j hj => match j, hj with
    | 0, _ => hs _ (List.mem_of_getElem? (i := 344) (by decide +kernel))
    | 1, _ => hs _ (List.mem_of_getElem? (i := 345) (by decide +kernel))
    | 2, _ => hs _ (List.mem_of_getElem? (i := 346) (by decide +kernel))
    | 3, _ => hs _ (List.mem_of_getElem? (i := 347) (by decide +kernel))
    | j + 4, hj => absurd hj (by omega)) hA
theorem Y_w3 {s : State} {b : Nat} {A : Nat → Prop} (hs : ∀ w ∈ Y_nar, w.before #[Value.ref b] s = true) (hA : ∀ a : Nat, a < s.heap.size → ¬ A a) : ∃ q : Nat × Nat, (Term.string "BusLifts$SetupReader" 126).eval #[Value.ref b] s none [] s = some (.ref q.1) ∧ Y_str "BusLifts$SetupReader" 126 5 [110, 111, 105, 115, 101] A s q :=
  Y_strOf (by decide) (hs _ (List.mem_of_getElem? (i := 350) (by decide +kernel))) (hs _ (List.mem_of_getElem? (i := 351) (by decide +kernel))) (hs _ (List.mem_of_getElem? (i := 352) (by decide +kernel))) (hs _ (List.mem_of_getElem? (i := 353) (by decide +kernel))) (fun j hj => match j, hj with
    | 0, _ => hs _ (List.mem_of_getElem? (i := 354) (by decide +kernel))
    | 1, _ => hs _ (List.mem_of_getElem? (i := 355) (by decide +kernel))
    | 2, _ => hs _ (List.mem_of_getElem? (i := 356) (by decide +kernel))
    | 3, _ => hs _ (List.mem_of_getElem? (i := 357) (by decide +kernel))
    | 4, _ => hs _ (List.mem_of_getElem? (i := 358) (by decide +kernel))
    | j + 5, hj => absurd hj (by omega)) hA
theorem Y_w4 {s : State} {b : Nat} {A : Nat → Prop} (hs : ∀ w ∈ Y_nar, w.before #[Value.ref b] s = true) (hA : ∀ a : Nat, a < s.heap.size → ¬ A a) : ∃ q : Nat × Nat, (Term.string "BusLifts$SetupReader" 128).eval #[Value.ref b] s none [] s = some (.ref q.1) ∧ Y_str "BusLifts$SetupReader" 128 8 [112, 97, 116, 105, 101, 110, 99, 101] A s q :=
  Y_strOf (by decide) (hs _ (List.mem_of_getElem? (i := 362) (by decide +kernel))) (hs _ (List.mem_of_getElem? (i := 363) (by decide +kernel))) (hs _ (List.mem_of_getElem? (i := 364) (by decide +kernel))) (hs _ (List.mem_of_getElem? (i := 365) (by decide +kernel))) (fun j hj => match j, hj with
    | 0, _ => hs _ (List.mem_of_getElem? (i := 366) (by decide +kernel))
    | 1, _ => hs _ (List.mem_of_getElem? (i := 367) (by decide +kernel))
    | 2, _ => hs _ (List.mem_of_getElem? (i := 368) (by decide +kernel))
    | 3, _ => hs _ (List.mem_of_getElem? (i := 369) (by decide +kernel))
    | 4, _ => hs _ (List.mem_of_getElem? (i := 370) (by decide +kernel))
    | 5, _ => hs _ (List.mem_of_getElem? (i := 371) (by decide +kernel))
    | 6, _ => hs _ (List.mem_of_getElem? (i := 372) (by decide +kernel))
    | 7, _ => hs _ (List.mem_of_getElem? (i := 373) (by decide +kernel))
    | j + 8, hj => absurd hj (by omega)) hA
theorem Y_w5 {s : State} {b : Nat} {A : Nat → Prop} (hs : ∀ w ∈ Y_nar, w.before #[Value.ref b] s = true) (hA : ∀ a : Nat, a < s.heap.size → ¬ A a) : ∃ q : Nat × Nat, (Term.string "BusLifts$SetupReader" 130).eval #[Value.ref b] s none [] s = some (.ref q.1) ∧ Y_str "BusLifts$SetupReader" 130 6 [119, 101, 105, 103, 104, 116] A s q :=
  Y_strOf (by decide) (hs _ (List.mem_of_getElem? (i := 378) (by decide +kernel))) (hs _ (List.mem_of_getElem? (i := 379) (by decide +kernel))) (hs _ (List.mem_of_getElem? (i := 380) (by decide +kernel))) (hs _ (List.mem_of_getElem? (i := 381) (by decide +kernel))) (fun j hj => match j, hj with
    | 0, _ => hs _ (List.mem_of_getElem? (i := 382) (by decide +kernel))
    | 1, _ => hs _ (List.mem_of_getElem? (i := 383) (by decide +kernel))
    | 2, _ => hs _ (List.mem_of_getElem? (i := 384) (by decide +kernel))
    | 3, _ => hs _ (List.mem_of_getElem? (i := 385) (by decide +kernel))
    | 4, _ => hs _ (List.mem_of_getElem? (i := 386) (by decide +kernel))
    | 5, _ => hs _ (List.mem_of_getElem? (i := 387) (by decide +kernel))
    | j + 6, hj => absurd hj (by omega)) hA
theorem Y_w6 {s : State} {b : Nat} {A : Nat → Prop} (hs : ∀ w ∈ Y_nar, w.before #[Value.ref b] s = true) (hA : ∀ a : Nat, a < s.heap.size → ¬ A a) : ∃ q : Nat × Nat, (Term.string "BusLifts$SetupReader" 132).eval #[Value.ref b] s none [] s = some (.ref q.1) ∧ Y_str "BusLifts$SetupReader" 132 4 [100, 111, 111, 114] A s q :=
  Y_strOf (by decide) (hs _ (List.mem_of_getElem? (i := 393) (by decide +kernel))) (hs _ (List.mem_of_getElem? (i := 394) (by decide +kernel))) (hs _ (List.mem_of_getElem? (i := 395) (by decide +kernel))) (hs _ (List.mem_of_getElem? (i := 396) (by decide +kernel))) (fun j hj => match j, hj with
    | 0, _ => hs _ (List.mem_of_getElem? (i := 397) (by decide +kernel))
    | 1, _ => hs _ (List.mem_of_getElem? (i := 398) (by decide +kernel))
    | 2, _ => hs _ (List.mem_of_getElem? (i := 399) (by decide +kernel))
    | 3, _ => hs _ (List.mem_of_getElem? (i := 400) (by decide +kernel))
    | j + 4, hj => absurd hj (by omega)) hA
theorem Y_w7 {s : State} {b : Nat} {A : Nat → Prop} (hs : ∀ w ∈ Y_nar, w.before #[Value.ref b] s = true) (hA : ∀ a : Nat, a < s.heap.size → ¬ A a) : ∃ q : Nat × Nat, (Term.string "BusLifts$SetupReader" 134).eval #[Value.ref b] s none [] s = some (.ref q.1) ∧ Y_str "BusLifts$SetupReader" 134 5 [98, 111, 117, 110, 100] A s q :=
  Y_strOf (by decide) (hs _ (List.mem_of_getElem? (i := 407) (by decide +kernel))) (hs _ (List.mem_of_getElem? (i := 408) (by decide +kernel))) (hs _ (List.mem_of_getElem? (i := 409) (by decide +kernel))) (hs _ (List.mem_of_getElem? (i := 410) (by decide +kernel))) (fun j hj => match j, hj with
    | 0, _ => hs _ (List.mem_of_getElem? (i := 411) (by decide +kernel))
    | 1, _ => hs _ (List.mem_of_getElem? (i := 412) (by decide +kernel))
    | 2, _ => hs _ (List.mem_of_getElem? (i := 413) (by decide +kernel))
    | 3, _ => hs _ (List.mem_of_getElem? (i := 414) (by decide +kernel))
    | 4, _ => hs _ (List.mem_of_getElem? (i := 415) (by decide +kernel))
    | j + 5, hj => absurd hj (by omega)) hA
theorem Y_w8 {s : State} {b : Nat} {A : Nat → Prop} (hs : ∀ w ∈ Y_nar, w.before #[Value.ref b] s = true) (hA : ∀ a : Nat, a < s.heap.size → ¬ A a) : ∃ q : Nat × Nat, (Term.string "BusLifts$SetupReader" 136).eval #[Value.ref b] s none [] s = some (.ref q.1) ∧ Y_str "BusLifts$SetupReader" 136 4 [115, 101, 101, 100] A s q :=
  Y_strOf (by decide) (hs _ (List.mem_of_getElem? (i := 423) (by decide +kernel))) (hs _ (List.mem_of_getElem? (i := 424) (by decide +kernel))) (hs _ (List.mem_of_getElem? (i := 425) (by decide +kernel))) (hs _ (List.mem_of_getElem? (i := 426) (by decide +kernel))) (fun j hj => match j, hj with
    | 0, _ => hs _ (List.mem_of_getElem? (i := 427) (by decide +kernel))
    | 1, _ => hs _ (List.mem_of_getElem? (i := 428) (by decide +kernel))
    | 2, _ => hs _ (List.mem_of_getElem? (i := 429) (by decide +kernel))
    | 3, _ => hs _ (List.mem_of_getElem? (i := 430) (by decide +kernel))
    | j + 4, hj => absurd hj (by omega)) hA
theorem Y_w9 {s : State} {b : Nat} {A : Nat → Prop} (hs : ∀ w ∈ Y_nar, w.before #[Value.ref b] s = true) (hA : ∀ a : Nat, a < s.heap.size → ¬ A a) : ∃ q : Nat × Nat, (Term.string "BusLiftsLaw" 105).eval #[Value.ref b] s none [] s = some (.ref q.1) ∧ Y_str "BusLiftsLaw" 105 7 [102, 108, 111, 111, 114, 115, 32] A s q :=
  Y_strOf (by decide) (hs _ (List.mem_of_getElem? (i := 439) (by decide +kernel))) (hs _ (List.mem_of_getElem? (i := 440) (by decide +kernel))) (hs _ (List.mem_of_getElem? (i := 441) (by decide +kernel))) (hs _ (List.mem_of_getElem? (i := 442) (by decide +kernel))) (fun j hj => match j, hj with
    | 0, _ => hs _ (List.mem_of_getElem? (i := 443) (by decide +kernel))
    | 1, _ => hs _ (List.mem_of_getElem? (i := 444) (by decide +kernel))
    | 2, _ => hs _ (List.mem_of_getElem? (i := 445) (by decide +kernel))
    | 3, _ => hs _ (List.mem_of_getElem? (i := 446) (by decide +kernel))
    | 4, _ => hs _ (List.mem_of_getElem? (i := 447) (by decide +kernel))
    | 5, _ => hs _ (List.mem_of_getElem? (i := 448) (by decide +kernel))
    | 6, _ => hs _ (List.mem_of_getElem? (i := 449) (by decide +kernel))
    | j + 7, hj => absurd hj (by omega)) hA
theorem Y_w10 {s : State} {b : Nat} {A : Nat → Prop} (hs : ∀ w ∈ Y_nar, w.before #[Value.ref b] s = true) (hA : ∀ a : Nat, a < s.heap.size → ¬ A a) : ∃ q : Nat × Nat, (Term.string "BusLiftsLaw" 114).eval #[Value.ref b] s none [] s = some (.ref q.1) ∧ Y_str "BusLiftsLaw" 114 7 [59, 110, 111, 105, 115, 101, 32] A s q :=
  Y_strOf (by decide) (hs _ (List.mem_of_getElem? (i := 459) (by decide +kernel))) (hs _ (List.mem_of_getElem? (i := 460) (by decide +kernel))) (hs _ (List.mem_of_getElem? (i := 461) (by decide +kernel))) (hs _ (List.mem_of_getElem? (i := 462) (by decide +kernel))) (fun j hj => match j, hj with
    | 0, _ => hs _ (List.mem_of_getElem? (i := 463) (by decide +kernel))
    | 1, _ => hs _ (List.mem_of_getElem? (i := 464) (by decide +kernel))
    | 2, _ => hs _ (List.mem_of_getElem? (i := 465) (by decide +kernel))
    | 3, _ => hs _ (List.mem_of_getElem? (i := 466) (by decide +kernel))
    | 4, _ => hs _ (List.mem_of_getElem? (i := 467) (by decide +kernel))
    | 5, _ => hs _ (List.mem_of_getElem? (i := 468) (by decide +kernel))
    | 6, _ => hs _ (List.mem_of_getElem? (i := 469) (by decide +kernel))
    | j + 7, hj => absurd hj (by omega)) hA
theorem Y_w11 {s : State} {b : Nat} {A : Nat → Prop} (hs : ∀ w ∈ Y_nar, w.before #[Value.ref b] s = true) (hA : ∀ a : Nat, a < s.heap.size → ¬ A a) : ∃ q : Nat × Nat, (Term.string "BusLiftsLaw" 116).eval #[Value.ref b] s none [] s = some (.ref q.1) ∧ Y_str "BusLiftsLaw" 116 10 [59, 112, 97, 116, 105, 101, 110, 99, 101, 32] A s q :=
  Y_strOf (by decide) (hs _ (List.mem_of_getElem? (i := 480) (by decide +kernel))) (hs _ (List.mem_of_getElem? (i := 481) (by decide +kernel))) (hs _ (List.mem_of_getElem? (i := 482) (by decide +kernel))) (hs _ (List.mem_of_getElem? (i := 483) (by decide +kernel))) (fun j hj => match j, hj with
    | 0, _ => hs _ (List.mem_of_getElem? (i := 484) (by decide +kernel))
    | 1, _ => hs _ (List.mem_of_getElem? (i := 485) (by decide +kernel))
    | 2, _ => hs _ (List.mem_of_getElem? (i := 486) (by decide +kernel))
    | 3, _ => hs _ (List.mem_of_getElem? (i := 487) (by decide +kernel))
    | 4, _ => hs _ (List.mem_of_getElem? (i := 488) (by decide +kernel))
    | 5, _ => hs _ (List.mem_of_getElem? (i := 489) (by decide +kernel))
    | 6, _ => hs _ (List.mem_of_getElem? (i := 490) (by decide +kernel))
    | 7, _ => hs _ (List.mem_of_getElem? (i := 491) (by decide +kernel))
    | 8, _ => hs _ (List.mem_of_getElem? (i := 492) (by decide +kernel))
    | 9, _ => hs _ (List.mem_of_getElem? (i := 493) (by decide +kernel))
    | j + 10, hj => absurd hj (by omega)) hA
theorem Y_w12 {s : State} {b : Nat} {A : Nat → Prop} (hs : ∀ w ∈ Y_nar, w.before #[Value.ref b] s = true) (hA : ∀ a : Nat, a < s.heap.size → ¬ A a) : ∃ q : Nat × Nat, (Term.string "BusLiftsLaw" 118).eval #[Value.ref b] s none [] s = some (.ref q.1) ∧ Y_str "BusLiftsLaw" 118 8 [59, 119, 101, 105, 103, 104, 116, 32] A s q :=
  Y_strOf (by decide) (hs _ (List.mem_of_getElem? (i := 505) (by decide +kernel))) (hs _ (List.mem_of_getElem? (i := 506) (by decide +kernel))) (hs _ (List.mem_of_getElem? (i := 507) (by decide +kernel))) (hs _ (List.mem_of_getElem? (i := 508) (by decide +kernel))) (fun j hj => match j, hj with
    | 0, _ => hs _ (List.mem_of_getElem? (i := 509) (by decide +kernel))
    | 1, _ => hs _ (List.mem_of_getElem? (i := 510) (by decide +kernel))
    | 2, _ => hs _ (List.mem_of_getElem? (i := 511) (by decide +kernel))
    | 3, _ => hs _ (List.mem_of_getElem? (i := 512) (by decide +kernel))
    | 4, _ => hs _ (List.mem_of_getElem? (i := 513) (by decide +kernel))
    | 5, _ => hs _ (List.mem_of_getElem? (i := 514) (by decide +kernel))
    | 6, _ => hs _ (List.mem_of_getElem? (i := 515) (by decide +kernel))
    | 7, _ => hs _ (List.mem_of_getElem? (i := 516) (by decide +kernel))
    | j + 8, hj => absurd hj (by omega)) hA
theorem Y_w13 {s : State} {b : Nat} {A : Nat → Prop} (hs : ∀ w ∈ Y_nar, w.before #[Value.ref b] s = true) (hA : ∀ a : Nat, a < s.heap.size → ¬ A a) : ∃ q : Nat × Nat, (Term.string "BusLiftsLaw" 120).eval #[Value.ref b] s none [] s = some (.ref q.1) ∧ Y_str "BusLiftsLaw" 120 6 [59, 100, 111, 111, 114, 32] A s q :=
  Y_strOf (by decide) (hs _ (List.mem_of_getElem? (i := 529) (by decide +kernel))) (hs _ (List.mem_of_getElem? (i := 530) (by decide +kernel))) (hs _ (List.mem_of_getElem? (i := 531) (by decide +kernel))) (hs _ (List.mem_of_getElem? (i := 532) (by decide +kernel))) (fun j hj => match j, hj with
    | 0, _ => hs _ (List.mem_of_getElem? (i := 533) (by decide +kernel))
    | 1, _ => hs _ (List.mem_of_getElem? (i := 534) (by decide +kernel))
    | 2, _ => hs _ (List.mem_of_getElem? (i := 535) (by decide +kernel))
    | 3, _ => hs _ (List.mem_of_getElem? (i := 536) (by decide +kernel))
    | 4, _ => hs _ (List.mem_of_getElem? (i := 537) (by decide +kernel))
    | 5, _ => hs _ (List.mem_of_getElem? (i := 538) (by decide +kernel))
    | j + 6, hj => absurd hj (by omega)) hA
theorem Y_w14 {s : State} {b : Nat} {A : Nat → Prop} (hs : ∀ w ∈ Y_nar, w.before #[Value.ref b] s = true) (hA : ∀ a : Nat, a < s.heap.size → ¬ A a) : ∃ q : Nat × Nat, (Term.string "BusLiftsLaw" 122).eval #[Value.ref b] s none [] s = some (.ref q.1) ∧ Y_str "BusLiftsLaw" 122 6 [59, 115, 101, 101, 100, 32] A s q :=
  Y_strOf (by decide) (hs _ (List.mem_of_getElem? (i := 552) (by decide +kernel))) (hs _ (List.mem_of_getElem? (i := 553) (by decide +kernel))) (hs _ (List.mem_of_getElem? (i := 554) (by decide +kernel))) (hs _ (List.mem_of_getElem? (i := 555) (by decide +kernel))) (fun j hj => match j, hj with
    | 0, _ => hs _ (List.mem_of_getElem? (i := 556) (by decide +kernel))
    | 1, _ => hs _ (List.mem_of_getElem? (i := 557) (by decide +kernel))
    | 2, _ => hs _ (List.mem_of_getElem? (i := 558) (by decide +kernel))
    | 3, _ => hs _ (List.mem_of_getElem? (i := 559) (by decide +kernel))
    | 4, _ => hs _ (List.mem_of_getElem? (i := 560) (by decide +kernel))
    | 5, _ => hs _ (List.mem_of_getElem? (i := 561) (by decide +kernel))
    | j + 6, hj => absurd hj (by omega)) hA
theorem Y_w15 {s : State} {b : Nat} {A : Nat → Prop} (hs : ∀ w ∈ Y_nar, w.before #[Value.ref b] s = true) (hA : ∀ a : Nat, a < s.heap.size → ¬ A a) : ∃ q : Nat × Nat, (Term.string "BusLiftsLaw" 124).eval #[Value.ref b] s none [] s = some (.ref q.1) ∧ Y_str "BusLiftsLaw" 124 1 [59] A s q :=
  Y_strOf (by decide) (hs _ (List.mem_of_getElem? (i := 576) (by decide +kernel))) (hs _ (List.mem_of_getElem? (i := 577) (by decide +kernel))) (hs _ (List.mem_of_getElem? (i := 578) (by decide +kernel))) (hs _ (List.mem_of_getElem? (i := 579) (by decide +kernel))) (fun j hj => match j, hj with
    | 0, _ => hs _ (List.mem_of_getElem? (i := 580) (by decide +kernel))
    | j + 1, hj => absurd hj (by omega)) hA
theorem Y_w16 {s : State} {b : Nat} {A : Nat → Prop} (hs : ∀ w ∈ Y_nar, w.before #[Value.ref b] s = true) (hA : ∀ a : Nat, a < s.heap.size → ¬ A a) : ∃ q : Nat × Nat, (Term.string "BusLiftsLaw" 147).eval #[Value.ref b] s none [] s = some (.ref q.1) ∧ Y_str "BusLiftsLaw" 147 4 [99, 97, 114, 32] A s q :=
  Y_strOf (by decide) (hs _ (List.mem_of_getElem? (i := 596) (by decide +kernel))) (hs _ (List.mem_of_getElem? (i := 597) (by decide +kernel))) (hs _ (List.mem_of_getElem? (i := 598) (by decide +kernel))) (hs _ (List.mem_of_getElem? (i := 599) (by decide +kernel))) (fun j hj => match j, hj with
    | 0, _ => hs _ (List.mem_of_getElem? (i := 600) (by decide +kernel))
    | 1, _ => hs _ (List.mem_of_getElem? (i := 601) (by decide +kernel))
    | 2, _ => hs _ (List.mem_of_getElem? (i := 602) (by decide +kernel))
    | 3, _ => hs _ (List.mem_of_getElem? (i := 603) (by decide +kernel))
    | j + 4, hj => absurd hj (by omega)) hA
theorem Y_w17 {s : State} {b : Nat} {A : Nat → Prop} (hs : ∀ w ∈ Y_nar, w.before #[Value.ref b] s = true) (hA : ∀ a : Nat, a < s.heap.size → ¬ A a) : ∃ q : Nat × Nat, (Term.string "BusLiftsLaw" 152).eval #[Value.ref b] s none [] s = some (.ref q.1) ∧ Y_str "BusLiftsLaw" 152 5 [99, 97, 108, 108, 32] A s q :=
  Y_strOf (by decide) (hs _ (List.mem_of_getElem? (i := 620) (by decide +kernel))) (hs _ (List.mem_of_getElem? (i := 621) (by decide +kernel))) (hs _ (List.mem_of_getElem? (i := 622) (by decide +kernel))) (hs _ (List.mem_of_getElem? (i := 623) (by decide +kernel))) (fun j hj => match j, hj with
    | 0, _ => hs _ (List.mem_of_getElem? (i := 624) (by decide +kernel))
    | 1, _ => hs _ (List.mem_of_getElem? (i := 625) (by decide +kernel))
    | 2, _ => hs _ (List.mem_of_getElem? (i := 626) (by decide +kernel))
    | 3, _ => hs _ (List.mem_of_getElem? (i := 627) (by decide +kernel))
    | 4, _ => hs _ (List.mem_of_getElem? (i := 628) (by decide +kernel))
    | j + 5, hj => absurd hj (by omega)) hA
theorem Y_t0 {s : State} {b : Nat} {A : Nat → Prop} (hts : ∀ w ∈ lw_tbl, w.before #[Value.ref b] s = true) (hs : ∀ w ∈ Y_nar, w.before #[Value.ref b] s = true) (hA : ∀ a : Nat, a < s.heap.size → ¬ A a) : ∃ t : Nat, va_Z RX7 "LEAST_SETTING" "[I" (.ref t) A s s.heap ∧ va_T .int t 5 (fun j => .int (([0, 3, 0, 0, 1] : List Int32).getD j 0)) A s s.heap := by
  obtain ⟨t, ht, hT⟩ := va_Tof (args := #[Value.ref b]) (s := s) (tm := (Term.static "BusLifts" "LEAST_SETTING" "[I")) (ty := .int) (N := 5) (f := fun j => .int (([0, 3, 0, 0, 1] : List Int32).getD j 0)) (A := A) (by decide) (hs _ (List.mem_of_getElem? (i := 18) (by decide +kernel))) (va_eqt (hs _ (List.mem_of_getElem? (i := 19) (by decide +kernel)))) (fun j hj => match j, hj with
    | 0, _ => va_eqt (hs _ (List.mem_of_getElem? (i := 20) (by decide +kernel)))
    | 1, _ => va_eqt (hs _ (List.mem_of_getElem? (i := 21) (by decide +kernel)))
    | 2, _ => va_eqt (hs _ (List.mem_of_getElem? (i := 22) (by decide +kernel)))
    | 3, _ => va_eqt (hs _ (List.mem_of_getElem? (i := 23) (by decide +kernel)))
    | 4, _ => va_eqt (hs _ (List.mem_of_getElem? (i := 24) (by decide +kernel)))
    | j + 5, hj => absurd hj (by omega)) hA
  exact ⟨t, va_Zof (hts _ (tb_3 (List.mem_of_getElem? (i := 78) (by decide +kernel)))) (hts _ (tb_1 (List.mem_of_getElem? (i := 11) (by decide +kernel)))) ht hA, hT⟩
theorem Y_t1 {s : State} {b : Nat} {A : Nat → Prop} (hts : ∀ w ∈ lw_tbl, w.before #[Value.ref b] s = true) (hs : ∀ w ∈ Y_nar, w.before #[Value.ref b] s = true) (hA : ∀ a : Nat, a < s.heap.size → ¬ A a) : ∃ t : Nat, va_Z RX7 "MOST_SETTING" "[I" (.ref t) A s s.heap ∧ va_T .int t 5 (fun j => .int (([90, 50, 20, 5, 999] : List Int32).getD j 0)) A s s.heap := by
  obtain ⟨t, ht, hT⟩ := va_Tof (args := #[Value.ref b]) (s := s) (tm := (Term.static "BusLifts" "MOST_SETTING" "[I")) (ty := .int) (N := 5) (f := fun j => .int (([90, 50, 20, 5, 999] : List Int32).getD j 0)) (A := A) (by decide) (hs _ (List.mem_of_getElem? (i := 26) (by decide +kernel))) (va_eqt (hs _ (List.mem_of_getElem? (i := 27) (by decide +kernel)))) (fun j hj => match j, hj with
    | 0, _ => va_eqt (hs _ (List.mem_of_getElem? (i := 28) (by decide +kernel)))
    | 1, _ => va_eqt (hs _ (List.mem_of_getElem? (i := 29) (by decide +kernel)))
    | 2, _ => va_eqt (hs _ (List.mem_of_getElem? (i := 30) (by decide +kernel)))
    | 3, _ => va_eqt (hs _ (List.mem_of_getElem? (i := 31) (by decide +kernel)))
    | 4, _ => va_eqt (hs _ (List.mem_of_getElem? (i := 32) (by decide +kernel)))
    | j + 5, hj => absurd hj (by omega)) hA
  exact ⟨t, va_Zof (hts _ (tb_3 (List.mem_of_getElem? (i := 80) (by decide +kernel)))) (hts _ (tb_1 (List.mem_of_getElem? (i := 11) (by decide +kernel)))) ht hA, hT⟩
theorem Y_t2 {s : State} {b : Nat} {A : Nat → Prop} (hts : ∀ w ∈ lw_tbl, w.before #[Value.ref b] s = true) (hs : ∀ w ∈ Y_nar, w.before #[Value.ref b] s = true) (hA : ∀ a : Nat, a < s.heap.size → ¬ A a) : ∃ t : Nat, va_Z RX7 "FIRST_SETTING" "[I" (.ref t) A s s.heap ∧ va_T .int t 5 (fun j => .int (([0, 6, 2, 1, 30] : List Int32).getD j 0)) A s s.heap := by
  obtain ⟨t, ht, hT⟩ := va_Tof (args := #[Value.ref b]) (s := s) (tm := (Term.static "BusLifts" "FIRST_SETTING" "[I")) (ty := .int) (N := 5) (f := fun j => .int (([0, 6, 2, 1, 30] : List Int32).getD j 0)) (A := A) (by decide) (hs _ (List.mem_of_getElem? (i := 5) (by decide +kernel))) (va_eqt (hs _ (List.mem_of_getElem? (i := 6) (by decide +kernel)))) (fun j hj => match j, hj with
    | 0, _ => va_eqt (hs _ (List.mem_of_getElem? (i := 7) (by decide +kernel)))
    | 1, _ => va_eqt (hs _ (List.mem_of_getElem? (i := 8) (by decide +kernel)))
    | 2, _ => va_eqt (hs _ (List.mem_of_getElem? (i := 9) (by decide +kernel)))
    | 3, _ => va_eqt (hs _ (List.mem_of_getElem? (i := 10) (by decide +kernel)))
    | 4, _ => va_eqt (hs _ (List.mem_of_getElem? (i := 11) (by decide +kernel)))
    | j + 5, hj => absurd hj (by omega)) hA
  exact ⟨t, va_Zof (hts _ (tb_2 (List.mem_of_getElem? (i := 116) (by decide +kernel)))) (hts _ (tb_1 (List.mem_of_getElem? (i := 11) (by decide +kernel)))) ht hA, hT⟩
theorem Y_t3 {s : State} {b : Nat} {A : Nat → Prop} (hts : ∀ w ∈ lw_tbl, w.before #[Value.ref b] s = true) (hs : ∀ w ∈ Y_nar, w.before #[Value.ref b] s = true) (hA : ∀ a : Nat, a < s.heap.size → ¬ A a) : ∃ t : Nat, va_Z "java/util/ArrayList" "DEFAULTCAPACITY_EMPTY_ELEMENTDATA" "[Ljava/lang/Object;" (.ref t) A s s.heap ∧ va_T (.object "java/lang/Object") t 0 (fun _ => .null) A s s.heap := by
  obtain ⟨t, ht, hT⟩ := va_Tof (args := #[Value.ref b]) (s := s) (tm := (Term.static "java/util/ArrayList" "DEFAULTCAPACITY_EMPTY_ELEMENTDATA" "[Ljava/lang/Object;")) (ty := .object "java/lang/Object") (N := 0) (f := fun _ => .null) (A := A) (by decide) (hs _ (List.mem_of_getElem? (i := 34) (by decide +kernel))) (va_eqt (hs _ (List.mem_of_getElem? (i := 36) (by decide +kernel)))) (fun j hj => absurd hj (Nat.not_lt_zero j)) hA
  exact ⟨t, va_Zof (hts _ (tb_3 (List.mem_of_getElem? (i := 143) (by decide +kernel)))) (hts _ (tb_1 (List.mem_of_getElem? (i := 3) (by decide +kernel)))) ht hA, hT⟩
theorem Y_d0 {s : State} {b : Nat} {A : Nat → Prop} (hts : ∀ w ∈ lw_tbl, w.before #[Value.ref b] s = true) (hs : ∀ w ∈ Y_nar, w.before #[Value.ref b] s = true) (hA : ∀ a : Nat, a < s.heap.size → ¬ A a) : ∃ t : Nat, va_Z "java/lang/Integer" "DigitOnes" "[B" (.ref t) A s s.heap ∧ va_T .byte t 100 (fun j => .int ((fun j => Int32.ofNat (48 + j % 10)) j)) A s s.heap := by
  have key : ∀ j : Nat, j < 100 → Y_nar[40 + j]? = some (Cond.eq (Term.elem (Term.static "java/lang/Integer" "DigitOnes" "[B") (Term.int (Int32.ofNat j))) (Term.int (Int32.ofNat (48 + j % 10)))) := by decide +kernel
  obtain ⟨t, ht, hT⟩ := va_Tof (args := #[Value.ref b]) (s := s) (tm := (Term.static "java/lang/Integer" "DigitOnes" "[B")) (ty := .byte) (N := 100) (f := fun j => .int ((fun j => Int32.ofNat (48 + j % 10)) j)) (A := A) (by decide) (hs _ (List.mem_of_getElem? (i := 38) (by decide +kernel))) (va_eqt (hs _ (List.mem_of_getElem? (i := 39) (by decide +kernel)))) (fun j hj => va_eqt (hs _ (List.mem_of_getElem? (key j hj)))) hA
  exact ⟨t, va_Zof (hts _ (tb_5 (List.mem_of_getElem? (i := 34) (by decide +kernel)))) (hts _ (tb_1 (List.mem_of_getElem? (i := 26) (by decide +kernel)))) ht hA, hT⟩
theorem Y_d1 {s : State} {b : Nat} {A : Nat → Prop} (hts : ∀ w ∈ lw_tbl, w.before #[Value.ref b] s = true) (hs : ∀ w ∈ Y_nar, w.before #[Value.ref b] s = true) (hA : ∀ a : Nat, a < s.heap.size → ¬ A a) : ∃ t : Nat, va_Z "java/lang/Integer" "DigitTens" "[B" (.ref t) A s s.heap ∧ va_T .byte t 100 (fun j => .int ((fun j => Int32.ofNat (48 + j / 10)) j)) A s s.heap := by
  have key : ∀ j : Nat, j < 100 → Y_nar[143 + j]? = some (Cond.eq (Term.elem (Term.static "java/lang/Integer" "DigitTens" "[B") (Term.int (Int32.ofNat j))) (Term.int (Int32.ofNat (48 + j / 10)))) := by decide +kernel
  obtain ⟨t, ht, hT⟩ := va_Tof (args := #[Value.ref b]) (s := s) (tm := (Term.static "java/lang/Integer" "DigitTens" "[B")) (ty := .byte) (N := 100) (f := fun j => .int ((fun j => Int32.ofNat (48 + j / 10)) j)) (A := A) (by decide) (hs _ (List.mem_of_getElem? (i := 141) (by decide +kernel))) (va_eqt (hs _ (List.mem_of_getElem? (i := 142) (by decide +kernel)))) (fun j hj => va_eqt (hs _ (List.mem_of_getElem? (key j hj)))) hA
  exact ⟨t, va_Zof (hts _ (tb_5 (List.mem_of_getElem? (i := 36) (by decide +kernel)))) (hts _ (tb_1 (List.mem_of_getElem? (i := 26) (by decide +kernel)))) ht hA, hT⟩
theorem Y_x70 {s : State} {b : Nat} (hts : ∀ w ∈ lw_tbl, w.before #[Value.ref b] s = true) (hs : ∀ w ∈ Y_nar, w.before #[Value.ref b] s = true) : ∃ a : Nat, vk_R "BusLifts" 92 "no such car" a s := by
  obtain ⟨a, c, cA, kA, q1, -⟩ := Cond.exactly_spec (args := #[Value.ref b]) (first := s) (o := none) (s := s) (idx := []) (t := Term.string "BusLifts" 92) (cls := "java/lang/String") (hs _ (List.mem_of_getElem? (i := 646) (by decide +kernel)))
  exact ⟨a, vk_R.of (hts _ (tb_6 (List.mem_of_getElem? (i := 24) (by decide +kernel)))) q1⟩
theorem Y_x71 {s : State} {b : Nat} (hts : ∀ w ∈ lw_tbl, w.before #[Value.ref b] s = true) (hs : ∀ w ∈ Y_nar, w.before #[Value.ref b] s = true) : ∃ a : Nat, vk_R "BusLifts" 119 "out of range" a s := by
  obtain ⟨a, c, cA, kA, q1, -⟩ := Cond.exactly_spec (args := #[Value.ref b]) (first := s) (o := none) (s := s) (idx := []) (t := Term.string "BusLifts" 119) (cls := "java/lang/String") (hs _ (List.mem_of_getElem? (i := 679) (by decide +kernel)))
  exact ⟨a, vk_R.of (hts _ (tb_6 (List.mem_of_getElem? (i := 62) (by decide +kernel)))) q1⟩
theorem Y_x72 {s : State} {b : Nat} (hts : ∀ w ∈ lw_tbl, w.before #[Value.ref b] s = true) (hs : ∀ w ∈ Y_nar, w.before #[Value.ref b] s = true) : ∃ a : Nat, vk_R "BusLifts" 100 "no such call" a s := by
  obtain ⟨a, c, cA, kA, q1, -⟩ := Cond.exactly_spec (args := #[Value.ref b]) (first := s) (o := none) (s := s) (idx := []) (t := Term.string "BusLifts" 100) (cls := "java/lang/String") (hs _ (List.mem_of_getElem? (i := 714) (by decide +kernel)))
  exact ⟨a, vk_R.of (hts _ (tb_6 (List.mem_of_getElem? (i := 123) (by decide +kernel)))) q1⟩
theorem Y_x73 {s : State} {b : Nat} (hts : ∀ w ∈ lw_tbl, w.before #[Value.ref b] s = true) (hs : ∀ w ∈ Y_nar, w.before #[Value.ref b] s = true) : ∃ a : Nat, vk_R "BusLifts" 328 "the car does not hold the call" a s := by
  obtain ⟨a, c, cA, kA, q1, -⟩ := Cond.exactly_spec (args := #[Value.ref b]) (first := s) (o := none) (s := s) (idx := []) (t := Term.string "BusLifts" 328) (cls := "java/lang/String") (hs _ (List.mem_of_getElem? (i := 750) (by decide +kernel)))
  exact ⟨a, vk_R.of (hts _ (tb_6 (List.mem_of_getElem? (i := 239) (by decide +kernel)))) q1⟩
theorem Y_x74 {s : State} {b : Nat} (hts : ∀ w ∈ lw_tbl, w.before #[Value.ref b] s = true) (hs : ∀ w ∈ Y_nar, w.before #[Value.ref b] s = true) : ∃ a : Nat, vk_R "BusLifts" 107 "no such floor" a s := by
  obtain ⟨a, c, cA, kA, q1, -⟩ := Cond.exactly_spec (args := #[Value.ref b]) (first := s) (o := none) (s := s) (idx := []) (t := Term.string "BusLifts" 107) (cls := "java/lang/String") (hs _ (List.mem_of_getElem? (i := 805) (by decide +kernel)))
  exact ⟨a, vk_R.of (hts _ (tb_7 (List.mem_of_getElem? (i := 26) (by decide +kernel)))) q1⟩
theorem Y_x75 {s : State} {b : Nat} (hts : ∀ w ∈ lw_tbl, w.before #[Value.ref b] s = true) (hs : ∀ w ∈ Y_nar, w.before #[Value.ref b] s = true) : ∃ a : Nat, vk_R "BusLifts" 113 "the same floor twice" a s := by
  obtain ⟨a, c, cA, kA, q1, -⟩ := Cond.exactly_spec (args := #[Value.ref b]) (first := s) (o := none) (s := s) (idx := []) (t := Term.string "BusLifts" 113) (cls := "java/lang/String") (hs _ (List.mem_of_getElem? (i := 844) (by decide +kernel)))
  exact ⟨a, vk_R.of (hts _ (tb_7 (List.mem_of_getElem? (i := 27) (by decide +kernel)))) q1⟩
theorem Y_x76 {s : State} {b : Nat} (hts : ∀ w ∈ lw_tbl, w.before #[Value.ref b] s = true) (hs : ∀ w ∈ Y_nar, w.before #[Value.ref b] s = true) : ∃ a : Nat, vk_R "BusLifts" 302 "too many calls" a s := by
  obtain ⟨a, c, cA, kA, q1, -⟩ := Cond.exactly_spec (args := #[Value.ref b]) (first := s) (o := none) (s := s) (idx := []) (t := Term.string "BusLifts" 302) (cls := "java/lang/String") (hs _ (List.mem_of_getElem? (i := 891) (by decide +kernel)))
  exact ⟨a, vk_R.of (hts _ (tb_7 (List.mem_of_getElem? (i := 28) (by decide +kernel)))) q1⟩
theorem Y_nest {s : State} {b : Nat} (hts : ∀ w ∈ lw_tbl, w.before #[Value.ref b] s = true) : ∀ w ∈ z_nest, va_Nw w s := by
  have h : ∀ w ∈ z_nest, w ∈ lw_tbl := by decide +kernel
  have ho : ∀ w ∈ z_nest, w.onTables = true := List.all_eq_true.mp (by decide +kernel : z_nest.all Cond.onTables = true)
  exact fun w hw => va_Nw.of (ho w hw) (hts _ (h w hw))
theorem Y_psel {s : State} {b : Nat} (hts : ∀ w ∈ lw_tbl, w.before #[Value.ref b] s = true) : ∀ w ∈ z_psel, va_Nw w s := by
  intro w hw
  refine va_Nw.of (A := #[Value.ref b]) (z_psel_tab w hw) ?_
  simp only [z_psel, List.mem_cons, List.not_mem_nil, or_false] at hw
  rcases hw with rfl | rfl | rfl | rfl
  · exact sb_sel (y0 := yJ5_isLatin1_aae02) (hts _ (tb_4 (List.mem_of_getElem? (i := 208) (by decide +kernel)))) rfl (by decide +kernel) (hts _ (tb_4 (List.mem_of_getElem? (i := 186) (by decide +kernel)))) (hts _ (tb_4 (List.mem_of_getElem? (i := 187) (by decide +kernel))))
  · exact sb_sel (y0 := yJ5_isLatin1_aae02) (hts _ (tb_4 (List.mem_of_getElem? (i := 208) (by decide +kernel)))) rfl (by decide +kernel) (hts _ (tb_4 (List.mem_of_getElem? (i := 190) (by decide +kernel)))) (hts _ (tb_4 (List.mem_of_getElem? (i := 191) (by decide +kernel))))
  · exact sb_sel (y0 := yJ5_isLatin1_aae02) (hts _ (tb_4 (List.mem_of_getElem? (i := 208) (by decide +kernel)))) rfl (by decide +kernel) (hts _ (tb_4 (List.mem_of_getElem? (i := 227) (by decide +kernel)))) (hts _ (tb_4 (List.mem_of_getElem? (i := 228) (by decide +kernel))))
  · exact sb_sel (y0 := yJ5_isLatin1_aae02) (hts _ (tb_4 (List.mem_of_getElem? (i := 208) (by decide +kernel)))) rfl (by decide +kernel) (hts _ (tb_4 (List.mem_of_getElem? (i := 231) (by decide +kernel)))) (hts _ (tb_4 (List.mem_of_getElem? (i := 232) (by decide +kernel))))
theorem Y_faces {s : State} {b : Nat} (hts : ∀ w ∈ lw_tbl, w.before #[Value.ref b] s = true) : ∀ q ∈ z_faces, va_Fw q.1 q.2.1 q.2.2 s := by
  intro q hq
  simp only [z_faces, List.mem_cons, List.not_mem_nil, or_false] at hq
  rcases hq with rfl | rfl | rfl | rfl | rfl | rfl
  · exact va_Fw.of (A := #[Value.ref b]) (hts _ (tb_3 (List.mem_of_getElem? (i := 196) (by decide +kernel)))) (hts _ (tb_3 (List.mem_of_getElem? (i := 195) (by decide +kernel)))) (hts _ (tb_3 (List.mem_of_getElem? (i := 201) (by decide +kernel)))) (hts _ (tb_3 (List.mem_of_getElem? (i := 199) (by decide +kernel)))) (hts _ (tb_3 (List.mem_of_getElem? (i := 197) (by decide +kernel))))
  · exact va_Fw.of (A := #[Value.ref b]) (hts _ (tb_5 (List.mem_of_getElem? (i := 122) (by decide +kernel)))) (hts _ (tb_5 (List.mem_of_getElem? (i := 121) (by decide +kernel)))) (hts _ (tb_5 (List.mem_of_getElem? (i := 126) (by decide +kernel)))) (hts _ (tb_5 (List.mem_of_getElem? (i := 124) (by decide +kernel)))) (hts _ (tb_3 (List.mem_of_getElem? (i := 197) (by decide +kernel))))
  · exact va_Fw.of (A := #[Value.ref b]) (hts _ (tb_5 (List.mem_of_getElem? (i := 192) (by decide +kernel)))) (hts _ (tb_5 (List.mem_of_getElem? (i := 191) (by decide +kernel)))) (hts _ (tb_5 (List.mem_of_getElem? (i := 196) (by decide +kernel)))) (hts _ (tb_5 (List.mem_of_getElem? (i := 194) (by decide +kernel)))) (hts _ (tb_3 (List.mem_of_getElem? (i := 197) (by decide +kernel))))
  · exact va_Fw.of (A := #[Value.ref b]) (hts _ (tb_5 (List.mem_of_getElem? (i := 201) (by decide +kernel)))) (hts _ (tb_5 (List.mem_of_getElem? (i := 200) (by decide +kernel)))) (hts _ (tb_5 (List.mem_of_getElem? (i := 205) (by decide +kernel)))) (hts _ (tb_5 (List.mem_of_getElem? (i := 203) (by decide +kernel)))) (hts _ (tb_3 (List.mem_of_getElem? (i := 197) (by decide +kernel))))
  · exact va_Fw.of (A := #[Value.ref b]) (hts _ (tb_5 (List.mem_of_getElem? (i := 150) (by decide +kernel)))) (hts _ (tb_5 (List.mem_of_getElem? (i := 149) (by decide +kernel)))) (hts _ (tb_5 (List.mem_of_getElem? (i := 155) (by decide +kernel)))) (hts _ (tb_5 (List.mem_of_getElem? (i := 153) (by decide +kernel)))) (hts _ (tb_5 (List.mem_of_getElem? (i := 151) (by decide +kernel))))
  · exact va_Fw.of (A := #[Value.ref b]) (hts _ (tb_5 (List.mem_of_getElem? (i := 160) (by decide +kernel)))) (hts _ (tb_5 (List.mem_of_getElem? (i := 159) (by decide +kernel)))) (hts _ (tb_5 (List.mem_of_getElem? (i := 164) (by decide +kernel)))) (hts _ (tb_5 (List.mem_of_getElem? (i := 162) (by decide +kernel)))) (hts _ (tb_5 (List.mem_of_getElem? (i := 151) (by decide +kernel))))
def Y_misc (b t0 t1 t2 t3 t4 t5 t6 : Nat) (q0 q1 q2 q3 q4 q5 q6 q7 q8 q9 q10 q11 q12 q13 q14 q15 q16 q17 : Nat × Nat) (x70 x71 x72 x73 x74 x75 x76 : Nat) : Nat → Nat := fun n => match n with
  | 0 => t0
  | 1 => t1
  | 2 => t2
  | 3 => t3
  | 4 => t4
  | 5 => t5
  | 6 => t6
  | 7 => b
  | 10 => q0.1
  | 11 => q1.1
  | 12 => q2.1
  | 13 => q3.1
  | 14 => q4.1
  | 15 => q5.1
  | 16 => q6.1
  | 17 => q7.1
  | 18 => q8.1
  | 19 => q9.1
  | 20 => q10.1
  | 21 => q11.1
  | 22 => q12.1
  | 23 => q13.1
  | 24 => q14.1
  | 25 => q15.1
  | 26 => q16.1
  | 27 => q17.1
  | 40 => q0.2
  | 41 => q1.2
  | 42 => q2.2
  | 43 => q3.2
  | 44 => q4.2
  | 45 => q5.2
  | 46 => q6.2
  | 47 => q7.2
  | 48 => q8.2
  | 49 => q9.2
  | 50 => q10.2
  | 51 => q11.2
  | 52 => q12.2
  | 53 => q13.2
  | 54 => q14.2
  | 55 => q15.2
  | 56 => q16.2
  | 57 => q17.2
  | 70 => x70
  | 71 => x71
  | 72 => x72
  | 73 => x73
  | 74 => x74
  | 75 => x75
  | 76 => x76
  | _ => 0
set_option maxHeartbeats 4000000 in
set_option maxRecDepth 100000 in
theorem Y_F0 {s : State} {b : Nat} (hts : ∀ w ∈ lw_tbl, w.before #[Value.ref b] s = true) (hs : ∀ w ∈ Y_nar, w.before #[Value.ref b] s = true) (hx : ∀ scr : Cell, s.heap[b]? = some scr → s.isArrayOf scr .int) (D : va_G × (Nat → ClassId)) : ∃ mi : Nat → Nat, mi 7 = b ∧ z_F (D.1, D.2, s.heap, mi) s := by
  have hA : ∀ a : Nat, a < s.heap.size → ¬ (s.heap.size ≤ a) := fun a h => Nat.not_le.mpr h
  obtain ⟨t0, hz0, ht0⟩ := Y_t0 hts hs hA
  obtain ⟨t1, hz1, ht1⟩ := Y_t1 hts hs hA
  obtain ⟨t2, hz2, ht2⟩ := Y_t2 hts hs hA
  obtain ⟨t3, hz3, ht3⟩ := Y_t3 hts hs hA
  obtain ⟨t4, hz4, ht4⟩ := Y_d0 hts hs hA
  obtain ⟨t5, hz5, ht5⟩ := Y_d1 hts hs hA
  obtain ⟨t6, ht6⟩ := va_Mi.of (args := #[Value.ref b]) (C := "[Ljava/lang/Object;") (hs _ (List.mem_of_getElem? (i := 321) (by decide +kernel)))
  obtain ⟨q0, e0, h0⟩ := Y_w0 hs hA
  obtain ⟨q1, e1, h1⟩ := Y_w1 hs hA
  obtain ⟨q2, e2, h2⟩ := Y_w2 hs hA
  obtain ⟨q3, e3, h3⟩ := Y_w3 hs hA
  obtain ⟨q4, e4, h4⟩ := Y_w4 hs hA
  obtain ⟨q5, e5, h5⟩ := Y_w5 hs hA
  obtain ⟨q6, e6, h6⟩ := Y_w6 hs hA
  obtain ⟨q7, e7, h7⟩ := Y_w7 hs hA
  obtain ⟨q8, e8, h8⟩ := Y_w8 hs hA
  obtain ⟨q9, e9, h9⟩ := Y_w9 hs hA
  obtain ⟨q10, e10, h10⟩ := Y_w10 hs hA
  obtain ⟨q11, e11, h11⟩ := Y_w11 hs hA
  obtain ⟨q12, e12, h12⟩ := Y_w12 hs hA
  obtain ⟨q13, e13, h13⟩ := Y_w13 hs hA
  obtain ⟨q14, e14, h14⟩ := Y_w14 hs hA
  obtain ⟨q15, e15, h15⟩ := Y_w15 hs hA
  obtain ⟨q16, e16, h16⟩ := Y_w16 hs hA
  obtain ⟨q17, e17, h17⟩ := Y_w17 hs hA
  obtain ⟨x70, hx70⟩ := Y_x70 hts hs
  obtain ⟨x71, hx71⟩ := Y_x71 hts hs
  obtain ⟨x72, hx72⟩ := Y_x72 hts hs
  obtain ⟨x73, hx73⟩ := Y_x73 hts hs
  obtain ⟨x74, hx74⟩ := Y_x74 hts hs
  obtain ⟨x75, hx75⟩ := Y_x75 hts hs
  obtain ⟨x76, hx76⟩ := Y_x76 hts hs
  refine ⟨Y_misc b t0 t1 t2 t3 t4 t5 t6 q0 q1 q2 q3 q4 q5 q6 q7 q8 q9 q10 q11 q12 q13 q14 q15 q16 q17 x70 x71 x72 x73 x74 x75 x76, rfl, ?_, ⟨?_, ?_⟩, ?_, Y_nest hts, Y_psel hts, hx, ?_, ?_, ⟨Y_faces hts, ⟨hz3, ht3⟩, ⟨?_, ?_⟩, ⟨ht6, ?_⟩, ?_⟩⟩
  · intro q hq
    simp only [z_tabs, List.mem_cons, List.not_mem_nil, or_false] at hq
    rcases hq with rfl | rfl | rfl
    · exact ⟨hz0, ht0⟩
    · exact ⟨hz1, ht1⟩
    · exact ⟨hz2, ht2⟩
  · intro i hi
    match i, hi with
    | 0, _ => exact h0
    | 1, _ => exact h1
    | 2, _ => exact h2
    | 3, _ => exact h3
    | 4, _ => exact h4
    | 5, _ => exact h5
    | 6, _ => exact h6
    | 7, _ => exact h7
    | 8, _ => exact h8
    | 9, _ => exact h9
    | 10, _ => exact h10
    | 11, _ => exact h11
    | 12, _ => exact h12
    | 13, _ => exact h13
    | 14, _ => exact h14
    | 15, _ => exact h15
    | 16, _ => exact h16
    | 17, _ => exact h17
    | i + 18, hi => exact absurd hi (by omega)
  · have key : ∀ i : Nat, i < 18 → ∃ (own : String) (k : Nat), Y_str own k (z_lens.getD i 0) (z_byts.getD i []) (fun q => s.heap.size ≤ q) s (Y_misc b t0 t1 t2 t3 t4 t5 t6 q0 q1 q2 q3 q4 q5 q6 q7 q8 q9 q10 q11 q12 q13 q14 q15 q16 q17 x70 x71 x72 x73 x74 x75 x76 (10 + i), Y_misc b t0 t1 t2 t3 t4 t5 t6 q0 q1 q2 q3 q4 q5 q6 q7 q8 q9 q10 q11 q12 q13 q14 q15 q16 q17 x70 x71 x72 x73 x74 x75 x76 (40 + i)) := by
      intro i hi
      match i, hi with
      | 0, _ => exact ⟨_, _, h0⟩
      | 1, _ => exact ⟨_, _, h1⟩
      | 2, _ => exact ⟨_, _, h2⟩
      | 3, _ => exact ⟨_, _, h3⟩
      | 4, _ => exact ⟨_, _, h4⟩
      | 5, _ => exact ⟨_, _, h5⟩
      | 6, _ => exact ⟨_, _, h6⟩
      | 7, _ => exact ⟨_, _, h7⟩
      | 8, _ => exact ⟨_, _, h8⟩
      | 9, _ => exact ⟨_, _, h9⟩
      | 10, _ => exact ⟨_, _, h10⟩
      | 11, _ => exact ⟨_, _, h11⟩
      | 12, _ => exact ⟨_, _, h12⟩
      | 13, _ => exact ⟨_, _, h13⟩
      | 14, _ => exact ⟨_, _, h14⟩
      | 15, _ => exact ⟨_, _, h15⟩
      | 16, _ => exact ⟨_, _, h16⟩
      | 17, _ => exact ⟨_, _, h17⟩
      | i + 18, hi => exact absurd hi (by omega)
    intro i j hi hj he
    obtain ⟨o1, k1, g1⟩ := key i hi
    obtain ⟨o2, k2, g2⟩ := key j hj
    have hq := Y_strSame g1 g2 he
    have hd : ∀ i, i < 18 → ∀ j, j < 18 → Int32.ofNat (z_lens.getD i 0) = Int32.ofNat (z_lens.getD j 0) → (∀ m, m < z_lens.getD i 0 → m < z_lens.getD j 0 → (z_byts.getD i []).getD m 0 = (z_byts.getD j []).getD m 0) → i = j := by decide +kernel
    exact hd i hi j hj hq.1 hq.2
  · intro q hq
    simp only [z_txts, List.mem_cons, List.not_mem_nil, or_false] at hq
    rcases hq with rfl | rfl | rfl | rfl | rfl | rfl | rfl | rfl | rfl | rfl | rfl | rfl | rfl | rfl | rfl | rfl | rfl | rfl | rfl | rfl | rfl | rfl | rfl | rfl | rfl
    · exact vk_R.of (hts _ (tb_2 (List.mem_of_getElem? (i := 214) (by decide +kernel)))) e0
    · exact vk_R.of (hts _ (tb_3 (List.mem_of_getElem? (i := 44) (by decide +kernel)))) e1
    · exact vk_R.of (hts _ (tb_3 (List.mem_of_getElem? (i := 50) (by decide +kernel)))) e2
    · exact vk_R.of (hts _ (tb_3 (List.mem_of_getElem? (i := 67) (by decide +kernel)))) e3
    · exact vk_R.of (hts _ (tb_3 (List.mem_of_getElem? (i := 68) (by decide +kernel)))) e4
    · exact vk_R.of (hts _ (tb_3 (List.mem_of_getElem? (i := 69) (by decide +kernel)))) e5
    · exact vk_R.of (hts _ (tb_3 (List.mem_of_getElem? (i := 70) (by decide +kernel)))) e6
    · exact vk_R.of (hts _ (tb_3 (List.mem_of_getElem? (i := 71) (by decide +kernel)))) e7
    · exact vk_R.of (hts _ (tb_3 (List.mem_of_getElem? (i := 72) (by decide +kernel)))) e8
    · exact vk_R.of (hts _ (tb_4 (List.mem_of_getElem? (i := 173) (by decide +kernel)))) e9
    · exact vk_R.of (hts _ (tb_5 (List.mem_of_getElem? (i := 45) (by decide +kernel)))) e10
    · exact vk_R.of (hts _ (tb_5 (List.mem_of_getElem? (i := 46) (by decide +kernel)))) e11
    · exact vk_R.of (hts _ (tb_5 (List.mem_of_getElem? (i := 47) (by decide +kernel)))) e12
    · exact vk_R.of (hts _ (tb_5 (List.mem_of_getElem? (i := 48) (by decide +kernel)))) e13
    · exact vk_R.of (hts _ (tb_5 (List.mem_of_getElem? (i := 49) (by decide +kernel)))) e14
    · exact vk_R.of (hts _ (tb_5 (List.mem_of_getElem? (i := 50) (by decide +kernel)))) e15
    · exact vk_R.of (hts _ (tb_5 (List.mem_of_getElem? (i := 170) (by decide +kernel)))) e16
    · exact vk_R.of (hts _ (tb_5 (List.mem_of_getElem? (i := 184) (by decide +kernel)))) e17
    · exact hx70
    · exact hx71
    · exact hx72
    · exact hx73
    · exact hx74
    · exact hx75
    · exact hx76
  · exact va_Zof (hts _ (tb_2 (List.mem_of_getElem? (i := 228) (by decide +kernel)))) (hts _ (tb_1 (List.mem_of_getElem? (i := 21) (by decide +kernel)))) (va_eqi (hs _ (List.mem_of_getElem? (i := 12) (by decide +kernel)))) hA
  · exact va_Zqof (hts _ (tb_3 (List.mem_of_getElem? (i := 4) (by decide +kernel)))) (hts _ (tb_1 (List.mem_of_getElem? (i := 23) (by decide +kernel)))) (hs _ (List.mem_of_getElem? (i := 13) (by decide +kernel))) hA
  · exact va_AO.of (hts (Cond.arrayOver (FieldType.object "java/lang/Object")) (tb_4 (List.mem_of_getElem? (i := 13) (by decide +kernel))))
  · exact va_AO.of (hts (Cond.arrayOver (FieldType.object "BusLiftsLaw$Knows")) (tb_4 (List.mem_of_getElem? (i := 26) (by decide +kernel))))
  · exact va_Dc.of (hts _ (tb_7 (List.mem_of_getElem? (i := 220) (by decide +kernel))))
  · intro q hq
    simp only [z_digs, List.mem_cons, List.not_mem_nil, or_false] at hq
    rcases hq with rfl | rfl
    · exact ⟨hz4, ht4⟩
    · exact ⟨hz5, ht5⟩
set_option maxHeartbeats 4000000 in
set_option maxRecDepth 100000 in
theorem Y_K0 {s : State} {b : Nat} (hts : ∀ w ∈ lw_tbl, w.before #[Value.ref b] s = true) (hs : ∀ w ∈ Y_nar, w.before #[Value.ref b] s = true) (hx : ∀ scr : Cell, s.heap[b]? = some scr → s.isArrayOf scr .int) : ∃ G : Gx, G.2.2.1 = s.heap ∧ G.2.2.2 7 = b ∧ z_K G s := by
  have ht : ∀ w ∈ TT, w.before #[Value.ref b] s = true := fun w hw => hts w (List.mem_filter.mp hw).1
  obtain ⟨c0, i0, k0⟩ := u_known (N := 1) (T := TX0) (C := RX0) ht cf_0.2.1 (ht _ tw_2_64)
  obtain ⟨c1, i1, k1⟩ := u_known (N := 11) (T := TX1) (C := RX1) ht cf_1.2.1 (ht _ tw_1_157)
  obtain ⟨c2, i2, k2⟩ := u_known (N := 14) (T := TX2) (C := RX2) ht cf_2.2.1 (ht _ tw_1_83)
  obtain ⟨c3, i3, k3⟩ := u_known (N := 3) (T := TX3) (C := RX3) ht cf_3.2.1 (ht _ tw_2_44)
  obtain ⟨c4, i4, k4⟩ := u_known (N := 12) (T := TX4) (C := RX4) ht cf_4.2.1 (ht _ tw_1_44)
  obtain ⟨c5, i5, k5⟩ := u_known (N := 5) (T := TX5) (C := RX5) ht cf_5.2.1 (ht _ tw_1_54)
  obtain ⟨c6, i6, k6⟩ := u_known (N := 9) (T := TX6) (C := RX6) ht cf_6.2.1 (ht _ tw_2_76)
  obtain ⟨c7, i7, k7⟩ := u_known (N := 13) (T := TX7) (C := RX7) ht cf_7.2.1 (ht _ tw_1_36)
  obtain ⟨c8, i8, k8⟩ := u_known (N := 12) (T := TX8) (C := RX8) ht cf_8.2.1 (ht _ tw_4_20)
  obtain ⟨c9, i9, k9⟩ := u_known (N := 8) (T := TX9) (C := RX9) ht cf_9.2.1 (ht _ tw_3_163)
  obtain ⟨c10, i10, k10⟩ := u_known (N := 5) (T := TX10) (C := RX10) ht cf_10.2.1 (ht _ tw_4_27)
  obtain ⟨c11, i11, k11⟩ := u_known (N := 14) (T := TL) (C := RL) ht cf_11.2.1 (ht _ tw_3_125)
  obtain ⟨c12, i12, k12⟩ := u_known (N := 3) (T := TJx4a65c) (C := RJx4a65c) ht cf_12.2.1 (ht _ tw_3_131)
  obtain ⟨c13, i13, k13⟩ := u_known (N := 4) (T := TJx35411) (C := RJx35411) ht cf_13.2.1 (ht _ tw_5_129)
  obtain ⟨c14, i14, k14⟩ := u_known (N := 4) (T := TJ4) (C := RJ4) ht cf_14.2.1 (ht _ tw_4_144)
  obtain ⟨c15, i15, k15⟩ := u_known (N := 4) (T := TJ0) (C := RJ0) ht cf_15.2.1 (ht _ tw_5_56)
  obtain ⟨a0, ka0, comp0, f0, g0, d0⟩ := Cond.arrayClass_spec (ht _ tw_1_82)
  obtain ⟨m1, a1, ka1, r11, r12, r13, r14, r15⟩ := Cond.arrayOver_spec (hts (Cond.arrayOver (FieldType.object "BusLifts$Car")) (tb_1 (List.mem_of_getElem? (i := 50) (by decide +kernel))))
  obtain ⟨m2, a2, ka2, r21, r22, r23, r24, r25⟩ := Cond.arrayOver_spec (hts (Cond.arrayOver (FieldType.object "BusLifts$Call")) (tb_1 (List.mem_of_getElem? (i := 52) (by decide +kernel))))
  obtain ⟨m3, a3, ka3, r31, r32, r33, r34, r35⟩ := Cond.arrayOver_spec (hts (Cond.arrayOver (FieldType.object "BusLifts$Lifts")) (tb_2 (List.mem_of_getElem? (i := 50) (by decide +kernel))))
  obtain ⟨m4, a4, ka4, r41, r42, r43, r44, r45⟩ := Cond.arrayOver_spec (hts (Cond.arrayOver (FieldType.object "BusLiftsLaw$Knows")) (tb_4 (List.mem_of_getElem? (i := 26) (by decide +kernel))))
  obtain ⟨m5, a5, ka5, r51, r52, r53, r54, r55⟩ := Cond.arrayOver_spec (hts (Cond.arrayOver (FieldType.object "java/lang/Object")) (tb_4 (List.mem_of_getElem? (i := 13) (by decide +kernel))))
  obtain ⟨a6, ka6, comp6, f6, g6, d6⟩ := Cond.arrayClass_spec (ht _ tw_3_103)
  obtain ⟨mi, h7, hF⟩ := Y_F0 hts hs hx ((fun n => match n with | 0 => c0 | 1 => c1 | 2 => c2 | 3 => c3 | 4 => c4 | 5 => c5 | 6 => c6 | 7 => c7 | 8 => c8 | 9 => c9 | 10 => c10 | 11 => c11 | 12 => c12 | 13 => c13 | 14 => c14 | _ => c15, fun n => match n with | 0 => i0 | 1 => i1 | 2 => i2 | 3 => i3 | 4 => i4 | 5 => i5 | 6 => i6 | 7 => i7 | 8 => i8 | 9 => i9 | 10 => i10 | 11 => i11 | 12 => i12 | 13 => i13 | 14 => i14 | _ => i15), fun n => match n with | 0 => a0 | 1 => a1 | 2 => a2 | 3 => a3 | 4 => a4 | 5 => a5 | _ => a6)
  refine ⟨_, rfl, h7, ⟨fun c q hc => ?_, fun k q hk => ?_⟩, hF⟩
  · match c, hc with
    | 0, hc => cases hc; exact k0
    | 1, hc => cases hc; exact k1
    | 2, hc => cases hc; exact k2
    | 3, hc => cases hc; exact k3
    | 4, hc => cases hc; exact k4
    | 5, hc => cases hc; exact k5
    | 6, hc => cases hc; exact k6
    | 7, hc => cases hc; exact k7
    | 8, hc => cases hc; exact k8
    | 9, hc => cases hc; exact k9
    | 10, hc => cases hc; exact k10
    | 11, hc => cases hc; exact k11
    | 12, hc => cases hc; exact k12
    | 13, hc => cases hc; exact k13
    | 14, hc => cases hc; exact k14
    | 15, hc => cases hc; exact k15
    | c + 16, hc => exact nomatch hc
  · match k, hk with
    | 0, hk => cases hk; exact ⟨fun n z => ⟨(fun k h => by cases h), ka0, g0, comp0, d0⟩, f0⟩
    | 1, hk => cases hk; exact ⟨fun n z => ⟨(fun k h => by cases h), ka1, r13, m1, r14⟩, ka1, m1, r13, r14, r11, r15⟩
    | 2, hk => cases hk; exact ⟨fun n z => ⟨(fun k h => by cases h), ka2, r23, m2, r24⟩, ka2, m2, r23, r24, r21, r25⟩
    | 3, hk => cases hk; exact ⟨fun n z => ⟨(fun k h => by cases h), ka3, r33, m3, r34⟩, ka3, m3, r33, r34, r31, r35⟩
    | 4, hk => cases hk; exact ⟨fun n z => ⟨(fun k h => by cases h), ka4, r43, m4, r44⟩, ka4, m4, r43, r44, r41, r45⟩
    | 5, hk => cases hk; exact ⟨fun n z => ⟨(fun k h => by cases h), ka5, r53, m5, r54⟩, ka5, m5, r53, r54, r51, r55⟩
    | 6, hk => cases hk; exact ⟨fun n z => ⟨(fun k h => by cases h), ka6, g6, comp6, d6⟩, f6⟩
    | k + 7, hk => exact nomatch hk
