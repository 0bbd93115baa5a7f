/-! the world: kinds of cells, their contents as functions of one state; rows of the walk over it -/
abbrev Sg : Type := Nat → Nat → Nat → Int32
abbrev Ad : Type := Nat → Nat → Nat
abbrev Gx : Type := va_G × (Nat → ClassId) × Heap × (Nat → Nat)
abbrev z_cl : List vw_C := [(RX0, TX0, 1), (RX1, TX1, 11), (RX2, TX2, 14), (RX3, TX3, 3), (RX4, TX4, 12), (RX5, TX5, 5), (RX6, TX6, 9), (RX7, TX7, 13), (RX8, TX8, 12), (RX9, TX9, 8), (RX10, TX10, 5), (RL, TL, 14), (RJx4a65c, TJx4a65c, 3), (RJx35411, TJx35411, 4), (RJ4, TJ4, 4), (RJ0, TJ0, 4)]
abbrev z_tys (G : Gx) : List (ClassId × FieldType) := [(G.2.1 0, .int), (G.2.1 1, .object RX2), (G.2.1 2, .object RX1), (G.2.1 3, .object RX4), (G.2.1 4, .object RX10), (G.2.1 5, .object "java/lang/Object"), (G.2.1 6, .byte)]
def z_cnt : Nat → Nat := fun k => match k with
  | 0 => 1
  | 1 => 312
  | 2 => 52
  | 3 => 1
  | 4 => 13
  | 5 => 14
  | 6 => 1
  | 7 => 1
  | 10 => 1
  | 11 => 1
  | 12 => 13
  | 13 => 13
  | 14 => 13
  | 15 => 13
  | 16 => 52
  | 17 => 52
  | 18 => 52
  | 19 => 52
  | 20 => 14
  | 21 => 14
  | 22 => 14
  | 23 => 14
  | 24 => 1
  | 25 => 13
  | 26 => 13
  | 27 => 1
  | _ => 0
def z_side : Nat → Nat := fun _ => 0
def z_cel (G : Gx) (ad : Ad) (k o : Nat) (a : Nat → Int32) : va_E := match k with
  | 0 => .inr (0, [.ref (ad 5 13)])
  | 1 => .inr (1, [.int (a 0), .int (a 1), .int (a 2), .int (a 3), .int (a 4), .int (a 5), .int (a 6), .int (a 7), .int (a 8), .int (a 9), .int (a 10)])
  | 2 => .inr (2, [.int (a 0), .int (a 1), .int (a 2), .int (a 3), .int (a 4), .int (a 5), .int (a 6), .int (a 7), .int (a 8), .int (a 9), .ref (ad 16 o), .ref (ad 17 o), .ref (ad 18 o), .ref (ad 19 o)])
  | 3 => .inr (3, [.int (a 0), .int (a 1), .ref (ad 27 0)])
  | 4 => .inr (4, [.int (a 0), .int (a 1), .int (a 2), .int (a 3), .int (a 4), .ref (ad 12 o), .ref (ad 25 o), .ref (ad 26 o), .ref (ad 5 o), .ref (ad 13 o), .ref (ad 14 o), .ref (ad 15 o)])
  | 5 => .inr (5, [.int (a 0), .ref (ad 20 o), .ref (ad 21 o), .ref (ad 22 o), .ref (ad 23 o)])
  | 6 => .inr (6, [.int (a 0), .int (a 1), .ref (if a 2 = 0 then ad 24 0 else ad 10 0), .int (a 3), .int (a 4), .int (a 5), .int (a 6), .int (a 7), .int (a 8)])
  | 7 => .inr (7, [.ref (ad 10 0), .int (a 1), .int (a 2), .int (a 3), .ref (ad 11 0), .int (a 5), .ref (ad 4 0), .ref (ad 4 1), .ref (ad 4 2), .int (a 9), .ref (ad 3 0), .ref (ad 0 0), .ref (ad 6 0)])
  | 10 => .inl (G.2.1 0, 700, .inl a)
  | 11 => .inl (G.2.1 0, 30, .inl a)
  | 12 => .inl (G.2.1 0, 5, .inl a)
  | 13 => .inl (G.2.1 0, 4, .inl a)
  | 14 => .inl (G.2.1 0, 4, .inl a)
  | 15 => .inl (G.2.1 0, 5, .inl a)
  | 16 => .inl (G.2.1 0, 24, .inl a)
  | 17 => .inl (G.2.1 0, 24, .inl a)
  | 18 => .inl (G.2.1 0, 96, .inl a)
  | 19 => .inl (G.2.1 0, 4, .inl a)
  | 20 => .inl (G.2.1 0, 240, .inl a)
  | 21 => .inl (G.2.1 0, 240, .inl a)
  | 22 => .inl (G.2.1 0, 240, .inl a)
  | 23 => .inl (G.2.1 0, 240, .inl a)
  | 24 => .inl (G.2.1 0, 0, .inl a)
  | 25 => .inl (G.2.1 1, 4, .inr (.inr (.inr (.inr (fun i => some (ad 2 (4 * o + i)))))))
  | 26 => .inl (G.2.1 2, 24, .inr (.inr (.inr (.inr (fun i => some (ad 1 (24 * o + i)))))))
  | 27 => .inl (G.2.1 3, 10, .inr (.inr (.inr (.inr (fun i => some (ad 4 (3 + i)))))))
  | _ => .inr (0, [])
def z_lens : List Nat := [6, 3, 4, 5, 8, 6, 4, 5, 4, 7, 7, 10, 8, 6, 6, 1, 4, 5]
def z_byts : List (List Int32) := [[102, 108, 111, 111, 114, 115], [99, 97, 114], [99, 97, 108, 108], [110, 111, 105, 115, 101], [112, 97, 116, 105, 101, 110, 99, 101], [119, 101, 105, 103, 104, 116], [100, 111, 111, 114], [98, 111, 117, 110, 100], [115, 101, 101, 100], [102, 108, 111, 111, 114, 115, 32], [59, 110, 111, 105, 115, 101, 32], [59, 112, 97, 116, 105, 101, 110, 99, 101, 32], [59, 119, 101, 105, 103, 104, 116, 32], [59, 100, 111, 111, 114, 32], [59, 115, 101, 101, 100, 32], [59], [99, 97, 114, 32], [99, 97, 108, 108, 32]]
def z_txts : List (String × Nat × String × Nat) := [("BusLifts$SetupReader", 62, "floors", 10), ("BusLifts$SetupReader", 83, "car", 11), ("BusLifts$SetupReader", 88, "call", 12), ("BusLifts$SetupReader", 126, "noise", 13), ("BusLifts$SetupReader", 128, "patience", 14), ("BusLifts$SetupReader", 130, "weight", 15), ("BusLifts$SetupReader", 132, "door", 16), ("BusLifts$SetupReader", 134, "bound", 17), ("BusLifts$SetupReader", 136, "seed", 18), ("BusLiftsLaw", 105, "floors ", 19), ("BusLiftsLaw", 114, ";noise ", 20), ("BusLiftsLaw", 116, ";patience ", 21), ("BusLiftsLaw", 118, ";weight ", 22), ("BusLiftsLaw", 120, ";door ", 23), ("BusLiftsLaw", 122, ";seed ", 24), ("BusLiftsLaw", 124, ";", 25), ("BusLiftsLaw", 147, "car ", 26), ("BusLiftsLaw", 152, "call ", 27), ("BusLifts", 92, "no such car", 70), ("BusLifts", 119, "out of range", 71), ("BusLifts", 100, "no such call", 72), ("BusLifts", 328, "the car does not hold the call", 73), ("BusLifts", 107, "no such floor", 74), ("BusLifts", 113, "the same floor twice", 75), ("BusLifts", 302, "too many calls", 76)]
def z_tabs : List (String × Nat × List Int32) := [("LEAST_SETTING", 0, [0, 3, 0, 0, 1]), ("MOST_SETTING", 1, [90, 50, 20, 5, 999]), ("FIRST_SETTING", 2, [0, 6, 2, 1, 30])]
def z_nest : List Cond := [.methodLinkNest "BusLifts$Lifts" 29 yX5_init "BusLifts", .methodLinkNest "BusLifts$Lifts" 43 yX2_init "BusLifts", .methodLinkNest "BusLifts$Lifts" 44 yX1_init "BusLifts", .methodLinkNest "BusLifts" 45 yX0_init "BusLifts", .methodLinkNest "BusLifts$Bus" 11 yX5_init "BusLifts", .methodLinkNest "BusLifts" 52 yX6_init "BusLifts", .fieldLinkNest "BusLifts$Lifts" 61 "BusLifts" "FIRST_SETTING" "[I" "BusLifts", .fieldLinkNest "BusLifts$SetupReader" 117 "BusLifts" "LEAST_SETTING" "[I" "BusLifts", .fieldLinkNest "BusLifts$SetupReader" 120 "BusLifts" "MOST_SETTING" "[I" "BusLifts", .fieldLinkNest "java/util/ArrayList$Itr" 28 "java/util/ArrayList" "size" "I" "java/util/ArrayList", .methodLinkNest "BusLiftsLaw" 84 yX9_init "BusLiftsLaw", .fieldLinkNest "BusLiftsLaw" 85 "BusLiftsLaw$Car" "floor" "I" "BusLiftsLaw", .fieldLinkNest "BusLiftsLaw" 88 "BusLiftsLaw$Car" "room" "I" "BusLiftsLaw", .fieldLinkNest "BusLiftsLaw" 230 "BusLiftsLaw$Car" "door" "I" "BusLiftsLaw", .fieldLinkNest "BusLiftsLaw" 239 "BusLiftsLaw$Car" "gone" "I" "BusLiftsLaw", .fieldLinkNest "BusLiftsLaw" 242 "BusLiftsLaw$Car" "stops" "I" "BusLiftsLaw", .fieldLinkNest "BusLiftsLaw" 248 "BusLiftsLaw$Car" "nobody" "I" "BusLiftsLaw", .fieldLinkNest "BusLiftsLaw" 199 "BusLiftsLaw$Car" "stopped" "Z" "BusLiftsLaw", .fieldLinkNest "BusLiftsLaw" 196 "BusLiftsLaw$Car" "jammed" "Z" "BusLiftsLaw", .declares (⟨"java/util/List", "add", "(Ljava/lang/Object;)Z"⟩ : MethodName), .castable "java/util/ArrayList" "java/util/List", .methodLinkNest "BusLiftsLaw$Call" 27 yX10_init "BusLiftsLaw", .fieldLinkNest "BusLiftsLaw" 167 "BusLiftsLaw$Knows" "holds" "Z" "BusLiftsLaw", .fieldLinkNest "BusLiftsLaw" 202 "BusLiftsLaw$Knows" "cost" "I" "BusLiftsLaw", .fieldLinkNest "BusLiftsLaw" 218 "BusLiftsLaw$Knows" "decides" "I" "BusLiftsLaw", .fieldLinkNest "BusLiftsLaw" 251 "BusLiftsLaw$Knows" "missed" "I" "BusLiftsLaw", .fieldLinkNest "BusLiftsLaw" 209 "BusLiftsLaw$Knows" "bids" "[I" "BusLiftsLaw", .fieldLinkNest "BusLiftsLaw" 157 "BusLiftsLaw$Call" "from" "I" "BusLiftsLaw", .fieldLinkNest "BusLiftsLaw" 160 "BusLiftsLaw$Call" "to" "I" "BusLiftsLaw", .fieldLinkNest "BusLiftsLaw" 154 "BusLiftsLaw$Call" "made" "I" "BusLiftsLaw", .fieldLinkNest "BusLiftsLaw" 173 "BusLiftsLaw$Call" "state" "I" "BusLiftsLaw", .fieldLinkNest "BusLiftsLaw" 176 "BusLiftsLaw$Call" "taker" "I" "BusLiftsLaw", .fieldLinkNest "BusLiftsLaw" 254 "BusLiftsLaw$Call" "entered" "I" "BusLiftsLaw", .fieldLinkNest "BusLiftsLaw" 245 "BusLiftsLaw$Call" "left" "I" "BusLiftsLaw", .fieldLinkNest "BusLiftsLaw" 221 "BusLiftsLaw$Call" "rounds" "I" "BusLiftsLaw", .fieldLinkNest "BusLiftsLaw" 270 "BusLiftsLaw$Call" "claimer" "I" "BusLiftsLaw", .fieldLinkNest "BusLiftsLaw" 273 "BusLiftsLaw$Call" "claimed" "I" "BusLiftsLaw", .fieldLinkNest "BusLiftsLaw" 224 "BusLiftsLaw$Call" "announced" "I" "BusLiftsLaw", .fieldLinkNest "BusLiftsLaw" 163 "BusLiftsLaw$Call" "by" "[LBusLiftsLaw$Knows;" "BusLiftsLaw", .castable "[B" "java/lang/Cloneable", .declares (⟨"java/util/List", "iterator", "()Ljava/util/Iterator;"⟩ : MethodName), .declares (⟨"java/util/Iterator", "hasNext", "()Z"⟩ : MethodName), .castable "java/util/ArrayList$Itr" "java/util/Iterator", .declares (⟨"java/util/Iterator", "next", "()Ljava/lang/Object;"⟩ : MethodName), .declares (⟨"java/util/List", "size", "()I"⟩ : MethodName), .declares (⟨"java/util/List", "get", "(I)Ljava/lang/Object;"⟩ : MethodName), .castable "java/lang/IndexOutOfBoundsException" "java/lang/IndexOutOfBoundsException", .declares (⟨"java/lang/RuntimeException", "<init>", "()V"⟩ : MethodName), .declares (⟨"java/lang/RuntimeException", "<init>", "(Ljava/lang/String;)V"⟩ : MethodName), .declares (⟨"java/lang/Exception", "<init>", "()V"⟩ : MethodName), .declares (⟨"java/lang/Exception", "<init>", "(Ljava/lang/String;)V"⟩ : MethodName), .declares (⟨"java/lang/Throwable", "<init>", "()V"⟩ : MethodName), .declares (⟨"java/lang/Throwable", "<init>", "(Ljava/lang/String;)V"⟩ : MethodName), .castable "java/lang/IllegalArgumentException" "java/lang/IllegalArgumentException", .castable "java/lang/IllegalStateException" "java/lang/IllegalStateException", .castable "BusLifts$Car" "java/lang/Object", .castable "BusLifts$Call" "java/lang/Object", .castable "BusLifts$Lifts" "java/lang/Object", .castable "BusLiftsLaw$Knows" "java/lang/Object", .castable "BusLiftsLaw" "java/lang/Object", .castable "java/util/ArrayList" "java/lang/Object", .castable "BusLiftsLaw$Car" "java/lang/Object", .castable "BusLiftsLaw$Call" "java/lang/Object", .castable "BusLifts" "java/lang/Object", .castable "BusLifts$Messages" "java/lang/Object", .castable "BusLifts$History" "java/lang/Object", .castable "BusLifts$Bus" "java/lang/Object", .castable "BusLifts$SetupReader" "java/lang/Object", .castable "java/lang/StringBuilder" "java/lang/Object", .castable "java/lang/String" "java/lang/Object", .castable "java/util/ArrayList$Itr" "java/lang/Object", .castable "java/lang/IndexOutOfBoundsException" "java/lang/Object", .castable "java/lang/IllegalArgumentException" "java/lang/Object", .castable "java/lang/IllegalStateException" "java/lang/Object", .castable "java/lang/Throwable" "java/lang/Object", .declares (⟨"java/lang/Object", "getClass", "()Ljava/lang/Class;"⟩ : MethodName), .castable "[LBusLifts$Car;" "java/lang/Object", .castable "[LBusLifts$Call;" "java/lang/Object", .castable "[I" "java/lang/Object", .castable "[LBusLifts$Lifts;" "java/lang/Object", .castable "[B" "java/lang/Object", .castable "[Ljava/lang/Object;" "java/lang/Object", .castable "[LBusLiftsLaw$Knows;" "java/lang/Object"]
def z_B (G : Gx) : Nat → Prop := fun q => G.2.2.1.size ≤ q
/-- what the law's own calls ask: lists, iterators, texts -/
def z_faces : List (String × MethodName × MethodName) := [(RJx4a65c, ⟨"java/util/List", "add", "(Ljava/lang/Object;)Z"⟩, yJx4a65c_add_9ea2d), (RJx4a65c, ⟨"java/util/List", "iterator", "()Ljava/util/Iterator;"⟩, yJx4a65c_iterator_32c93), (RJx4a65c, ⟨"java/util/List", "size", "()I"⟩, yJx4a65c_size_8abf5), (RJx4a65c, ⟨"java/util/List", "get", "(I)Ljava/lang/Object;"⟩, yJx4a65c_get_915e3), (RJx35411, ⟨"java/util/Iterator", "hasNext", "()Z"⟩, yJx35411_hasNext_aae02), (RJx35411, ⟨"java/util/Iterator", "next", "()Ljava/lang/Object;"⟩, yJx35411_next_0502b)]
theorem z_faces_mh : ∀ q ∈ z_faces, q.2.1.cls ≠ "java/lang/invoke/MethodHandle" ∧ q.2.1.cls ≠ "java/lang/invoke/VarHandle" := by decide +kernel
def z_digs : List (String × Nat × (Nat → Int32)) := [("DigitOnes", 4, fun j => Int32.ofNat (48 + j % 10)), ("DigitTens", 5, fun j => Int32.ofNat (48 + j / 10))]
def z_FL (G : Gx) (U : State) : Prop :=
  (∀ q ∈ z_faces, va_Fw q.1 q.2.1 q.2.2 U) ∧
  (va_Z "java/util/ArrayList" "DEFAULTCAPACITY_EMPTY_ELEMENTDATA" "[Ljava/lang/Object;" (.ref (G.2.2.2 3)) (z_B G) U G.2.2.1 ∧ va_T (.object "java/lang/Object") (G.2.2.2 3) 0 (fun _ => .null) (z_B G) U G.2.2.1) ∧
  (va_AO "java/lang/Object" U ∧ va_AO "BusLiftsLaw$Knows" U) ∧
  (va_Mi "[Ljava/lang/Object;" (G.2.2.2 6) U ∧ va_Dc U) ∧
  ∀ q ∈ z_digs, va_Z "java/lang/Integer" q.1 "[B" (.ref (G.2.2.2 q.2.1)) (z_B G) U G.2.2.1 ∧ va_T .byte (G.2.2.2 q.2.1) 100 (fun j => .int (q.2.2 j)) (z_B G) U G.2.2.1
/-- private methods of the class of builders, on a builder -/
def z_psel : List Cond := [.selects "java/lang/StringBuilder" yJ5_ensureCapacityInternal_d00df yJ5_ensureCapacityInternal_d00df, .selects "java/lang/StringBuilder" yJ5_newCapacity_0f7a4 yJ5_newCapacity_0f7a4, .selects "java/lang/StringBuilder" yJ5_putStringAt_47b60 yJ5_putStringAt_47b60, .selects "java/lang/StringBuilder" yJ5_inflateIfNeededFor_a7421 yJ5_inflateIfNeededFor_a7421]
theorem z_psel_good : ∀ w ∈ z_psel, goodWord w = true := List.all_eq_true.mp (by decide +kernel : z_psel.all goodWord = true)
theorem z_psel_tab : ∀ w ∈ z_psel, w.onTables = true := List.all_eq_true.mp (by decide +kernel : z_psel.all Cond.onTables = true)
theorem z_psel_warm {s U : State} (hW : s.WarmedH U.vm) (h : ∀ w ∈ z_psel, va_Nw w s) : ∀ w ∈ z_psel, va_Nw w U := fun w hw => word_at hW (good_of_word (z_psel_good w hw)) (h w hw)
def z_F (G : Gx) (U : State) : Prop :=
  (∀ q ∈ z_tabs, va_Z RX7 q.1 "[I" (.ref (G.2.2.2 q.2.1)) (z_B G) U G.2.2.1 ∧ va_T .int (G.2.2.2 q.2.1) 5 (fun j => .int (q.2.2.getD j 0)) (z_B G) U G.2.2.1) ∧
  vk_S 18 z_lens z_byts (fun i => G.2.2.2 (10 + i)) (fun i => G.2.2.2 (40 + i)) (z_B G) U G.2.2.1 ∧
  (∀ q ∈ z_txts, vk_R q.1 q.2.1 q.2.2.1 (G.2.2.2 q.2.2.2) U) ∧
  (∀ w ∈ z_nest, va_Nw w U) ∧
  (∀ w ∈ z_psel, va_Nw w U) ∧ (∀ scr : Cell, G.2.2.1[G.2.2.2 7]? = some scr → U.isArrayOf scr .int) ∧
  va_Z "java/lang/String" "COMPACT_STRINGS" "Z" (.int 1) (z_B G) U G.2.2.1 ∧ va_Zq "jdk/internal/util/Preconditions" "SIOOBE_FORMATTER" "Ljava/util/function/BiFunction;" (z_B G) U G.2.2.1 ∧
  z_FL G U
def z_K (G : Gx) (U : State) : Prop := va_K G.1 z_cl (z_tys G) U ∧ z_F G U
def z_nk (c : Cond) : Bool := match c with
  | .fieldLinkNest _ _ _ _ _ _ => true
  | .methodLinkNest _ _ _ _ => true
  | .castable _ _ => true
  | .declares _ => true
  | _ => false
theorem z_nk_ex (c : Cond) (h : z_nk c = true) : ((∃ a i b n d h, c = .fieldLinkNest a i b n d h) ∨ (∃ a i x h, c = .methodLinkNest a i x h) ∨ (∃ a b, c = .castable a b) ∨ ∃ a, c = .declares a) := by
  unfold z_nk at h
  split at h
  · exact Or.inl ⟨_, _, _, _, _, _, rfl⟩
  · exact Or.inr (Or.inl ⟨_, _, _, _, rfl⟩)
  · exact Or.inr (Or.inr (Or.inl ⟨_, _, rfl⟩))
  · exact Or.inr (Or.inr (Or.inr ⟨_, rfl⟩))
  · cases h
theorem z_nest_nk : ∀ c ∈ z_nest, z_nk c = true := List.all_eq_true.mp (rfl : z_nest.all z_nk = true)
theorem z_nest_warm {s U : State} (hW : s.WarmedH U.vm) (h : ∀ w ∈ z_nest, va_Nw w s) : ∀ w ∈ z_nest, va_Nw w U := by
  intro w hw
  rcases z_nk_ex w (z_nest_nk w hw) with ⟨a, i, b, n, d, hh, rfl⟩ | ⟨a, i, x, hh, rfl⟩ | ⟨a, b, rfl⟩ | ⟨a, rfl⟩
  · exact va_Nw.warmF hW (h _ hw)
  · exact va_Nw.warmM hW (h _ hw)
  · exact va_Nw.warmC hW (h _ hw)
  · exact va_Nw.warmD hW (h _ hw)
theorem z_FL.warm {G : Gx} {s U : State} (hW : s.WarmedH U.vm) (h : z_FL G s) : z_FL G U := by
  obtain ⟨h1, h2, h3, h4, h5⟩ := h
  exact ⟨fun q hq => (h1 q hq).moved (z_faces_mh q hq) hW.alike, ⟨h2.1.moved hW.alike, h2.2.moved hW.alike⟩, ⟨h3.1.moved hW.alike, h3.2.moved hW.alike⟩, ⟨h4.1.moved hW.alike, h4.2.moved hW.alike⟩, fun q hq => ⟨(h5 q hq).1.moved hW.alike, (h5 q hq).2.moved hW.alike⟩⟩
theorem z_F.warm {G : Gx} {s U : State} (hW : s.WarmedH U.vm) (h : z_F G s) : z_F G U := by
  obtain ⟨h1, h2, h3, h4, h5, h6, h7, h8, h9⟩ := h
  exact ⟨fun q hq => ⟨(h1 q hq).1.moved hW.alike, (h1 q hq).2.moved hW.alike⟩, h2.moved hW.alike, fun q hq => (h3 q hq).warm hW, z_nest_warm hW h4, z_psel_warm hW h5, (fun scr h => State.isArrayOf_alike hW.alike (h6 scr h)), h7.moved hW.alike, h8.moved hW.alike, h9.warm hW⟩
theorem z_K.warm {G : Gx} {s U : State} (hW : s.WarmedH U.vm) (h : z_K G s) : z_K G U := ⟨h.1.moved hW.alike, h.2.warm hW⟩
theorem z_K.calling {G : Gx} {U : State} (g : JFrame) (mk : MethodId) (a : Array Value) (h : z_K G U) : z_K G (U.calling g mk a) := z_K.warm (s := U) (State.WarmedH.refl U) h
/-- stores -/
def sup (σ : Sg) (k o i : Nat) (x : Int32) : Sg := fun k' o' i' => if k' = k ∧ o' = o ∧ i' = i then x else σ k' o' i'
def scp (σ : Sg) (k1 o1 sp k2 o2 dp n : Nat) : Sg := fun k o i => if k = k2 ∧ o = o2 ∧ dp ≤ i ∧ i < dp + n then σ k1 o1 (sp + (i - dp)) else σ k o i
theorem sup_ne {σ : Sg} {k o i : Nat} {x : Int32} (k' o' : Nat) (h : ¬ (k' = k ∧ o' = o)) : sup σ k o i x k' o' = σ k' o' := by
  funext j
  exact if_neg (fun q => h ⟨q.1, q.2.1⟩)
theorem sup_eq (σ : Sg) (k o i : Nat) (x : Int32) : sup σ k o i x k o = upd (σ k o) i x := by
  funext j
  by_cases h : j = i
  · simp [sup, upd, h]
  · simp [sup, upd, h]
theorem scp_ne {σ : Sg} {k1 o1 sp k o dp n : Nat} (k' o' : Nat) (h : ¬ (k' = k ∧ o' = o)) : scp σ k1 o1 sp k o dp n k' o' = σ k' o' := by
  funext j
  exact if_neg (fun q => h ⟨q.1, q.2.1⟩)
theorem scp_eq (σ : Sg) (k1 o1 sp k o dp n : Nat) : scp σ k1 o1 sp k o dp n k o = va_cpy (σ k1 o1) (σ k o) sp dp n := by
  funext j
  by_cases h : dp ≤ j ∧ j < dp + n
  · simp [scp, va_cpy, h]
  · have h2 : ¬ (k = k ∧ o = o ∧ dp ≤ j ∧ j < dp + n) := fun q => h q.2.2
    show (if k = k ∧ o = o ∧ dp ≤ j ∧ j < dp + n then _ else _) = (if dp ≤ j ∧ j < dp + n then _ else _)
    rw [if_neg h, if_neg h2]
/-- the world of one side -/
def z_W (b : Nat) (G : Gx) (ad : Ad) (σ : Sg) (H : Heap) : Prop :=
  (∀ k o, z_side k = b → o < z_cnt k → va_at G.1 z_cl (ad k o, z_cel G ad k o (σ k o)) H) ∧
  (∀ k o k' o', z_side k = b → o < z_cnt k → z_side k' = b → o' < z_cnt k' → ad k o = ad k' o' → k = k' ∧ o = o') ∧
  (∀ k o, z_side k = b → o < z_cnt k → G.2.2.1.size ≤ ad k o) ∧ G.2.2.1.size ≤ H.size ∧ ∀ q, q < G.2.2.1.size → H[q]? = G.2.2.1[q]?
def z_A (b : Nat) (ad : Ad) (sz : Nat) : Nat → Prop := fun q => (∃ k o, z_side k = b ∧ o < z_cnt k ∧ q = ad k o) ∨ sz ≤ q
def z_S (b : Nat) (G : Gx) (ad : Ad) (σ : Sg) (A : Nat → Prop) (H0 H : Heap) (locs : List Loc) : Prop :=
  z_W b G ad σ H ∧ va_S A H0 H locs ∧ (∀ k o, z_side k = b → o < z_cnt k → A (ad k o)) ∧ ∀ q, H0.size ≤ q → A q
theorem z_W.put {b : Nat} {G : Gx} {ad : Ad} {σ σ' : Sg} {H H1 : Heap} {k o : Nat} (h : z_W b G ad σ H) (hk : z_side k = b) (ho : o < z_cnt k) (hz : H1.size = H.size) (oq : ∀ q, q ≠ ad k o → H1[q]? = H[q]?)
    (hat : va_at G.1 z_cl (ad k o, z_cel G ad k o (σ' k o)) H1) (hs : ∀ k' o', ¬ (k' = k ∧ o' = o) → σ' k' o' = σ k' o') : z_W b G ad σ' H1 := by
  obtain ⟨h1, h2, h3, h4, h5⟩ := h
  refine ⟨fun k' o' hk' ho' => ?_, h2, h3, by rw [hz]; exact h4, fun q hq => ?_⟩
  · by_cases e : k' = k ∧ o' = o
    · obtain ⟨rfl, rfl⟩ := e
      exact hat
    · rw [hs k' o' e]
      exact (h1 k' o' hk' ho').kept (oq _ (fun z => e (h2 _ _ _ _ hk' ho' hk ho z)))
  · rw [oq q (fun z => absurd (h3 k o hk ho) (by rw [← z]; exact Nat.not_le.mpr hq))]
    exact h5 q hq
theorem va_P1 {D : va_G} {cl : List vw_C} {a : Nat} {e : va_E} {H : Heap} (h : va_at D cl (a, e) H) : va_P D cl [(a, e)] H := by
  intro i q hq
  cases i with
  | zero => cases hq; exact h
  | succ i => simp at hq
theorem va_D1 {A : Nat → Prop} {a : Nat} {e : va_E} (h : A a) : va_D A [(a, e)] := by
  refine ⟨fun i j p q hi hj _ => ?_, fun i q hq => ?_⟩
  · cases i with
    | zero => cases j with
      | zero => rfl
      | succ j => simp at hj
    | succ i => simp at hi
  · cases i with
    | zero => cases hq; exact h
    | succ i => simp at hq
/-- what stands in a method's body all the while -/
def Cx (p : Program) (s : State) (m : MethodId) (args : Array Value) (meth : Method) (c : Code) (own : String) (cc : ByteArray) (nL : Nat) (ret : Option FieldType) (G : Gx) : Prop :=
  p.tables.exec = Jvm.exec ∧ c.code = cc ∧ c.maxLocals = nL ∧ s.vm.findClass own = some m.cls ∧ (∀ w ∈ TT, w.before args s = true) ∧ z_K G s ∧ meth.locks = false ∧ meth.sig.returnType = ret
def CF (ci : Nat) (C : String) (T : u_T) (N : Nat) (ty : Nat → FieldType) : Prop :=
  z_cl[ci]? = some (C, T, N) ∧ (∀ w ∈ u_ws C T N, w ∈ TT) ∧ (∀ k, k < N → parseFieldDescriptor (T k).2.2.1 = some (ty k)) ∧ ∀ a, a < N → ∀ b, b < N → a ≠ b → (T a).2.1 ≠ (T b).2.1
section ZR
variable {p : Program} {l : Launch} {e : Env} {R : Room} {s : State} {m : MethodId} {args : Array Value} {below : List Frame} {meth : Method} {c : Code} {H : Heap} {locs : List Loc} {cells slots : Nat} {Q : State → Prop}
variable {cc : ByteArray} {pc : Nat} {ls : Array Slot} {rest : List Value} {own : String} {nL : Nat} {ret : Option FieldType} {G : Gx} {b : Nat} {ad : Ad} {σ : Sg} {A : Nat → Prop} {H0 : Heap}
theorem z_get (C : Cx p s m args meth c own cc nL ret G) (S : z_S b G ad σ A H0 H locs) (k o : Nat) (hk : z_side k = b) (ho : o < z_cnt k) {ci : Nat} {Cn : String} {T : u_T} {N : Nat} {ty : Nat → FieldType} (F : CF ci Cn T N ty) (f : Nat) (hf : f < N) {v : Value}
    (hc : ∀ a, ∃ fs, z_cel G ad k o a = .inr (ci, fs) ∧ ∀ w, v = w → fs[f]? = some w) {index : Nat} (hl : Cond.fieldLink own index (T f).1 (T f).2.1 (T f).2.2.1 ∈ TT) (hdg : decode cc pc = .ok (.getfield index, 3))
    (kk : W p l e R s m args below meth c H locs cells slots Q (F0 m (pc + 3) ls (v :: rest))) : W p l e R s m args below meth c H locs cells slots Q (F0 m pc ls (.ref (ad k o) :: rest)) := by
  obtain ⟨fs, e1, e2⟩ := hc (σ k o)
  obtain ⟨F1, F2, F3, F4⟩ := F
  obtain ⟨x1, x2, x3, x4, x5, x6, x7, x8⟩ := C
  have hat := S.1.1 k o hk ho
  rw [e1] at hat
  exact va_get (ws := [(ad k o, .inr (ci, fs))]) (C := Cn) (T := T) (N := N) x1 x2 x5 F2 x4 x6.1 (va_P1 hat) 0 rfl F1 f hf (x5 _ hl) (fun _ h => h) (v := v) (e2 v rfl) hdg kk
theorem z_getI (C : Cx p s m args meth c own cc nL ret G) (S : z_S b G ad σ A H0 H locs) (k o : Nat) (hk : z_side k = b) (ho : o < z_cnt k) {ci : Nat} {Cn : String} {T : u_T} {N : Nat} {ty : Nat → FieldType} (F : CF ci Cn T N ty) (f : Nat) (hf : f < N)
    (hc : ∀ a, ∃ fs, z_cel G ad k o a = .inr (ci, fs) ∧ fs[f]? = some (.int (a f))) {index : Nat} (hl : Cond.fieldLink own index (T f).1 (T f).2.1 (T f).2.2.1 ∈ TT) (hdg : decode cc pc = .ok (.getfield index, 3))
    (kk : W p l e R s m args below meth c H locs cells slots Q (F0 m (pc + 3) ls (.int (σ k o f) :: rest))) : W p l e R s m args below meth c H locs cells slots Q (F0 m pc ls (.ref (ad k o) :: rest)) := by
  obtain ⟨fs, e1, e2⟩ := hc (σ k o)
  obtain ⟨F1, F2, F3, F4⟩ := F
  obtain ⟨x1, x2, x3, x4, x5, x6, x7, x8⟩ := C
  have hat := S.1.1 k o hk ho
  rw [e1] at hat
  exact va_get (ws := [(ad k o, .inr (ci, fs))]) (C := Cn) (T := T) (N := N) x1 x2 x5 F2 x4 x6.1 (va_P1 hat) 0 rfl F1 f hf (x5 _ hl) (fun _ h => h) e2 hdg kk
theorem z_getR (C : Cx p s m args meth c own cc nL ret G) (S : z_S b G ad σ A H0 H locs) (k o : Nat) (hk : z_side k = b) (ho : o < z_cnt k) {ci : Nat} {Cn : String} {T : u_T} {N : Nat} {ty : Nat → FieldType} (F : CF ci Cn T N ty) (f : Nat) (hf : f < N) (a2 : Nat)
    (hc : ∀ a, ∃ fs, z_cel G ad k o a = .inr (ci, fs) ∧ fs[f]? = some (.ref a2)) {index : Nat} (hl : Cond.fieldLink own index (T f).1 (T f).2.1 (T f).2.2.1 ∈ TT) (hdg : decode cc pc = .ok (.getfield index, 3))
    (kk : W p l e R s m args below meth c H locs cells slots Q (F0 m (pc + 3) ls (.ref a2 :: rest))) : W p l e R s m args below meth c H locs cells slots Q (F0 m pc ls (.ref (ad k o) :: rest)) := by
  obtain ⟨fs, e1, e2⟩ := hc (σ k o)
  obtain ⟨F1, F2, F3, F4⟩ := F
  obtain ⟨x1, x2, x3, x4, x5, x6, x7, x8⟩ := C
  have hat := S.1.1 k o hk ho
  rw [e1] at hat
  exact va_get (ws := [(ad k o, .inr (ci, fs))]) (C := Cn) (T := T) (N := N) x1 x2 x5 F2 x4 x6.1 (va_P1 hat) 0 rfl F1 f hf (x5 _ hl) (fun _ h => h) e2 hdg kk
/-- the reader's text: the input, once it was set -/
theorem z_getT (C : Cx p s m args meth c own cc nL ret G) (S : z_S b G ad σ A H0 H locs) (o : Nat) (hk : z_side 6 = b) (ho : o < z_cnt 6) (F : CF 6 RX6 TX6 9 tyX6) (h2 : ¬ σ 6 o 2 = 0) {index : Nat} (hl : Cond.fieldLink own index (TX6 2).1 (TX6 2).2.1 (TX6 2).2.2.1 ∈ TT) (hdg : decode cc pc = .ok (.getfield index, 3))
    (kk : W p l e R s m args below meth c H locs cells slots Q (F0 m (pc + 3) ls (.ref (ad 10 0) :: rest))) : W p l e R s m args below meth c H locs cells slots Q (F0 m pc ls (.ref (ad 6 o) :: rest)) := by
  obtain ⟨F1, F2, F3, F4⟩ := F
  obtain ⟨x1, x2, x3, x4, x5, x6, x7, x8⟩ := C
  have hat := S.1.1 6 o hk ho
  have e1 : z_cel G ad 6 o (σ 6 o) = .inr (6, [.int (σ 6 o 0), .int (σ 6 o 1), .ref (ad 10 0), .int (σ 6 o 3), .int (σ 6 o 4), .int (σ 6 o 5), .int (σ 6 o 6), .int (σ 6 o 7), .int (σ 6 o 8)]) := by
    simp [z_cel, h2]
  rw [e1] at hat
  exact va_get (ws := [(ad 6 o, .inr (6, [.int (σ 6 o 0), .int (σ 6 o 1), .ref (ad 10 0), .int (σ 6 o 3), .int (σ 6 o 4), .int (σ 6 o 5), .int (σ 6 o 6), .int (σ 6 o 7), .int (σ 6 o 8)]))]) (C := RX6) (T := TX6) (N := 9) x1 x2 x5 F2 x4 x6.1 (va_P1 hat) 0 rfl F1 2 (by decide) (x5 _ hl) (fun _ h => h) rfl hdg kk
theorem z_S.step {H1 : Heap} {locs1 : List Loc} {σ' : Sg} {k o : Nat} (S : z_S b G ad σ A H0 H locs) (hk : z_side k = b) (ho : o < z_cnt k) (hz : H1.size = H.size) (oq : ∀ q, q ≠ ad k o → H1[q]? = H[q]?)
    (hat : va_at G.1 z_cl (ad k o, z_cel G ad k o (σ' k o)) H1) (hs : ∀ k' o', ¬ (k' = k ∧ o' = o) → σ' k' o' = σ k' o') (hS : va_S A H0 H1 locs1) : z_S b G ad σ' A H0 H1 locs1 :=
  ⟨S.1.put hk ho hz oq hat hs, hS, S.2.2⟩
theorem z_put (C : Cx p s m args meth c own cc nL ret G) (S : z_S b G ad σ A H0 H locs) (k o : Nat) (hk : z_side k = b) (ho : o < z_cnt k) {ci : Nat} {Cn : String} {T : u_T} {N : Nat} {ty : Nat → FieldType} (F : CF ci Cn T N ty) (f : Nat) (hf : f < N) {v : Value} {σ' : Sg}
    (hc : ∀ a, ∃ fs, z_cel G ad k o a = .inr (ci, fs) ∧ f < fs.length ∧ ∀ a', a' = σ' k o → a = σ k o → z_cel G ad k o a' = .inr (ci, fs.set f v)) (hs : ∀ k' o', ¬ (k' = k ∧ o' = o) → σ' k' o' = σ k' o')
    (hfin : (T f).2.2.2 = false) (hn : narrow (ty f) v = v) (hfit : fits (ty f) v = true) {index : Nat} (hl : Cond.fieldLink own index (T f).1 (T f).2.1 (T f).2.2.1 ∈ TT) (hdg : decode cc pc = .ok (.putfield index, 3))
    (kk : ∀ (H1 : Heap) (locs1 : List Loc), z_S b G ad σ' A H0 H1 locs1 → W p l e R s m args below meth c H1 locs1 cells slots Q (F0 m (pc + 3) ls rest)) : W p l e R s m args below meth c H locs cells slots Q (F0 m pc ls (v :: .ref (ad k o) :: rest)) := by
  obtain ⟨fs, c1, c2, c3⟩ := hc (σ k o)
  obtain ⟨F1, F2, F3, F4⟩ := F
  obtain ⟨x1, x2, x3, x4, x5, x6, x7, x8⟩ := C
  have hK := x6.1
  have hap := va_apart (own := own) x5 F2 ty F3 F4 hK F1
  have hat := S.1.1 k o hk ho
  rw [c1] at hat
  obtain ⟨r, h1, cell, q1, q2, q3, q4⟩ := hat
  have hr : r = (Cn, T, N) := Option.some.inj (h1.symm.trans F1)
  subst hr
  obtain ⟨hS, hfc, kC, hkC, hkind⟩ := hK.1 ci _ F1
  obtain ⟨cf, kf, fi, f9, hi, hsl⟩ := hS f hf
  have hlay := x5 _ (F2 _ (u_in_lay hf))
  unfold u_lay at hlay
  rw [if_neg (by rw [hfin]; decide)] at hlay
  have hst := (u_facts hfc hkC (u_lays x5 F2 hf) hi).1
  have h6 := u_store hfc hkC hkind hlay hi (F3 f hf) hn hfit
  refine W.putK x1 x2 (f := f9) ⟨x4, x5 _ hl, ⟨_, _, _, hi⟩, hst⟩ (by rw [q2]; exact h6) q1 q3 (by rw [hsl]; exact k2_hasslot (q4 f hf)) rfl rfl hdg fun H' e1 e2 e3 => ?_
  rw [hsl] at e1 ⊢
  refine kk H' _ (S.step hk ho e2 e3 ?_ hs (S.2.1.put e2 e3 (S.2.2.1 k o hk ho)))
  rw [c3 _ rfl rfl]
  exact ⟨_, F1, t_OB.to (V := updV (vp_V fs) f v) ⟨_, e1, q2, q3, t_set q4 hap hf v⟩ (fun j _ => vp_updV_set c2 v j)⟩
theorem z_putI (C : Cx p s m args meth c own cc nL ret G) (S : z_S b G ad σ A H0 H locs) (k o : Nat) (hk : z_side k = b) (ho : o < z_cnt k) {ci : Nat} {Cn : String} {T : u_T} {N : Nat} {ty : Nat → FieldType} (F : CF ci Cn T N ty) (f : Nat) (hf : f < N) {x : Int32}
    (hc : ∀ a x, ∃ fs, z_cel G ad k o a = .inr (ci, fs) ∧ f < fs.length ∧ z_cel G ad k o (upd a f x) = .inr (ci, fs.set f (.int x)))
    (hfin : (T f).2.2.2 = false) (hn : narrow (ty f) (.int x) = .int x) (hfit : fits (ty f) (.int x) = true) {index : Nat} (hl : Cond.fieldLink own index (T f).1 (T f).2.1 (T f).2.2.1 ∈ TT) (hdg : decode cc pc = .ok (.putfield index, 3))
    (kk : ∀ (H1 : Heap) (locs1 : List Loc), z_S b G ad (sup σ k o f x) A H0 H1 locs1 → W p l e R s m args below meth c H1 locs1 cells slots Q (F0 m (pc + 3) ls rest)) : W p l e R s m args below meth c H locs cells slots Q (F0 m pc ls (.int x :: .ref (ad k o) :: rest)) := by
  refine z_put (σ' := sup σ k o f x) C S k o hk ho F f hf (fun a => ?_) (fun k' o' => sup_ne k' o') hfin hn hfit hl hdg kk
  obtain ⟨fs, h1, h2, h3⟩ := hc a x
  exact ⟨fs, h1, h2, fun a' ha' ha => by rw [ha', sup_eq, ← ha]; exact h3⟩
theorem z_iald (C : Cx p s m args meth c own cc nL ret G) (S : z_S b G ad σ A H0 H locs) (k o : Nat) (hk : z_side k = b) (ho : o < z_cnt k) (n : Nat) (hc : ∀ a, z_cel G ad k o a = .inl (G.2.1 0, n, .inl a)) {i : Int32} (hin : ¬ (i < 0 ∨ n ≤ i.toNatClampNeg)) (hdg : decode cc pc = .ok (.iaload, 1))
    (kk : W p l e R s m args below meth c H locs cells slots Q (F0 m (pc + 1) ls (.int (σ k o i.toNatClampNeg) :: rest))) : W p l e R s m args below meth c H locs cells slots Q (F0 m pc ls (.int i :: .ref (ad k o) :: rest)) := by
  obtain ⟨x1, x2, x3, x4, x5, x6, x7, x8⟩ := C
  have hat := S.1.1 k o hk ho
  rw [hc] at hat
  exact va_iald (ws := [(ad k o, .inl (G.2.1 0, n, .inl (σ k o)))]) x1 x2 x6.1 (va_P1 hat) 0 0 rfl rfl hin hdg kk
theorem z_alen (C : Cx p s m args meth c own cc nL ret G) (S : z_S b G ad σ A H0 H locs) (k o : Nat) (hk : z_side k = b) (ho : o < z_cnt k) (n : Nat) (hc : ∀ a, z_cel G ad k o a = .inl (G.2.1 0, n, .inl a)) {v : Int32} (hv : Int32.ofNat n = v) (hdg : decode cc pc = .ok (.arraylength, 1))
    (kk : W p l e R s m args below meth c H locs cells slots Q (F0 m (pc + 1) ls (.int v :: rest))) : W p l e R s m args below meth c H locs cells slots Q (F0 m pc ls (.ref (ad k o) :: rest)) := by
  obtain ⟨x1, x2, x3, x4, x5, x6, x7, x8⟩ := C
  have hat := S.1.1 k o hk ho
  rw [hc] at hat
  exact va_alen (ws := [(ad k o, .inl (G.2.1 0, n, .inl (σ k o)))]) x1 x2 x6.1 (va_P1 hat) 0 0 rfl rfl hv hdg kk
theorem z_aald (C : Cx p s m args meth c own cc nL ret G) (S : z_S b G ad σ A H0 H locs) (k o : Nat) (hk : z_side k = b) (ho : o < z_cnt k) (n t k2 d : Nat) {Cn : String} (ht : (z_tys G)[t]? = some (G.2.1 t, .object Cn)) (hc : ∀ a, z_cel G ad k o a = .inl (G.2.1 t, n, .inr (.inr (.inr (.inr (fun i => some (ad k2 (d + i)))))))) {i : Int32} (hin : ¬ (i < 0 ∨ n ≤ i.toNatClampNeg)) (hdg : decode cc pc = .ok (.aaload, 1))
    (kk : W p l e R s m args below meth c H locs cells slots Q (F0 m (pc + 1) ls (.ref (ad k2 (d + i.toNatClampNeg)) :: rest))) : W p l e R s m args below meth c H locs cells slots Q (F0 m pc ls (.int i :: .ref (ad k o) :: rest)) := by
  obtain ⟨x1, x2, x3, x4, x5, x6, x7, x8⟩ := C
  have hat := S.1.1 k o hk ho
  rw [hc] at hat
  exact va_aldq (ws := [(ad k o, .inl (G.2.1 t, n, .inr (.inr (.inr (.inr (fun i => some (ad k2 (d + i))))))))]) x1 x2 x6.1 (va_P1 hat) 0 t rfl ht hin hdg kk
theorem z_iast (C : Cx p s m args meth c own cc nL ret G) (S : z_S b G ad σ A H0 H locs) (k o : Nat) (hk : z_side k = b) (ho : o < z_cnt k) (n : Nat) (hc : ∀ a, z_cel G ad k o a = .inl (G.2.1 0, n, .inl a)) {i x : Int32} (hin : ¬ (i < 0 ∨ n ≤ i.toNatClampNeg)) (hdg : decode cc pc = .ok (.iastore, 1))
    (kk : ∀ (H1 : Heap) (locs1 : List Loc), z_S b G ad (sup σ k o i.toNatClampNeg x) A H0 H1 locs1 → W p l e R s m args below meth c H1 locs1 cells slots Q (F0 m (pc + 1) ls rest)) : W p l e R s m args below meth c H locs cells slots Q (F0 m pc ls (.int x :: .int i :: .ref (ad k o) :: rest)) := by
  obtain ⟨x1, x2, x3, x4, x5, x6, x7, x8⟩ := C
  have hat := S.1.1 k o hk ho
  rw [hc] at hat
  refine W.iast x1 x2 (cell := vp_cell (G.2.1 0) (n, .inl (σ k o))) hat ((x6.1.2 0 _ rfl).1 n (fun j => .int (σ k o j))) (fun q => by cases q) (by show ¬ (i < 0 ∨ (arrV _ _ _).slots.size ≤ _); rw [arrV_size]; exact hin) rfl rfl hdg fun H1 e z oq => ?_
  refine kk H1 _ (S.step hk ho z oq ?_ (fun k' o' => sup_ne k' o') (S.2.1.put z oq (S.2.2.1 k o hk ho)))
  rw [hc, sup_eq]
  show H1[ad k o]? = some (vp_cell _ _)
  rw [e, vp_cell_i, vp_cell_i, arrV_store]
  congr 2
  funext q
  by_cases hq : q = i.toNatClampNeg
  · subst hq
    simp [updV, upd]
  · simp [updV, upd, hq]
end ZR
/-- contracts -/
def z_Pre (b : Nat) (G : Gx) (ad : Ad) (σ : Sg) (sz : Nat) (U : State) : Prop := U.heap.size = sz ∧ z_W b G ad σ U.heap ∧ z_K G U
theorem z_blind (av : List Value) (b : Nat) (G : Gx) (ad : Ad) (σ : Sg) (sz : Nat) : FrameBlind (va_Pc av (z_Pre b G ad σ sz)) := fun a U g mk q => ⟨q.1, q.2.1, q.2.2.1, q.2.2.2.calling g mk a⟩
def z_ws (y : MethodName) (bytes : ByteArray) (maxL : Nat) (ret : Option FieldType) : List Cond := Cond.code y bytes maxL ret :: TT
def z_MI (l : Launch) (y : MethodName) (bytes : ByteArray) (maxL : Nat) (ret : Option FieldType) (fr lo b : Nat) (G : Gx) (ad : Ad) (σ : Sg) (sz : Nat) (av : List Value) (r : Int32) (σ' : Sg) : Prop :=
  Met l y (z_ws y bytes maxL ret) { frames := fr, cells := 0, slots := 0, locals := lo } (va_Pc av (z_Pre b G ad σ sz)) (va_Qi (S := Unit) (fun r1 _ => r1 = r) (fun _ t => z_W b G ad σ' t.heap) (z_A b ad sz)) 0 0 (z_A b ad sz)
def z_MV (l : Launch) (y : MethodName) (bytes : ByteArray) (maxL : Nat) (ret : Option FieldType) (fr lo b : Nat) (G : Gx) (ad : Ad) (σ : Sg) (sz : Nat) (av : List Value) (σ' : Sg) : Prop :=
  Met l y (z_ws y bytes maxL ret) { frames := fr, cells := 0, slots := 0, locals := lo } (va_Pc av (z_Pre b G ad σ sz)) (va_Qv (S := Unit) (fun _ => True) (fun _ t => z_W b G ad σ' t.heap) (z_A b ad sz)) 0 0 (z_A b ad sz)
theorem z_begin {l : Launch} {y : MethodName} {bytes : ByteArray} {maxL : Nat} {ret : Option FieldType} {fr lo b : Nat} {G : Gx} {ad : Ad} {σ : Sg} {sz : Nat} {av : List Value} {Qc : Array Value → State → Outcome → State → Prop} (hy : plainName y.cls = true) (hl : (lg_sl av).length ≤ maxL) (lv : List (Nat × Value)) (hlv : lv_args 0 av = lv)
    (body : ∀ (p : Program) (e : Env) (s : State) (m : MethodId) (args : Array Value) (below : List Frame) (meth : Method) (c : Code) (ls : Array Slot), Cx p s m args meth c y.cls bytes maxL ret G → sz = s.heap.size → z_S b G ad σ (z_A b ad s.heap.size) s.heap s.heap [] → lv_has ls maxL lv →
      W p l e { frames := fr, cells := 0, slots := 0, locals := lo } s m args below meth c s.heap [] 0 0 (MQ below Qc args s 0 0 (z_A b ad s.heap.size)) (F0 m 0 ls [])) :
    Met l y (z_ws y bytes maxL ret) { frames := fr, cells := 0, slots := 0, locals := lo } (va_Pc av (z_Pre b G ad σ sz)) Qc 0 0 (z_A b ad sz) := by
  refine Met.ofW (cc := bytes) (maxL := maxL) (ret := ret) hy rfl ?_
  intro p e s m args below meth c s₁ B hml hv
  obtain ⟨rfl, hsz, hW, hK⟩ := hv
  subst hsz
  have hts := atoms_spec (ws := z_ws y bytes maxL ret) B.pre
  have hl0 := lv_entry av hl
  rw [lg_entry_eq]
  rw [hlv] at hl0
  exact body p e s m _ below meth c _ ⟨B.exec, B.bytes, hml, findClass_of_methodNamed B.named, fun w hw => hts w (List.mem_cons_of_mem _ hw), hK, B.notSynchronized, B.returns⟩ rfl ⟨hW, va_S.rf, fun k o hk ho => Or.inl ⟨k, o, hk, ho, rfl⟩, fun q hq => Or.inr hq⟩ hl0
section ZE
variable {p : Program} {l : Launch} {e : Env} {R : Room} {s : State} {m : MethodId} {args : Array Value} {below : List Frame} {meth : Method} {c : Code} {H : Heap} {locs : List Loc} {cells slots : Nat} {Q : State → Prop}
variable {cc : ByteArray} {pc : Nat} {ls : Array Slot} {rest : List Value} {own : String} {nL : Nat} {G : Gx} {b : Nat} {ad : Ad} {σ σ' : Sg}
theorem z_iret {r v : Int32} (C : Cx p s m args meth c own cc nL (some .int) G) (S : z_S b G ad σ (z_A b ad s.heap.size) s.heap H locs) (hf : (some (v, σ) : Option (Int32 × Sg)) = some (r, σ')) (hdg : decode cc pc = .ok (.ireturn, 1)) :
    W p l e R s m args below meth c H locs cells slots (MQ below (va_Qi (S := Unit) (fun r1 _ => r1 = r) (fun _ t => z_W b G ad σ' t.heap) (z_A b ad s.heap.size)) args s cells slots (z_A b ad s.heap.size)) (F0 m pc ls [.int v]) := by
  cases hf
  obtain ⟨x1, x2, x3, x4, x5, x6, x7, x8⟩ := C
  exact W.iret x1 x2 x8 (fun t ht hW => ⟨⟨_, (), rfl, rfl, by show z_W b G ad σ t.heap; rw [ht]; exact S.1⟩, S.2.1.F ht⟩) S.2.1.2.2 hdg x7
theorem z_zret {r v : Int32} (C : Cx p s m args meth c own cc nL (some .boolean) G) (S : z_S b G ad σ (z_A b ad s.heap.size) s.heap H locs) (hn : narrow .boolean (.int v) = .int v) (hf : (some (v, σ) : Option (Int32 × Sg)) = some (r, σ')) (hdg : decode cc pc = .ok (.ireturn, 1)) :
    W p l e R s m args below meth c H locs cells slots (MQ below (va_Qi (S := Unit) (fun r1 _ => r1 = r) (fun _ t => z_W b G ad σ' t.heap) (z_A b ad s.heap.size)) args s cells slots (z_A b ad s.heap.size)) (F0 m pc ls [.int v]) := by
  cases hf
  obtain ⟨x1, x2, x3, x4, x5, x6, x7, x8⟩ := C
  exact W.zret x1 x2 x8 hn (fun t ht hW => ⟨⟨_, (), rfl, rfl, by show z_W b G ad σ t.heap; rw [ht]; exact S.1⟩, S.2.1.F ht⟩) S.2.1.2.2 hdg x7
theorem z_vret (C : Cx p s m args meth c own cc nL none G) (S : z_S b G ad σ (z_A b ad s.heap.size) s.heap H locs) (hf : (some σ : Option Sg) = some σ') (hdg : decode cc pc = .ok (.return_, 1)) :
    W p l e R s m args below meth c H locs cells slots (MQ below (va_Qv (S := Unit) (fun _ => True) (fun _ t => z_W b G ad σ' t.heap) (z_A b ad s.heap.size)) args s cells slots (z_A b ad s.heap.size)) (F0 m pc ls []) := by
  cases hf
  obtain ⟨x1, x2, x3, x4, x5, x6, x7, x8⟩ := C
  exact W.vret x1 x2 x8 (fun t ht hW => ⟨⟨(), rfl, trivial, by show z_W b G ad σ t.heap; rw [ht]; exact S.1⟩, S.2.1.F ht⟩) S.2.1.2.2 hdg x7
def KV (y : MethodName) (bytes : ByteArray) (maxL : Nat) (ret : Option FieldType) (n : Nat) : Prop :=
  Cond.code y bytes maxL ret ∈ TT ∧ Cond.instanceMethod y ∈ TT ∧ Cond.selects y.cls y y ∈ TT ∧ Cond.initialized y.cls ∈ TT ∧ y.cls ≠ "java/lang/invoke/MethodHandle" ∧ y.cls ≠ "java/lang/invoke/VarHandle" ∧ (parseMethodDescriptor y.desc).map (fun d => d.parameters.length) = some n
def KS (y : MethodName) (bytes : ByteArray) (maxL : Nat) (ret : Option FieldType) (n : Nat) : Prop :=
  Cond.code y bytes maxL ret ∈ TT ∧ Cond.static y ∈ TT ∧ Cond.initialized y.cls ∈ TT ∧ y.cls ≠ "java/lang/invoke/MethodHandle" ∧ y.cls ≠ "java/lang/invoke/VarHandle" ∧ (parseMethodDescriptor y.desc).map (fun d => d.parameters.length) = some n
variable {A : Nat → Prop} {H0 : Heap} {ret : Option FieldType}
theorem z_after {H1 : Heap} {locs1 : List Loc} (S : z_S b G ad σ A H0 H locs) (h1 : z_W b G ad σ' H1) (h2 : va_S A H0 H1 locs1) : z_S b G ad σ' A H0 H1 locs1 := ⟨h1, h2, S.2.2⟩
theorem z_Ain (S : z_S b G ad σ A H0 H locs) : ∀ q, z_A b ad H.size q → A q := by
  intro q hq
  rcases hq with ⟨k, o, hk, ho, rfl⟩ | hq
  · exact S.2.2.1 k o hk ho
  · exact S.2.2.2 q (Nat.le_trans S.2.1.1 hq)
theorem z_recv {k o ci : Nat} {Cn : String} {T : u_T} {N : Nat} {ty : Nat → FieldType} {fs : List Value} (x6 : z_K G s) (S : z_S b G ad σ A H0 H locs) (hk : z_side k = b) (ho : o < z_cnt k) (F : CF ci Cn T N ty) (hc : ∃ fs, z_cel G ad k o (σ k o) = .inr (ci, fs)) : ∃ cell : Cell, H[ad k o]? = some cell ∧ cell.vm.isStatics = false ∧ s.vm.findClass Cn = some cell.cls := by
  obtain ⟨fs, hc⟩ := hc
  have hat := S.1.1 k o hk ho
  rw [hc] at hat
  exact va_recv (ws := [(ad k o, .inr (ci, fs))]) (q0 := 0) x6.1 (va_P1 hat) F.1 rfl
theorem z_cwV {y : MethodName} {bytes : ByteArray} {maxL n fr lo index : Nat} {ret2 : Option FieldType} (C : Cx p s m args meth c own cc nL ret G) (kv : KV y bytes maxL ret2 n) (hl : Cond.methodLink own index y ∈ TT) (hR : fr + 1 ≤ R.frames ∧ 8 + (maxL + 11) + lo ≤ R.locals) :
    CallW R s args own y.cls index y bytes maxL ret2 (z_ws y bytes maxL ret2) { frames := fr, cells := 0, slots := 0, locals := lo } 0 0 n := by
  obtain ⟨x1, x2, x3, x4, x5, x6, x7, x8⟩ := C
  obtain ⟨k1, k2, k3, k4, k5, k6, k7⟩ := kv
  exact ⟨callB_of n x5 (tt_good k1) rfl rfl rfl (x5 _ k4) (x5 _ hl) ⟨k5, k6, k7⟩ hR, x5 _ k2, x5 _ k3⟩
theorem z_cwS {y : MethodName} {bytes : ByteArray} {maxL n fr lo index : Nat} {ret2 : Option FieldType} (C : Cx p s m args meth c own cc nL ret G) (kv : KS y bytes maxL ret2 n) (hl : Cond.methodLink own index y ∈ TT) (hR : fr + 1 ≤ R.frames ∧ 8 + (maxL + 11) + lo ≤ R.locals) :
    CallB R s args own index y bytes maxL ret2 (z_ws y bytes maxL ret2) { frames := fr, cells := 0, slots := 0, locals := lo } 0 0 n ∧ (Cond.static y).before args s = true := by
  obtain ⟨x1, x2, x3, x4, x5, x6, x7, x8⟩ := C
  obtain ⟨k1, k2, k3, k4, k5, k6⟩ := kv
  exact ⟨callB_of n x5 (tt_good k1) rfl rfl rfl (x5 _ k3) (x5 _ hl) ⟨k4, k5, k6⟩ hR, x5 _ k2⟩
theorem z_callI {y : MethodName} {bytes : ByteArray} {maxL n fr lo index : Nat} {ret2 : Option FieldType} {r : Int32} {st : List Value} (C : Cx p s m args meth c own cc nL ret G) (S : z_S b G ad σ A s.heap H locs) (k o : Nat) (hk : z_side k = b) (ho : o < z_cnt k) {ci : Nat} {T : u_T} {N : Nat} {ty : Nat → FieldType} (F : CF ci y.cls T N ty) (hc : ∃ fs, z_cel G ad k o (σ k o) = .inr (ci, fs)) (As : List Value)
    (hM : z_MI l y bytes maxL ret2 fr lo b G ad σ H.size (.ref (ad k o) :: As) r σ') (kv : KV y bytes maxL ret2 n) (hl : Cond.methodLink own index y ∈ TT) (hR : fr + 1 ≤ R.frames ∧ 8 + (maxL + 11) + lo ≤ R.locals) (hn : As.length = n) (hst : st = As.reverse ++ .ref (ad k o) :: rest) (hW8 : (rest.map fun v => v.category).sum ≤ 8) (hls : ls.size = nL) (hcs : cells ≤ R.cells ∧ slots ≤ R.slots)
    (hdg : decode cc pc = .ok (.invokevirtual index, 3))
    (kk : ∀ (H1 : Heap) (locs1 : List Loc), z_S b G ad σ' A s.heap H1 locs1 → W p l e R s m args below meth c H1 locs1 cells slots Q (F0 m (pc + 3) ls (.int r :: rest))) : W p l e R s m args below meth c H locs cells slots Q (F0 m pc ls st) := by
  have C2 := C
  obtain ⟨x1, x2, x3, x4, x5, x6, x7, x8⟩ := C
  exact va_calli (va_runV (As := As) (rest := rest) ⟨x1, x2, x3, x4, x5⟩ hM (z_cwV C2 kv hl hR) ⟨z_blind _ b G ad σ H.size, z_recv (fs := []) x6 S hk ho F hc, fun U hU hW => ⟨rfl, by rw [hU], by rw [hU]; exact S.1, x6.warm hW⟩⟩ rfl hn hls hst (lv_room hW8) hdg hcs) S.2.1 (fun q _ h => z_Ain S q h) (z_Ain S)
    (fun r1 u t H1 locs1 ht hvm hr hB hz1 hk1 hS1 => by subst hr; exact kk H1 locs1 (z_after S (by rw [← ht]; exact hB) hS1))
theorem z_callV {y : MethodName} {bytes : ByteArray} {maxL n fr lo index : Nat} {ret2 : Option FieldType} {st : List Value} (C : Cx p s m args meth c own cc nL ret G) (S : z_S b G ad σ A s.heap H locs) (k o : Nat) (hk : z_side k = b) (ho : o < z_cnt k) {ci : Nat} {T : u_T} {N : Nat} {ty : Nat → FieldType} (F : CF ci y.cls T N ty) (hc : ∃ fs, z_cel G ad k o (σ k o) = .inr (ci, fs)) (As : List Value)
    (hM : z_MV l y bytes maxL ret2 fr lo b G ad σ H.size (.ref (ad k o) :: As) σ') (kv : KV y bytes maxL ret2 n) (hl : Cond.methodLink own index y ∈ TT) (hR : fr + 1 ≤ R.frames ∧ 8 + (maxL + 11) + lo ≤ R.locals) (hn : As.length = n) (hst : st = As.reverse ++ .ref (ad k o) :: rest) (hW8 : (rest.map fun v => v.category).sum ≤ 8) (hls : ls.size = nL) (hcs : cells ≤ R.cells ∧ slots ≤ R.slots)
    (hdg : decode cc pc = .ok (.invokevirtual index, 3))
    (kk : ∀ (H1 : Heap) (locs1 : List Loc), z_S b G ad σ' A s.heap H1 locs1 → W p l e R s m args below meth c H1 locs1 cells slots Q (F0 m (pc + 3) ls rest)) : W p l e R s m args below meth c H locs cells slots Q (F0 m pc ls st) := by
  have C2 := C
  obtain ⟨x1, x2, x3, x4, x5, x6, x7, x8⟩ := C
  exact va_callv (va_runV (As := As) (rest := rest) ⟨x1, x2, x3, x4, x5⟩ hM (z_cwV C2 kv hl hR) ⟨z_blind _ b G ad σ H.size, z_recv (fs := []) x6 S hk ho F hc, fun U hU hW => ⟨rfl, by rw [hU], by rw [hU]; exact S.1, x6.warm hW⟩⟩ rfl hn hls hst (lv_room hW8) hdg hcs) S.2.1 (fun q _ h => z_Ain S q h) (z_Ain S)
    (fun u t H1 locs1 ht hvm hr hB hz1 hk1 hS1 => kk H1 locs1 (z_after S (by rw [← ht]; exact hB) hS1))
theorem z_callSI {y : MethodName} {bytes : ByteArray} {maxL n fr lo index : Nat} {ret2 : Option FieldType} {r : Int32} {st : List Value} (C : Cx p s m args meth c own cc nL ret G) (S : z_S b G ad σ A s.heap H locs) (As : List Value)
    (hM : z_MI l y bytes maxL ret2 fr lo b G ad σ H.size As r σ') (kv : KS y bytes maxL ret2 n) (hl : Cond.methodLink own index y ∈ TT) (hR : fr + 1 ≤ R.frames ∧ 8 + (maxL + 11) + lo ≤ R.locals) (hn : As.length = n) (hst : st = As.reverse ++ rest) (hW8 : (rest.map fun v => v.category).sum ≤ 8) (hls : ls.size = nL) (hcs : cells ≤ R.cells ∧ slots ≤ R.slots)
    (hdg : decode cc pc = .ok (.invokestatic index, 3))
    (kk : ∀ (H1 : Heap) (locs1 : List Loc), z_S b G ad σ' A s.heap H1 locs1 → W p l e R s m args below meth c H1 locs1 cells slots Q (F0 m (pc + 3) ls (.int r :: rest))) : W p l e R s m args below meth c H locs cells slots Q (F0 m pc ls st) := by
  have C2 := C
  obtain ⟨x1, x2, x3, x4, x5, x6, x7, x8⟩ := C
  exact va_calli (va_runS (As := As) (rest := rest) ⟨x1, x2, x3, x4, x5⟩ hM (z_cwS C2 kv hl hR) ⟨z_blind _ b G ad σ H.size, fun U hU hW => ⟨rfl, by rw [hU], by rw [hU]; exact S.1, x6.warm hW⟩⟩ rfl hn hls hst (lv_room hW8) hdg hcs) S.2.1 (fun q _ h => z_Ain S q h) (z_Ain S)
    (fun r1 u t H1 locs1 ht hvm hr hB hz1 hk1 hS1 => by subst hr; exact kk H1 locs1 (z_after S (by rw [← ht]; exact hB) hS1))
theorem z_callSV {y : MethodName} {bytes : ByteArray} {maxL n fr lo index : Nat} {ret2 : Option FieldType} {st : List Value} (C : Cx p s m args meth c own cc nL ret G) (S : z_S b G ad σ A s.heap H locs) (As : List Value)
    (hM : z_MV l y bytes maxL ret2 fr lo b G ad σ H.size As σ') (kv : KS y bytes maxL ret2 n) (hl : Cond.methodLink own index y ∈ TT) (hR : fr + 1 ≤ R.frames ∧ 8 + (maxL + 11) + lo ≤ R.locals) (hn : As.length = n) (hst : st = As.reverse ++ rest) (hW8 : (rest.map fun v => v.category).sum ≤ 8) (hls : ls.size = nL) (hcs : cells ≤ R.cells ∧ slots ≤ R.slots)
    (hdg : decode cc pc = .ok (.invokestatic index, 3))
    (kk : ∀ (H1 : Heap) (locs1 : List Loc), z_S b G ad σ' A s.heap H1 locs1 → W p l e R s m args below meth c H1 locs1 cells slots Q (F0 m (pc + 3) ls rest)) : W p l e R s m args below meth c H locs cells slots Q (F0 m pc ls st) := by
  have C2 := C
  obtain ⟨x1, x2, x3, x4, x5, x6, x7, x8⟩ := C
  exact va_callv (va_runS (As := As) (rest := rest) ⟨x1, x2, x3, x4, x5⟩ hM (z_cwS C2 kv hl hR) ⟨z_blind _ b G ad σ H.size, fun U hU hW => ⟨rfl, by rw [hU], by rw [hU]; exact S.1, x6.warm hW⟩⟩ rfl hn hls hst (lv_room hW8) hdg hcs) S.2.1 (fun q _ h => z_Ain S q h) (z_Ain S)
    (fun u t H1 locs1 ht hvm hr hB hz1 hk1 hS1 => kk H1 locs1 (z_after S (by rw [← ht]; exact hB) hS1))
end ZE
/-- reading a walk's premise -/
theorem gd {α : Type} {c : Prop} {d : Decidable c} {X : Option α} {r : α} (h : (if c then none else X) = some r) : ¬ c ∧ X = some r := by
  by_cases hc : c
  · rw [if_pos hc] at h; cases h
  · rw [if_neg hc] at h; exact ⟨hc, h⟩
theorem bd {α β : Type} {x : Option α} {f : α → Option β} {r : β} (h : x.bind f = some r) : ∃ a, x = some a ∧ f a = some r := by
  cases x with
  | none => cases h
  | some a => exact ⟨a, rfl, h⟩

