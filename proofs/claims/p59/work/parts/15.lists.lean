/-! lists of the JDK: ArrayList and its iterator, by contracts over single cells -/
theorem cf_8 : CF 8 RX8 TX8 12 tyX8 := ⟨rfl, List.forall_mem_cons.mpr ⟨tw_4_71, List.forall_mem_cons.mpr ⟨tw_4_73, List.forall_mem_cons.mpr ⟨tw_4_75, List.forall_mem_cons.mpr ⟨tw_4_77, List.forall_mem_cons.mpr ⟨tw_4_79, List.forall_mem_cons.mpr ⟨tw_4_81, List.forall_mem_cons.mpr ⟨tw_4_83, List.forall_mem_cons.mpr ⟨tw_4_85, List.forall_mem_cons.mpr ⟨tw_4_87, List.forall_mem_cons.mpr ⟨tw_4_89, List.forall_mem_cons.mpr ⟨tw_4_91, List.forall_mem_cons.mpr ⟨tw_4_93, fun _ h => absurd h List.not_mem_nil⟩⟩⟩⟩⟩⟩⟩⟩⟩⟩⟩⟩, tyX8_ok, nmX8⟩
theorem cf_9 : CF 9 RX9 TX9 8 tyX9 := ⟨rfl, List.forall_mem_cons.mpr ⟨tw_3_176, List.forall_mem_cons.mpr ⟨tw_3_178, List.forall_mem_cons.mpr ⟨tw_3_180, List.forall_mem_cons.mpr ⟨tw_3_182, List.forall_mem_cons.mpr ⟨tw_3_184, List.forall_mem_cons.mpr ⟨tw_3_186, List.forall_mem_cons.mpr ⟨tw_3_188, List.forall_mem_cons.mpr ⟨tw_3_190, fun _ h => absurd h List.not_mem_nil⟩⟩⟩⟩⟩⟩⟩⟩, tyX9_ok, nmX9⟩
theorem cf_10 : CF 10 RX10 TX10 5 tyX10 := ⟨rfl, List.forall_mem_cons.mpr ⟨tw_4_39, List.forall_mem_cons.mpr ⟨tw_4_41, List.forall_mem_cons.mpr ⟨tw_4_43, List.forall_mem_cons.mpr ⟨tw_4_45, List.forall_mem_cons.mpr ⟨tw_4_47, fun _ h => absurd h List.not_mem_nil⟩⟩⟩⟩⟩, tyX10_ok, nmX10⟩
theorem cf_11 : CF 11 RL TL 14 tyL := ⟨rfl, List.forall_mem_cons.mpr ⟨tw_4_110, List.forall_mem_cons.mpr ⟨tw_4_112, List.forall_mem_cons.mpr ⟨tw_4_114, List.forall_mem_cons.mpr ⟨tw_4_116, List.forall_mem_cons.mpr ⟨tw_4_118, List.forall_mem_cons.mpr ⟨tw_4_120, List.forall_mem_cons.mpr ⟨tw_4_122, List.forall_mem_cons.mpr ⟨tw_4_124, List.forall_mem_cons.mpr ⟨tw_4_126, List.forall_mem_cons.mpr ⟨tw_4_128, List.forall_mem_cons.mpr ⟨tw_4_130, List.forall_mem_cons.mpr ⟨tw_4_132, List.forall_mem_cons.mpr ⟨tw_4_134, List.forall_mem_cons.mpr ⟨tw_4_136, fun _ h => absurd h List.not_mem_nil⟩⟩⟩⟩⟩⟩⟩⟩⟩⟩⟩⟩⟩⟩, tyL_ok, nmL⟩
theorem cf_12 : CF 12 RJx4a65c TJx4a65c 3 tyJx4a65c := ⟨rfl, List.forall_mem_cons.mpr ⟨tw_3_156, List.forall_mem_cons.mpr ⟨tw_3_152, List.forall_mem_cons.mpr ⟨tw_3_154, fun _ h => absurd h List.not_mem_nil⟩⟩⟩, tyJx4a65c_ok, nmJx4a65c⟩
theorem cf_13 : CF 13 RJx35411 TJx35411 4 tyJx35411 := ⟨rfl, List.forall_mem_cons.mpr ⟨tw_5_138, List.forall_mem_cons.mpr ⟨tw_5_140, List.forall_mem_cons.mpr ⟨tw_5_142, List.forall_mem_cons.mpr ⟨tw_5_144, fun _ h => absurd h List.not_mem_nil⟩⟩⟩⟩, tyJx35411_ok, nmJx35411⟩
theorem cf_14 : CF 14 RJ4 TJ4 4 tyJ4 := ⟨rfl, List.forall_mem_cons.mpr ⟨tw_4_164, List.forall_mem_cons.mpr ⟨tw_4_166, List.forall_mem_cons.mpr ⟨tw_4_168, List.forall_mem_cons.mpr ⟨tw_4_170, fun _ h => absurd h List.not_mem_nil⟩⟩⟩⟩, tyJ4_ok, nmJ4⟩
theorem cf_15 : CF 15 RJ0 TJ0 4 tyJ0 := ⟨rfl, List.forall_mem_cons.mpr ⟨tw_5_99, List.forall_mem_cons.mpr ⟨tw_5_101, List.forall_mem_cons.mpr ⟨tw_5_103, List.forall_mem_cons.mpr ⟨tw_5_105, fun _ h => absurd h List.not_mem_nil⟩⟩⟩⟩, tyJ0_ok, nmJ0⟩
theorem z_O.put {G : Gx} {H H1 : Heap} {a : Nat} (h : z_O G H) (z : H1.size = H.size) (oq : ∀ q : Nat, q ≠ a → H1[q]? = H[q]?) (ha : G.2.2.1.size ≤ a) : z_O G H1 := ⟨by rw [z]; exact h.1, fun q hq => (oq q (by omega)).trans (h.2 q hq)⟩
theorem z_O.grow {G : Gx} {H H1 : Heap} (h : z_O G H) (z : H1.size = H.size + 1) (oq : ∀ q : Nat, q < H.size → H1[q]? = H[q]?) : z_O G H1 := ⟨by rw [z]; have := h.1; omega, fun q hq => (oq q (Nat.lt_of_lt_of_le hq h.1)).trans (h.2 q hq)⟩
theorem z_O.call {G : Gx} {H H1 : Heap} {F : Nat → Prop} (h : z_O G H) (z : H.size ≤ H1.size) (oq : ∀ q : Nat, q < H.size → ¬ F q → H1[q]? = H[q]?) (hF : ∀ q, q < G.2.2.1.size → ¬ F q) : z_O G H1 := ⟨Nat.le_trans h.1 z, fun q hq => (oq q (Nat.lt_of_lt_of_le hq h.1) (hF q hq)).trans (h.2 q hq)⟩
abbrev e_it (cur lr em : Int32) (L : Nat) : va_E := .inr (13, [.int cur, .int lr, .int em, .ref L])
abbrev e_al (mo : Int32) (ed : Nat) (n : Int32) : va_E := .inr (12, [.int mo, .ref ed, .int n])
abbrev e_oa (G : Gx) (cap : Nat) (f : Nat → Option Nat) : va_E := .inl (G.2.1 5, cap, .inr (.inr (.inr (.inr f))))
theorem dJx35411_hasNext_aae02_0 : decode cJx35411_hasNext_aae02 0 = .ok (.aload_n 0, 1) := by decide +kernel
theorem dJx35411_hasNext_aae02_1 : decode cJx35411_hasNext_aae02 1 = .ok (.getfield 25, 3) := by decide +kernel
theorem dJx35411_hasNext_aae02_4 : decode cJx35411_hasNext_aae02 4 = .ok (.aload_n 0, 1) := by decide +kernel
theorem dJx35411_hasNext_aae02_5 : decode cJx35411_hasNext_aae02 5 = .ok (.getfield 1, 3) := by decide +kernel
theorem dJx35411_hasNext_aae02_8 : decode cJx35411_hasNext_aae02 8 = .ok (.getfield 28, 3) := by decide +kernel
theorem dJx35411_hasNext_aae02_11 : decode cJx35411_hasNext_aae02 11 = .ok (.if_icmp .eq 7, 3) := by decide +kernel
theorem dJx35411_hasNext_aae02_14 : decode cJx35411_hasNext_aae02 14 = .ok (.iconst 1, 1) := by decide +kernel
theorem dJx35411_hasNext_aae02_15 : decode cJx35411_hasNext_aae02 15 = .ok (.goto 4, 3) := by decide +kernel
theorem dJx35411_hasNext_aae02_18 : decode cJx35411_hasNext_aae02 18 = .ok (.iconst 0, 1) := by decide +kernel
theorem dJx35411_hasNext_aae02_19 : decode cJx35411_hasNext_aae02 19 = .ok (.ireturn, 1) := by decide +kernel
theorem dJx35411_next_0502b_0 : decode cJx35411_next_0502b 0 = .ok (.aload_n 0, 1) := by decide +kernel
theorem dJx35411_next_0502b_1 : decode cJx35411_next_0502b 1 = .ok (.invokevirtual 31, 3) := by decide +kernel
theorem dJx35411_next_0502b_4 : decode cJx35411_next_0502b 4 = .ok (.aload_n 0, 1) := by decide +kernel
theorem dJx35411_next_0502b_5 : decode cJx35411_next_0502b 5 = .ok (.getfield 25, 3) := by decide +kernel
theorem dJx35411_next_0502b_8 : decode cJx35411_next_0502b 8 = .ok (.istore_n 1, 1) := by decide +kernel
theorem dJx35411_next_0502b_9 : decode cJx35411_next_0502b 9 = .ok (.iload_n 1, 1) := by decide +kernel
theorem dJx35411_next_0502b_10 : decode cJx35411_next_0502b 10 = .ok (.aload_n 0, 1) := by decide +kernel
theorem dJx35411_next_0502b_11 : decode cJx35411_next_0502b 11 = .ok (.getfield 1, 3) := by decide +kernel
theorem dJx35411_next_0502b_14 : decode cJx35411_next_0502b 14 = .ok (.getfield 28, 3) := by decide +kernel
theorem dJx35411_next_0502b_17 : decode cJx35411_next_0502b 17 = .ok (.if_icmp .lt 11, 3) := by decide +kernel
theorem dJx35411_next_0502b_20 : decode cJx35411_next_0502b 20 = .ok (.new 34, 3) := by decide +kernel
theorem dJx35411_next_0502b_23 : decode cJx35411_next_0502b 23 = .ok (.dup, 1) := by decide +kernel
theorem dJx35411_next_0502b_24 : decode cJx35411_next_0502b 24 = .ok (.invokespecial 36, 3) := by decide +kernel
theorem dJx35411_next_0502b_27 : decode cJx35411_next_0502b 27 = .ok (.athrow, 1) := by decide +kernel
theorem dJx35411_next_0502b_28 : decode cJx35411_next_0502b 28 = .ok (.aload_n 0, 1) := by decide +kernel
theorem dJx35411_next_0502b_29 : decode cJx35411_next_0502b 29 = .ok (.getfield 1, 3) := by decide +kernel
theorem dJx35411_next_0502b_32 : decode cJx35411_next_0502b 32 = .ok (.getfield 37, 3) := by decide +kernel
theorem dJx35411_next_0502b_35 : decode cJx35411_next_0502b 35 = .ok (.astore_n 2, 1) := by decide +kernel
theorem dJx35411_next_0502b_36 : decode cJx35411_next_0502b 36 = .ok (.iload_n 1, 1) := by decide +kernel
theorem dJx35411_next_0502b_37 : decode cJx35411_next_0502b 37 = .ok (.aload_n 2, 1) := by decide +kernel
theorem dJx35411_next_0502b_38 : decode cJx35411_next_0502b 38 = .ok (.arraylength, 1) := by decide +kernel
theorem dJx35411_next_0502b_39 : decode cJx35411_next_0502b 39 = .ok (.if_icmp .lt 11, 3) := by decide +kernel
theorem dJx35411_next_0502b_42 : decode cJx35411_next_0502b 42 = .ok (.new 41, 3) := by decide +kernel
theorem dJx35411_next_0502b_45 : decode cJx35411_next_0502b 45 = .ok (.dup, 1) := by decide +kernel
theorem dJx35411_next_0502b_46 : decode cJx35411_next_0502b 46 = .ok (.invokespecial 43, 3) := by decide +kernel
theorem dJx35411_next_0502b_49 : decode cJx35411_next_0502b 49 = .ok (.athrow, 1) := by decide +kernel
theorem dJx35411_next_0502b_50 : decode cJx35411_next_0502b 50 = .ok (.aload_n 0, 1) := by decide +kernel
theorem dJx35411_next_0502b_51 : decode cJx35411_next_0502b 51 = .ok (.iload_n 1, 1) := by decide +kernel
theorem dJx35411_next_0502b_52 : decode cJx35411_next_0502b 52 = .ok (.iconst 1, 1) := by decide +kernel
theorem dJx35411_next_0502b_53 : decode cJx35411_next_0502b 53 = .ok (.iadd, 1) := by decide +kernel
theorem dJx35411_next_0502b_54 : decode cJx35411_next_0502b 54 = .ok (.putfield 25, 3) := by decide +kernel
theorem dJx35411_next_0502b_57 : decode cJx35411_next_0502b 57 = .ok (.aload_n 2, 1) := by decide +kernel
theorem dJx35411_next_0502b_58 : decode cJx35411_next_0502b 58 = .ok (.aload_n 0, 1) := by decide +kernel
theorem dJx35411_next_0502b_59 : decode cJx35411_next_0502b 59 = .ok (.iload_n 1, 1) := by decide +kernel
theorem dJx35411_next_0502b_60 : decode cJx35411_next_0502b 60 = .ok (.dup_x1, 1) := by decide +kernel
theorem dJx35411_next_0502b_61 : decode cJx35411_next_0502b 61 = .ok (.putfield 13, 3) := by decide +kernel
theorem dJx35411_next_0502b_64 : decode cJx35411_next_0502b 64 = .ok (.aaload, 1) := by decide +kernel
theorem dJx35411_next_0502b_65 : decode cJx35411_next_0502b 65 = .ok (.areturn, 1) := by decide +kernel
theorem dJx35411_checkForComodification_da8c8_0 : decode cJx35411_checkForComodification_da8c8 0 = .ok (.aload_n 0, 1) := by decide +kernel
theorem dJx35411_checkForComodification_da8c8_1 : decode cJx35411_checkForComodification_da8c8 1 = .ok (.getfield 1, 3) := by decide +kernel
theorem dJx35411_checkForComodification_da8c8_4 : decode cJx35411_checkForComodification_da8c8 4 = .ok (.getfield 17, 3) := by decide +kernel
theorem dJx35411_checkForComodification_da8c8_7 : decode cJx35411_checkForComodification_da8c8 7 = .ok (.aload_n 0, 1) := by decide +kernel
theorem dJx35411_checkForComodification_da8c8_8 : decode cJx35411_checkForComodification_da8c8 8 = .ok (.getfield 22, 3) := by decide +kernel
theorem dJx35411_checkForComodification_da8c8_11 : decode cJx35411_checkForComodification_da8c8 11 = .ok (.if_icmp .eq 11, 3) := by decide +kernel
theorem dJx35411_checkForComodification_da8c8_14 : decode cJx35411_checkForComodification_da8c8 14 = .ok (.new 41, 3) := by decide +kernel
theorem dJx35411_checkForComodification_da8c8_17 : decode cJx35411_checkForComodification_da8c8 17 = .ok (.dup, 1) := by decide +kernel
theorem dJx35411_checkForComodification_da8c8_18 : decode cJx35411_checkForComodification_da8c8 18 = .ok (.invokespecial 43, 3) := by decide +kernel
theorem dJx35411_checkForComodification_da8c8_21 : decode cJx35411_checkForComodification_da8c8 21 = .ok (.athrow, 1) := by decide +kernel
theorem dJx35411_checkForComodification_da8c8_22 : decode cJx35411_checkForComodification_da8c8 22 = .ok (.return_, 1) := by decide +kernel
theorem dJx35411_init_45d68_0 : decode cJx35411_init_45d68 0 = .ok (.aload_n 0, 1) := by decide +kernel
theorem dJx35411_init_45d68_1 : decode cJx35411_init_45d68 1 = .ok (.aload_n 1, 1) := by decide +kernel
theorem dJx35411_init_45d68_2 : decode cJx35411_init_45d68 2 = .ok (.putfield 1, 3) := by decide +kernel
theorem dJx35411_init_45d68_5 : decode cJx35411_init_45d68 5 = .ok (.aload_n 0, 1) := by decide +kernel
theorem dJx35411_init_45d68_6 : decode cJx35411_init_45d68 6 = .ok (.invokespecial 7, 3) := by decide +kernel
theorem dJx35411_init_45d68_9 : decode cJx35411_init_45d68 9 = .ok (.aload_n 0, 1) := by decide +kernel
theorem dJx35411_init_45d68_10 : decode cJx35411_init_45d68 10 = .ok (.iconst (-1), 1) := by decide +kernel
theorem dJx35411_init_45d68_11 : decode cJx35411_init_45d68 11 = .ok (.putfield 13, 3) := by decide +kernel
theorem dJx35411_init_45d68_14 : decode cJx35411_init_45d68 14 = .ok (.aload_n 0, 1) := by decide +kernel
theorem dJx35411_init_45d68_15 : decode cJx35411_init_45d68 15 = .ok (.aload_n 0, 1) := by decide +kernel
theorem dJx35411_init_45d68_16 : decode cJx35411_init_45d68 16 = .ok (.getfield 1, 3) := by decide +kernel
theorem dJx35411_init_45d68_19 : decode cJx35411_init_45d68 19 = .ok (.getfield 17, 3) := by decide +kernel
theorem dJx35411_init_45d68_22 : decode cJx35411_init_45d68 22 = .ok (.putfield 22, 3) := by decide +kernel
theorem dJx35411_init_45d68_25 : decode cJx35411_init_45d68 25 = .ok (.return_, 1) := by decide +kernel
theorem dJx4a65c_iterator_32c93_0 : decode cJx4a65c_iterator_32c93 0 = .ok (.new 267, 3) := by decide +kernel
theorem dJx4a65c_iterator_32c93_3 : decode cJx4a65c_iterator_32c93 3 = .ok (.dup, 1) := by decide +kernel
theorem dJx4a65c_iterator_32c93_4 : decode cJx4a65c_iterator_32c93 4 = .ok (.aload_n 0, 1) := by decide +kernel
theorem dJx4a65c_iterator_32c93_5 : decode cJx4a65c_iterator_32c93 5 = .ok (.invokespecial 269, 3) := by decide +kernel
theorem dJx4a65c_iterator_32c93_8 : decode cJx4a65c_iterator_32c93 8 = .ok (.areturn, 1) := by decide +kernel
theorem dJx4a65c_size_8abf5_0 : decode cJx4a65c_size_8abf5 0 = .ok (.aload_n 0, 1) := by decide +kernel
theorem dJx4a65c_size_8abf5_1 : decode cJx4a65c_size_8abf5 1 = .ok (.getfield 48, 3) := by decide +kernel
theorem dJx4a65c_size_8abf5_4 : decode cJx4a65c_size_8abf5 4 = .ok (.ireturn, 1) := by decide +kernel
theorem dJx4a65c_get_915e3_0 : decode cJx4a65c_get_915e3 0 = .ok (.iload_n 1, 1) := by decide +kernel
theorem dJx4a65c_get_915e3_1 : decode cJx4a65c_get_915e3 1 = .ok (.aload_n 0, 1) := by decide +kernel
theorem dJx4a65c_get_915e3_2 : decode cJx4a65c_get_915e3 2 = .ok (.getfield 48, 3) := by decide +kernel
theorem dJx4a65c_get_915e3_5 : decode cJx4a65c_get_915e3 5 = .ok (.invokestatic 118, 3) := by decide +kernel
theorem dJx4a65c_get_915e3_8 : decode cJx4a65c_get_915e3 8 = .ok (.pop, 1) := by decide +kernel
theorem dJx4a65c_get_915e3_9 : decode cJx4a65c_get_915e3 9 = .ok (.aload_n 0, 1) := by decide +kernel
theorem dJx4a65c_get_915e3_10 : decode cJx4a65c_get_915e3 10 = .ok (.iload_n 1, 1) := by decide +kernel
theorem dJx4a65c_get_915e3_11 : decode cJx4a65c_get_915e3 11 = .ok (.invokevirtual 123, 3) := by decide +kernel
theorem dJx4a65c_get_915e3_14 : decode cJx4a65c_get_915e3 14 = .ok (.areturn, 1) := by decide +kernel
theorem dJx4a65c_elementData_915e3_0 : decode cJx4a65c_elementData_915e3 0 = .ok (.aload_n 0, 1) := by decide +kernel
theorem dJx4a65c_elementData_915e3_1 : decode cJx4a65c_elementData_915e3 1 = .ok (.getfield 9, 3) := by decide +kernel
theorem dJx4a65c_elementData_915e3_4 : decode cJx4a65c_elementData_915e3 4 = .ok (.iload_n 1, 1) := by decide +kernel
theorem dJx4a65c_elementData_915e3_5 : decode cJx4a65c_elementData_915e3 5 = .ok (.aaload, 1) := by decide +kernel
theorem dJx4a65c_elementData_915e3_6 : decode cJx4a65c_elementData_915e3 6 = .ok (.areturn, 1) := by decide +kernel
theorem dJ15_checkIndex_7cf53_0 : decode cJ15_checkIndex_7cf53 0 = .ok (.iload_n 0, 1) := by decide +kernel
theorem dJ15_checkIndex_7cf53_1 : decode cJ15_checkIndex_7cf53 1 = .ok (.iload_n 1, 1) := by decide +kernel
theorem dJ15_checkIndex_7cf53_2 : decode cJ15_checkIndex_7cf53 2 = .ok (.aconst_null, 1) := by decide +kernel
theorem dJ15_checkIndex_7cf53_3 : decode cJ15_checkIndex_7cf53 3 = .ok (.invokestatic 105, 3) := by decide +kernel
theorem dJ15_checkIndex_7cf53_6 : decode cJ15_checkIndex_7cf53 6 = .ok (.ireturn, 1) := by decide +kernel
theorem dJx4a65c_add_9ea2d_0 : decode cJx4a65c_add_9ea2d 0 = .ok (.aload_n 0, 1) := by decide +kernel
theorem dJx4a65c_add_9ea2d_1 : decode cJx4a65c_add_9ea2d 1 = .ok (.dup, 1) := by decide +kernel
theorem dJx4a65c_add_9ea2d_2 : decode cJx4a65c_add_9ea2d 2 = .ok (.getfield 63, 3) := by decide +kernel
theorem dJx4a65c_add_9ea2d_5 : decode cJx4a65c_add_9ea2d 5 = .ok (.iconst 1, 1) := by decide +kernel
theorem dJx4a65c_add_9ea2d_6 : decode cJx4a65c_add_9ea2d 6 = .ok (.iadd, 1) := by decide +kernel
theorem dJx4a65c_add_9ea2d_7 : decode cJx4a65c_add_9ea2d 7 = .ok (.putfield 63, 3) := by decide +kernel
theorem dJx4a65c_add_9ea2d_10 : decode cJx4a65c_add_9ea2d 10 = .ok (.aload_n 0, 1) := by decide +kernel
theorem dJx4a65c_add_9ea2d_11 : decode cJx4a65c_add_9ea2d 11 = .ok (.aload_n 1, 1) := by decide +kernel
theorem dJx4a65c_add_9ea2d_12 : decode cJx4a65c_add_9ea2d 12 = .ok (.aload_n 0, 1) := by decide +kernel
theorem dJx4a65c_add_9ea2d_13 : decode cJx4a65c_add_9ea2d 13 = .ok (.getfield 9, 3) := by decide +kernel
theorem dJx4a65c_add_9ea2d_16 : decode cJx4a65c_add_9ea2d 16 = .ok (.aload_n 0, 1) := by decide +kernel
theorem dJx4a65c_add_9ea2d_17 : decode cJx4a65c_add_9ea2d 17 = .ok (.getfield 48, 3) := by decide +kernel
theorem dJx4a65c_add_9ea2d_20 : decode cJx4a65c_add_9ea2d 20 = .ok (.invokevirtual 131, 3) := by decide +kernel
theorem dJx4a65c_add_9ea2d_23 : decode cJx4a65c_add_9ea2d 23 = .ok (.iconst 1, 1) := by decide +kernel
theorem dJx4a65c_add_9ea2d_24 : decode cJx4a65c_add_9ea2d 24 = .ok (.ireturn, 1) := by decide +kernel
theorem dJx4a65c_add_72be8_0 : decode cJx4a65c_add_72be8 0 = .ok (.iload_n 3, 1) := by decide +kernel
theorem dJx4a65c_add_72be8_1 : decode cJx4a65c_add_72be8 1 = .ok (.aload_n 2, 1) := by decide +kernel
theorem dJx4a65c_add_72be8_2 : decode cJx4a65c_add_72be8 2 = .ok (.arraylength, 1) := by decide +kernel
theorem dJx4a65c_add_72be8_3 : decode cJx4a65c_add_72be8 3 = .ok (.if_icmp .ne 8, 3) := by decide +kernel
theorem dJx4a65c_add_72be8_6 : decode cJx4a65c_add_72be8 6 = .ok (.aload_n 0, 1) := by decide +kernel
theorem dJx4a65c_add_72be8_7 : decode cJx4a65c_add_72be8 7 = .ok (.invokevirtual 129, 3) := by decide +kernel
theorem dJx4a65c_add_72be8_10 : decode cJx4a65c_add_72be8 10 = .ok (.astore_n 2, 1) := by decide +kernel
theorem dJx4a65c_add_72be8_11 : decode cJx4a65c_add_72be8 11 = .ok (.aload_n 2, 1) := by decide +kernel
theorem dJx4a65c_add_72be8_12 : decode cJx4a65c_add_72be8 12 = .ok (.iload_n 3, 1) := by decide +kernel
theorem dJx4a65c_add_72be8_13 : decode cJx4a65c_add_72be8 13 = .ok (.aload_n 1, 1) := by decide +kernel
theorem dJx4a65c_add_72be8_14 : decode cJx4a65c_add_72be8 14 = .ok (.aastore, 1) := by decide +kernel
theorem dJx4a65c_add_72be8_15 : decode cJx4a65c_add_72be8 15 = .ok (.aload_n 0, 1) := by decide +kernel
theorem dJx4a65c_add_72be8_16 : decode cJx4a65c_add_72be8 16 = .ok (.iload_n 3, 1) := by decide +kernel
theorem dJx4a65c_add_72be8_17 : decode cJx4a65c_add_72be8 17 = .ok (.iconst 1, 1) := by decide +kernel
theorem dJx4a65c_add_72be8_18 : decode cJx4a65c_add_72be8 18 = .ok (.iadd, 1) := by decide +kernel
theorem dJx4a65c_add_72be8_19 : decode cJx4a65c_add_72be8 19 = .ok (.putfield 48, 3) := by decide +kernel
theorem dJx4a65c_add_72be8_22 : decode cJx4a65c_add_72be8 22 = .ok (.return_, 1) := by decide +kernel
theorem dJx4a65c_grow_d5877_0 : decode cJx4a65c_grow_d5877 0 = .ok (.aload_n 0, 1) := by decide +kernel
theorem dJx4a65c_grow_d5877_1 : decode cJx4a65c_grow_d5877 1 = .ok (.aload_n 0, 1) := by decide +kernel
theorem dJx4a65c_grow_d5877_2 : decode cJx4a65c_grow_d5877 2 = .ok (.getfield 48, 3) := by decide +kernel
theorem dJx4a65c_grow_d5877_5 : decode cJx4a65c_grow_d5877 5 = .ok (.iconst 1, 1) := by decide +kernel
theorem dJx4a65c_grow_d5877_6 : decode cJx4a65c_grow_d5877 6 = .ok (.iadd, 1) := by decide +kernel
theorem dJx4a65c_grow_d5877_7 : decode cJx4a65c_grow_d5877 7 = .ok (.invokevirtual 69, 3) := by decide +kernel
theorem dJx4a65c_grow_d5877_10 : decode cJx4a65c_grow_d5877 10 = .ok (.areturn, 1) := by decide +kernel
theorem dJx4a65c_grow_92f84_0 : decode cJx4a65c_grow_92f84 0 = .ok (.aload_n 0, 1) := by decide +kernel
theorem dJx4a65c_grow_92f84_1 : decode cJx4a65c_grow_92f84 1 = .ok (.getfield 9, 3) := by decide +kernel
theorem dJx4a65c_grow_92f84_4 : decode cJx4a65c_grow_92f84 4 = .ok (.arraylength, 1) := by decide +kernel
theorem dJx4a65c_grow_92f84_5 : decode cJx4a65c_grow_92f84 5 = .ok (.istore_n 2, 1) := by decide +kernel
theorem dJx4a65c_grow_92f84_6 : decode cJx4a65c_grow_92f84 6 = .ok (.iload_n 2, 1) := by decide +kernel
theorem dJx4a65c_grow_92f84_7 : decode cJx4a65c_grow_92f84 7 = .ok (.ifCond .gt 13, 3) := by decide +kernel
theorem dJx4a65c_grow_92f84_10 : decode cJx4a65c_grow_92f84 10 = .ok (.aload_n 0, 1) := by decide +kernel
theorem dJx4a65c_grow_92f84_11 : decode cJx4a65c_grow_92f84 11 = .ok (.getfield 9, 3) := by decide +kernel
theorem dJx4a65c_grow_92f84_14 : decode cJx4a65c_grow_92f84 14 = .ok (.getstatic 39, 3) := by decide +kernel
theorem dJx4a65c_grow_92f84_17 : decode cJx4a65c_grow_92f84 17 = .ok (.if_acmp .eq 28, 3) := by decide +kernel
theorem dJx4a65c_grow_92f84_20 : decode cJx4a65c_grow_92f84 20 = .ok (.iload_n 2, 1) := by decide +kernel
theorem dJx4a65c_grow_92f84_21 : decode cJx4a65c_grow_92f84 21 = .ok (.iload_n 1, 1) := by decide +kernel
theorem dJx4a65c_grow_92f84_22 : decode cJx4a65c_grow_92f84 22 = .ok (.iload_n 2, 1) := by decide +kernel
theorem dJx4a65c_grow_92f84_23 : decode cJx4a65c_grow_92f84 23 = .ok (.isub, 1) := by decide +kernel
theorem dJx4a65c_grow_92f84_24 : decode cJx4a65c_grow_92f84 24 = .ok (.iload_n 2, 1) := by decide +kernel
theorem dJx4a65c_grow_92f84_25 : decode cJx4a65c_grow_92f84 25 = .ok (.iconst 1, 1) := by decide +kernel
theorem dJx4a65c_grow_92f84_26 : decode cJx4a65c_grow_92f84 26 = .ok (.ishr, 1) := by decide +kernel
theorem dJx4a65c_grow_92f84_27 : decode cJx4a65c_grow_92f84 27 = .ok (.invokestatic 73, 3) := by decide +kernel
theorem dJx4a65c_grow_92f84_30 : decode cJx4a65c_grow_92f84 30 = .ok (.istore_n 3, 1) := by decide +kernel
theorem dJx4a65c_grow_92f84_31 : decode cJx4a65c_grow_92f84 31 = .ok (.aload_n 0, 1) := by decide +kernel
theorem dJx4a65c_grow_92f84_32 : decode cJx4a65c_grow_92f84 32 = .ok (.aload_n 0, 1) := by decide +kernel
theorem dJx4a65c_grow_92f84_33 : decode cJx4a65c_grow_92f84 33 = .ok (.getfield 9, 3) := by decide +kernel
theorem dJx4a65c_grow_92f84_36 : decode cJx4a65c_grow_92f84 36 = .ok (.iload_n 3, 1) := by decide +kernel
theorem dJx4a65c_grow_92f84_37 : decode cJx4a65c_grow_92f84 37 = .ok (.invokestatic 66, 3) := by decide +kernel
theorem dJx4a65c_grow_92f84_40 : decode cJx4a65c_grow_92f84 40 = .ok (.dup_x1, 1) := by decide +kernel
theorem dJx4a65c_grow_92f84_41 : decode cJx4a65c_grow_92f84 41 = .ok (.putfield 9, 3) := by decide +kernel
theorem dJx4a65c_grow_92f84_44 : decode cJx4a65c_grow_92f84 44 = .ok (.areturn, 1) := by decide +kernel
theorem dJx4a65c_grow_92f84_45 : decode cJx4a65c_grow_92f84 45 = .ok (.aload_n 0, 1) := by decide +kernel
theorem dJx4a65c_grow_92f84_46 : decode cJx4a65c_grow_92f84 46 = .ok (.bipush 10, 2) := by decide +kernel
theorem dJx4a65c_grow_92f84_48 : decode cJx4a65c_grow_92f84 48 = .ok (.iload_n 1, 1) := by decide +kernel
theorem dJx4a65c_grow_92f84_49 : decode cJx4a65c_grow_92f84 49 = .ok (.invokestatic 79, 3) := by decide +kernel
theorem dJx4a65c_grow_92f84_52 : decode cJx4a65c_grow_92f84 52 = .ok (.anewarray 7, 3) := by decide +kernel
theorem dJx4a65c_grow_92f84_55 : decode cJx4a65c_grow_92f84 55 = .ok (.dup_x1, 1) := by decide +kernel
theorem dJx4a65c_grow_92f84_56 : decode cJx4a65c_grow_92f84 56 = .ok (.putfield 9, 3) := by decide +kernel
theorem dJx4a65c_grow_92f84_59 : decode cJx4a65c_grow_92f84 59 = .ok (.areturn, 1) := by decide +kernel
theorem dJ7_copyOf_1904c_0 : decode cJ7_copyOf_1904c 0 = .ok (.aload_n 0, 1) := by decide +kernel
theorem dJ7_copyOf_1904c_1 : decode cJ7_copyOf_1904c 1 = .ok (.iload_n 1, 1) := by decide +kernel
theorem dJ7_copyOf_1904c_2 : decode cJ7_copyOf_1904c 2 = .ok (.aload_n 0, 1) := by decide +kernel
theorem dJ7_copyOf_1904c_3 : decode cJ7_copyOf_1904c 3 = .ok (.invokevirtual 86, 3) := by decide +kernel
theorem dJ7_copyOf_1904c_6 : decode cJ7_copyOf_1904c 6 = .ok (.invokestatic 300, 3) := by decide +kernel
theorem dJ7_copyOf_1904c_9 : decode cJ7_copyOf_1904c 9 = .ok (.areturn, 1) := by decide +kernel
theorem dJ7_copyOf_6403c_0 : decode cJ7_copyOf_6403c 0 = .ok (.aload_n 2, 1) := by decide +kernel
theorem dJ7_copyOf_6403c_1 : decode cJ7_copyOf_6403c 1 = .ok (.ldc 110, 2) := by decide +kernel
theorem dJ7_copyOf_6403c_3 : decode cJ7_copyOf_6403c 3 = .ok (.if_acmp .ne 10, 3) := by decide +kernel
theorem dJ7_copyOf_6403c_6 : decode cJ7_copyOf_6403c 6 = .ok (.iload_n 1, 1) := by decide +kernel
theorem dJ7_copyOf_6403c_7 : decode cJ7_copyOf_6403c 7 = .ok (.anewarray 2, 3) := by decide +kernel
theorem dJ7_copyOf_6403c_10 : decode cJ7_copyOf_6403c 10 = .ok (.goto 14, 3) := by decide +kernel
theorem dJ7_copyOf_6403c_13 : decode cJ7_copyOf_6403c 13 = .ok (.aload_n 2, 1) := by decide +kernel
theorem dJ7_copyOf_6403c_14 : decode cJ7_copyOf_6403c 14 = .ok (.invokevirtual 90, 3) := by decide +kernel
theorem dJ7_copyOf_6403c_17 : decode cJ7_copyOf_6403c 17 = .ok (.iload_n 1, 1) := by decide +kernel
theorem dJ7_copyOf_6403c_18 : decode cJ7_copyOf_6403c 18 = .ok (.invokestatic 95, 3) := by decide +kernel
theorem dJ7_copyOf_6403c_21 : decode cJ7_copyOf_6403c 21 = .ok (.checkcast 110, 3) := by decide +kernel
theorem dJ7_copyOf_6403c_24 : decode cJ7_copyOf_6403c 24 = .ok (.astore_n 3, 1) := by decide +kernel
theorem dJ7_copyOf_6403c_25 : decode cJ7_copyOf_6403c 25 = .ok (.aload_n 0, 1) := by decide +kernel
theorem dJ7_copyOf_6403c_26 : decode cJ7_copyOf_6403c 26 = .ok (.iconst 0, 1) := by decide +kernel
theorem dJ7_copyOf_6403c_27 : decode cJ7_copyOf_6403c 27 = .ok (.aload_n 3, 1) := by decide +kernel
theorem dJ7_copyOf_6403c_28 : decode cJ7_copyOf_6403c 28 = .ok (.iconst 0, 1) := by decide +kernel
theorem dJ7_copyOf_6403c_29 : decode cJ7_copyOf_6403c 29 = .ok (.aload_n 0, 1) := by decide +kernel
theorem dJ7_copyOf_6403c_30 : decode cJ7_copyOf_6403c 30 = .ok (.arraylength, 1) := by decide +kernel
theorem dJ7_copyOf_6403c_31 : decode cJ7_copyOf_6403c 31 = .ok (.iload_n 1, 1) := by decide +kernel
theorem dJ7_copyOf_6403c_32 : decode cJ7_copyOf_6403c 32 = .ok (.invokestatic 304, 3) := by decide +kernel
theorem dJ7_copyOf_6403c_35 : decode cJ7_copyOf_6403c 35 = .ok (.invokestatic 150, 3) := by decide +kernel
theorem dJ7_copyOf_6403c_38 : decode cJ7_copyOf_6403c 38 = .ok (.aload_n 3, 1) := by decide +kernel
theorem dJ7_copyOf_6403c_39 : decode cJ7_copyOf_6403c 39 = .ok (.areturn, 1) := by decide +kernel
theorem dJ8_newLength_cabcc_0 : decode cJ8_newLength_cabcc 0 = .ok (.iload_n 0, 1) := by decide +kernel
theorem dJ8_newLength_cabcc_1 : decode cJ8_newLength_cabcc 1 = .ok (.iload_n 1, 1) := by decide +kernel
theorem dJ8_newLength_cabcc_2 : decode cJ8_newLength_cabcc 2 = .ok (.iload_n 2, 1) := by decide +kernel
theorem dJ8_newLength_cabcc_3 : decode cJ8_newLength_cabcc 3 = .ok (.invokestatic 194, 3) := by decide +kernel
theorem dJ8_newLength_cabcc_6 : decode cJ8_newLength_cabcc 6 = .ok (.iadd, 1) := by decide +kernel
theorem dJ8_newLength_cabcc_7 : decode cJ8_newLength_cabcc 7 = .ok (.istore_n 3, 1) := by decide +kernel
theorem dJ8_newLength_cabcc_8 : decode cJ8_newLength_cabcc 8 = .ok (.iconst 0, 1) := by decide +kernel
theorem dJ8_newLength_cabcc_9 : decode cJ8_newLength_cabcc 9 = .ok (.iload_n 3, 1) := by decide +kernel
theorem dJ8_newLength_cabcc_10 : decode cJ8_newLength_cabcc 10 = .ok (.if_icmp .ge 11, 3) := by decide +kernel
theorem dJ8_newLength_cabcc_13 : decode cJ8_newLength_cabcc 13 = .ok (.iload_n 3, 1) := by decide +kernel
theorem dJ8_newLength_cabcc_14 : decode cJ8_newLength_cabcc 14 = .ok (.ldc 200, 2) := by decide +kernel
theorem dJ8_newLength_cabcc_16 : decode cJ8_newLength_cabcc 16 = .ok (.if_icmp .gt 5, 3) := by decide +kernel
theorem dJ8_newLength_cabcc_19 : decode cJ8_newLength_cabcc 19 = .ok (.iload_n 3, 1) := by decide +kernel
theorem dJ8_newLength_cabcc_20 : decode cJ8_newLength_cabcc 20 = .ok (.ireturn, 1) := by decide +kernel
theorem dJ8_newLength_cabcc_21 : decode cJ8_newLength_cabcc 21 = .ok (.iload_n 0, 1) := by decide +kernel
theorem dJ8_newLength_cabcc_22 : decode cJ8_newLength_cabcc 22 = .ok (.iload_n 1, 1) := by decide +kernel
theorem dJ8_newLength_cabcc_23 : decode cJ8_newLength_cabcc 23 = .ok (.invokestatic 201, 3) := by decide +kernel
theorem dJ8_newLength_cabcc_26 : decode cJ8_newLength_cabcc 26 = .ok (.ireturn, 1) := by decide +kernel
theorem dJx4a65c_init_da8c8_0 : decode cJx4a65c_init_da8c8 0 = .ok (.aload_n 0, 1) := by decide +kernel
theorem dJx4a65c_init_da8c8_1 : decode cJx4a65c_init_da8c8 1 = .ok (.invokespecial 1, 3) := by decide +kernel
theorem dJx4a65c_init_da8c8_4 : decode cJx4a65c_init_da8c8 4 = .ok (.aload_n 0, 1) := by decide +kernel
theorem dJx4a65c_init_da8c8_5 : decode cJx4a65c_init_da8c8 5 = .ok (.getstatic 39, 3) := by decide +kernel
theorem dJx4a65c_init_da8c8_8 : decode cJx4a65c_init_da8c8 8 = .ok (.putfield 9, 3) := by decide +kernel
theorem dJx4a65c_init_da8c8_11 : decode cJx4a65c_init_da8c8 11 = .ok (.return_, 1) := by decide +kernel
theorem dJxc12de_init_da8c8_0 : decode cJxc12de_init_da8c8 0 = .ok (.aload_n 0, 1) := by decide +kernel
theorem dJxc12de_init_da8c8_1 : decode cJxc12de_init_da8c8 1 = .ok (.invokespecial 1, 3) := by decide +kernel
theorem dJxc12de_init_da8c8_4 : decode cJxc12de_init_da8c8 4 = .ok (.aload_n 0, 1) := by decide +kernel
theorem dJxc12de_init_da8c8_5 : decode cJxc12de_init_da8c8 5 = .ok (.iconst 0, 1) := by decide +kernel
theorem dJxc12de_init_da8c8_6 : decode cJxc12de_init_da8c8 6 = .ok (.putfield 7, 3) := by decide +kernel
theorem dJxc12de_init_da8c8_9 : decode cJxc12de_init_da8c8 9 = .ok (.return_, 1) := by decide +kernel
theorem dJxa1e45_init_da8c8_0 : decode cJxa1e45_init_da8c8 0 = .ok (.aload_n 0, 1) := by decide +kernel
theorem dJxa1e45_init_da8c8_1 : decode cJxa1e45_init_da8c8 1 = .ok (.invokespecial 1, 3) := by decide +kernel
theorem dJxa1e45_init_da8c8_4 : decode cJxa1e45_init_da8c8 4 = .ok (.return_, 1) := by decide +kernel
theorem kv_Jx35411_checkForComodification_da8c8 : KV yJx35411_checkForComodification_da8c8 cJx35411_checkForComodification_da8c8 1 none 0 := ⟨tw_5_169, tw_5_167, tw_5_168, tw_1_27, by decide, by decide, by decide +kernel⟩
theorem kv_Jx35411_init_45d68 : KI yJx35411_init_45d68 cJx35411_init_45d68 2 1 := ⟨tw_5_132, tw_5_131, tw_1_27, rfl, by decide, by decide, by decide +kernel⟩
theorem kv_Jx4a65c_elementData_915e3 : KV yJx4a65c_elementData_915e3 cJx4a65c_elementData_915e3 2 (Option.some (FieldType.object "java/lang/Object")) 1 := ⟨tw_5_214, tw_5_212, tw_5_213, tw_1_3, by decide, by decide, by decide +kernel⟩
theorem kv_J15_checkIndex_7cf53 : KS yJ15_checkIndex_7cf53 cJ15_checkIndex_7cf53 2 (Option.some FieldType.int) 2 := ⟨tw_5_209, tw_5_208, tw_1_28, by decide, by decide, by decide +kernel⟩
theorem kv_Jx4a65c_add_72be8 : KV yJx4a65c_add_72be8 cJx4a65c_add_72be8 4 none 3 := ⟨tw_3_206, tw_3_205, tw_p_14, tw_1_3, by decide, by decide, by decide +kernel⟩
theorem kv_Jx4a65c_grow_d5877 : KV yJx4a65c_grow_d5877 cJx4a65c_grow_d5877 1 (Option.some (FieldType.array (FieldType.object "java/lang/Object"))) 0 := ⟨tw_3_210, tw_3_209, tw_p_15, tw_1_3, by decide, by decide, by decide +kernel⟩
theorem kv_Jx4a65c_grow_92f84 : KV yJx4a65c_grow_92f84 cJx4a65c_grow_92f84 4 (Option.some (FieldType.array (FieldType.object "java/lang/Object"))) 1 := ⟨tw_3_214, tw_3_213, tw_p_16, tw_1_3, by decide, by decide, by decide +kernel⟩
theorem kv_J7_copyOf_1904c : KS yJ7_copyOf_1904c cJ7_copyOf_1904c 2 (Option.some (FieldType.array (FieldType.object "java/lang/Object"))) 2 := ⟨tw_3_225, tw_3_224, tw_1_7, by decide, by decide, by decide +kernel⟩
theorem kv_J7_copyOf_6403c : KS yJ7_copyOf_6403c cJ7_copyOf_6403c 4 (Option.some (FieldType.array (FieldType.object "java/lang/Object"))) 3 := ⟨tw_4_11, tw_4_10, tw_1_7, by decide, by decide, by decide +kernel⟩
theorem kv_J8_newLength_cabcc : KS yJ8_newLength_cabcc cJ8_newLength_cabcc 4 (Option.some FieldType.int) 3 := ⟨tw_3_217, tw_3_216, tw_1_5, by decide, by decide, by decide +kernel⟩
theorem kv_Jx4a65c_init_da8c8 : KI yJx4a65c_init_da8c8 cJx4a65c_init_da8c8 1 0 := ⟨tw_3_134, tw_3_133, tw_1_3, rfl, by decide, by decide, by decide +kernel⟩
theorem kv_Jxc12de_init_da8c8 : KI yJxc12de_init_da8c8 cJxc12de_init_da8c8 1 0 := ⟨tw_3_137, tw_3_136, tw_1_2, rfl, by decide, by decide, by decide +kernel⟩
theorem kv_Jxa1e45_init_da8c8 : KI yJxa1e45_init_da8c8 cJxa1e45_init_da8c8 1 0 := ⟨tw_3_140, tw_3_139, tw_1_1, rfl, by decide, by decide, by decide +kernel⟩
theorem kf_hasNext : KF RJx35411 ⟨"java/util/Iterator", "hasNext", "()Z"⟩ yJx35411_hasNext_aae02 cJx35411_hasNext_aae02 1 (Option.some FieldType.boolean) 0 := ⟨tw_5_156, tw_5_154, tw_5_152, tw_1_27, List.mem_of_getElem? (i := 4) rfl, by decide +kernel⟩
theorem kf_next : KF RJx35411 ⟨"java/util/Iterator", "next", "()Ljava/lang/Object;"⟩ yJx35411_next_0502b cJx35411_next_0502b 3 (Option.some (FieldType.object "java/lang/Object")) 0 := ⟨tw_5_165, tw_5_163, tw_5_161, tw_1_27, List.mem_of_getElem? (i := 5) rfl, by decide +kernel⟩
theorem kf_iterator : KF RJx4a65c ⟨"java/util/List", "iterator", "()Ljava/util/Iterator;"⟩ yJx4a65c_iterator_32c93 cJx4a65c_iterator_32c93 1 (Option.some (FieldType.object "java/util/Iterator")) 0 := ⟨tw_5_127, tw_5_125, tw_5_123, tw_1_3, List.mem_of_getElem? (i := 1) rfl, by decide +kernel⟩
theorem kf_size : KF RJx4a65c ⟨"java/util/List", "size", "()I"⟩ yJx4a65c_size_8abf5 cJx4a65c_size_8abf5 1 (Option.some FieldType.int) 0 := ⟨tw_5_197, tw_5_195, tw_5_193, tw_1_3, List.mem_of_getElem? (i := 2) rfl, by decide +kernel⟩
theorem kf_get : KF RJx4a65c ⟨"java/util/List", "get", "(I)Ljava/lang/Object;"⟩ yJx4a65c_get_915e3 cJx4a65c_get_915e3 2 (Option.some (FieldType.object "java/lang/Object")) 1 := ⟨tw_5_206, tw_5_204, tw_5_202, tw_1_3, List.mem_of_getElem? (i := 3) rfl, by decide +kernel⟩
theorem kf_add : KF RJx4a65c ⟨"java/util/List", "add", "(Ljava/lang/Object;)Z"⟩ yJx4a65c_add_9ea2d cJx4a65c_add_9ea2d 2 (Option.some FieldType.boolean) 1 := ⟨tw_3_202, tw_3_200, tw_3_198, tw_1_3, List.mem_of_getElem? (i := 0) rfl, by decide +kernel⟩
def it_z (cur n : Int32) : Int32 := if cur = n then 0 else 1
set_option maxHeartbeats 4000000 in
set_option maxRecDepth 100000 in
theorem k_hasNext (l : Launch) (G : Gx) (it L ed : Nat) (cur lr em mo n : Int32) (sz : Nat) : k_M l yJx35411_hasNext_aae02 cJx35411_hasNext_aae02 1 (Option.some FieldType.boolean) 0 0 0 0 G (fun H => va_at G.1 z_cl (it, e_it cur lr em L) H ∧ va_at G.1 z_cl (L, e_al mo ed n) H) sz [.ref it] (some (.int (it_z cur n))) (fun H => H.size = sz) (fun q => False) := by
  refine k_begin (by decide +kernel) (Nat.le_of_ble_eq_true rfl) [(0, .ref it)] rfl (fun p e s m args below meth c ls C hnm hsz hP hO hl => ?_)
  obtain ⟨h0, h1⟩ := hP
  have S : va_S (fun q => False) s.heap s.heap [] := va_S.rf
  refine lv_aload_n C.1 C.2.1 dJx35411_hasNext_aae02_0 rfl (lv_at hl 0 rfl) ?_
  refine u_get C h0 cf_13 0 (by decide) rfl tw_5_134 dJx35411_hasNext_aae02_1 ?_
  refine lv_aload_n C.1 C.2.1 dJx35411_hasNext_aae02_4 rfl (lv_at hl 0 rfl) ?_
  refine u_get C h0 cf_13 3 (by decide) rfl tw_5_137 dJx35411_hasNext_aae02_5 ?_
  refine u_getN C h1 cf_12 2 (by decide) rfl (List.mem_of_getElem? (i := 9) rfl) dJx35411_hasNext_aae02_8 ?_
  refine lv_icmp_eq (tgt := 18) C.1 C.2.1 dJx35411_hasNext_aae02_11 (by decide) (fun cc => ?_) (fun cc => ?_)
  · refine lv_iconst (v := 0) C.1 C.2.1 dJx35411_hasNext_aae02_18 (by decide) ?_
    rw [show it_z cur n = 0 from if_pos cc]
    exact k_zret C S rfl hsz (Nat.le_of_ble_eq_true rfl) (Nat.le_of_ble_eq_true rfl) dJx35411_hasNext_aae02_19
  · refine lv_iconst (v := 1) C.1 C.2.1 dJx35411_hasNext_aae02_14 (by decide) ?_
    refine lv_goto (tgt := 19) C.1 C.2.1 dJx35411_hasNext_aae02_15 (by decide) ?_
    rw [show it_z cur n = 1 from if_neg cc]
    exact k_zret C S rfl hsz (Nat.le_of_ble_eq_true rfl) (Nat.le_of_ble_eq_true rfl) dJx35411_hasNext_aae02_19
set_option maxHeartbeats 4000000 in
set_option maxRecDepth 100000 in
theorem k_cfc (l : Launch) (G : Gx) (it L ed : Nat) (cur lr mo n : Int32) (sz : Nat) : k_M l yJx35411_checkForComodification_da8c8 cJx35411_checkForComodification_da8c8 1 none 0 0 0 0 G (fun H => va_at G.1 z_cl (it, e_it cur lr mo L) H ∧ va_at G.1 z_cl (L, e_al mo ed n) H) sz [.ref it] none (fun H => H.size = sz) (fun q => False) := by
  refine k_begin (by decide +kernel) (Nat.le_of_ble_eq_true rfl) [(0, .ref it)] rfl (fun p e s m args below meth c ls C hnm hsz hP hO hl => ?_)
  obtain ⟨h0, h1⟩ := hP
  have S : va_S (fun q => False) s.heap s.heap [] := va_S.rf
  refine lv_aload_n C.1 C.2.1 dJx35411_checkForComodification_da8c8_0 rfl (lv_at hl 0 rfl) ?_
  refine u_get C h0 cf_13 3 (by decide) rfl tw_5_137 dJx35411_checkForComodification_da8c8_1 ?_
  refine u_getS C h1 cf_12 0 (by decide) rfl "java/util/ArrayList" tw_3_149 tw_3_150 dJx35411_checkForComodification_da8c8_4 ?_
  refine lv_aload_n C.1 C.2.1 dJx35411_checkForComodification_da8c8_7 rfl (lv_at hl 0 rfl) ?_
  refine u_get C h0 cf_13 2 (by decide) rfl tw_5_136 dJx35411_checkForComodification_da8c8_8 ?_
  refine lv_icmp_eq (tgt := 22) C.1 C.2.1 dJx35411_checkForComodification_da8c8_11 (by decide) (fun cc => ?_) (fun cc => absurd rfl cc)
  exact k_vret C S hsz (Nat.le_of_ble_eq_true rfl) (Nat.le_of_ble_eq_true rfl) dJx35411_checkForComodification_da8c8_22
set_option maxHeartbeats 4000000 in
set_option maxRecDepth 100000 in
theorem k_next (l : Launch) (G : Gx) (it L ed k n cap x : Nat) (lr mo : Int32) (f : Nat → Option Nat) (hkn : k < n) (hnc : n ≤ cap) (hc31 : cap < 2147483648) (hx : f k = some x) (hGi : G.2.2.1.size ≤ it) (hiL : L ≠ it) (hie : ed ≠ it) (sz : Nat) : k_M l yJx35411_next_0502b cJx35411_next_0502b 3 (Option.some (FieldType.object "java/lang/Object")) 1 20 0 0 G (fun H => va_at G.1 z_cl (it, e_it (nI k) lr mo L) H ∧ va_at G.1 z_cl (L, e_al mo ed (nI n)) H ∧ va_at G.1 z_cl (ed, e_oa G cap f) H) sz [.ref it] (some (.ref x)) (fun H => H.size = sz ∧ va_at G.1 z_cl (it, e_it (nI (k + 1)) (nI k) mo L) H) (fun q => q = it) := by
  refine k_begin (by decide +kernel) (Nat.le_of_ble_eq_true rfl) [(0, .ref it)] rfl (fun p e s m args below meth c ls C hnm hsz hP hO hl => ?_)
  obtain ⟨h0, h1, h2⟩ := hP
  have S : va_S (fun q => q = it) s.heap s.heap [] := va_S.rf
  refine lv_aload_n C.1 C.2.1 dJx35411_next_0502b_0 rfl (lv_at hl 0 rfl) ?_
  refine k_callV C S hO (u_clsO C.2.2.2.2.2.1 h0 cf_13.1) [] (k_cfc l G it L ed (nI k) lr mo (nI n) sz) hsz ⟨h0, h1⟩ kv_Jx35411_checkForComodification_da8c8 tw_5_166 ⟨(Nat.le_of_ble_eq_true rfl), (Nat.le_of_ble_eq_true rfl)⟩ rfl rfl (Nat.le_of_ble_eq_true rfl) hl.1 ⟨(Nat.le_of_ble_eq_true rfl), (Nat.le_of_ble_eq_true rfl)⟩ dJx35411_next_0502b_1 (fun _ h => h.elim) (fun H1 locs1 hz1 hle1 o1 S => ?_)
  have e1 : ∀ q : Nat, q < s.heap.size → H1[q]? = s.heap[q]? := fun q hq => o1 q hq id
  replace h0 := va_at.kept h0 (e1 _ h0.lt)
  replace h1 := va_at.kept h1 (e1 _ h1.lt)
  replace h2 := va_at.kept h2 (e1 _ h2.lt)
  refine lv_aload_n C.1 C.2.1 dJx35411_next_0502b_4 rfl (lv_at hl 0 rfl) ?_
  refine u_get C h0 cf_13 0 (by decide) rfl tw_5_134 dJx35411_next_0502b_5 ?_
  refine lv_istore_n (lv' := [(1, .int (nI k)), (0, .ref it)]) C.1 C.2.1 dJx35411_next_0502b_8 rfl hl (by decide) rfl (fun ls hl => ?_)
  refine lv_iload_n C.1 C.2.1 dJx35411_next_0502b_9 rfl (lv_at hl 0 rfl) ?_
  refine lv_aload_n C.1 C.2.1 dJx35411_next_0502b_10 rfl (lv_at hl 1 rfl) ?_
  refine u_get C h0 cf_13 3 (by decide) rfl tw_5_137 dJx35411_next_0502b_11 ?_
  refine u_getN C h1 cf_12 2 (by decide) rfl (List.mem_of_getElem? (i := 9) rfl) dJx35411_next_0502b_14 ?_
  refine lv_icmp_lt (tgt := 28) C.1 C.2.1 dJx35411_next_0502b_17 (by decide) (fun cc => ?_) (fun cc => absurd (nI_lt hkn (by omega)) cc)
  refine lv_aload_n C.1 C.2.1 dJx35411_next_0502b_28 rfl (lv_at hl 1 rfl) ?_
  refine u_get C h0 cf_13 3 (by decide) rfl tw_5_137 dJx35411_next_0502b_29 ?_
  refine u_get C h1 cf_12 1 (by decide) rfl tw_3_145 dJx35411_next_0502b_32 ?_
  refine lv_astore_n (lv' := [(2, .ref ed), (1, .int (nI k)), (0, .ref it)]) C.1 C.2.1 dJx35411_next_0502b_35 rfl hl (by decide) rfl (fun ls hl => ?_)
  refine lv_iload_n C.1 C.2.1 dJx35411_next_0502b_36 rfl (lv_at hl 1 rfl) ?_
  refine lv_aload_n C.1 C.2.1 dJx35411_next_0502b_37 rfl (lv_at hl 0 rfl) ?_
  refine u_alen C 5 rfl h2 (v := nI cap) rfl dJx35411_next_0502b_38 ?_
  refine lv_icmp_lt (tgt := 50) C.1 C.2.1 dJx35411_next_0502b_39 (by decide) (fun cc => ?_) (fun cc => absurd (nI_lt (by omega : k < cap) hc31) cc)
  refine lv_aload_n C.1 C.2.1 dJx35411_next_0502b_50 rfl (lv_at hl 2 rfl) ?_
  refine lv_iload_n C.1 C.2.1 dJx35411_next_0502b_51 rfl (lv_at hl 1 rfl) ?_
  refine lv_iconst (v := 1) C.1 C.2.1 dJx35411_next_0502b_52 (by decide) ?_
  refine lv_iadd C.1 C.2.1 dJx35411_next_0502b_53 ?_
  refine u_put C S h0 rfl cf_13 0 (by decide) (Nat.le_of_ble_eq_true rfl) rfl rfl rfl tw_5_134 dJx35411_next_0502b_54 (fun H2 locs2 z2 o2 g0 S => ?_)
  replace h2 := va_at.kept h2 (o2 _ hie)
  refine lv_aload_n C.1 C.2.1 dJx35411_next_0502b_57 rfl (lv_at hl 0 rfl) ?_
  refine lv_aload_n C.1 C.2.1 dJx35411_next_0502b_58 rfl (lv_at hl 2 rfl) ?_
  refine lv_iload_n C.1 C.2.1 dJx35411_next_0502b_59 rfl (lv_at hl 1 rfl) ?_
  refine lv_dup_x1 C.1 C.2.1 dJx35411_next_0502b_60 rfl rfl ?_
  refine u_put C S g0 rfl cf_13 1 (by decide) (Nat.le_of_ble_eq_true rfl) rfl rfl rfl tw_5_135 dJx35411_next_0502b_61 (fun H3 locs3 z3 o3 g0 S => ?_)
  replace h2 := va_at.kept h2 (o3 _ hie)
  have hk31 : k < 2147483648 := by omega
  refine u_aald C 5 rfl h2 (i := nI k) (v := .ref x) (by rw [nI_clamp hk31]; exact fun q => q.elim (fun q => nI_pos hk31 q) (fun q => by omega)) (by rw [nI_clamp hk31, hx]; rfl) dJx35411_next_0502b_64 ?_
  refine k_aret C S (Or.inl ⟨_, rfl⟩) (Or.inr ⟨_, rfl⟩) ⟨by rw [z3, z2, hz1], ?_⟩ (Nat.le_of_ble_eq_true rfl) (Nat.le_of_ble_eq_true rfl) dJx35411_next_0502b_65
  have e9 : nI k + 1 = nI (k + 1) := nI_1 k
  rw [e9] at g0
  exact g0
set_option maxHeartbeats 4000000 in
set_option maxRecDepth 100000 in
theorem k_itinit (l : Launch) (G : Gx) (it L ed : Nat) (mo n : Int32) (hGi : G.2.2.1.size ≤ it) (hiL : L ≠ it) (sz : Nat) : k_M l yJx35411_init_45d68 cJx35411_init_45d68 2 none 1 12 0 0 G (fun H => va_at G.1 z_cl (it, .inr (13, [.int 0, .int 0, .int 0, .null])) H ∧ va_at G.1 z_cl (L, e_al mo ed n) H) sz [.ref it, .ref L] none (fun H => H.size = sz ∧ va_at G.1 z_cl (it, e_it 0 (-1) mo L) H) (fun q => q = it) := by
  refine k_begin (by decide +kernel) (Nat.le_of_ble_eq_true rfl) [(0, .ref it), (1, .ref L)] rfl (fun p e s m args below meth c ls C hnm hsz hP hO hl => ?_)
  obtain ⟨h0, h1⟩ := hP
  have S : va_S (fun q => q = it) s.heap s.heap [] := va_S.rf
  refine lv_aload_n C.1 C.2.1 dJx35411_init_45d68_0 rfl (lv_at hl 0 rfl) ?_
  refine lv_aload_n C.1 C.2.1 dJx35411_init_45d68_1 rfl (lv_at hl 1 rfl) ?_
  refine u_putF C (hnm.trans rfl) S h0 rfl cf_13 3 (by decide) (Nat.le_of_ble_eq_true rfl) rfl rfl rfl rfl tw_5_137 dJx35411_init_45d68_2 (fun H1 locs1 z1 o1 g0 S => ?_)
  replace h1 := va_at.kept h1 (o1 _ hiL)
  refine lv_aload_n C.1 C.2.1 dJx35411_init_45d68_5 rfl (lv_at hl 0 rfl) ?_
  refine u_obj C tw_5_133 hl.1 (Nat.le_of_ble_eq_true rfl) (Nat.le_of_ble_eq_true rfl) dJx35411_init_45d68_6 ?_
  refine lv_aload_n C.1 C.2.1 dJx35411_init_45d68_9 rfl (lv_at hl 0 rfl) ?_
  refine lv_iconst (v := -1) C.1 C.2.1 dJx35411_init_45d68_10 (by decide) ?_
  refine u_put C S g0 rfl cf_13 1 (by decide) (Nat.le_of_ble_eq_true rfl) rfl rfl rfl tw_5_135 dJx35411_init_45d68_11 (fun H2 locs2 z2 o2 g0 S => ?_)
  replace h1 := va_at.kept h1 (o2 _ hiL)
  refine lv_aload_n C.1 C.2.1 dJx35411_init_45d68_14 rfl (lv_at hl 0 rfl) ?_
  refine lv_aload_n C.1 C.2.1 dJx35411_init_45d68_15 rfl (lv_at hl 0 rfl) ?_
  refine u_get C g0 cf_13 3 (by decide) rfl tw_5_137 dJx35411_init_45d68_16 ?_
  refine u_getS C h1 cf_12 0 (by decide) rfl "java/util/ArrayList" tw_3_149 tw_3_150 dJx35411_init_45d68_19 ?_
  refine u_put C S g0 rfl cf_13 2 (by decide) (Nat.le_of_ble_eq_true rfl) rfl rfl rfl tw_5_136 dJx35411_init_45d68_22 (fun H3 locs3 z3 o3 g0 S => ?_)
  exact k_vret C S ⟨by rw [z3, z2, z1, hsz], g0⟩ (Nat.le_of_ble_eq_true rfl) (Nat.le_of_ble_eq_true rfl) dJx35411_init_45d68_25
set_option maxHeartbeats 4000000 in
set_option maxRecDepth 100000 in
theorem k_iterator (l : Launch) (G : Gx) (L ed : Nat) (mo n : Int32) (sz : Nat) : k_M l yJx4a65c_iterator_32c93 cJx4a65c_iterator_32c93 1 (Option.some (FieldType.object "java/util/Iterator")) 2 33 1 4 G (fun H => va_at G.1 z_cl (L, e_al mo ed n) H) sz [.ref L] (some (.ref sz)) (fun H => H.size = sz + 1 ∧ va_at G.1 z_cl (sz, e_it 0 (-1) mo L) H) (fun q => sz ≤ q) := by
  refine k_begin (by decide +kernel) (Nat.le_of_ble_eq_true rfl) [(0, .ref L)] rfl (fun p e s m args below meth c ls C hnm hsz hP hO hl => ?_)
  have S : va_S (fun q => sz ≤ q) s.heap s.heap [] := va_S.rf
  subst hsz
  refine u_newO C S cf_13 tw_5_128 tw_5_129 tw_1_27 (fs := [.int 0, .int 0, .int 0, .null]) (fun j hj => by rcases (show j = 0 ∨ j = 1 ∨ j = 2 ∨ j = 3 by omega) with rfl | rfl | rfl | rfl <;> rfl) (Nat.le_of_ble_eq_true rfl) (Nat.le_of_ble_eq_true rfl) dJx4a65c_iterator_32c93_0 (fun H1 z1 o1 g0 S => ?_)
  have h0 := va_at.kept hP (o1 _ hP.lt)
  have hO1 := hO.grow z1 o1
  refine lv_dup C.1 C.2.1 dJx4a65c_iterator_32c93_3 rfl ?_
  refine lv_aload_n C.1 C.2.1 dJx4a65c_iterator_32c93_4 rfl (lv_at hl 0 rfl) ?_
  refine k_callI C S hO1 [.ref L] (k_itinit l G s.heap.size L ed mo n hO.1 (Nat.ne_of_lt hP.lt) (s.heap.size + 1)) z1 ⟨g0, h0⟩ kv_Jx35411_init_45d68 tw_5_130 ⟨(Nat.le_of_ble_eq_true rfl), (Nat.le_of_ble_eq_true rfl)⟩ rfl rfl (Nat.le_of_ble_eq_true rfl) hl.1 ⟨(Nat.le_of_ble_eq_true rfl), (Nat.le_of_ble_eq_true rfl)⟩ dJx4a65c_iterator_32c93_5 (fun q h => Nat.le_of_eq h.symm) (fun H2 locs2 hp2 hle2 o2 S => ?_)
  exact k_aret C S (Or.inl ⟨_, rfl⟩) (Or.inr ⟨_, rfl⟩) hp2 (Nat.le_of_ble_eq_true rfl) (Nat.le_of_ble_eq_true rfl) dJx4a65c_iterator_32c93_8
set_option maxHeartbeats 4000000 in
set_option maxRecDepth 100000 in
theorem k_size (l : Launch) (G : Gx) (L ed : Nat) (mo n : Int32) (sz : Nat) : k_M l yJx4a65c_size_8abf5 cJx4a65c_size_8abf5 1 (Option.some FieldType.int) 0 0 0 0 G (fun H => va_at G.1 z_cl (L, e_al mo ed n) H) sz [.ref L] (some (.int n)) (fun H => H.size = sz) (fun q => False) := by
  refine k_begin (by decide +kernel) (Nat.le_of_ble_eq_true rfl) [(0, .ref L)] rfl (fun p e s m args below meth c ls C hnm hsz hP hO hl => ?_)
  have S : va_S (fun q => False) s.heap s.heap [] := va_S.rf
  refine lv_aload_n C.1 C.2.1 dJx4a65c_size_8abf5_0 rfl (lv_at hl 0 rfl) ?_
  refine u_get C hP cf_12 2 (by decide) rfl tw_3_147 dJx4a65c_size_8abf5_1 ?_
  exact k_iret C S hsz (Nat.le_of_ble_eq_true rfl) (Nat.le_of_ble_eq_true rfl) dJx4a65c_size_8abf5_4
set_option maxHeartbeats 4000000 in
set_option maxRecDepth 100000 in
theorem k_ckix (l : Launch) (G : Gx) (i n : Int32) (h0 : ¬ i < 0) (h1 : ¬ n ≤ i) (sz : Nat) : k_M l yJ3_checkIndex_8e157 cJ3_checkIndex_8e157 3 (Option.some FieldType.int) 0 0 0 0 G (fun H => True) sz [.int i, .int n, .null] (some (.int i)) (fun H => H.size = sz) (fun q => False) := by
  refine k_begin (by decide +kernel) (Nat.le_of_ble_eq_true rfl) [(0, .int i), (1, .int n), (2, .null)] rfl (fun p e s m args below meth c ls C hnm hsz hP hO hl => ?_)
  have S : va_S (fun q => False) s.heap s.heap [] := va_S.rf
  refine lv_iload_n C.1 C.2.1 dJ3_checkIndex_8e157_0 rfl (lv_at hl 0 rfl) ?_
  refine lv_if_lt (tgt := 9) C.1 C.2.1 dJ3_checkIndex_8e157_1 (by decide) (fun c_3 => absurd c_3 h0) (fun c_3 => ?_)
  refine lv_iload_n C.1 C.2.1 dJ3_checkIndex_8e157_4 rfl (lv_at hl 0 rfl) ?_
  refine lv_iload_n C.1 C.2.1 dJ3_checkIndex_8e157_5 rfl (lv_at hl 1 rfl) ?_
  refine lv_icmp_lt (tgt := 16) C.1 C.2.1 dJ3_checkIndex_8e157_6 (by decide) (fun c_6 => ?_) (fun c_6 => absurd (Int32.not_lt.mp c_6) h1)
  refine lv_iload_n C.1 C.2.1 dJ3_checkIndex_8e157_16 rfl (lv_at hl 0 rfl) ?_
  exact k_iret C S hsz (Nat.le_of_ble_eq_true rfl) (Nat.le_of_ble_eq_true rfl) dJ3_checkIndex_8e157_17
set_option maxHeartbeats 4000000 in
set_option maxRecDepth 100000 in
theorem k_ckob (l : Launch) (G : Gx) (i n : Int32) (h0 : ¬ i < 0) (h1 : ¬ n ≤ i) (sz : Nat) : k_M l yJ15_checkIndex_7cf53 cJ15_checkIndex_7cf53 2 (Option.some FieldType.int) 1 22 0 0 G (fun H => True) sz [.int i, .int n] (some (.int i)) (fun H => H.size = sz) (fun q => False) := by
  refine k_begin (by decide +kernel) (Nat.le_of_ble_eq_true rfl) [(0, .int i), (1, .int n)] rfl (fun p e s m args below meth c ls C hnm hsz hP hO hl => ?_)
  have S : va_S (fun q => False) s.heap s.heap [] := va_S.rf
  refine lv_iload_n C.1 C.2.1 dJ15_checkIndex_7cf53_0 rfl (lv_at hl 0 rfl) ?_
  refine lv_iload_n C.1 C.2.1 dJ15_checkIndex_7cf53_1 rfl (lv_at hl 1 rfl) ?_
  refine lv_null C.1 C.2.1 dJ15_checkIndex_7cf53_2 ?_
  refine k_callS C S hO [.int i, .int n, .null] (k_ckix l G i n h0 h1 sz) hsz trivial kv_J3_checkIndex_8e157 tw_5_210 ⟨(Nat.le_of_ble_eq_true rfl), (Nat.le_of_ble_eq_true rfl)⟩ rfl rfl (Nat.le_of_ble_eq_true rfl) hl.1 ⟨(Nat.le_of_ble_eq_true rfl), (Nat.le_of_ble_eq_true rfl)⟩ dJ15_checkIndex_7cf53_3 (fun _ h => h.elim) (fun H1 locs1 hz1 hle1 o1 S => ?_)
  exact k_iret C S hz1 (Nat.le_of_ble_eq_true rfl) (Nat.le_of_ble_eq_true rfl) dJ15_checkIndex_7cf53_6
set_option maxHeartbeats 4000000 in
set_option maxRecDepth 100000 in
theorem k_eldata (l : Launch) (G : Gx) (L ed k cap x : Nat) (mo n : Int32) (f : Nat → Option Nat) (hkc : k < cap) (hc31 : cap < 2147483648) (hx : f k = some x) (sz : Nat) : k_M l yJx4a65c_elementData_915e3 cJx4a65c_elementData_915e3 2 (Option.some (FieldType.object "java/lang/Object")) 0 0 0 0 G (fun H => va_at G.1 z_cl (L, e_al mo ed n) H ∧ va_at G.1 z_cl (ed, e_oa G cap f) H) sz [.ref L, .int (nI k)] (some (.ref x)) (fun H => H.size = sz) (fun q => False) := by
  refine k_begin (by decide +kernel) (Nat.le_of_ble_eq_true rfl) [(0, .ref L), (1, .int (nI k))] rfl (fun p e s m args below meth c ls C hnm hsz hP hO hl => ?_)
  obtain ⟨h0, h1⟩ := hP
  have S : va_S (fun q => False) s.heap s.heap [] := va_S.rf
  refine lv_aload_n C.1 C.2.1 dJx4a65c_elementData_915e3_0 rfl (lv_at hl 0 rfl) ?_
  refine u_get C h0 cf_12 1 (by decide) rfl tw_3_144 dJx4a65c_elementData_915e3_1 ?_
  refine lv_iload_n C.1 C.2.1 dJx4a65c_elementData_915e3_4 rfl (lv_at hl 1 rfl) ?_
  have hk31 : k < 2147483648 := by omega
  refine u_aald C 5 rfl h1 (i := nI k) (v := .ref x) (by rw [nI_clamp hk31]; exact fun q => q.elim (fun q => nI_pos hk31 q) (fun q => by omega)) (by rw [nI_clamp hk31, hx]; rfl) dJx4a65c_elementData_915e3_5 ?_
  exact k_aret C S (Or.inl ⟨_, rfl⟩) (Or.inr ⟨_, rfl⟩) hsz (Nat.le_of_ble_eq_true rfl) (Nat.le_of_ble_eq_true rfl) dJx4a65c_elementData_915e3_6
set_option maxHeartbeats 4000000 in
set_option maxRecDepth 100000 in
theorem k_get (l : Launch) (G : Gx) (L ed k n cap x : Nat) (mo : Int32) (f : Nat → Option Nat) (hkn : k < n) (hnc : n ≤ cap) (hc31 : cap < 2147483648) (hx : f k = some x) (sz : Nat) : k_M l yJx4a65c_get_915e3 cJx4a65c_get_915e3 2 (Option.some (FieldType.object "java/lang/Object")) 2 43 0 0 G (fun H => va_at G.1 z_cl (L, e_al mo ed (nI n)) H ∧ va_at G.1 z_cl (ed, e_oa G cap f) H) sz [.ref L, .int (nI k)] (some (.ref x)) (fun H => H.size = sz) (fun q => False) := by
  refine k_begin (by decide +kernel) (Nat.le_of_ble_eq_true rfl) [(0, .ref L), (1, .int (nI k))] rfl (fun p e s m args below meth c ls C hnm hsz hP hO hl => ?_)
  obtain ⟨h0, h1⟩ := hP
  have S : va_S (fun q => False) s.heap s.heap [] := va_S.rf
  have hk31 : k < 2147483648 := by omega
  refine lv_iload_n C.1 C.2.1 dJx4a65c_get_915e3_0 rfl (lv_at hl 1 rfl) ?_
  refine lv_aload_n C.1 C.2.1 dJx4a65c_get_915e3_1 rfl (lv_at hl 0 rfl) ?_
  refine u_get C h0 cf_12 2 (by decide) rfl tw_3_147 dJx4a65c_get_915e3_2 ?_
  refine k_callS C S hO [.int (nI k), .int (nI n)] (k_ckob l G (nI k) (nI n) (nI_pos hk31) (nI_ge hkn (by omega)) sz) hsz trivial kv_J15_checkIndex_7cf53 tw_5_207 ⟨(Nat.le_of_ble_eq_true rfl), (Nat.le_of_ble_eq_true rfl)⟩ rfl rfl (Nat.le_of_ble_eq_true rfl) hl.1 ⟨(Nat.le_of_ble_eq_true rfl), (Nat.le_of_ble_eq_true rfl)⟩ dJx4a65c_get_915e3_5 (fun _ h => h.elim) (fun H1 locs1 hz1 hle1 o1 S => ?_)
  have e1 : ∀ q : Nat, q < s.heap.size → H1[q]? = s.heap[q]? := fun q hq => o1 q hq id
  have hO1 : z_O G H1 := hO.call hle1 o1 (fun _ _ h => h)
  replace h0 := va_at.kept h0 (e1 _ h0.lt)
  replace h1 := va_at.kept h1 (e1 _ h1.lt)
  refine lv_pop C.1 C.2.1 dJx4a65c_get_915e3_8 rfl ?_
  refine lv_aload_n C.1 C.2.1 dJx4a65c_get_915e3_9 rfl (lv_at hl 0 rfl) ?_
  refine lv_iload_n C.1 C.2.1 dJx4a65c_get_915e3_10 rfl (lv_at hl 1 rfl) ?_
  refine k_callV C S hO1 (u_clsO C.2.2.2.2.2.1 h0 cf_12.1) [.int (nI k)] (k_eldata l G L ed k cap x mo (nI n) f (by omega) hc31 hx sz) hz1 ⟨h0, h1⟩ kv_Jx4a65c_elementData_915e3 tw_5_211 ⟨(Nat.le_of_ble_eq_true rfl), (Nat.le_of_ble_eq_true rfl)⟩ rfl rfl (Nat.le_of_ble_eq_true rfl) hl.1 ⟨(Nat.le_of_ble_eq_true rfl), (Nat.le_of_ble_eq_true rfl)⟩ dJx4a65c_get_915e3_11 (fun _ h => h.elim) (fun H2 locs2 hz2 hle2 o2 S => ?_)
  exact k_aret C S (Or.inl ⟨_, rfl⟩) (Or.inr ⟨_, rfl⟩) hz2 (Nat.le_of_ble_eq_true rfl) (Nat.le_of_ble_eq_true rfl) dJx4a65c_get_915e3_14
