/-! the law's text -/
theorem dL_text_0 : decode cL_text 0 = .ok (.new 102, 3) := by decide +kernel
theorem dL_text_3 : decode cL_text 3 = .ok (.dup, 1) := by decide +kernel
theorem dL_text_4 : decode cL_text 4 = .ok (.new 102, 3) := by decide +kernel
theorem dL_text_7 : decode cL_text 7 = .ok (.dup, 1) := by decide +kernel
theorem dL_text_8 : decode cL_text 8 = .ok (.invokespecial 104, 3) := by decide +kernel
theorem dL_text_11 : decode cL_text 11 = .ok (.ldc 105, 2) := by decide +kernel
theorem dL_text_13 : decode cL_text 13 = .ok (.invokevirtual 107, 3) := by decide +kernel
theorem dL_text_16 : decode cL_text 16 = .ok (.aload_n 0, 1) := by decide +kernel
theorem dL_text_17 : decode cL_text 17 = .ok (.getfield 64, 3) := by decide +kernel
theorem dL_text_20 : decode cL_text 20 = .ok (.invokevirtual 111, 3) := by decide +kernel
theorem dL_text_23 : decode cL_text 23 = .ok (.ldc 114, 2) := by decide +kernel
theorem dL_text_25 : decode cL_text 25 = .ok (.invokevirtual 107, 3) := by decide +kernel
theorem dL_text_28 : decode cL_text 28 = .ok (.aload_n 0, 1) := by decide +kernel
theorem dL_text_29 : decode cL_text 29 = .ok (.getfield 67, 3) := by decide +kernel
theorem dL_text_32 : decode cL_text 32 = .ok (.invokevirtual 111, 3) := by decide +kernel
theorem dL_text_35 : decode cL_text 35 = .ok (.ldc 116, 2) := by decide +kernel
theorem dL_text_37 : decode cL_text 37 = .ok (.invokevirtual 107, 3) := by decide +kernel
theorem dL_text_40 : decode cL_text 40 = .ok (.aload_n 0, 1) := by decide +kernel
theorem dL_text_41 : decode cL_text 41 = .ok (.getfield 70, 3) := by decide +kernel
theorem dL_text_44 : decode cL_text 44 = .ok (.invokevirtual 111, 3) := by decide +kernel
theorem dL_text_47 : decode cL_text 47 = .ok (.ldc 118, 2) := by decide +kernel
theorem dL_text_49 : decode cL_text 49 = .ok (.invokevirtual 107, 3) := by decide +kernel
theorem dL_text_52 : decode cL_text 52 = .ok (.aload_n 0, 1) := by decide +kernel
theorem dL_text_53 : decode cL_text 53 = .ok (.getfield 73, 3) := by decide +kernel
theorem dL_text_56 : decode cL_text 56 = .ok (.invokevirtual 111, 3) := by decide +kernel
theorem dL_text_59 : decode cL_text 59 = .ok (.ldc 120, 2) := by decide +kernel
theorem dL_text_61 : decode cL_text 61 = .ok (.invokevirtual 107, 3) := by decide +kernel
theorem dL_text_64 : decode cL_text 64 = .ok (.aload_n 0, 1) := by decide +kernel
theorem dL_text_65 : decode cL_text 65 = .ok (.getfield 76, 3) := by decide +kernel
theorem dL_text_68 : decode cL_text 68 = .ok (.invokevirtual 111, 3) := by decide +kernel
theorem dL_text_71 : decode cL_text 71 = .ok (.ldc 122, 2) := by decide +kernel
theorem dL_text_73 : decode cL_text 73 = .ok (.invokevirtual 107, 3) := by decide +kernel
theorem dL_text_76 : decode cL_text 76 = .ok (.aload_n 0, 1) := by decide +kernel
theorem dL_text_77 : decode cL_text 77 = .ok (.getfield 79, 3) := by decide +kernel
theorem dL_text_80 : decode cL_text 80 = .ok (.invokevirtual 111, 3) := by decide +kernel
theorem dL_text_83 : decode cL_text 83 = .ok (.ldc 124, 2) := by decide +kernel
theorem dL_text_85 : decode cL_text 85 = .ok (.invokevirtual 107, 3) := by decide +kernel
theorem dL_text_88 : decode cL_text 88 = .ok (.invokevirtual 126, 3) := by decide +kernel
theorem dL_text_91 : decode cL_text 91 = .ok (.invokespecial 130, 3) := by decide +kernel
theorem dL_text_94 : decode cL_text 94 = .ok (.astore_n 1, 1) := by decide +kernel
theorem dL_text_95 : decode cL_text 95 = .ok (.aload_n 0, 1) := by decide +kernel
theorem dL_text_96 : decode cL_text 96 = .ok (.getfield 30, 3) := by decide +kernel
theorem dL_text_99 : decode cL_text 99 = .ok (.invokeinterface 133 1, 5) := by decide +kernel
theorem dL_text_104 : decode cL_text 104 = .ok (.astore_n 2, 1) := by decide +kernel
theorem dL_text_105 : decode cL_text 105 = .ok (.aload_n 2, 1) := by decide +kernel
theorem dL_text_106 : decode cL_text 106 = .ok (.invokeinterface 137 1, 5) := by decide +kernel
theorem dL_text_111 : decode cL_text 111 = .ok (.ifCond .eq 47, 3) := by decide +kernel
theorem dL_text_114 : decode cL_text 114 = .ok (.aload_n 2, 1) := by decide +kernel
theorem dL_text_115 : decode cL_text 115 = .ok (.invokeinterface 143 1, 5) := by decide +kernel
theorem dL_text_120 : decode cL_text 120 = .ok (.checkcast 82, 3) := by decide +kernel
theorem dL_text_123 : decode cL_text 123 = .ok (.astore_n 3, 1) := by decide +kernel
theorem dL_text_124 : decode cL_text 124 = .ok (.aload_n 1, 1) := by decide +kernel
theorem dL_text_125 : decode cL_text 125 = .ok (.ldc 147, 2) := by decide +kernel
theorem dL_text_127 : decode cL_text 127 = .ok (.invokevirtual 107, 3) := by decide +kernel
theorem dL_text_130 : decode cL_text 130 = .ok (.aload_n 3, 1) := by decide +kernel
theorem dL_text_131 : decode cL_text 131 = .ok (.getfield 85, 3) := by decide +kernel
theorem dL_text_134 : decode cL_text 134 = .ok (.invokevirtual 111, 3) := by decide +kernel
theorem dL_text_137 : decode cL_text 137 = .ok (.bipush 32, 2) := by decide +kernel
theorem dL_text_139 : decode cL_text 139 = .ok (.invokevirtual 149, 3) := by decide +kernel
theorem dL_text_142 : decode cL_text 142 = .ok (.aload_n 3, 1) := by decide +kernel
theorem dL_text_143 : decode cL_text 143 = .ok (.getfield 88, 3) := by decide +kernel
theorem dL_text_146 : decode cL_text 146 = .ok (.invokevirtual 111, 3) := by decide +kernel
theorem dL_text_149 : decode cL_text 149 = .ok (.bipush 59, 2) := by decide +kernel
theorem dL_text_151 : decode cL_text 151 = .ok (.invokevirtual 149, 3) := by decide +kernel
theorem dL_text_154 : decode cL_text 154 = .ok (.pop, 1) := by decide +kernel
theorem dL_text_155 : decode cL_text 155 = .ok (.goto (-50), 3) := by decide +kernel
theorem dL_text_158 : decode cL_text 158 = .ok (.aload_n 0, 1) := by decide +kernel
theorem dL_text_159 : decode cL_text 159 = .ok (.getfield 36, 3) := by decide +kernel
theorem dL_text_162 : decode cL_text 162 = .ok (.invokeinterface 133 1, 5) := by decide +kernel
theorem dL_text_167 : decode cL_text 167 = .ok (.astore_n 2, 1) := by decide +kernel
theorem dL_text_168 : decode cL_text 168 = .ok (.aload_n 2, 1) := by decide +kernel
theorem dL_text_169 : decode cL_text 169 = .ok (.invokeinterface 137 1, 5) := by decide +kernel
theorem dL_text_174 : decode cL_text 174 = .ok (.ifCond .eq 59, 3) := by decide +kernel
theorem dL_text_177 : decode cL_text 177 = .ok (.aload_n 2, 1) := by decide +kernel
theorem dL_text_178 : decode cL_text 178 = .ok (.invokeinterface 143 1, 5) := by decide +kernel
theorem dL_text_183 : decode cL_text 183 = .ok (.checkcast 97, 3) := by decide +kernel
theorem dL_text_186 : decode cL_text 186 = .ok (.astore_n 3, 1) := by decide +kernel
theorem dL_text_187 : decode cL_text 187 = .ok (.aload_n 1, 1) := by decide +kernel
theorem dL_text_188 : decode cL_text 188 = .ok (.ldc 152, 2) := by decide +kernel
theorem dL_text_190 : decode cL_text 190 = .ok (.invokevirtual 107, 3) := by decide +kernel
theorem dL_text_193 : decode cL_text 193 = .ok (.aload_n 3, 1) := by decide +kernel
theorem dL_text_194 : decode cL_text 194 = .ok (.getfield 154, 3) := by decide +kernel
theorem dL_text_197 : decode cL_text 197 = .ok (.invokevirtual 111, 3) := by decide +kernel
theorem dL_text_200 : decode cL_text 200 = .ok (.bipush 32, 2) := by decide +kernel
theorem dL_text_202 : decode cL_text 202 = .ok (.invokevirtual 149, 3) := by decide +kernel
theorem dL_text_205 : decode cL_text 205 = .ok (.aload_n 3, 1) := by decide +kernel
theorem dL_text_206 : decode cL_text 206 = .ok (.getfield 157, 3) := by decide +kernel
theorem dL_text_209 : decode cL_text 209 = .ok (.invokevirtual 111, 3) := by decide +kernel
theorem dL_text_212 : decode cL_text 212 = .ok (.bipush 32, 2) := by decide +kernel
theorem dL_text_214 : decode cL_text 214 = .ok (.invokevirtual 149, 3) := by decide +kernel
theorem dL_text_217 : decode cL_text 217 = .ok (.aload_n 3, 1) := by decide +kernel
theorem dL_text_218 : decode cL_text 218 = .ok (.getfield 160, 3) := by decide +kernel
theorem dL_text_221 : decode cL_text 221 = .ok (.invokevirtual 111, 3) := by decide +kernel
theorem dL_text_224 : decode cL_text 224 = .ok (.bipush 59, 2) := by decide +kernel
theorem dL_text_226 : decode cL_text 226 = .ok (.invokevirtual 149, 3) := by decide +kernel
theorem dL_text_229 : decode cL_text 229 = .ok (.pop, 1) := by decide +kernel
theorem dL_text_230 : decode cL_text 230 = .ok (.goto (-62), 3) := by decide +kernel
theorem dL_text_233 : decode cL_text 233 = .ok (.aload_n 1, 1) := by decide +kernel
theorem dL_text_234 : decode cL_text 234 = .ok (.invokevirtual 126, 3) := by decide +kernel
theorem dL_text_237 : decode cL_text 237 = .ok (.areturn, 1) := by decide +kernel
theorem kv_L_text : KV yL_text cL_text 4 (Option.some (FieldType.object "java/lang/String")) 0 := ⟨tw_4_142, tw_4_141, tw_p_17, tw_1_0, by decide, by decide, by decide +kernel⟩
set_option maxHeartbeats 4000000 in
set_option maxRecDepth 100000 in
theorem w_L_text_105 {p : Program} {l : Launch} {e : Env} {R : Room} {s : State} {m : MethodId} {args : Array Value} {below : List Frame} {meth : Method} {c : Code} {G : Gx} {ad : Ad} {N : Nn} {τ : Sg} {A : Nat → Prop} {Q : State → Prop} {a : Nat} (C : Cx p s m args meth c yL_text.cls cL_text 4 (some (.object "java/lang/String")) G) (hR : 9 ≤ R.frames ∧ 200 ≤ R.locals) (hlst : ∀ i, i < q_nn τ 0 → lp N τ 41 i) (hnum : ∀ i, i < q_nn τ 0 → q_num τ 41 i 0 ∧ q_num τ 41 i 1) : ∀ n k, k + n = q_nn τ 0 → ∀ (it : Nat) (x : Tx) (H : Heap) (locs : List Loc) (ls : Array Slot) (cells slots : Nat), q_B G ad N x_0 τ [(it, 0, k, τ 50 0 0)] A s.heap H locs a x → lv_has ls 4 [(1, .ref a), (2, .ref it), (0, .ref (ad 40 0))] → (g_carsT τ n k x).1 ≤ 240 → cells + 5 * n ≤ R.cells → slots + 2500 * n ≤ R.slots →
    (∀ (H : Heap) (locs : List Loc) (ls : Array Slot), q_B G ad N x_0 τ [] A s.heap H locs a (g_carsT τ n k x) → lv_has ls 4 [(1, .ref a), (0, .ref (ad 40 0))] → W p l e R s m args below meth c H locs (cells + 5 * n) (slots + 2500 * n) Q (F0 m 158 ls [])) → W p l e R s m args below meth c H locs cells slots Q (F0 m 105 ls []) := by
  have hY : x_clo x_0 := fun _ _ _ _ => trivial
  intro n
  induction n with
  | zero =>
    intro k hk it x H locs ls cells slots B hl hlen hc hs hq
    have hk2 : k = q_nn τ 0 := by omega
    obtain ⟨v, S, hva, hvv⟩ := B
    have h52 : τ 50 0 2 = nI (q_nn τ 0) := (S.1.choose_spec.2.1.2.2.2.2 0 (Or.inl (by decide))).1
    refine lv_aload_n C.1 C.2.1 dL_text_105 rfl (lv_at hl 1 rfl) ?_
    refine q_hasN C S (List.mem_singleton.mpr rfl) (Or.inl (by decide)) (by decide) tw_5_148 ⟨by have := hR.1; omega, by have := hR.2; omega⟩ (Nat.le_of_ble_eq_true rfl) hl.1 ⟨by omega, by omega⟩ dL_text_106 (fun H locs S => ?_)
    refine lv_if_eq (tgt := 158) C.1 C.2.1 dL_text_111 (by decide) (fun c_ => ?_) (fun c_ => absurd (by unfold it_z; rw [h52, hk2, if_pos rfl]) c_)
    exact hq H locs ls ⟨v, S.drop (fun y hy => absurd hy List.not_mem_nil), hva, hvv⟩ (lv_sub hl [0, 2] rfl)
  | succ n ih =>
    intro k hk it x H locs ls cells slots B hl hlen hc hs hq
    have hkn : k < q_nn τ 0 := by omega
    have hle : (g_carT τ k x).1 ≤ 240 := Nat.le_trans (g_carsT_le τ n (k + 1) _) hlen
    obtain ⟨hn0, hn1⟩ := hnum k hkn
    have hob := hlst k hkn
    have hle2 : x.1 + (tx_S 16).1 + (tx_N (q_d τ 41 k 0)).1 + (tx_C 32).1 + (tx_N (q_d τ 41 k 1)).1 + (tx_C 59).1 ≤ 240 := hle
    obtain ⟨v, S, hva, hvv⟩ := B
    have h52 : τ 50 0 2 = nI (q_nn τ 0) := (S.1.choose_spec.2.1.2.2.2.2 0 (Or.inl (by decide))).1
    have hcc : q_nn τ 0 < 2147483648 := by have := (S.1.choose_spec.2.1.2.2.2.2 0 (Or.inl (by decide))).2; omega
    refine lv_aload_n C.1 C.2.1 dL_text_105 rfl (lv_at hl 1 rfl) ?_
    refine q_hasN C S (List.mem_singleton.mpr rfl) (Or.inl (by decide)) (by decide) tw_5_148 ⟨by have := hR.1; omega, by have := hR.2; omega⟩ (Nat.le_of_ble_eq_true rfl) hl.1 ⟨by omega, by omega⟩ dL_text_106 (fun H locs S => ?_)
    refine lv_if_eq (tgt := 158) C.1 C.2.1 dL_text_111 (by decide) (fun c_ => absurd c_ (by unfold it_z; rw [h52, if_neg (fun z => by have := (nI_eq (by omega) hcc).mp z; omega)]; decide)) (fun c_ => ?_)
    refine lv_aload_n C.1 C.2.1 dL_text_114 rfl (lv_at hl 1 rfl) ?_
    refine q_next C S (Or.inl (by decide)) (by decide) hkn rfl tw_5_158 ⟨by have := hR.1; omega, by have := hR.2; omega⟩ (Nat.le_of_ble_eq_true rfl) hl.1 ⟨by omega, by omega⟩ dL_text_115 (fun H locs S => ?_)
    refine q_cast C S 41 k rfl hob "BusLiftsLaw$Car" (fun _ => Or.inl ⟨_, _, _, _, rfl, rfl⟩) tw_3_162 dL_text_120 ?_
    refine lv_astore_n (lv' := [(3, .ref (ad 41 k)), (1, .ref a), (2, .ref it), (0, .ref (ad 40 0))]) C.1 C.2.1 dL_text_123 rfl hl (by decide) rfl (fun ls hl => ?_)
    have B : q_B G ad N x_0 τ [(it, 0, k + 1, τ 50 0 0)] A s.heap H locs a x := ⟨v, S, hva, hvv⟩
    clear S
    refine lv_aload_n C.1 C.2.1 dL_text_124 rfl (lv_at hl 1 rfl) ?_
    refine q_appSr C hY B (tx := "car ") 16 (by decide) (List.mem_of_getElem? (i := 16) rfl) tw_4_174 (by omega) ⟨by have := hR.1; omega, by have := hR.2; omega⟩ (Nat.le_of_ble_eq_true rfl) hl.1 ⟨by omega, by omega⟩ dL_text_125 dL_text_127 (fun H locs B => ?_)
    refine lv_aload_n C.1 C.2.1 dL_text_130 rfl (lv_at hl 0 rfl) ?_
    refine q_getIN C B.choose_spec.1 41 k rfl hob cf_9 0 (by decide) (qi_41_0 G τ k) (List.mem_of_getElem? (i := 11) rfl) dL_text_131 ?_
    rw [hn0.1]
    refine q_appNr C hY B _ hn0.2 tw_5_20 (by simp only [tx_ap]; omega) ⟨by have := hR.1; omega, by have := hR.2; omega⟩ (Nat.le_of_ble_eq_true rfl) hl.1 ⟨by omega, by omega⟩ dL_text_134 (fun H locs B => ?_)
    refine lv_bipush (v := 32) C.1 C.2.1 dL_text_137 (by decide) ?_
    refine q_appCr C hY B 32 ch_32 tw_5_171 (by simp only [tx_ap]; omega) ⟨by have := hR.1; omega, by have := hR.2; omega⟩ (Nat.le_of_ble_eq_true rfl) hl.1 ⟨by omega, by omega⟩ dL_text_139 (fun H locs B => ?_)
    refine lv_aload_n C.1 C.2.1 dL_text_142 rfl (lv_at hl 0 rfl) ?_
    refine q_getIN C B.choose_spec.1 41 k rfl hob cf_9 1 (by decide) (qi_41_1 G τ k) (List.mem_of_getElem? (i := 12) rfl) dL_text_143 ?_
    rw [hn1.1]
    refine q_appNr C hY B _ hn1.2 tw_5_20 (by simp only [tx_ap]; omega) ⟨by have := hR.1; omega, by have := hR.2; omega⟩ (Nat.le_of_ble_eq_true rfl) hl.1 ⟨by omega, by omega⟩ dL_text_146 (fun H locs B => ?_)
    refine lv_bipush (v := 59) C.1 C.2.1 dL_text_149 (by decide) ?_
    refine q_appCr C hY B 59 ch_59 tw_5_171 (by simp only [tx_ap]; omega) ⟨by have := hR.1; omega, by have := hR.2; omega⟩ (Nat.le_of_ble_eq_true rfl) hl.1 ⟨by omega, by omega⟩ dL_text_151 (fun H locs B => ?_)
    refine lv_pop C.1 C.2.1 dL_text_154 rfl ?_
    refine lv_goto (tgt := 105) C.1 C.2.1 dL_text_155 (by decide) ?_
    have hq2 := ih (k + 1) (by omega) it _ H locs ls (cells + 5) (slots + 2500) B (lv_sub hl [1, 2, 3] rfl) hlen (by omega) (by omega) (fun H locs ls B hl => ?_)
    · exact hq2
    · have hq3 := hq H locs ls B hl
      rw [show cells + 5 * (n + 1) = cells + 5 + 5 * n by omega, show slots + 2500 * (n + 1) = slots + 2500 + 2500 * n by omega] at hq3
      exact hq3

set_option maxHeartbeats 4000000 in
set_option maxRecDepth 100000 in
theorem w_L_text_168 {p : Program} {l : Launch} {e : Env} {R : Room} {s : State} {m : MethodId} {args : Array Value} {below : List Frame} {meth : Method} {c : Code} {G : Gx} {ad : Ad} {N : Nn} {τ : Sg} {A : Nat → Prop} {Q : State → Prop} {a : Nat} (C : Cx p s m args meth c yL_text.cls cL_text 4 (some (.object "java/lang/String")) G) (hR : 9 ≤ R.frames ∧ 200 ≤ R.locals) (hlst : ∀ i, i < q_nn τ 1 → lp N τ 42 i) (hnum : ∀ i, i < q_nn τ 1 → q_num τ 42 i 2 ∧ q_num τ 42 i 0 ∧ q_num τ 42 i 1) : ∀ n k, k + n = q_nn τ 1 → ∀ (it : Nat) (x : Tx) (H : Heap) (locs : List Loc) (ls : Array Slot) (cells slots : Nat), q_B G ad N x_0 τ [(it, 1, k, τ 50 1 0)] A s.heap H locs a x → lv_has ls 4 [(1, .ref a), (2, .ref it), (0, .ref (ad 40 0))] → (g_calsT τ n k x).1 ≤ 240 → cells + 7 * n ≤ R.cells → slots + 3500 * n ≤ R.slots →
    (∀ (H : Heap) (locs : List Loc) (ls : Array Slot), q_B G ad N x_0 τ [] A s.heap H locs a (g_calsT τ n k x) → lv_has ls 4 [(1, .ref a), (0, .ref (ad 40 0))] → W p l e R s m args below meth c H locs (cells + 7 * n) (slots + 3500 * n) Q (F0 m 233 ls [])) → W p l e R s m args below meth c H locs cells slots Q (F0 m 168 ls []) := by
  have hY : x_clo x_0 := fun _ _ _ _ => trivial
  intro n
  induction n with
  | zero =>
    intro k hk it x H locs ls cells slots B hl hlen hc hs hq
    have hk2 : k = q_nn τ 1 := by omega
    obtain ⟨v, S, hva, hvv⟩ := B
    have h52 : τ 50 1 2 = nI (q_nn τ 1) := (S.1.choose_spec.2.1.2.2.2.2 1 (Or.inl (by decide))).1
    refine lv_aload_n C.1 C.2.1 dL_text_168 rfl (lv_at hl 1 rfl) ?_
    refine q_hasN C S (List.mem_singleton.mpr rfl) (Or.inl (by decide)) (by decide) tw_5_148 ⟨by have := hR.1; omega, by have := hR.2; omega⟩ (Nat.le_of_ble_eq_true rfl) hl.1 ⟨by omega, by omega⟩ dL_text_169 (fun H locs S => ?_)
    refine lv_if_eq (tgt := 233) C.1 C.2.1 dL_text_174 (by decide) (fun c_ => ?_) (fun c_ => absurd (by unfold it_z; rw [h52, hk2, if_pos rfl]) c_)
    exact hq H locs ls ⟨v, S.drop (fun y hy => absurd hy List.not_mem_nil), hva, hvv⟩ (lv_sub hl [0, 2] rfl)
  | succ n ih =>
    intro k hk it x H locs ls cells slots B hl hlen hc hs hq
    have hkn : k < q_nn τ 1 := by omega
    have hle : (g_calT τ k x).1 ≤ 240 := Nat.le_trans (g_calsT_le τ n (k + 1) _) hlen
    obtain ⟨hn2, hn0, hn1⟩ := hnum k hkn
    have hob := hlst k hkn
    have hle2 : x.1 + (tx_S 17).1 + (tx_N (q_d τ 42 k 2)).1 + (tx_C 32).1 + (tx_N (q_d τ 42 k 0)).1 + (tx_C 32).1 + (tx_N (q_d τ 42 k 1)).1 + (tx_C 59).1 ≤ 240 := hle
    obtain ⟨v, S, hva, hvv⟩ := B
    have h52 : τ 50 1 2 = nI (q_nn τ 1) := (S.1.choose_spec.2.1.2.2.2.2 1 (Or.inl (by decide))).1
    have hcc : q_nn τ 1 < 2147483648 := by have := (S.1.choose_spec.2.1.2.2.2.2 1 (Or.inl (by decide))).2; omega
    refine lv_aload_n C.1 C.2.1 dL_text_168 rfl (lv_at hl 1 rfl) ?_
    refine q_hasN C S (List.mem_singleton.mpr rfl) (Or.inl (by decide)) (by decide) tw_5_148 ⟨by have := hR.1; omega, by have := hR.2; omega⟩ (Nat.le_of_ble_eq_true rfl) hl.1 ⟨by omega, by omega⟩ dL_text_169 (fun H locs S => ?_)
    refine lv_if_eq (tgt := 233) C.1 C.2.1 dL_text_174 (by decide) (fun c_ => absurd c_ (by unfold it_z; rw [h52, if_neg (fun z => by have := (nI_eq (by omega) hcc).mp z; omega)]; decide)) (fun c_ => ?_)
    refine lv_aload_n C.1 C.2.1 dL_text_177 rfl (lv_at hl 1 rfl) ?_
    refine q_next C S (Or.inl (by decide)) (by decide) hkn rfl tw_5_158 ⟨by have := hR.1; omega, by have := hR.2; omega⟩ (Nat.le_of_ble_eq_true rfl) hl.1 ⟨by omega, by omega⟩ dL_text_178 (fun H locs S => ?_)
    refine q_cast C S 42 k rfl hob "BusLiftsLaw$Call" (fun _ => Or.inl ⟨_, _, _, _, rfl, rfl⟩) tw_4_19 dL_text_183 ?_
    refine lv_astore_n (lv' := [(3, .ref (ad 42 k)), (1, .ref a), (2, .ref it), (0, .ref (ad 40 0))]) C.1 C.2.1 dL_text_186 rfl hl (by decide) rfl (fun ls hl => ?_)
    have B : q_B G ad N x_0 τ [(it, 1, k + 1, τ 50 1 0)] A s.heap H locs a x := ⟨v, S, hva, hvv⟩
    clear S
    refine lv_aload_n C.1 C.2.1 dL_text_187 rfl (lv_at hl 1 rfl) ?_
    refine q_appSr C hY B (tx := "call ") 17 (by decide) (List.mem_of_getElem? (i := 17) rfl) tw_4_174 (by omega) ⟨by have := hR.1; omega, by have := hR.2; omega⟩ (Nat.le_of_ble_eq_true rfl) hl.1 ⟨by omega, by omega⟩ dL_text_188 dL_text_190 (fun H locs B => ?_)
    refine lv_aload_n C.1 C.2.1 dL_text_193 rfl (lv_at hl 0 rfl) ?_
    refine q_getIN C B.choose_spec.1 42 k rfl hob cf_8 2 (by decide) (qi_42_2 G τ k) (List.mem_of_getElem? (i := 29) rfl) dL_text_194 ?_
    rw [hn2.1]
    refine q_appNr C hY B _ hn2.2 tw_5_20 (by simp only [tx_ap]; omega) ⟨by have := hR.1; omega, by have := hR.2; omega⟩ (Nat.le_of_ble_eq_true rfl) hl.1 ⟨by omega, by omega⟩ dL_text_197 (fun H locs B => ?_)
    refine lv_bipush (v := 32) C.1 C.2.1 dL_text_200 (by decide) ?_
    refine q_appCr C hY B 32 ch_32 tw_5_171 (by simp only [tx_ap]; omega) ⟨by have := hR.1; omega, by have := hR.2; omega⟩ (Nat.le_of_ble_eq_true rfl) hl.1 ⟨by omega, by omega⟩ dL_text_202 (fun H locs B => ?_)
    refine lv_aload_n C.1 C.2.1 dL_text_205 rfl (lv_at hl 0 rfl) ?_
    refine q_getIN C B.choose_spec.1 42 k rfl hob cf_8 0 (by decide) (qi_42_0 G τ k) (List.mem_of_getElem? (i := 27) rfl) dL_text_206 ?_
    rw [hn0.1]
    refine q_appNr C hY B _ hn0.2 tw_5_20 (by simp only [tx_ap]; omega) ⟨by have := hR.1; omega, by have := hR.2; omega⟩ (Nat.le_of_ble_eq_true rfl) hl.1 ⟨by omega, by omega⟩ dL_text_209 (fun H locs B => ?_)
    refine lv_bipush (v := 32) C.1 C.2.1 dL_text_212 (by decide) ?_
    refine q_appCr C hY B 32 ch_32 tw_5_171 (by simp only [tx_ap]; omega) ⟨by have := hR.1; omega, by have := hR.2; omega⟩ (Nat.le_of_ble_eq_true rfl) hl.1 ⟨by omega, by omega⟩ dL_text_214 (fun H locs B => ?_)
    refine lv_aload_n C.1 C.2.1 dL_text_217 rfl (lv_at hl 0 rfl) ?_
    refine q_getIN C B.choose_spec.1 42 k rfl hob cf_8 1 (by decide) (qi_42_1 G τ k) (List.mem_of_getElem? (i := 28) rfl) dL_text_218 ?_
    rw [hn1.1]
    refine q_appNr C hY B _ hn1.2 tw_5_20 (by simp only [tx_ap]; omega) ⟨by have := hR.1; omega, by have := hR.2; omega⟩ (Nat.le_of_ble_eq_true rfl) hl.1 ⟨by omega, by omega⟩ dL_text_221 (fun H locs B => ?_)
    refine lv_bipush (v := 59) C.1 C.2.1 dL_text_224 (by decide) ?_
    refine q_appCr C hY B 59 ch_59 tw_5_171 (by simp only [tx_ap]; omega) ⟨by have := hR.1; omega, by have := hR.2; omega⟩ (Nat.le_of_ble_eq_true rfl) hl.1 ⟨by omega, by omega⟩ dL_text_226 (fun H locs B => ?_)
    refine lv_pop C.1 C.2.1 dL_text_229 rfl ?_
    refine lv_goto (tgt := 168) C.1 C.2.1 dL_text_230 (by decide) ?_
    have hq2 := ih (k + 1) (by omega) it _ H locs ls (cells + 7) (slots + 3500) B (lv_sub hl [1, 2, 3] rfl) hlen (by omega) (by omega) (fun H locs ls B hl => ?_)
    · exact hq2
    · have hq3 := hq H locs ls B hl
      rw [show cells + 7 * (n + 1) = cells + 7 + 7 * n by omega, show slots + 3500 * (n + 1) = slots + 3500 + 3500 * n by omega] at hq3
      exact hq3

