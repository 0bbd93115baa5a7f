/-! constant Strings: length and charAt -/
theorem dJ0_coder_7d493_0 : decode cJ0_coder_7d493 0 = .ok (.getstatic 38, 3) := by decide +kernel
theorem dJ0_coder_7d493_3 : decode cJ0_coder_7d493 3 = .ok (.ifCond .eq 10, 3) := by decide +kernel
theorem dJ0_coder_7d493_6 : decode cJ0_coder_7d493 6 = .ok (.aload_n 0, 1) := by decide +kernel
theorem dJ0_coder_7d493_7 : decode cJ0_coder_7d493 7 = .ok (.getfield 15, 3) := by decide +kernel
theorem dJ0_coder_7d493_10 : decode cJ0_coder_7d493 10 = .ok (.goto 4, 3) := by decide +kernel
theorem dJ0_coder_7d493_13 : decode cJ0_coder_7d493 13 = .ok (.iconst 1, 1) := by decide +kernel
theorem dJ0_coder_7d493_14 : decode cJ0_coder_7d493 14 = .ok (.ireturn, 1) := by decide +kernel
theorem dJ0_length_8abf5_0 : decode cJ0_length_8abf5 0 = .ok (.aload_n 0, 1) := by decide +kernel
theorem dJ0_length_8abf5_1 : decode cJ0_length_8abf5 1 = .ok (.getfield 9, 3) := by decide +kernel
theorem dJ0_length_8abf5_4 : decode cJ0_length_8abf5 4 = .ok (.arraylength, 1) := by decide +kernel
theorem dJ0_length_8abf5_5 : decode cJ0_length_8abf5 5 = .ok (.aload_n 0, 1) := by decide +kernel
theorem dJ0_length_8abf5_6 : decode cJ0_length_8abf5 6 = .ok (.invokevirtual 335, 3) := by decide +kernel
theorem dJ0_length_8abf5_9 : decode cJ0_length_8abf5 9 = .ok (.ishr, 1) := by decide +kernel
theorem dJ0_length_8abf5_10 : decode cJ0_length_8abf5 10 = .ok (.ireturn, 1) := by decide +kernel
theorem dJ0_isLatin1_aae02_0 : decode cJ0_isLatin1_aae02 0 = .ok (.getstatic 38, 3) := by decide +kernel
theorem dJ0_isLatin1_aae02_3 : decode cJ0_isLatin1_aae02 3 = .ok (.ifCond .eq 14, 3) := by decide +kernel
theorem dJ0_isLatin1_aae02_6 : decode cJ0_isLatin1_aae02 6 = .ok (.aload_n 0, 1) := by decide +kernel
theorem dJ0_isLatin1_aae02_7 : decode cJ0_isLatin1_aae02 7 = .ok (.getfield 15, 3) := by decide +kernel
theorem dJ0_isLatin1_aae02_10 : decode cJ0_isLatin1_aae02 10 = .ok (.ifCond .ne 7, 3) := by decide +kernel
theorem dJ0_isLatin1_aae02_13 : decode cJ0_isLatin1_aae02 13 = .ok (.iconst 1, 1) := by decide +kernel
theorem dJ0_isLatin1_aae02_14 : decode cJ0_isLatin1_aae02 14 = .ok (.goto 4, 3) := by decide +kernel
theorem dJ0_isLatin1_aae02_17 : decode cJ0_isLatin1_aae02 17 = .ok (.iconst 0, 1) := by decide +kernel
theorem dJ0_isLatin1_aae02_18 : decode cJ0_isLatin1_aae02 18 = .ok (.ireturn, 1) := by decide +kernel
theorem dJ3_checkIndex_8e157_0 : decode cJ3_checkIndex_8e157 0 = .ok (.iload_n 0, 1) := by decide +kernel
theorem dJ3_checkIndex_8e157_1 : decode cJ3_checkIndex_8e157 1 = .ok (.ifCond .lt 8, 3) := by decide +kernel
theorem dJ3_checkIndex_8e157_4 : decode cJ3_checkIndex_8e157 4 = .ok (.iload_n 0, 1) := by decide +kernel
theorem dJ3_checkIndex_8e157_5 : decode cJ3_checkIndex_8e157 5 = .ok (.iload_n 1, 1) := by decide +kernel
theorem dJ3_checkIndex_8e157_6 : decode cJ3_checkIndex_8e157 6 = .ok (.if_icmp .lt 10, 3) := by decide +kernel
theorem dJ3_checkIndex_8e157_9 : decode cJ3_checkIndex_8e157 9 = .ok (.aload_n 2, 1) := by decide +kernel
theorem dJ3_checkIndex_8e157_10 : decode cJ3_checkIndex_8e157 10 = .ok (.iload_n 0, 1) := by decide +kernel
theorem dJ3_checkIndex_8e157_11 : decode cJ3_checkIndex_8e157 11 = .ok (.iload_n 1, 1) := by decide +kernel
theorem dJ3_checkIndex_8e157_12 : decode cJ3_checkIndex_8e157 12 = .ok (.invokestatic 95, 3) := by decide +kernel
theorem dJ3_checkIndex_8e157_15 : decode cJ3_checkIndex_8e157 15 = .ok (.athrow, 1) := by decide +kernel
theorem dJ3_checkIndex_8e157_16 : decode cJ3_checkIndex_8e157 16 = .ok (.iload_n 0, 1) := by decide +kernel
theorem dJ3_checkIndex_8e157_17 : decode cJ3_checkIndex_8e157 17 = .ok (.ireturn, 1) := by decide +kernel
theorem dJ0_checkIndex_df160_0 : decode cJ0_checkIndex_df160 0 = .ok (.iload_n 0, 1) := by decide +kernel
theorem dJ0_checkIndex_df160_1 : decode cJ0_checkIndex_df160 1 = .ok (.iload_n 1, 1) := by decide +kernel
theorem dJ0_checkIndex_df160_2 : decode cJ0_checkIndex_df160 2 = .ok (.getstatic 1053, 3) := by decide +kernel
theorem dJ0_checkIndex_df160_5 : decode cJ0_checkIndex_df160 5 = .ok (.invokestatic 1059, 3) := by decide +kernel
theorem dJ0_checkIndex_df160_8 : decode cJ0_checkIndex_df160 8 = .ok (.pop, 1) := by decide +kernel
theorem dJ0_checkIndex_df160_9 : decode cJ0_checkIndex_df160 9 = .ok (.return_, 1) := by decide +kernel
theorem dJ1_charAt_3b067_0 : decode cJ1_charAt_3b067 0 = .ok (.iload_n 1, 1) := by decide +kernel
theorem dJ1_charAt_3b067_1 : decode cJ1_charAt_3b067 1 = .ok (.aload_n 0, 1) := by decide +kernel
theorem dJ1_charAt_3b067_2 : decode cJ1_charAt_3b067 2 = .ok (.arraylength, 1) := by decide +kernel
theorem dJ1_charAt_3b067_3 : decode cJ1_charAt_3b067 3 = .ok (.invokestatic 9, 3) := by decide +kernel
theorem dJ1_charAt_3b067_6 : decode cJ1_charAt_3b067 6 = .ok (.aload_n 0, 1) := by decide +kernel
theorem dJ1_charAt_3b067_7 : decode cJ1_charAt_3b067 7 = .ok (.iload_n 1, 1) := by decide +kernel
theorem dJ1_charAt_3b067_8 : decode cJ1_charAt_3b067 8 = .ok (.baload, 1) := by decide +kernel
theorem dJ1_charAt_3b067_9 : decode cJ1_charAt_3b067 9 = .ok (.sipush 255, 3) := by decide +kernel
theorem dJ1_charAt_3b067_12 : decode cJ1_charAt_3b067 12 = .ok (.iand, 1) := by decide +kernel
theorem dJ1_charAt_3b067_13 : decode cJ1_charAt_3b067 13 = .ok (.i2c, 1) := by decide +kernel
theorem dJ1_charAt_3b067_14 : decode cJ1_charAt_3b067 14 = .ok (.ireturn, 1) := by decide +kernel
theorem dJ0_charAt_5068e_0 : decode cJ0_charAt_5068e 0 = .ok (.aload_n 0, 1) := by decide +kernel
theorem dJ0_charAt_5068e_1 : decode cJ0_charAt_5068e 1 = .ok (.invokevirtual 492, 3) := by decide +kernel
theorem dJ0_charAt_5068e_4 : decode cJ0_charAt_5068e 4 = .ok (.ifCond .eq 12, 3) := by decide +kernel
theorem dJ0_charAt_5068e_7 : decode cJ0_charAt_5068e 7 = .ok (.aload_n 0, 1) := by decide +kernel
theorem dJ0_charAt_5068e_8 : decode cJ0_charAt_5068e 8 = .ok (.getfield 9, 3) := by decide +kernel
theorem dJ0_charAt_5068e_11 : decode cJ0_charAt_5068e 11 = .ok (.iload_n 1, 1) := by decide +kernel
theorem dJ0_charAt_5068e_12 : decode cJ0_charAt_5068e 12 = .ok (.invokestatic 495, 3) := by decide +kernel
theorem dJ0_charAt_5068e_15 : decode cJ0_charAt_5068e 15 = .ok (.ireturn, 1) := by decide +kernel
theorem dJ0_charAt_5068e_16 : decode cJ0_charAt_5068e 16 = .ok (.aload_n 0, 1) := by decide +kernel
theorem dJ0_charAt_5068e_17 : decode cJ0_charAt_5068e 17 = .ok (.getfield 9, 3) := by decide +kernel
theorem dJ0_charAt_5068e_20 : decode cJ0_charAt_5068e 20 = .ok (.iload_n 1, 1) := by decide +kernel
theorem dJ0_charAt_5068e_21 : decode cJ0_charAt_5068e 21 = .ok (.invokestatic 498, 3) := by decide +kernel
theorem dJ0_charAt_5068e_24 : decode cJ0_charAt_5068e 24 = .ok (.ireturn, 1) := by decide +kernel

def slen (w : Nat) : Int32 := Int32.ofNat (z_lens.getD w 0)
def jchr (w : Nat) (i : Int32) : Int32 := ((((z_byts.getD w []).getD i.toNatClampNeg 0) &&& 255).toUInt32 % 65536).toInt32
section ZST
variable {p : Program} {l : Launch} {e : Env} {R : Room} {s : State} {m : MethodId} {args : Array Value} {below : List Frame} {meth : Method} {c : Code} {H : Heap} {locs : List Loc} {cells slots : Nat} {Q : State → Prop}
variable {cc : ByteArray} {pc : Nat} {ls : Array Slot} {rest : List Value} {own : String} {nL : Nat} {ret : Option FieldType} {G : Gx} {b : Nat} {ad : Ad} {σ : Sg} {A : Nat → Prop} {H0 : Heap}
theorem z_old (S : z_S b G ad σ A H0 H locs) {a : Nat} {x : Cell} (h : G.2.2.1[a]? = some x) : H[a]? = some x := by
  rw [S.1.2.2.2.2 a (Array.getElem?_eq_some_iff.mp h).1]; exact h
theorem z_sgetZ (C : Cx p s m args meth c own cc nL ret G) (S : z_S b G ad σ A H0 H locs) {Cn n d : String} {v : Value} (hZ : va_Z Cn n d v (z_B G) s G.2.2.1) {index : Nat} (hl : Cond.fieldLink own index Cn n d ∈ TT) (hdg : decode cc pc = .ok (.getstatic index, 3))
    (kk : W p l e R s m args below meth c H locs cells slots Q (F0 m (pc + 3) ls (v :: rest))) : W p l e R s m args below meth c H locs cells slots Q (F0 m pc ls rest) := by
  obtain ⟨x1, x2, x3, x4, x5, x6, x7, x8⟩ := C
  obtain ⟨cf, kf, fi, f, a, cell, h1, h2, h3, h4, h5, h6, h7, h8⟩ := hZ
  exact W.gets x1 x2 x4 (x5 _ hl) h1 h2 h3 h4 (z_old S h5) (fun e => by rw [e] at h6; cases h6) h7 rfl hdg kk
theorem z_sgetf (C : Cx p s m args meth c own cc nL ret G) (S : z_S b G ad σ A H0 H locs) {o n d : String} {v : Value} {a : Nat} (hE : va_OF o n d v a (z_B G) s G.2.2.1) {index : Nat} (hl : Cond.fieldLink own index o n d ∈ TT) (hdg : decode cc pc = .ok (.getfield index, 3))
    (kk : W p l e R s m args below meth c H locs cells slots Q (F0 m (pc + 3) ls (v :: rest))) : W p l e R s m args below meth c H locs cells slots Q (F0 m pc ls (.ref a :: rest)) := by
  obtain ⟨x1, x2, x3, x4, x5, x6, x7, x8⟩ := C
  obtain ⟨cf, k, fi, f, cell, h1, h2, h3, h4, h5, h6⟩ := hE
  exact W.getf x1 x2 x4 (x5 _ hl) h1 h2 (z_old S h3) h4 (v := v) h5 rfl rfl hdg kk
theorem z_salen (C : Cx p s m args meth c own cc nL ret G) (S : z_S b G ad σ A H0 H locs) {ty : FieldType} {t N : Nat} {f : Nat → Value} (hT : va_T ty t N f (z_B G) s G.2.2.1) (hdg : decode cc pc = .ok (.arraylength, 1))
    (kk : W p l e R s m args below meth c H locs cells slots Q (F0 m (pc + 1) ls (.int (Int32.ofNat N) :: rest))) : W p l e R s m args below meth c H locs cells slots Q (F0 m pc ls (.ref t :: rest)) := by
  obtain ⟨x1, x2, x3, x4, x5, x6, x7, x8⟩ := C
  obtain ⟨cell, h1, h2, h3, h4, h5, h6, h7⟩ := hT
  exact W.alen x1 x2 (z_old S h1) h2 h5 rfl rfl hdg kk
theorem z_sbald (C : Cx p s m args meth c own cc nL ret G) (S : z_S b G ad σ A H0 H locs) {t N : Nat} {f : Nat → Value} (hT : va_T .byte t N f (z_B G) s G.2.2.1) {i : Int32} (hin : ¬ (i < 0 ∨ N ≤ i.toNatClampNeg)) {v : Value} (hv : f i.toNatClampNeg = v) (hdg : decode cc pc = .ok (.baload, 1))
    (kk : W p l e R s m args below meth c H locs cells slots Q (F0 m (pc + 1) ls (v :: rest))) : W p l e R s m args below meth c H locs cells slots Q (F0 m pc ls (.int i :: .ref t :: rest)) := by
  obtain ⟨x1, x2, x3, x4, x5, x6, x7, x8⟩ := C
  obtain ⟨cell, h1, h2, h3, h4, h5, h6, h7⟩ := hT
  have hlt : i.toNatClampNeg < N := Nat.not_le.mp fun q => hin (Or.inr q)
  exact W.bald x1 x2 (z_old S h1) h2 h3 (fun q => q.elim (fun q => hin (Or.inl q)) (fun q => by omega)) (by rw [h6 _ hlt, hv]) rfl rfl hdg kk
theorem z_sstr (C : Cx p s m args meth c own cc nL ret G) (w : Nat) (hw : w < 18) : va_O "java/lang/String" (G.2.2.2 (10 + w)) (z_B G) s G.2.2.1 ∧ va_OF "java/lang/String" "coder" "B" (.int 0) (G.2.2.2 (10 + w)) (z_B G) s G.2.2.1 ∧ va_OF "java/lang/String" "value" "[B" (.ref (G.2.2.2 (40 + w))) (G.2.2.2 (10 + w)) (z_B G) s G.2.2.1 ∧ va_T .byte (G.2.2.2 (40 + w)) (z_lens.getD w 0) (fun j => .int ((z_byts.getD w []).getD j 0)) (z_B G) s G.2.2.1 :=
  C.2.2.2.2.2.1.2.2.1.1 w hw
theorem z_smove (C : Cx p s m args meth c own cc nL ret G) (S : z_S b G ad σ A H0 H locs) (w : Nat) (hw : w < 18) : ∃ cell : Cell, H[G.2.2.2 (10 + w)]? = some cell ∧ cell.vm.isStatics = false ∧ s.vm.findClass "java/lang/String" = some cell.cls := by
  obtain ⟨⟨cell, h1, h2, h3, -⟩, -⟩ := z_sstr C w hw
  exact ⟨cell, z_old S h1, h2, h3⟩
theorem z_sldc (C : Cx p s m args meth c own cc nL ret G) {is sa : Nat} {tx : String} (hq : (own, is, tx, sa) ∈ z_txts) (hdg : decode cc pc = .ok (.ldc is, 2))
    (kk : W p l e R s m args below meth c H locs cells slots Q (F0 m (pc + 2) ls (.ref (G.2.2.2 sa) :: rest))) : W p l e R s m args below meth c H locs cells slots Q (F0 m pc ls rest) := by
  obtain ⟨x1, x2, x3, x4, x5, x6, x7, x8⟩ := C
  exact va_ldcS x1 x2 x4 (x6.2.2.2.1 _ hq) hdg kk
theorem z_callSt {y : MethodName} {bytes : ByteArray} {maxL n fr lo index a : Nat} {ret2 : Option FieldType} {r : Int32} {σ' : Sg} {st : List Value} (C : Cx p s m args meth c own cc nL ret G) (S : z_S b G ad σ A s.heap H locs) (hrec : ∃ cell : Cell, H[a]? = some cell ∧ cell.vm.isStatics = false ∧ s.vm.findClass y.cls = some cell.cls) (As : List Value)
    (hM : z_MI l y bytes maxL ret2 fr lo b G ad σ H.size (.ref a :: As) r σ') (kv : KV y bytes maxL ret2 n) (hl : Cond.methodLink own index y ∈ TT) (hR : fr + 1 ≤ R.frames ∧ 8 + (maxL + 11) + lo ≤ R.locals) (hn : As.length = n) (hst : st = As.reverse ++ .ref a :: rest) (hW8 : (rest.map fun v => v.category).sum ≤ 8) (hls : ls.size = nL) (hcs : cells ≤ R.cells ∧ slots ≤ R.slots)
    (hdg : decode cc pc = .ok (.invokevirtual index, 3))
    (kk : ∀ (H1 : Heap) (locs1 : List Loc), z_S b G ad σ' A s.heap H1 locs1 → W p l e R s m args below meth c H1 locs1 cells slots Q (F0 m (pc + 3) ls (.int r :: rest))) : W p l e R s m args below meth c H locs cells slots Q (F0 m pc ls st) := by
  have C2 := C
  obtain ⟨x1, x2, x3, x4, x5, x6, x7, x8⟩ := C
  exact va_calli (va_runV (As := As) (rest := rest) ⟨x1, x2, x3, x4, x5⟩ hM (z_cwV C2 kv hl hR) ⟨z_blind _ b G ad σ H.size, hrec, fun U hU hW => ⟨rfl, by rw [hU], by rw [hU]; exact S.1, x6.warm hW⟩⟩ rfl hn hls hst (lv_room hW8) hdg hcs) S.2.1 (fun q _ h => z_Ain S q h) (z_Ain S)
    (fun r1 u t H1 locs1 ht hvm hr hB hz1 hk1 hS1 => by subst hr; exact kk H1 locs1 (z_after S (by rw [← ht]; exact hB) hS1))
theorem z_nret {r v : Int32} {ty : FieldType} {σ' : Sg} (C : Cx p s m args meth c own cc nL (some ty) G) (S : z_S b G ad σ (z_A b ad s.heap.size) s.heap H locs) (hn : narrow ty (.int v) = .int v) (hf : (some (v, σ) : Option (Int32 × Sg)) = some (r, σ')) (hdg : decode cc pc = .ok (.ireturn, 1)) :
    W p l e R s m args below meth c H locs cells slots (MQ below (va_Qi (S := Unit) (fun r1 _ => r1 = r) (fun _ t => z_W b G ad σ' t.heap) (z_A b ad s.heap.size)) args s cells slots (z_A b ad s.heap.size)) (F0 m pc ls [.int v]) := by
  cases hf
  obtain ⟨x1, x2, x3, x4, x5, x6, x7, x8⟩ := C
  exact W.zret x1 x2 x8 hn (fun t ht hW => ⟨⟨_, (), rfl, rfl, by show z_W b G ad σ t.heap; rw [ht]; exact S.1⟩, S.2.1.F ht⟩) S.2.1.2.2 hdg x7
end ZST

theorem kv_J0_coder_7d493 : KV yJ0_coder_7d493 cJ0_coder_7d493 1 (Option.some FieldType.byte) 0 := ⟨tw_2_226, tw_2_224, tw_2_225, tw_1_21, by decide, by decide, by decide +kernel⟩
theorem kv_J0_length_8abf5 : KV yJ0_length_8abf5 cJ0_length_8abf5 1 (Option.some FieldType.int) 0 := ⟨tw_2_222, tw_2_220, tw_2_221, tw_1_21, by decide, by decide, by decide +kernel⟩
theorem kv_J0_isLatin1_aae02 : KV yJ0_isLatin1_aae02 cJ0_isLatin1_aae02 1 (Option.some FieldType.boolean) 0 := ⟨tw_2_236, tw_2_234, tw_2_235, tw_1_21, by decide, by decide, by decide +kernel⟩
theorem kv_J3_checkIndex_8e157 : KS yJ3_checkIndex_8e157 cJ3_checkIndex_8e157 3 (Option.some FieldType.int) 3 := ⟨tw_3_7, tw_3_6, tw_1_23, by decide, by decide, by decide +kernel⟩
theorem kv_J0_checkIndex_df160 : KS yJ0_checkIndex_df160 cJ0_checkIndex_df160 2 none 2 := ⟨tw_3_2, tw_3_1, tw_1_21, by decide, by decide, by decide +kernel⟩
theorem kv_J1_charAt_3b067 : KS yJ1_charAt_3b067 cJ1_charAt_3b067 2 (Option.some FieldType.char) 2 := ⟨tw_2_239, tw_2_238, tw_1_24, by decide, by decide, by decide +kernel⟩
theorem kv_J0_charAt_5068e : KV yJ0_charAt_5068e cJ0_charAt_5068e 2 (Option.some FieldType.char) 1 := ⟨tw_2_232, tw_2_230, tw_2_231, tw_1_21, by decide, by decide, by decide +kernel⟩
set_option maxHeartbeats 4000000 in
set_option maxRecDepth 100000 in
theorem m_J0_coder_7d493 (l : Launch) (b : Nat) (G : Gx) (ad : Ad) (σ : Sg) (w : Nat) (hw : w < 18) (sz : Nat) : z_MI l yJ0_coder_7d493 cJ0_coder_7d493 1 (Option.some FieldType.byte) 0 0 b G ad σ sz [.ref (G.2.2.2 (10 + w))] 0 σ := by
  refine z_begin (by decide +kernel) (Nat.le_of_ble_eq_true rfl) [(0, .ref (G.2.2.2 (10 + w)))] rfl (fun p e s m args below meth c ls C hz S hl => ?_)
  subst hz
  refine z_sgetZ C S C.2.2.2.2.2.1.2.2.2.2.2.2.2.1 tw_2_227 dJ0_coder_7d493_0 ?_
  refine lv_if_eq (tgt := 13) C.1 C.2.1 dJ0_coder_7d493_3 (by decide) (fun c_3 => absurd c_3 (by decide)) (fun c_3 => ?_)
  refine lv_aload_n C.1 C.2.1 dJ0_coder_7d493_6 rfl (lv_at hl 0 rfl) ?_
  refine z_sgetf C S (z_sstr C w hw).2.1 tw_5_98 dJ0_coder_7d493_7 ?_
  refine lv_goto (tgt := 14) C.1 C.2.1 dJ0_coder_7d493_10 (by decide) ?_
  exact z_nret C S rfl rfl dJ0_coder_7d493_14
theorem sc_shr0' (w : Nat) (hw : w < 18) : Int32.ofNat (z_lens.getD w 0) >>> ((0 : Int32) &&& 31) = slen w := by
  have key : ∀ w, w < 18 → Int32.ofNat (z_lens.getD w 0) >>> ((0 : Int32) &&& 31) = slen w := by decide +kernel
  exact key w hw
set_option maxHeartbeats 4000000 in
set_option maxRecDepth 100000 in
theorem m_J0_length_8abf5 (l : Launch) (b : Nat) (G : Gx) (ad : Ad) (σ : Sg) (w : Nat) (hw : w < 18) (sz : Nat) : z_MI l yJ0_length_8abf5 cJ0_length_8abf5 1 (Option.some FieldType.int) 1 20 b G ad σ sz [.ref (G.2.2.2 (10 + w))] (slen w) σ := by
  refine z_begin (by decide +kernel) (Nat.le_of_ble_eq_true rfl) [(0, .ref (G.2.2.2 (10 + w)))] rfl (fun p e s m args below meth c ls C hz S hl => ?_)
  subst hz
  refine lv_aload_n C.1 C.2.1 dJ0_length_8abf5_0 rfl (lv_at hl 0 rfl) ?_
  refine z_sgetf C S (z_sstr C w hw).2.2.1 tw_5_97 dJ0_length_8abf5_1 ?_
  refine z_salen C S (z_sstr C w hw).2.2.2 dJ0_length_8abf5_4 ?_
  refine lv_aload_n C.1 C.2.1 dJ0_length_8abf5_5 rfl (lv_at hl 0 rfl) ?_
  refine z_callSt C S (z_smove C S w hw) [] (m_J0_coder_7d493 l b G ad σ w hw _) kv_J0_coder_7d493 tw_2_223 ⟨(Nat.le_of_ble_eq_true rfl), (Nat.le_of_ble_eq_true rfl)⟩ rfl rfl (Nat.le_of_ble_eq_true rfl) hl.1 ⟨(Nat.le_of_ble_eq_true rfl), (Nat.le_of_ble_eq_true rfl)⟩ dJ0_length_8abf5_6 (fun H locs S => ?_)
  refine lv_ishr C.1 C.2.1 dJ0_length_8abf5_9 ?_
  have e1 : Int32.ofNat (z_lens.getD w 0) >>> ((0 : Int32) &&& 31) = slen w := sc_shr0' w hw
  rw [e1]
  exact z_iret C S rfl dJ0_length_8abf5_10
set_option maxHeartbeats 4000000 in
set_option maxRecDepth 100000 in
theorem m_J0_isLatin1_aae02 (l : Launch) (b : Nat) (G : Gx) (ad : Ad) (σ : Sg) (w : Nat) (hw : w < 18) (sz : Nat) : z_MI l yJ0_isLatin1_aae02 cJ0_isLatin1_aae02 1 (Option.some FieldType.boolean) 0 0 b G ad σ sz [.ref (G.2.2.2 (10 + w))] 1 σ := by
  refine z_begin (by decide +kernel) (Nat.le_of_ble_eq_true rfl) [(0, .ref (G.2.2.2 (10 + w)))] rfl (fun p e s m args below meth c ls C hz S hl => ?_)
  subst hz
  refine z_sgetZ C S C.2.2.2.2.2.1.2.2.2.2.2.2.2.1 tw_2_227 dJ0_isLatin1_aae02_0 ?_
  refine lv_if_eq (tgt := 17) C.1 C.2.1 dJ0_isLatin1_aae02_3 (by decide) (fun c_3 => absurd c_3 (by decide)) (fun c_3 => ?_)
  refine lv_aload_n C.1 C.2.1 dJ0_isLatin1_aae02_6 rfl (lv_at hl 0 rfl) ?_
  refine z_sgetf C S (z_sstr C w hw).2.1 tw_5_98 dJ0_isLatin1_aae02_7 ?_
  refine lv_if_ne (tgt := 17) C.1 C.2.1 dJ0_isLatin1_aae02_10 (by decide) (fun c_3 => absurd rfl c_3) (fun c_3 => ?_)
  refine lv_iconst (v := 1) C.1 C.2.1 dJ0_isLatin1_aae02_13 (by decide) ?_
  refine lv_goto (tgt := 18) C.1 C.2.1 dJ0_isLatin1_aae02_14 (by decide) ?_
  exact z_nret C S rfl rfl dJ0_isLatin1_aae02_18
set_option maxHeartbeats 4000000 in
set_option maxRecDepth 100000 in
theorem m_J3_checkIndex_8e157_r (l : Launch) (b : Nat) (G : Gx) (ad : Ad) (σ : Sg) (i n : Int32) (t9 : Nat) (h0 : ¬ i < 0) (h1 : ¬ n ≤ i) (sz : Nat) : z_MI l yJ3_checkIndex_8e157 cJ3_checkIndex_8e157 3 (Option.some FieldType.int) 0 0 b G ad σ sz [.int i, .int n, .ref t9] i σ := by
  refine z_begin (by decide +kernel) (Nat.le_of_ble_eq_true rfl) [(0, .int i), (1, .int n), (2, .ref t9)] rfl (fun p e s m args below meth c ls C hz S hl => ?_)
  subst hz
  refine lv_iload_n C.1 C.2.1 dJ3_checkIndex_8e157_0 rfl (lv_at hl 0 rfl) ?_
  refine lv_if_lt (tgt := 9) C.1 C.2.1 dJ3_checkIndex_8e157_1 (by decide) (fun c_3 => absurd c_3 h0) (fun c_3 => ?_)
  refine lv_iload_n C.1 C.2.1 dJ3_checkIndex_8e157_4 rfl (lv_at hl 0 rfl) ?_
  refine lv_iload_n C.1 C.2.1 dJ3_checkIndex_8e157_5 rfl (lv_at hl 1 rfl) ?_
  refine lv_icmp_lt (tgt := 16) C.1 C.2.1 dJ3_checkIndex_8e157_6 (by decide) (fun c_6 => ?_) (fun c_6 => absurd (Int32.not_lt.mp c_6) h1)
  refine lv_iload_n C.1 C.2.1 dJ3_checkIndex_8e157_16 rfl (lv_at hl 0 rfl) ?_
  exact z_iret C S rfl dJ3_checkIndex_8e157_17
set_option maxHeartbeats 4000000 in
set_option maxRecDepth 100000 in
theorem m_J3_checkIndex_8e157_n (l : Launch) (b : Nat) (G : Gx) (ad : Ad) (σ : Sg) (i n : Int32) (h0 : ¬ i < 0) (h1 : ¬ n ≤ i) (sz : Nat) : z_MI l yJ3_checkIndex_8e157 cJ3_checkIndex_8e157 3 (Option.some FieldType.int) 0 0 b G ad σ sz [.int i, .int n, .null] i σ := by
  refine z_begin (by decide +kernel) (Nat.le_of_ble_eq_true rfl) [(0, .int i), (1, .int n), (2, .null)] rfl (fun p e s m args below meth c ls C hz S hl => ?_)
  subst hz
  refine lv_iload_n C.1 C.2.1 dJ3_checkIndex_8e157_0 rfl (lv_at hl 0 rfl) ?_
  refine lv_if_lt (tgt := 9) C.1 C.2.1 dJ3_checkIndex_8e157_1 (by decide) (fun c_3 => absurd c_3 h0) (fun c_3 => ?_)
  refine lv_iload_n C.1 C.2.1 dJ3_checkIndex_8e157_4 rfl (lv_at hl 0 rfl) ?_
  refine lv_iload_n C.1 C.2.1 dJ3_checkIndex_8e157_5 rfl (lv_at hl 1 rfl) ?_
  refine lv_icmp_lt (tgt := 16) C.1 C.2.1 dJ3_checkIndex_8e157_6 (by decide) (fun c_6 => ?_) (fun c_6 => absurd (Int32.not_lt.mp c_6) h1)
  refine lv_iload_n C.1 C.2.1 dJ3_checkIndex_8e157_16 rfl (lv_at hl 0 rfl) ?_
  exact z_iret C S rfl dJ3_checkIndex_8e157_17
set_option maxHeartbeats 4000000 in
set_option maxRecDepth 100000 in
theorem m_J0_checkIndex_df160 (l : Launch) (b : Nat) (G : Gx) (ad : Ad) (σ : Sg) (i n : Int32) (h0 : ¬ i < 0) (h1 : ¬ n ≤ i) (sz : Nat) : z_MV l yJ0_checkIndex_df160 cJ0_checkIndex_df160 2 none 1 22 b G ad σ sz [.int i, .int n] σ := by
  refine z_begin (by decide +kernel) (Nat.le_of_ble_eq_true rfl) [(0, .int i), (1, .int n)] rfl (fun p e s m args below meth c ls C hz S hl => ?_)
  subst hz
  refine lv_iload_n C.1 C.2.1 dJ0_checkIndex_df160_0 rfl (lv_at hl 0 rfl) ?_
  refine lv_iload_n C.1 C.2.1 dJ0_checkIndex_df160_1 rfl (lv_at hl 1 rfl) ?_
  rcases C.2.2.2.2.2.1.2.2.2.2.2.2.2.2.1 with hZ | ⟨t9, hZ⟩
  · refine z_sgetZ C S hZ tw_3_3 dJ0_checkIndex_df160_2 ?_
    refine z_callSI C S [.int i, .int n, .null] (m_J3_checkIndex_8e157_n l b G ad σ i n h0 h1 _) kv_J3_checkIndex_8e157 tw_3_5 ⟨(Nat.le_of_ble_eq_true rfl), (Nat.le_of_ble_eq_true rfl)⟩ rfl rfl (Nat.le_of_ble_eq_true rfl) hl.1 ⟨(Nat.le_of_ble_eq_true rfl), (Nat.le_of_ble_eq_true rfl)⟩ dJ0_checkIndex_df160_5 (fun H locs S => ?_)
    refine lv_pop C.1 C.2.1 dJ0_checkIndex_df160_8 rfl ?_
    exact z_vret C S rfl dJ0_checkIndex_df160_9
  · refine z_sgetZ C S hZ tw_3_3 dJ0_checkIndex_df160_2 ?_
    refine z_callSI C S [.int i, .int n, .ref t9] (m_J3_checkIndex_8e157_r l b G ad σ i n t9 h0 h1 _) kv_J3_checkIndex_8e157 tw_3_5 ⟨(Nat.le_of_ble_eq_true rfl), (Nat.le_of_ble_eq_true rfl)⟩ rfl rfl (Nat.le_of_ble_eq_true rfl) hl.1 ⟨(Nat.le_of_ble_eq_true rfl), (Nat.le_of_ble_eq_true rfl)⟩ dJ0_checkIndex_df160_5 (fun H locs S => ?_)
    refine lv_pop C.1 C.2.1 dJ0_checkIndex_df160_8 rfl ?_
    exact z_vret C S rfl dJ0_checkIndex_df160_9
theorem slen_le {w : Nat} (hw : w < 18) {i : Int32} (h : ¬ (i < 0 ∨ z_lens.getD w 0 ≤ i.toNatClampNeg)) : ¬ Int32.ofNat (z_lens.getD w 0) ≤ i := by
  have key : ∀ w, w < 18 → z_lens.getD w 0 < 2 ^ 31 := by decide +kernel
  have h2 : i.toNatClampNeg < z_lens.getD w 0 := Nat.not_le.mp fun q => h (Or.inr q)
  obtain ⟨j, hj, rfl⟩ := nI_of (fun q => h (Or.inl q))
  rw [nI_clamp hj] at h2
  exact nI_ge h2 (key w hw)
set_option maxHeartbeats 4000000 in
set_option maxRecDepth 100000 in
theorem m_J1_charAt_3b067 (l : Launch) (b : Nat) (G : Gx) (ad : Ad) (σ : Sg) (w : Nat) (i : Int32) (hw : w < 18) (hi : ¬ (i < 0 ∨ z_lens.getD w 0 ≤ i.toNatClampNeg)) (sz : Nat) : z_MI l yJ1_charAt_3b067 cJ1_charAt_3b067 2 (Option.some FieldType.char) 2 43 b G ad σ sz [.ref (G.2.2.2 (40 + w)), .int i] (jchr w i) σ := by
  refine z_begin (by decide +kernel) (Nat.le_of_ble_eq_true rfl) [(0, .ref (G.2.2.2 (40 + w))), (1, .int i)] rfl (fun p e s m args below meth c ls C hz S hl => ?_)
  subst hz
  refine lv_iload_n C.1 C.2.1 dJ1_charAt_3b067_0 rfl (lv_at hl 1 rfl) ?_
  refine lv_aload_n C.1 C.2.1 dJ1_charAt_3b067_1 rfl (lv_at hl 0 rfl) ?_
  refine z_salen C S (z_sstr C w hw).2.2.2 dJ1_charAt_3b067_2 ?_
  refine z_callSV C S [.int i, .int (Int32.ofNat (z_lens.getD w 0))] (m_J0_checkIndex_df160 l b G ad σ i _ (fun q => hi (Or.inl q)) (slen_le hw hi) _) kv_J0_checkIndex_df160 tw_3_0 ⟨(Nat.le_of_ble_eq_true rfl), (Nat.le_of_ble_eq_true rfl)⟩ rfl rfl (Nat.le_of_ble_eq_true rfl) hl.1 ⟨(Nat.le_of_ble_eq_true rfl), (Nat.le_of_ble_eq_true rfl)⟩ dJ1_charAt_3b067_3 (fun H locs S => ?_)
  refine lv_aload_n C.1 C.2.1 dJ1_charAt_3b067_6 rfl (lv_at hl 0 rfl) ?_
  refine lv_iload_n C.1 C.2.1 dJ1_charAt_3b067_7 rfl (lv_at hl 1 rfl) ?_
  refine z_sbald C S (z_sstr C w hw).2.2.2 hi rfl dJ1_charAt_3b067_8 ?_
  refine lv_sipush (v := 255) C.1 C.2.1 dJ1_charAt_3b067_9 (by decide) ?_
  refine lv_iand C.1 C.2.1 dJ1_charAt_3b067_12 ?_
  refine lv_i2c (v := jchr w i) C.1 C.2.1 dJ1_charAt_3b067_13 rfl ?_
  exact z_nret C S (pk_nc _) rfl dJ1_charAt_3b067_14
set_option maxHeartbeats 4000000 in
set_option maxRecDepth 100000 in
theorem m_J0_charAt_5068e (l : Launch) (b : Nat) (G : Gx) (ad : Ad) (σ : Sg) (w : Nat) (i : Int32) (hw : w < 18) (hi : ¬ (i < 0 ∨ z_lens.getD w 0 ≤ i.toNatClampNeg)) (sz : Nat) : z_MI l yJ0_charAt_5068e cJ0_charAt_5068e 2 (Option.some FieldType.char) 3 64 b G ad σ sz [.ref (G.2.2.2 (10 + w)), .int i] (jchr w i) σ := by
  refine z_begin (by decide +kernel) (Nat.le_of_ble_eq_true rfl) [(0, .ref (G.2.2.2 (10 + w))), (1, .int i)] rfl (fun p e s m args below meth c ls C hz S hl => ?_)
  subst hz
  refine lv_aload_n C.1 C.2.1 dJ0_charAt_5068e_0 rfl (lv_at hl 0 rfl) ?_
  refine z_callSt C S (z_smove C S w hw) [] (m_J0_isLatin1_aae02 l b G ad σ w hw _) kv_J0_isLatin1_aae02 tw_2_233 ⟨(Nat.le_of_ble_eq_true rfl), (Nat.le_of_ble_eq_true rfl)⟩ rfl rfl (Nat.le_of_ble_eq_true rfl) hl.1 ⟨(Nat.le_of_ble_eq_true rfl), (Nat.le_of_ble_eq_true rfl)⟩ dJ0_charAt_5068e_1 (fun H locs S => ?_)
  refine lv_if_eq (tgt := 16) C.1 C.2.1 dJ0_charAt_5068e_4 (by decide) (fun c_3 => absurd c_3 (by decide)) (fun c_3 => ?_)
  refine lv_aload_n C.1 C.2.1 dJ0_charAt_5068e_7 rfl (lv_at hl 0 rfl) ?_
  refine z_sgetf C S (z_sstr C w hw).2.2.1 tw_5_97 dJ0_charAt_5068e_8 ?_
  refine lv_iload_n C.1 C.2.1 dJ0_charAt_5068e_11 rfl (lv_at hl 1 rfl) ?_
  refine z_callSI C S [.ref (G.2.2.2 (40 + w)), .int i] (m_J1_charAt_3b067 l b G ad σ w i hw hi _) kv_J1_charAt_3b067 tw_2_237 ⟨(Nat.le_of_ble_eq_true rfl), (Nat.le_of_ble_eq_true rfl)⟩ rfl rfl (Nat.le_of_ble_eq_true rfl) hl.1 ⟨(Nat.le_of_ble_eq_true rfl), (Nat.le_of_ble_eq_true rfl)⟩ dJ0_charAt_5068e_12 (fun H locs S => ?_)
  exact z_nret C S (pk_nc _) rfl dJ0_charAt_5068e_15
