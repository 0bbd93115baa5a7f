/-! the law is made: a cell of the script, a new car, the constructor -/
theorem dL_cell_0 : decode cL_cell 0 = .ok (.iload_n 1, 1) := by decide +kernel
theorem dL_cell_1 : decode cL_cell 1 = .ok (.aload_n 0, 1) := by decide +kernel
theorem dL_cell_2 : decode cL_cell 2 = .ok (.arraylength, 1) := by decide +kernel
theorem dL_cell_3 : decode cL_cell 3 = .ok (.if_icmp .ge 9, 3) := by decide +kernel
theorem dL_cell_6 : decode cL_cell 6 = .ok (.aload_n 0, 1) := by decide +kernel
theorem dL_cell_7 : decode cL_cell 7 = .ok (.iload_n 1, 1) := by decide +kernel
theorem dL_cell_8 : decode cL_cell 8 = .ok (.iaload, 1) := by decide +kernel
theorem dL_cell_9 : decode cL_cell 9 = .ok (.goto 10, 3) := by decide +kernel
theorem dL_cell_12 : decode cL_cell 12 = .ok (.bipush 113, 2) := by decide +kernel
theorem dL_cell_14 : decode cL_cell 14 = .ok (.iload_n 1, 1) := by decide +kernel
theorem dL_cell_15 : decode cL_cell 15 = .ok (.imul, 1) := by decide +kernel
theorem dL_cell_16 : decode cL_cell 16 = .ok (.bipush 67, 2) := by decide +kernel
theorem dL_cell_18 : decode cL_cell 18 = .ok (.iadd, 1) := by decide +kernel
theorem dL_cell_19 : decode cL_cell 19 = .ok (.ireturn, 1) := by decide +kernel
theorem kv_L_cell : KS yL_cell cL_cell 2 (Option.some FieldType.int) 2 := ⟨tw_3_106, tw_3_105, tw_1_0, by decide, by decide, by decide +kernel⟩
theorem dL_init_0 : decode cL_init 0 = .ok (.aload_n 0, 1) := by decide +kernel
theorem dL_init_1 : decode cL_init 1 = .ok (.invokespecial 21, 3) := by decide +kernel
theorem dL_init_4 : decode cL_init 4 = .ok (.aload_n 0, 1) := by decide +kernel
theorem dL_init_5 : decode cL_init 5 = .ok (.new 27, 3) := by decide +kernel
theorem dL_init_8 : decode cL_init 8 = .ok (.dup, 1) := by decide +kernel
theorem dL_init_9 : decode cL_init 9 = .ok (.invokespecial 29, 3) := by decide +kernel
theorem dL_init_12 : decode cL_init 12 = .ok (.putfield 30, 3) := by decide +kernel
theorem dL_init_15 : decode cL_init 15 = .ok (.aload_n 0, 1) := by decide +kernel
theorem dL_init_16 : decode cL_init 16 = .ok (.new 27, 3) := by decide +kernel
theorem dL_init_19 : decode cL_init 19 = .ok (.dup, 1) := by decide +kernel
theorem dL_init_20 : decode cL_init 20 = .ok (.invokespecial 29, 3) := by decide +kernel
theorem dL_init_23 : decode cL_init 23 = .ok (.putfield 36, 3) := by decide +kernel
theorem dL_init_26 : decode cL_init 26 = .ok (.aload_n 0, 1) := by decide +kernel
theorem dL_init_27 : decode cL_init 27 = .ok (.new 27, 3) := by decide +kernel
theorem dL_init_30 : decode cL_init 30 = .ok (.dup, 1) := by decide +kernel
theorem dL_init_31 : decode cL_init 31 = .ok (.invokespecial 29, 3) := by decide +kernel
theorem dL_init_34 : decode cL_init 34 = .ok (.putfield 39, 3) := by decide +kernel
theorem dL_init_37 : decode cL_init 37 = .ok (.aload_n 0, 1) := by decide +kernel
theorem dL_init_38 : decode cL_init 38 = .ok (.iconst 4, 1) := by decide +kernel
theorem dL_init_39 : decode cL_init 39 = .ok (.newarray .int, 2) := by decide +kernel
theorem dL_init_41 : decode cL_init 41 = .ok (.putfield 42, 3) := by decide +kernel
theorem dL_init_44 : decode cL_init 44 = .ok (.aload_n 0, 1) := by decide +kernel
theorem dL_init_45 : decode cL_init 45 = .ok (.iconst 4, 1) := by decide +kernel
theorem dL_init_46 : decode cL_init 46 = .ok (.newarray .int, 2) := by decide +kernel
theorem dL_init_48 : decode cL_init 48 = .ok (.putfield 46, 3) := by decide +kernel
theorem dL_init_51 : decode cL_init 51 = .ok (.aload_n 0, 1) := by decide +kernel
theorem dL_init_52 : decode cL_init 52 = .ok (.iconst 5, 1) := by decide +kernel
theorem dL_init_53 : decode cL_init 53 = .ok (.newarray .int, 2) := by decide +kernel
theorem dL_init_55 : decode cL_init 55 = .ok (.putfield 49, 3) := by decide +kernel
theorem dL_init_58 : decode cL_init 58 = .ok (.aload_n 0, 1) := by decide +kernel
theorem dL_init_59 : decode cL_init 59 = .ok (.bipush 30, 2) := by decide +kernel
theorem dL_init_61 : decode cL_init 61 = .ok (.putfield 52, 3) := by decide +kernel
theorem dL_init_64 : decode cL_init 64 = .ok (.aload_n 1, 1) := by decide +kernel
theorem dL_init_65 : decode cL_init 65 = .ok (.iconst 0, 1) := by decide +kernel
theorem dL_init_66 : decode cL_init 66 = .ok (.invokestatic 56, 3) := by decide +kernel
theorem dL_init_69 : decode cL_init 69 = .ok (.istore_n 2, 1) := by decide +kernel
theorem dL_init_70 : decode cL_init 70 = .ok (.aload_n 0, 1) := by decide +kernel
theorem dL_init_71 : decode cL_init 71 = .ok (.iconst 4, 1) := by decide +kernel
theorem dL_init_72 : decode cL_init 72 = .ok (.iload_n 2, 1) := by decide +kernel
theorem dL_init_73 : decode cL_init 73 = .ok (.iconst 0, 1) := by decide +kernel
theorem dL_init_74 : decode cL_init 74 = .ok (.iconst 3, 1) := by decide +kernel
theorem dL_init_75 : decode cL_init 75 = .ok (.invokestatic 60, 3) := by decide +kernel
theorem dL_init_78 : decode cL_init 78 = .ok (.iadd, 1) := by decide +kernel
theorem dL_init_79 : decode cL_init 79 = .ok (.putfield 64, 3) := by decide +kernel
theorem dL_init_82 : decode cL_init 82 = .ok (.aload_n 0, 1) := by decide +kernel
theorem dL_init_83 : decode cL_init 83 = .ok (.iload_n 2, 1) := by decide +kernel
theorem dL_init_84 : decode cL_init 84 = .ok (.iconst 3, 1) := by decide +kernel
theorem dL_init_85 : decode cL_init 85 = .ok (.iconst 1, 1) := by decide +kernel
theorem dL_init_86 : decode cL_init 86 = .ok (.invokestatic 60, 3) := by decide +kernel
theorem dL_init_89 : decode cL_init 89 = .ok (.ifCond .ne 7, 3) := by decide +kernel
theorem dL_init_92 : decode cL_init 92 = .ok (.iconst 0, 1) := by decide +kernel
theorem dL_init_93 : decode cL_init 93 = .ok (.goto 12, 3) := by decide +kernel
theorem dL_init_96 : decode cL_init 96 = .ok (.bipush 10, 2) := by decide +kernel
theorem dL_init_98 : decode cL_init 98 = .ok (.iload_n 2, 1) := by decide +kernel
theorem dL_init_99 : decode cL_init 99 = .ok (.iconst 4, 1) := by decide +kernel
theorem dL_init_100 : decode cL_init 100 = .ok (.iconst 5, 1) := by decide +kernel
theorem dL_init_101 : decode cL_init 101 = .ok (.invokestatic 60, 3) := by decide +kernel
theorem dL_init_104 : decode cL_init 104 = .ok (.iadd, 1) := by decide +kernel
theorem dL_init_105 : decode cL_init 105 = .ok (.putfield 67, 3) := by decide +kernel
theorem dL_init_108 : decode cL_init 108 = .ok (.aload_n 0, 1) := by decide +kernel
theorem dL_init_109 : decode cL_init 109 = .ok (.iconst 3, 1) := by decide +kernel
theorem dL_init_110 : decode cL_init 110 = .ok (.iload_n 2, 1) := by decide +kernel
theorem dL_init_111 : decode cL_init 111 = .ok (.bipush 9, 2) := by decide +kernel
theorem dL_init_113 : decode cL_init 113 = .ok (.iconst 2, 1) := by decide +kernel
theorem dL_init_114 : decode cL_init 114 = .ok (.invokestatic 60, 3) := by decide +kernel
theorem dL_init_117 : decode cL_init 117 = .ok (.iadd, 1) := by decide +kernel
theorem dL_init_118 : decode cL_init 118 = .ok (.putfield 70, 3) := by decide +kernel
theorem dL_init_121 : decode cL_init 121 = .ok (.aload_n 0, 1) := by decide +kernel
theorem dL_init_122 : decode cL_init 122 = .ok (.iload_n 2, 1) := by decide +kernel
theorem dL_init_123 : decode cL_init 123 = .ok (.bipush 11, 2) := by decide +kernel
theorem dL_init_125 : decode cL_init 125 = .ok (.iconst 2, 1) := by decide +kernel
theorem dL_init_126 : decode cL_init 126 = .ok (.invokestatic 60, 3) := by decide +kernel
theorem dL_init_129 : decode cL_init 129 = .ok (.putfield 73, 3) := by decide +kernel
theorem dL_init_132 : decode cL_init 132 = .ok (.aload_n 0, 1) := by decide +kernel
theorem dL_init_133 : decode cL_init 133 = .ok (.iload_n 2, 1) := by decide +kernel
theorem dL_init_134 : decode cL_init 134 = .ok (.bipush 13, 2) := by decide +kernel
theorem dL_init_136 : decode cL_init 136 = .ok (.iconst 2, 1) := by decide +kernel
theorem dL_init_137 : decode cL_init 137 = .ok (.invokestatic 60, 3) := by decide +kernel
theorem dL_init_140 : decode cL_init 140 = .ok (.putfield 76, 3) := by decide +kernel
theorem dL_init_143 : decode cL_init 143 = .ok (.aload_n 0, 1) := by decide +kernel
theorem dL_init_144 : decode cL_init 144 = .ok (.iload_n 2, 1) := by decide +kernel
theorem dL_init_145 : decode cL_init 145 = .ok (.bipush 15, 2) := by decide +kernel
theorem dL_init_147 : decode cL_init 147 = .ok (.bipush 12, 2) := by decide +kernel
theorem dL_init_149 : decode cL_init 149 = .ok (.invokestatic 60, 3) := by decide +kernel
theorem dL_init_152 : decode cL_init 152 = .ok (.putfield 79, 3) := by decide +kernel
theorem dL_init_155 : decode cL_init 155 = .ok (.iconst 0, 1) := by decide +kernel
theorem dL_init_156 : decode cL_init 156 = .ok (.istore_n 3, 1) := by decide +kernel
theorem dL_init_157 : decode cL_init 157 = .ok (.iload_n 3, 1) := by decide +kernel
theorem dL_init_158 : decode cL_init 158 = .ok (.iconst 2, 1) := by decide +kernel
theorem dL_init_159 : decode cL_init 159 = .ok (.iload_n 2, 1) := by decide +kernel
theorem dL_init_160 : decode cL_init 160 = .ok (.bipush 27, 2) := by decide +kernel
theorem dL_init_162 : decode cL_init 162 = .ok (.iconst 1, 1) := by decide +kernel
theorem dL_init_163 : decode cL_init 163 = .ok (.invokestatic 60, 3) := by decide +kernel
theorem dL_init_166 : decode cL_init 166 = .ok (.iadd, 1) := by decide +kernel
theorem dL_init_167 : decode cL_init 167 = .ok (.if_icmp .ge 70, 3) := by decide +kernel
theorem dL_init_170 : decode cL_init 170 = .ok (.new 82, 3) := by decide +kernel
theorem dL_init_173 : decode cL_init 173 = .ok (.dup, 1) := by decide +kernel
theorem dL_init_174 : decode cL_init 174 = .ok (.invokespecial 84, 3) := by decide +kernel
theorem dL_init_177 : decode cL_init 177 = .ok (.astore 4, 2) := by decide +kernel
theorem dL_init_179 : decode cL_init 179 = .ok (.aload_n 1, 1) := by decide +kernel
theorem dL_init_180 : decode cL_init 180 = .ok (.iconst 1, 1) := by decide +kernel
theorem dL_init_181 : decode cL_init 181 = .ok (.iload_n 3, 1) := by decide +kernel
theorem dL_init_182 : decode cL_init 182 = .ok (.iadd, 1) := by decide +kernel
theorem dL_init_183 : decode cL_init 183 = .ok (.invokestatic 56, 3) := by decide +kernel
theorem dL_init_186 : decode cL_init 186 = .ok (.istore 5, 2) := by decide +kernel
theorem dL_init_188 : decode cL_init 188 = .ok (.aload 4, 2) := by decide +kernel
theorem dL_init_190 : decode cL_init 190 = .ok (.iload 5, 2) := by decide +kernel
theorem dL_init_192 : decode cL_init 192 = .ok (.iconst 0, 1) := by decide +kernel
theorem dL_init_193 : decode cL_init 193 = .ok (.iconst 4, 1) := by decide +kernel
theorem dL_init_194 : decode cL_init 194 = .ok (.invokestatic 60, 3) := by decide +kernel
theorem dL_init_197 : decode cL_init 197 = .ok (.aload_n 0, 1) := by decide +kernel
theorem dL_init_198 : decode cL_init 198 = .ok (.getfield 64, 3) := by decide +kernel
theorem dL_init_201 : decode cL_init 201 = .ok (.irem, 1) := by decide +kernel
theorem dL_init_202 : decode cL_init 202 = .ok (.putfield 85, 3) := by decide +kernel
theorem dL_init_205 : decode cL_init 205 = .ok (.aload 4, 2) := by decide +kernel
theorem dL_init_207 : decode cL_init 207 = .ok (.iconst 1, 1) := by decide +kernel
theorem dL_init_208 : decode cL_init 208 = .ok (.iload 5, 2) := by decide +kernel
theorem dL_init_210 : decode cL_init 210 = .ok (.iconst 4, 1) := by decide +kernel
theorem dL_init_211 : decode cL_init 211 = .ok (.iconst 1, 1) := by decide +kernel
theorem dL_init_212 : decode cL_init 212 = .ok (.invokestatic 60, 3) := by decide +kernel
theorem dL_init_215 : decode cL_init 215 = .ok (.iadd, 1) := by decide +kernel
theorem dL_init_216 : decode cL_init 216 = .ok (.putfield 88, 3) := by decide +kernel
theorem dL_init_219 : decode cL_init 219 = .ok (.aload_n 0, 1) := by decide +kernel
theorem dL_init_220 : decode cL_init 220 = .ok (.getfield 30, 3) := by decide +kernel
theorem dL_init_223 : decode cL_init 223 = .ok (.aload 4, 2) := by decide +kernel
theorem dL_init_225 : decode cL_init 225 = .ok (.invokeinterface 91 2, 5) := by decide +kernel
theorem dL_init_230 : decode cL_init 230 = .ok (.pop, 1) := by decide +kernel
theorem dL_init_231 : decode cL_init 231 = .ok (.iinc 3 1, 3) := by decide +kernel
theorem dL_init_234 : decode cL_init 234 = .ok (.goto (-77), 3) := by decide +kernel
theorem dL_init_237 : decode cL_init 237 = .ok (.iconst 0, 1) := by decide +kernel
theorem dL_init_238 : decode cL_init 238 = .ok (.istore_n 3, 1) := by decide +kernel
theorem dL_init_239 : decode cL_init 239 = .ok (.iload_n 3, 1) := by decide +kernel
theorem dL_init_240 : decode cL_init 240 = .ok (.iconst 4, 1) := by decide +kernel
theorem dL_init_241 : decode cL_init 241 = .ok (.if_icmp .ge 83, 3) := by decide +kernel
theorem dL_init_244 : decode cL_init 244 = .ok (.aload_n 1, 1) := by decide +kernel
theorem dL_init_245 : decode cL_init 245 = .ok (.iconst 4, 1) := by decide +kernel
theorem dL_init_246 : decode cL_init 246 = .ok (.iload_n 3, 1) := by decide +kernel
theorem dL_init_247 : decode cL_init 247 = .ok (.iadd, 1) := by decide +kernel
theorem dL_init_248 : decode cL_init 248 = .ok (.invokestatic 56, 3) := by decide +kernel
theorem dL_init_251 : decode cL_init 251 = .ok (.istore 4, 2) := by decide +kernel
theorem dL_init_253 : decode cL_init 253 = .ok (.iload 4, 2) := by decide +kernel
theorem dL_init_255 : decode cL_init 255 = .ok (.iconst 0, 1) := by decide +kernel
theorem dL_init_256 : decode cL_init 256 = .ok (.iconst 4, 1) := by decide +kernel
theorem dL_init_257 : decode cL_init 257 = .ok (.invokestatic 60, 3) := by decide +kernel
theorem dL_init_260 : decode cL_init 260 = .ok (.aload_n 0, 1) := by decide +kernel
theorem dL_init_261 : decode cL_init 261 = .ok (.getfield 64, 3) := by decide +kernel
theorem dL_init_264 : decode cL_init 264 = .ok (.irem, 1) := by decide +kernel
theorem dL_init_265 : decode cL_init 265 = .ok (.istore 5, 2) := by decide +kernel
theorem dL_init_267 : decode cL_init 267 = .ok (.aload_n 0, 1) := by decide +kernel
theorem dL_init_268 : decode cL_init 268 = .ok (.getfield 36, 3) := by decide +kernel
theorem dL_init_271 : decode cL_init 271 = .ok (.new 97, 3) := by decide +kernel
theorem dL_init_274 : decode cL_init 274 = .ok (.dup, 1) := by decide +kernel
theorem dL_init_275 : decode cL_init 275 = .ok (.iload 5, 2) := by decide +kernel
theorem dL_init_277 : decode cL_init 277 = .ok (.iload 5, 2) := by decide +kernel
theorem dL_init_279 : decode cL_init 279 = .ok (.iconst 1, 1) := by decide +kernel
theorem dL_init_280 : decode cL_init 280 = .ok (.iadd, 1) := by decide +kernel
theorem dL_init_281 : decode cL_init 281 = .ok (.iload 4, 2) := by decide +kernel
theorem dL_init_283 : decode cL_init 283 = .ok (.iconst 4, 1) := by decide +kernel
theorem dL_init_284 : decode cL_init 284 = .ok (.iconst 4, 1) := by decide +kernel
theorem dL_init_285 : decode cL_init 285 = .ok (.invokestatic 60, 3) := by decide +kernel
theorem dL_init_288 : decode cL_init 288 = .ok (.aload_n 0, 1) := by decide +kernel
theorem dL_init_289 : decode cL_init 289 = .ok (.getfield 64, 3) := by decide +kernel
theorem dL_init_292 : decode cL_init 292 = .ok (.iconst 1, 1) := by decide +kernel
theorem dL_init_293 : decode cL_init 293 = .ok (.isub, 1) := by decide +kernel
theorem dL_init_294 : decode cL_init 294 = .ok (.irem, 1) := by decide +kernel
theorem dL_init_295 : decode cL_init 295 = .ok (.iadd, 1) := by decide +kernel
theorem dL_init_296 : decode cL_init 296 = .ok (.aload_n 0, 1) := by decide +kernel
theorem dL_init_297 : decode cL_init 297 = .ok (.getfield 64, 3) := by decide +kernel
theorem dL_init_300 : decode cL_init 300 = .ok (.irem, 1) := by decide +kernel
theorem dL_init_301 : decode cL_init 301 = .ok (.iload 4, 2) := by decide +kernel
theorem dL_init_303 : decode cL_init 303 = .ok (.bipush 8, 2) := by decide +kernel
theorem dL_init_305 : decode cL_init 305 = .ok (.iconst 4, 1) := by decide +kernel
theorem dL_init_306 : decode cL_init 306 = .ok (.invokestatic 60, 3) := by decide +kernel
theorem dL_init_309 : decode cL_init 309 = .ok (.invokespecial 99, 3) := by decide +kernel
theorem dL_init_312 : decode cL_init 312 = .ok (.invokeinterface 91 2, 5) := by decide +kernel
theorem dL_init_317 : decode cL_init 317 = .ok (.pop, 1) := by decide +kernel
theorem dL_init_318 : decode cL_init 318 = .ok (.iinc 3 1, 3) := by decide +kernel
theorem dL_init_321 : decode cL_init 321 = .ok (.goto (-82), 3) := by decide +kernel
theorem dL_init_324 : decode cL_init 324 = .ok (.return_, 1) := by decide +kernel
theorem kv_L_init : KI yL_init cL_init 6 1 := ⟨tw_3_128, tw_3_127, tw_1_0, rfl, by decide, by decide, by decide +kernel⟩
/-- the script of the law: an int array of the start -/
def x_S (G : Gx) (sa ns : Nat) (w : Nat → Int32) : Prop := sa = G.2.2.2 7 ∧ ∃ scr : Cell, G.2.2.1[sa]? = some scr ∧ scr.vm ≠ .unknown ∧ scr.slots.size = ns ∧ ∀ j : Nat, j < ns → scr.slots[j]? = some (.int (w j))
def t_cell (ns : Nat) (w : Nat → Int32) (j : Nat) : Int32 := if j < ns then w j else 113 * nI j + 67
set_option maxHeartbeats 4000000 in
set_option maxRecDepth 100000 in
theorem k_cell (l : Launch) (G : Gx) (sa ns j : Nat) (w : Nat → Int32) (hns : ns < 2147483648) (hj : j < 2147483648) (sz : Nat) : k_M l yL_cell cL_cell 2 (Option.some FieldType.int) 0 0 0 0 G (fun _ => x_S G sa ns w) sz [.ref sa, .int (nI j)] (some (.int (t_cell ns w j))) (fun H => H.size = sz) (fun q => False) := by
  refine k_begin (by decide +kernel) (Nat.le_of_ble_eq_true rfl) [(0, .ref sa), (1, .int (nI j))] rfl (fun p e s m args below meth c ls C hnm hsz hP hO hl => ?_)
  have S : va_S (fun q => False) s.heap s.heap [] := va_S.rf
  refine lv_iload_n C.1 C.2.1 dL_cell_0 rfl (lv_at hl 1 rfl) ?_
  refine lv_aload_n C.1 C.2.1 dL_cell_1 rfl (lv_at hl 0 rfl) ?_
  obtain ⟨he, scr, g1, g2, g3, g4⟩ := hP
  have hlt0 := (Array.getElem?_eq_some_iff.mp g1).1
  have hX : va_X sa ns w s s.heap := ⟨scr, (hO.2 sa hlt0).trans g1, C.2.2.2.2.2.1.2.2.2.2.2.2.1 scr (he ▸ g1), g2, g3, g4⟩
  have hbl : sa < s.heap.size := Nat.lt_of_lt_of_le hlt0 hO.1
  refine va_slen C.1 C.2.1 hX hbl (fun h => h) S dL_cell_2 ?_
  refine lv_icmp_ge (tgt := 12) C.1 C.2.1 dL_cell_3 (by decide) (fun cc => ?_) (fun cc => ?_)
  · have hge : ¬ j < ns := fun q => nI_ge q hns cc
    refine lv_bipush (v := 113) C.1 C.2.1 dL_cell_12 (by decide) ?_
    refine lv_iload_n C.1 C.2.1 dL_cell_14 rfl (lv_at hl 1 rfl) ?_
    refine lv_imul C.1 C.2.1 dL_cell_15 ?_
    refine lv_bipush (v := 67) C.1 C.2.1 dL_cell_16 (by decide) ?_
    refine lv_iadd C.1 C.2.1 dL_cell_18 ?_
    rw [show t_cell ns w j = 113 * nI j + 67 from if_neg hge]
    exact k_iret C S hsz (Nat.le_of_ble_eq_true rfl) (Nat.le_of_ble_eq_true rfl) dL_cell_19
  · have hlt : j < ns := Nat.not_le.mp fun q => cc (nI_le q hj)
    refine lv_aload_n C.1 C.2.1 dL_cell_6 rfl (lv_at hl 0 rfl) ?_
    refine lv_iload_n C.1 C.2.1 dL_cell_7 rfl (lv_at hl 1 rfl) ?_
    refine va_sld C.1 C.2.1 hX hbl (fun h => h) S (i := nI j) (by unfold vp_in; rw [nI_clamp hj]; exact fun q => q.elim (fun q => nI_pos hj q) (fun q => by omega)) dL_cell_8 ?_
    rw [nI_clamp hj]
    refine lv_goto (tgt := 19) C.1 C.2.1 dL_cell_9 (by decide) ?_
    rw [show t_cell ns w j = w j from if_pos hlt]
    exact k_iret C S hsz (Nat.le_of_ble_eq_true rfl) (Nat.le_of_ble_eq_true rfl) dL_cell_19
/-! a new car in the world -/
def t_newc (τ : Sg) (n : Nat) : Sg := fun k o i => if k = 41 ∧ o = n then 0 else τ k o i
theorem t_newc_o {τ : Sg} {n k o : Nat} (h : ¬ (k = 41 ∧ o = n)) : t_newc τ n k o = τ k o := funext fun _ => if_neg h
def t_nac (ad : Ad) (n x : Nat) : Ad := fun k o => if k = 41 ∧ o = n then x else ad k o
theorem t_nac_o {ad : Ad} {n x k o : Nat} (h : ¬ (k = 41 ∧ o = n)) : t_nac ad n x k o = ad k o := if_neg h
abbrev e_car0 : va_E := .inr (9, [.int 0, .int 0, .int 0, .int 0, .int 0, .int 0, .int 0, .int 0])
theorem q_newCar {G : Gx} {ad : Ad} {nc nk x : Nat} {τ : Sg} {H H1 : Heap} (V : q_W G ad (nc, nk, 0, 0) τ H) (hx : H.size ≤ x) (hc : va_at G.1 z_cl (x, e_car0) H1) (hk : ∀ q : Nat, q < H.size → H1[q]? = H[q]?) (hO : z_O G H1) : q_W G (t_nac ad nc x) (nc + 1, nk, 0, 0) (t_newc τ nc) H1 := by
  obtain ⟨V1, V2, V3, V4, V5⟩ := V
  have hn : ∀ o, q_nn (t_newc τ nc) o = q_nn τ o := fun o => by unfold q_nn; rw [t_newc_o (by simp)]
  have hcc : ∀ o, q_cc (t_newc τ nc) o = q_cc τ o := fun o => by unfold q_cc; rw [t_newc_o (by simp)]
  have hlt : ∀ k o, lp (nc, nk, 0, 0) τ k o → ad k o < H.size := fun k o h => (V1 k o h).lt
  have key : ∀ k o, lp (nc + 1, nk, 0, 0) (t_newc τ nc) k o → (k = 41 ∧ o = nc) ∨ (lp (nc, nk, 0, 0) τ k o ∧ ¬ (k = 41 ∧ o = nc)) := by
    intro k o h
    by_cases c : k = 41 ∧ o = nc
    · exact Or.inl c
    refine Or.inr ⟨?_, c⟩
    unfold lp at h ⊢
    split at h <;> try exact h
    · have : o < nc + 1 := h
      have : ¬ o = nc := fun q => c ⟨rfl, q⟩
      show o < nc
      omega
    all_goals (first | (rw [hn] at h; exact h) | (rw [hcc] at h; exact h))
  have hcel : ∀ k o, lp (nc, nk, 0, 0) τ k o → ¬ (k = 41 ∧ o = nc) → q_cel G (t_nac ad nc x) (t_newc τ nc) k o = q_cel G ad τ k o := by
    intro k o h c
    have e0 : t_newc τ nc k o = τ k o := t_newc_o c
    have k41 : ∀ k o, k ≠ 41 → t_nac ad nc x k o = ad k o := fun k o h => t_nac_o (fun q => h q.1)
    unfold lp at h
    split at h
    · simp only [q_cel, e0, k41 50 _ (by decide), k41 46 _ (by decide), k41 47 _ (by decide), k41 48 _ (by decide)]
    · simp only [q_cel, e0]
    · simp only [q_cel, e0, k41 45 _ (by decide)]
    · simp only [q_cel, e0, k41 44 _ (by decide)]
    · simp only [q_cel, e0]
    · simp only [q_cel, k41 43 _ (by decide)]
    · simp only [q_cel, e0]
    · simp only [q_cel, e0]
    · simp only [q_cel, e0]
    · simp only [q_cel, e0]
    · show e_al _ _ _ = e_al _ _ _
      unfold q_ed
      rw [e0, hcc, k41 52 _ (by decide)]
    · simp only [q_cel, e0]
    · show e_oa _ _ _ = e_oa _ _ _
      rw [hcc]
      have : q_el (t_nac ad nc x) (t_newc τ nc) o = q_el ad τ o := by
        funext j
        unfold q_el
        rw [hn]
        by_cases cj : j < q_nn τ o
        · rw [if_pos cj, if_pos cj]
          have ho3 : o < 3 := by
            rcases h.1 with h | h
            · exact h
            · exact absurd (show (0 : Nat) = 1 from h.2) (by decide)
          have w5 := (V5 o (Or.inl ho3)).2.2.2.2
          rcases (show o = 0 ∨ o = 1 ∨ o = 2 by omega) with rfl | rfl | rfl
          · rw [q_mk0] at w5
            have w6 : q_nn τ 0 ≤ nc := w5
            rw [show t_nac ad nc x (q_ek 0) j = ad (q_ek 0) j from t_nac_o (fun q => by have := q.2; omega)]
          · rw [k41 (q_ek 1) j (by decide)]
          · rw [k41 (q_ek 2) j (by decide)]
        · rw [if_neg cj, if_neg cj]
      rw [this]
    · exact h.elim
  refine ⟨fun k o h => ?_, fun k1 o1 k2 o2 h1 h2 he => ?_, fun k o h => ?_, hO, fun o ho => ?_⟩
  · rcases key k o h with ⟨rfl, rfl⟩ | ⟨h0, c⟩
    · rw [show t_nac ad o x 41 o = x from if_pos ⟨rfl, rfl⟩]
      have e0 : t_newc τ o 41 o = fun _ => 0 := funext fun i => if_pos ⟨rfl, rfl⟩
      simp only [q_cel, e0]
      exact hc
    · rw [t_nac_o c, hcel k o h0 c]
      exact (V1 k o h0).kept (hk _ (hlt k o h0))
  · rcases key k1 o1 h1 with ⟨rfl, rfl⟩ | ⟨g1, c1⟩ <;> rcases key k2 o2 h2 with ⟨rfl, rfl⟩ | ⟨g2, c2⟩
    · exact ⟨rfl, rfl⟩
    · rw [show t_nac ad o1 x 41 o1 = x from if_pos ⟨rfl, rfl⟩, t_nac_o c2] at he
      have := hlt _ _ g2
      omega
    · rw [show t_nac ad o2 x 41 o2 = x from if_pos ⟨rfl, rfl⟩, t_nac_o c1] at he
      have := hlt _ _ g1
      omega
    · rw [t_nac_o c1, t_nac_o c2] at he
      exact V2 _ _ _ _ g1 g2 he
  · rcases key k o h with ⟨rfl, rfl⟩ | ⟨h0, c⟩
    · rw [show t_nac ad o x 41 o = x from if_pos ⟨rfl, rfl⟩]
      exact Nat.le_trans V4.1 hx
    · rw [t_nac_o c]
      exact V3 k o h0
  · have ho3 : o < 3 := by
      rcases ho with h | h
      · exact h
      · exact absurd (show (0 : Nat) = 1 from h.2) (by decide)
    have := V5 o (Or.inl ho3)
    rw [hn, hcc, t_newc_o (by simp)]
    refine ⟨this.1, this.2.1, this.2.2.1, this.2.2.2.1, ?_⟩
    have h5 := this.2.2.2.2
    rcases (show o = 0 ∨ o = 1 ∨ o = 2 by omega) with rfl | rfl | rfl
    · rw [q_mk0] at h5 ⊢; exact Nat.le_succ_of_le h5
    · rw [q_mk1] at h5 ⊢; exact h5
    · rw [q_mk2, hn]; exact Nat.le_refl _
section QI
variable {p : Program} {l : Launch} {e : Env} {R : Room} {s : State} {m : MethodId} {args : Array Value} {below : List Frame} {meth : Method} {c : Code} {H : Heap} {locs : List Loc} {cells slots : Nat} {Q : State → Prop}
variable {cc : ByteArray} {pc : Nat} {ls : Array Slot} {rest : List Value} {own : String} {nL : Nat} {ret : Option FieldType} {G : Gx} {ad : Ad} {X : Ex} {τ : Sg} {A : Nat → Prop} {H0 : Heap} {nc nk : Nat}
/-- new Car(), with its constructor -/
theorem q_mkCar (C : Cx p s m args meth c own cc nL ret G) (S : q_S G ad (nc, nk, 0, 0) X τ [] A H0 H locs) (hls : ls.size = nL) {i1 i2 : Nat} (hR : 1 + 1 ≤ R.frames ∧ 8 + (1 + 11) + 12 ≤ R.locals) (hW8 : (rest.map fun v => v.category).sum ≤ 6) (hcs : cells + 2 ≤ R.cells ∧ 6 * cells + 6 * 2 ≤ R.slots)
    (d0 : decode cc pc = .ok (.new i1, 3)) (d3 : decode cc (pc + 3) = .ok (.dup, 1)) (d4 : decode cc (pc + 4) = .ok (.invokespecial i2, 3)) (w0 : Cond.classLink own i1 RX9 ∈ TT) (w4 : Cond.methodLinkNest own i2 yX9_init RL ∈ z_nest)
    (kk : ∀ (ad2 : Ad) (H1 : Heap) (locs1 : List Loc), (∀ k o, k ≠ 41 → ad2 k o = ad k o) → q_S G ad2 (nc + 1, nk, 0, 0) X (t_newc τ nc) [] A H0 H1 locs1 → W p l e R s m args below meth c H1 locs1 (cells + 2) (6 * (cells + 2)) Q (F0 m (pc + 7) ls (.ref (ad2 41 nc) :: rest))) : W p l e R s m args below meth c H locs cells (6 * cells) Q (F0 m pc ls rest) := by
  have hO := S.O
  obtain ⟨⟨ad', he, V, a, I, E⟩, S1, hA⟩ := S
  have hle0 := S1.1
  refine u_newO C S1 cf_9 w0 tw_3_163 tw_1_4 (fs := [.int 0, .int 0, .int 0, .int 0, .int 0, .int 0, .int 0, .int 0]) (fun j hj => by rcases (show j = 0 ∨ j = 1 ∨ j = 2 ∨ j = 3 ∨ j = 4 ∨ j = 5 ∨ j = 6 ∨ j = 7 by omega) with rfl | rfl | rfl | rfl | rfl | rfl | rfl | rfl <;> rfl) (by omega) (by omega) d0 (fun H1 z1 o1 x1 S1 => ?_)
  have hO1' := hO.grow z1 o1
  refine lv_dup C.1 C.2.1 d3 rfl ?_
  refine k_callIN C S1 hO1' [] (k_carinit l G H.size (H.size + 1)) z1 trivial kv_X9_init w4 ⟨by have := hR.1; omega, hR.2⟩ rfl rfl (by show 1 + (rest.map fun v => v.category).sum ≤ 8; omega) hls ⟨by omega, by omega⟩ d4 (fun _ h => h.elim) (fun H2 locs2 hp hle ok S2 => ?_)
  have hk : ∀ q : Nat, q < H.size → H2[q]? = H[q]? := fun q hq => (ok q (by omega) id).trans (o1 q hq)
  have hO2 : z_O G H2 := hO1'.call hle ok (fun _ _ h => h)
  have V2 := q_newCar V (Nat.le_refl H.size) (x1.kept (ok _ (by omega) id)) hk hO2
  have hlpn : ∀ k o, lp (nc + 1, nk, 0, 0) (t_newc τ nc) k o → (lp (nc, nk, 0, 0) τ k o ∧ t_nac ad' nc H.size k o = ad' k o) ∨ t_nac ad' nc H.size k o = H.size := by
    intro k o h
    by_cases c1 : k = 41 ∧ o = nc
    · exact Or.inr (if_pos c1)
    refine Or.inl ⟨?_, t_nac_o c1⟩
    unfold lp at h ⊢
    split at h <;> try exact h
    · have h' : o < nc + 1 := h
      have : ¬ o = nc := fun q => c1 ⟨rfl, q⟩
      show o < nc
      omega
    all_goals (first | (unfold q_nn at h ⊢; rw [t_newc_o (by simp)] at h; exact h) | (unfold q_cc at h ⊢; rw [t_newc_o (by simp)] at h; exact h))
  have S3 : q_S G (t_nac ad nc H.size) (nc + 1, nk, 0, 0) X (t_newc τ nc) [] A H0 H2 locs2 := by
    refine ⟨⟨_, fun k o h => ?_, V2, fun k o h => ?_, fun x hx => absurd hx List.not_mem_nil, E.step (by omega) (fun q hq => hk q (E.2.1 q hq).1) (fun q hq h1 h2 k o h => ?_)⟩, S2, hA⟩
    · unfold t_nac
      split
      · rfl
      exact he k o h
    · rcases hlpn k o h with ⟨h1, h2⟩ | h1
      · rw [h2]; exact a k o h1
      · rw [h1]; exact hA _ hle0
    · rcases hlpn k o h with ⟨h3, h4⟩ | h3
      · rw [h4]; exact h2 k o h3
      · omega
  have row := kk (t_nac ad nc H.size) H2 locs2 (fun k o h => t_nac_o (fun q => h q.1)) S3
  rw [show t_nac ad nc H.size 41 nc = H.size from if_pos ⟨rfl, rfl⟩] at row
  exact W.widen (by omega) (by omega) row
end QI

section QX2
variable {p : Program} {l : Launch} {e : Env} {R : Room} {s : State} {m : MethodId} {args : Array Value} {below : List Frame} {meth : Method} {c : Code} {H : Heap} {locs : List Loc} {cells slots : Nat} {Q : State → Prop}
variable {cc : ByteArray} {pc : Nat} {ls : Array Slot} {rest : List Value} {own : String} {nL : Nat} {ret : Option FieldType} {G : Gx} {ad : Ad} {N : Nn} {τ : Sg} {A : Nat → Prop} {H0 : Heap}
/-- the list is on the stack: add(new Call(..)), its arguments by any walk that makes nothing -/
theorem q_mkCallG (C : Cx p s m args meth c own cc nL ret G) {X : Ex} (S : q_S G ad N X τ [] A H0 H locs) (hN : N.2.2 = (0, 0)) (h9 : q_cc τ 1 ≤ 60000) (hls : ls.size = nL) {i1 i2 i3 i4 pci : Nat} {v4 v5 v7 : Int32} (hR : 6 + 1 ≤ R.frames ∧ 8 + (4 + 11) + 50 ≤ R.locals ∧ 8 + (2 + 11) + 136 ≤ R.locals) (hcs : cells + (10 + t_cst τ 1) ≤ R.cells ∧ 6 * cells + 6 * (10 + t_cst τ 1) ≤ R.slots)
    (hargs : ∀ (Ha : Heap) (nw : Nat), G.2.2.1.size ≤ Ha.size → (∃ ad' : Ad, va_at G.1 z_cl (ad 40 0, q_cel G ad' τ 40 0) Ha) → z_O G Ha → va_S A H0 Ha locs → (∀ (Hb : Heap) (locs1 : List Loc), Hb.size = Ha.size → (∀ q : Nat, q < Ha.size → Hb[q]? = Ha[q]?) → va_S A H0 Hb locs1 → W p l e R s m args below meth c Hb locs1 (cells + 1) (6 * cells + 12) Q (F0 m pci ls (.int v7 :: .int v5 :: .int v4 :: .ref nw :: .ref nw :: .ref (ad 50 1) :: []))) → W p l e R s m args below meth c Ha locs (cells + 1) (6 * cells + 12) Q (F0 m (pc + 4) ls (.ref nw :: .ref nw :: .ref (ad 50 1) :: [])))
    (d4 : decode cc pc = .ok (.new i1, 3)) (d7 : decode cc (pc + 3) = .ok (.dup, 1)) (d16 : decode cc pci = .ok (.invokespecial i2, 3)) (d19 : decode cc (pci + 3) = .ok (.invokeinterface i3 i4, 5)) (d24 : decode cc (pci + 8) = .ok (.pop, 1))
    (w4 : Cond.classLink own i1 RX8 ∈ TT) (w16 : Cond.methodLinkNest own i2 yX8_init RL ∈ z_nest ∨ Cond.methodLink own i2 yX8_init ∈ TT) (w19 : Cond.methodLink own i3 ⟨"java/util/List", "add", "(Ljava/lang/Object;)Z"⟩ ∈ TT)
    (kk : ∀ (ad2 : Ad) (N2 : Nn) (H1 : Heap) (locs1 : List Loc), (∀ k o, k ≠ 42 → k ≠ 43 → k ≠ 44 → k ≠ 45 → ad2 k o = ad k o) → N2 = (N.1, q_nn τ 1 + 1, 0, 0) → q_S G ad2 N2 X (t_add (t_new τ v4 v5 (v7)) 1) [] A H0 H1 locs1 → W p l e R s m args below meth c H1 locs1 (cells + (10 + t_cst τ 1)) (6 * (cells + (10 + t_cst τ 1))) Q (F0 m (pci + 9) ls [])) : W p l e R s m args below meth c H locs cells (6 * cells) Q (F0 m pc ls [.ref (ad 50 1)]) := by
  have hO := S.O
  have hO1 := hO.1
  have S0 := S
  obtain ⟨⟨ad', he, V, a, I, E⟩, S1, hA⟩ := S
  obtain ⟨nc, nk, no, fo⟩ := N
  cases hN
  -- only what the lists hold
  have w5 := (V.2.2.2.2 1 (Or.inl (by decide))).2.2.2.2
  have V' : q_W G ad' (nc, q_nn τ 1, 0, 0) τ H := by
    have sub : ∀ k o, lp (nc, q_nn τ 1, 0, 0) τ k o → lp (nc, nk, 0, 0) τ k o := by
      intro k o h
      have h1 : q_nn τ 1 ≤ nk := w5
      unfold lp at h ⊢
      split at h <;> try exact h
      · exact Nat.lt_of_lt_of_le h h1
      · show o < 4 * nk; have : o < 4 * q_nn τ 1 := h; omega
      · show o < 4 * nk; have : o < 4 * q_nn τ 1 := h; omega
      · exact Nat.lt_of_lt_of_le h h1
    refine ⟨fun k o h => V.1 k o (sub k o h), fun k o k' o' h h' => V.2.1 k o k' o' (sub k o h) (sub k' o' h'), fun k o h => V.2.2.1 k o (sub k o h), V.2.2.2.1, fun o ho => ?_⟩
    have ho3 : o < 3 := by
      rcases ho with h | h
      · exact h
      · exact absurd (show (0 : Nat) = 1 from h.2) (by decide)
    have := V.2.2.2.2 o (Or.inl ho3)
    refine ⟨this.1, this.2.1, this.2.2.1, this.2.2.2.1, ?_⟩
    have h5 := this.2.2.2.2
    rcases (show o = 0 ∨ o = 1 ∨ o = 2 by omega) with rfl | rfl | rfl
    · rw [q_mk0] at h5 ⊢; exact h5
    · rw [q_mk1]; exact Nat.le_refl _
    · rw [q_mk2]; exact Nat.le_refl _
  have sub : ∀ k o, lp (nc, q_nn τ 1, 0, 0) τ k o → lp (nc, nk, 0, 0) τ k o := by
    intro k o h
    have h1 : q_nn τ 1 ≤ nk := w5
    unfold lp at h ⊢
    split at h <;> try exact h
    · exact Nat.lt_of_lt_of_le h h1
    · show o < 4 * nk; have : o < 4 * q_nn τ 1 := h; omega
    · show o < 4 * nk; have : o < 4 * q_nn τ 1 := h; omega
    · exact Nat.lt_of_lt_of_le h h1
  refine u_newO C S1 cf_8 w4 tw_4_20 tw_1_9 (fs := [.int 0, .int 0, .int 0, .int 0, .int 0, .int 0, .int 0, .int 0, .int 0, .int 0, .int 0, .null]) (fun j hj => by rcases (show j = 0 ∨ j = 1 ∨ j = 2 ∨ j = 3 ∨ j = 4 ∨ j = 5 ∨ j = 6 ∨ j = 7 ∨ j = 8 ∨ j = 9 ∨ j = 10 ∨ j = 11 by omega) with rfl | rfl | rfl | rfl | rfl | rfl | rfl | rfl | rfl | rfl | rfl | rfl <;> rfl) (by omega) (by omega) d4 (fun Ha za oa xa Sa => ?_)
  refine lv_dup C.1 C.2.1 d7 rfl ?_
  have h40 := (V.1 40 0 rfl).kept (oa _ (V.1 40 0 rfl).lt)
  rw [he 40 0 rfl] at h40
  refine hargs Ha H.size (hO.grow za oa).1 ⟨_, h40⟩ (hO.grow za oa) Sa (fun H1 locs1 zb ob S1 => ?_)
  have z1 : H1.size = H.size + 1 := zb.trans za
  have o1 : ∀ q : Nat, q < H.size → H1[q]? = H[q]? := fun q hq => (ob q (by omega)).trans (oa q hq)
  have x1 := xa.kept (ob _ (by omega))
  have hO1' := hO.grow z1 o1
  have go : ∀ (H2 : Heap) (locs2 : List Loc), (H2.size = H.size + 1 + 9 ∧ va_at G.1 z_cl (H.size, e_c0 v4 v5 (v7) (H.size + 1)) H2 ∧ va_at G.1 z_cl (H.size + 1, .inl (G.2.1 4, 4, .inr (.inr (.inr (.inr (va_up (va_up (va_up (va_up (fun _ => none) 0 (some (H.size + 1 + 1))) 1 (some (H.size + 1 + 3))) 2 (some (H.size + 1 + 5))) 3 (some (H.size + 1 + 7)))))))) H2 ∧
      va_at G.1 z_cl (H.size + 1 + 1, e_kn (H.size + 1 + 2)) H2 ∧ va_at G.1 z_cl (H.size + 1 + 2, e_m4 G) H2 ∧ va_at G.1 z_cl (H.size + 1 + 3, e_kn (H.size + 1 + 4)) H2 ∧ va_at G.1 z_cl (H.size + 1 + 4, e_m4 G) H2 ∧ va_at G.1 z_cl (H.size + 1 + 5, e_kn (H.size + 1 + 6)) H2 ∧ va_at G.1 z_cl (H.size + 1 + 6, e_m4 G) H2 ∧ va_at G.1 z_cl (H.size + 1 + 7, e_kn (H.size + 1 + 8)) H2 ∧ va_at G.1 z_cl (H.size + 1 + 8, e_m4 G) H2) → H1.size ≤ H2.size → (∀ q : Nat, q < H1.size → ¬ (q = H.size ∨ H.size + 1 ≤ q) → H2[q]? = H1[q]?) → va_S A H0 H2 locs2 → W p l e R s m args below meth c H2 locs2 (cells + 1 + 9) (6 * cells + 12 + 40) Q (F0 m (pci + 3) ls (.ref H.size :: .ref (ad 50 1) :: [])) := by
    intro H2 locs2 hp hle ok S2
    obtain ⟨z2, c1, c2, k0, b0, k1, b1, k2, b2, k3, b3⟩ := hp
    have hk : ∀ q : Nat, q < H.size → H2[q]? = H[q]? := fun q hq => (ok q (by omega) (by omega)).trans (o1 q hq)
    have hO2 : z_O G H2 := ⟨by omega, fun q hq => (hk q (by omega)).trans (hO.2 q hq)⟩
    have V2 := q_newCall V' (Nat.le_refl H.size) (show c_cells G H.size v4 v5 (v7) H2 from ⟨c1, c2, fun j hj => by
      rcases (show j = 0 ∨ j = 1 ∨ j = 2 ∨ j = 3 by omega) with rfl | rfl | rfl | rfl
      · exact ⟨k0, b0⟩
      · exact ⟨k1, b1⟩
      · exact ⟨k2, b2⟩
      · exact ⟨k3, b3⟩⟩) hk hO2
    have hlpn : ∀ k o, lp (nc, q_nn τ 1 + 1, 0, 0) (t_new τ v4 v5 (v7)) k o → (lp (nc, nk, 0, 0) τ k o ∧ t_nad ad' (q_nn τ 1) H.size k o = ad' k o) ∨ H.size ≤ t_nad ad' (q_nn τ 1) H.size k o := by
      intro k o h
      by_cases c1 : k = 42 ∧ o = q_nn τ 1
      · exact Or.inr (by obtain ⟨rfl, rfl⟩ := c1; rw [show t_nad ad' (q_nn τ 1) H.size 42 (q_nn τ 1) = H.size from if_pos ⟨rfl, rfl⟩]; exact Nat.le_refl _)
      by_cases c2 : k = 45 ∧ o = q_nn τ 1
      · exact Or.inr (by unfold t_nad; rw [if_neg c1, if_pos c2]; omega)
      by_cases c3 : k = 43 ∧ 4 * q_nn τ 1 ≤ o
      · exact Or.inr (by unfold t_nad; rw [if_neg c1, if_neg c2, if_pos c3]; omega)
      by_cases c4 : k = 44 ∧ 4 * q_nn τ 1 ≤ o
      · exact Or.inr (by unfold t_nad; rw [if_neg c1, if_neg c2, if_neg c3, if_pos c4]; omega)
      refine Or.inl ⟨sub k o ?_, t_nad_o c1 c2 c3 c4⟩
      have hn : ∀ o, q_nn (t_new τ v4 v5 (v7)) o = q_nn τ o := fun o => by unfold q_nn; rw [t_new_o (by simp) (by simp) (by simp)]
      have hcc : ∀ o, q_cc (t_new τ v4 v5 (v7)) o = q_cc τ o := fun o => by unfold q_cc; rw [t_new_o (by simp) (by simp) (by simp)]
      unfold lp at h ⊢
      split at h <;> try exact h
      · show o < q_nn τ 1; have h' : o < q_nn τ 1 + 1 := h; have : ¬ o = q_nn τ 1 := fun q => c1 ⟨rfl, q⟩; omega
      · show o < 4 * q_nn τ 1; have : ¬ 4 * q_nn τ 1 ≤ o := fun q => c3 ⟨rfl, q⟩; omega
      · show o < 4 * q_nn τ 1; have : ¬ 4 * q_nn τ 1 ≤ o := fun q => c4 ⟨rfl, q⟩; omega
      · show o < q_nn τ 1; have h' : o < q_nn τ 1 + 1 := h; have : ¬ o = q_nn τ 1 := fun q => c2 ⟨rfl, q⟩; omega
    have kst : ∀ k o, k ≠ 42 → k ≠ 43 → k ≠ 44 → k ≠ 45 → t_nad ad' (q_nn τ 1) H.size k o = ad' k o := fun k o h1 h2 h3 h4 => t_nad_o (fun q => h1 q.1) (fun q => h4 q.1) (fun q => h2 q.1) (fun q => h3 q.1)
    have kst2 : ∀ k o, k ≠ 42 → k ≠ 43 → k ≠ 44 → k ≠ 45 → t_nad ad (q_nn τ 1) H.size k o = ad k o := fun k o h1 h2 h3 h4 => t_nad_o (fun q => h1 q.1) (fun q => h4 q.1) (fun q => h2 q.1) (fun q => h3 q.1)
    have S3 : q_S G (t_nad ad (q_nn τ 1) H.size) (nc, q_nn τ 1 + 1, 0, 0) X (t_new τ v4 v5 (v7)) [] A H0 H2 locs2 := by
      refine ⟨⟨_, fun k o h => ?_, V2, fun k o h => ?_, fun x hx => absurd hx List.not_mem_nil, E.step (by omega) (fun q hq => hk q (E.2.1 q hq).1) (fun q hq h1 h2 k o h => ?_)⟩, S2, hA⟩
      · unfold t_nad
        split
        · rfl
        split
        · rfl
        split
        · rfl
        split
        · rfl
        exact he k o h
      · rcases hlpn k o h with ⟨h1, h2⟩ | h1
        · rw [h2]; exact a k o h1
        · exact hA _ (Nat.le_trans S0.2.1.1 h1)
      · rcases hlpn k o h with ⟨h3, h4⟩ | h3
        · rw [h4]; exact h2 k o h3
        · omega
    have hn1 : q_nn (t_new τ v4 v5 (v7)) 1 = q_nn τ 1 := by unfold q_nn; rw [t_new_o (by simp) (by simp) (by simp)]
    have hc1 : q_cc (t_new τ v4 v5 (v7)) 1 = q_cc τ 1 := by unfold q_cc; rw [t_new_o (by simp) (by simp) (by simp)]
    have hcst : t_cst (t_new τ v4 v5 (v7)) 1 = t_cst τ 1 := by unfold t_cst t_cap; rw [hn1, hc1]
    have e1 : t_nad ad (q_nn τ 1) H.size (q_ek 1) (q_nn (t_new τ v4 v5 (v7)) 1) = H.size := by rw [hn1]; exact if_pos ⟨rfl, rfl⟩
    have e2 : t_nad ad (q_nn τ 1) H.size 50 1 = ad 50 1 := kst2 50 1 (by decide) (by decide) (by decide) (by decide)
    have row := q_lsAdd (l := l) (e := e) (below := below) (pc := pci + 3) (ls := ls) (rest := []) (cells := cells + 1 + 9) (slots := 6 * cells + 12 + 40) (Q := Q) (R := R) C S3 1 (Or.inr rfl) (by rw [q_mk1, hn1]; exact Nat.lt_succ_self _) (by rw [hc1]; exact h9) w19 ⟨by have := hR.1; omega, hR.2.2⟩ (by decide) hls (by rw [hcst]; omega) d19 (fun H4 locs4 S4 => by
      rw [hcst]
      refine lv_pop C.1 C.2.1 d24 rfl ?_
      refine W.widen (k := cells + (10 + t_cst τ 1)) (n := 6 * (cells + (10 + t_cst τ 1))) (by omega) (by omega) ?_
      exact kk _ _ H4 locs4 kst2 rfl S4)
    rw [e1, e2] at row
    exact row
  rcases w16 with w16 | w16
  · exact k_callIN C S1 hO1' [.int v4, .int v5, .int (v7)] (k_callinit l G H.size v4 v5 (v7) hO1 (H.size + 1)) z1 x1 kv_X8_init w16 ⟨by have := hR.1; omega, hR.2.1⟩ rfl rfl (Nat.le_of_ble_eq_true rfl) hls ⟨by omega, by omega⟩ d16 (fun q h => hA q (by have := S0.2.1.1; omega)) go
  · exact k_callI C S1 hO1' [.int v4, .int v5, .int (v7)] (k_callinit l G H.size v4 v5 (v7) hO1 (H.size + 1)) z1 x1 kv_X8_init w16 ⟨by have := hR.1; omega, hR.2.1⟩ rfl rfl (Nat.le_of_ble_eq_true rfl) hls ⟨by omega, by omega⟩ d16 (fun q h => hA q (by have := S0.2.1.1; omega)) go
end QX2
