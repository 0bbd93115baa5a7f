/-! the law's constructor -/
def t_car (ns : Nat) (w : Nat → Int32) (F : Int32) (τ : Sg) (k : Nat) : Sg := t_add (sup (sup (t_newc τ k) 41 k 0 (jrem (jbits (t_cell ns w (1 + k)) 0 4) F)) 41 k 1 (1 + jbits (t_cell ns w (1 + k)) 4 1)) 0
def g_cars (ns : Nat) (w : Nat → Int32) (F : Int32) : Nat → Nat → Sg → Sg
  | 0, _, τ => τ
  | n + 1, k, τ => g_cars ns w F n (k + 1) (t_car ns w F τ k)
def t_fro (ns : Nat) (w : Nat → Int32) (F : Int32) (k : Nat) : Int32 := jrem (jbits (t_cell ns w (4 + k)) 0 4) F
def t_too (ns : Nat) (w : Nat → Int32) (F : Int32) (k : Nat) : Int32 := jrem (t_fro ns w F k + 1 + jrem (jbits (t_cell ns w (4 + k)) 4 4) (F - 1)) F
def t_cal (ns : Nat) (w : Nat → Int32) (F : Int32) (τ : Sg) (k : Nat) : Sg := t_add (t_new τ (t_fro ns w F k) (t_too ns w F k) (jbits (t_cell ns w (4 + k)) 8 4)) 1
def g_calls (ns : Nat) (w : Nat → Int32) (F : Int32) : Nat → Nat → Sg → Sg
  | 0, _, τ => τ
  | n + 1, k, τ => g_calls ns w F n (k + 1) (t_cal ns w F τ k)
def t_noi (x : Int32) : Int32 := if jbits x 3 1 = 0 then 0 else 10 + jbits x 4 5
def t_raw (F : Int32) : Sg := fun k o i => if k = 40 ∧ i = 3 then F else if k = 40 ∧ i = 12 then 30 else 0
def t_base (x : Int32) : Sg := sup (sup (sup (sup (sup (t_raw (4 + jbits x 0 3)) 40 0 8 (t_noi x)) 40 0 9 (3 + jbits x 9 2)) 40 0 10 (jbits x 11 2)) 40 0 11 (jbits x 13 2)) 40 0 13 (jbits x 15 12)
def g_init (ns : Nat) (w : Nat → Int32) (nc : Nat) : Sg := g_calls ns w (4 + jbits (t_cell ns w 0) 0 3) 4 0 (g_cars ns w (4 + jbits (t_cell ns w 0) 0 3) nc 0 (t_base (t_cell ns w 0)))
theorem nI_lt30a : ∀ j, j < 30 → ∀ i, i < 30 → nI j + nI i = nI (j + i) := by decide +kernel
theorem nI_lt30 (j i : Nat) (h : i < 30) (h' : j < 30) : nI j + nI i = nI (j + i) := nI_lt30a j h' i h
theorem q_cc10 {τ : Sg} {o k : Nat} (hn : q_nn τ o = k) (hk : k < 10) (hc : q_cc τ o = if k = 0 then 0 else 10) : t_cap τ o = 10 ∧ t_cst τ o = (if k = 0 then 10 else 0) ∧ q_nn (t_add τ o) o = k + 1 ∧ q_cc (t_add τ o) o = 10 := by
  have h1 : t_cap τ o = 10 := by
    unfold t_cap
    rw [hn, hc]
    by_cases h0 : k = 0
    · rw [if_pos h0, if_neg (by omega), if_pos rfl]
    · rw [if_neg h0, if_pos (by omega)]
  refine ⟨h1, ?_, ?_, ?_⟩
  · unfold t_cst
    rw [h1, hn, hc]
    by_cases h0 : k = 0
    · rw [if_pos h0, if_pos h0, if_neg (by omega)]
    · rw [if_neg h0, if_neg h0, if_pos (by omega)]
  · unfold q_nn at hn ⊢
    rw [t_add2]
    unfold q_nn
    rw [hn, nI_clamp (by omega)]
  · unfold q_cc
    rw [t_add3, h1, nI_clamp (by omega)]
theorem t_add_x {τ : Sg} {o k i j : Nat} (h : k ≠ 50 ∨ i ≠ o) : t_add τ o k i j = τ k i j := t_add_k (fun q => by rcases h with h | h; exact h q.1; exact h q.2)

set_option maxHeartbeats 4000000 in
set_option maxRecDepth 100000 in
theorem w_L_init_239 {p : Program} {l : Launch} {e : Env} {s : State} {m : MethodId} {args : Array Value} {below : List Frame} {meth : Method} {c : Code} {G : Gx} {A : Nat → Prop} {R : Room} {Q : State → Prop} {sa ns : Nat} {w : Nat → Int32} (hns31 : ns < 2147483648) (hS : x_S G sa ns w) {F : Int32} (hF0 : ¬ F = 0) (hF1 : ¬ F - 1 = 0) {nc : Nat} {a : Nat} (hR : 7 ≤ R.frames ∧ 157 ≤ R.locals) (C : Cx p s m args meth c yL_init.cls cL_init 6 none G) : ∀ n k, k + n = 4 → ∀ (ad : Ad) (τ : Sg) (H : Heap) (locs : List Loc) (ls : Array Slot) (cells : Nat), q_S G ad (nc, k, 0, 0) x_0 τ [] A s.heap H locs → ad 40 0 = a → lv_has ls 6 [(0, .ref (ad 40 0)), (1, .ref sa), (3, .int (nI k))] → q_nn τ 1 = k → q_cc τ 1 = (if k = 0 then 0 else 10) → τ 40 0 3 = F → cells + 10 * n + (if k = 0 then 10 else 0) ≤ R.cells → 6 * R.cells ≤ R.slots →
    (∀ (ad : Ad) (H : Heap) (locs : List Loc) (ls : Array Slot) (cells : Nat), q_S G ad (nc, 4, 0, 0) x_0 (g_calls ns w F n k τ) [] A s.heap H locs → ad 40 0 = a → cells ≤ R.cells → W p l e R s m args below meth c H locs cells (6 * cells) Q (F0 m 324 ls [])) → W p l e R s m args below meth c H locs cells (6 * cells) Q (F0 m 239 ls []) := by
  intro n
  induction n with
  | zero =>
    intro k hk ad τ H locs ls cells S ha hl hn hc hF hcs h6 hq
    have hk4 : k = 4 := by omega
    subst hk4
    refine lv_iload_n C.1 C.2.1 dL_init_239 rfl (lv_at hl 2 rfl) ?_
    refine lv_iconst (v := 4) C.1 C.2.1 dL_init_240 (by decide) ?_
    refine lv_icmp_ge (tgt := 324) C.1 C.2.1 dL_init_241 (by decide) (fun cc => ?_) (fun cc => absurd (show (4 : Int32) ≤ nI 4 by decide) cc)
    exact hq ad H locs ls cells S ha (by omega)
  | succ n ih =>
    intro k hk ad τ H locs ls cells S ha hl hn hc hF hcs h6 hq
    have hk4 : k < 4 := by omega
    have hO := S.O
    refine lv_iload_n C.1 C.2.1 dL_init_239 rfl (lv_at hl 2 rfl) ?_
    refine lv_iconst (v := 4) C.1 C.2.1 dL_init_240 (by decide) ?_
    refine lv_icmp_ge (tgt := 324) C.1 C.2.1 dL_init_241 (by decide) (fun cc => absurd (show nI 4 ≤ nI k from cc) (nI_ge hk4 (by decide))) (fun cc => ?_)
    refine lv_aload_n C.1 C.2.1 dL_init_244 rfl (lv_at hl 1 rfl) ?_
    refine lv_iconst (v := 4) C.1 C.2.1 dL_init_245 (by decide) ?_
    refine lv_iload_n C.1 C.2.1 dL_init_246 rfl (lv_at hl 2 rfl) ?_
    refine lv_iadd C.1 C.2.1 dL_init_247 ?_
    rw [show (4 : Int32) + nI k = nI (4 + k) from nI_lt30 4 k (by omega) (by omega)]
    refine k_callS C S.2.1 hO [.ref sa, .int (nI (4 + k))] (k_cell l G sa ns (4 + k) w hns31 (by omega) H.size) rfl hS kv_L_cell tw_3_104 ⟨by have := hR.1; omega, by have := hR.2; omega⟩ rfl rfl (Nat.le_of_ble_eq_true rfl) hl.1 ⟨by omega, by omega⟩ dL_init_248 (fun _ h => h.elim) (fun H locs hz hle ok S2 => ?_)
    replace S := S.keep hle (fun q hq => ok q hq id) S2
    refine lv_istore (lv' := [(4, .int (t_cell ns w (4 + k))), (0, .ref (ad 40 0)), (1, .ref sa), (3, .int (nI k))]) C.1 C.2.1 dL_init_251 hl (by decide) rfl (fun ls hl => ?_)
    refine lv_iload C.1 C.2.1 dL_init_253 (lv_at hl 0 rfl) ?_
    refine lv_iconst (v := 0) C.1 C.2.1 dL_init_255 (by decide) ?_
    refine lv_iconst (v := 4) C.1 C.2.1 dL_init_256 (by decide) ?_
    refine q_callK C S [.int (t_cell ns w (4 + k)), .int 0, .int 4] (k_bits l G _ _ _ _) kv_L_bits tw_3_159 ⟨by have := hR.1; omega, by have := hR.2; omega⟩ rfl rfl (Nat.le_of_ble_eq_true rfl) hl.1 ⟨by omega, by omega⟩ dL_init_257 (fun H locs S => ?_)
    refine lv_aload_n C.1 C.2.1 dL_init_260 rfl (lv_at hl 1 rfl) ?_
    refine q_getI C S 40 0 rfl rfl cf_11 3 (by decide) (qi_40_3 G τ 0) tw_4_99 dL_init_261 ?_
    rw [hF]
    refine lv_irem C.1 C.2.1 dL_init_264 hF0 ?_
    show W _ _ _ _ _ _ _ _ _ _ _ _ _ _ _ (F0 m _ ls (.int (t_fro ns w F k) :: _))
    refine lv_istore (lv' := [(5, .int (t_fro ns w F k)), (4, .int (t_cell ns w (4 + k))), (0, .ref (ad 40 0)), (1, .ref sa), (3, .int (nI k))]) C.1 C.2.1 dL_init_265 hl (by decide) rfl (fun ls hl => ?_)
    refine lv_aload_n C.1 C.2.1 dL_init_267 rfl (lv_at hl 2 rfl) ?_
    refine q_getR C S 40 0 50 1 rfl rfl rfl cf_11 1 (by decide) (qr_40_1 G _ 0) tw_4_97 dL_init_268 ?_
    obtain ⟨ecap, ecst, enn, ecc⟩ := q_cc10 (τ := t_new τ (t_fro ns w F k) (t_too ns w F k) (jbits (t_cell ns w (4 + k)) 8 4)) (o := 1) (k := k) (by unfold q_nn; rw [t_new_o (by simp) (by simp) (by simp)]; exact hn) (by omega) (by unfold q_cc; rw [t_new_o (by simp) (by simp) (by simp)]; exact hc)
    have ecst0 : t_cst τ 1 = if k = 0 then 10 else 0 := (q_cc10 hn (by omega) hc).2.1
    have hcs2 : cells + 10 + (if k = 0 then 10 else 0) ≤ R.cells := by omega
    refine q_mkCallG (v4 := t_fro ns w F k) (v5 := t_too ns w F k) (v7 := jbits (t_cell ns w (4 + k)) 8 4) (pci := 309) C S rfl (by rw [hc]; split <;> omega) hl.1 ⟨by have := hR.1; omega, by have := hR.2; omega, by have := hR.2; omega⟩ ⟨by rw [ecst0]; omega, by rw [ecst0]; omega⟩ (fun Ha nw hGn hat hOa Sa kk => ?_) dL_init_271 dL_init_274 dL_init_309 dL_init_312 dL_init_317 tw_4_19 (Or.inr tw_4_21) tw_3_194 (fun ad2 N2 H locs kad hN2 S => ?_)
    · obtain ⟨ad', hat⟩ := hat
      refine lv_iload C.1 C.2.1 dL_init_275 (lv_at hl 0 rfl) ?_
      refine lv_iload C.1 C.2.1 dL_init_277 (lv_at hl 0 rfl) ?_
      refine lv_iconst (v := 1) C.1 C.2.1 dL_init_279 (by decide) ?_
      refine lv_iadd C.1 C.2.1 dL_init_280 ?_
      refine lv_iload C.1 C.2.1 dL_init_281 (lv_at hl 1 rfl) ?_
      refine lv_iconst (v := 4) C.1 C.2.1 dL_init_283 (by decide) ?_
      refine lv_iconst (v := 4) C.1 C.2.1 dL_init_284 (by decide) ?_
      refine k_callS C Sa hOa [.int (t_cell ns w (4 + k)), .int 4, .int 4] (k_bits l G _ _ _ Ha.size) rfl trivial kv_L_bits tw_3_159 ⟨by have := hR.1; omega, by have := hR.2; omega⟩ rfl rfl (Nat.le_of_ble_eq_true rfl) hl.1 ⟨by omega, by omega⟩ dL_init_285 (fun _ h => h.elim) (fun Hb locsb zb hle okb Sb => ?_)
      have hatb := hat.kept (okb _ hat.lt id)
      have hOb := hOa.call hle okb (fun _ _ h => h)
      refine lv_aload_n C.1 C.2.1 dL_init_288 rfl (lv_at hl 2 rfl) ?_
      refine u_get C hatb cf_11 3 (by decide) (v := .int (τ 40 0 3)) rfl tw_4_99 dL_init_289 ?_
      rw [hF]
      refine lv_iconst (v := 1) C.1 C.2.1 dL_init_292 (by decide) ?_
      refine lv_isub C.1 C.2.1 dL_init_293 ?_
      refine lv_irem C.1 C.2.1 dL_init_294 hF1 ?_
      refine lv_iadd C.1 C.2.1 dL_init_295 ?_
      refine lv_aload_n C.1 C.2.1 dL_init_296 rfl (lv_at hl 2 rfl) ?_
      refine u_get C hatb cf_11 3 (by decide) (v := .int (τ 40 0 3)) rfl tw_4_99 dL_init_297 ?_
      rw [hF]
      refine lv_irem C.1 C.2.1 dL_init_300 hF0 ?_
      show W _ _ _ _ _ _ _ _ _ _ _ _ _ _ _ (F0 m _ ls (.int (t_too ns w F k) :: _))
      refine lv_iload C.1 C.2.1 dL_init_301 (lv_at hl 1 rfl) ?_
      refine lv_bipush (v := 8) C.1 C.2.1 dL_init_303 (by decide) ?_
      refine lv_iconst (v := 4) C.1 C.2.1 dL_init_305 (by decide) ?_
      refine k_callS C Sb hOb [.int (t_cell ns w (4 + k)), .int 8, .int 4] (k_bits l G _ _ _ Hb.size) rfl trivial kv_L_bits tw_3_159 ⟨by have := hR.1; omega, by have := hR.2; omega⟩ rfl rfl (Nat.le_of_ble_eq_true rfl) hl.1 ⟨by omega, by omega⟩ dL_init_306 (fun _ h => h.elim) (fun Hc locsc zc hlec okc Sc => ?_)
      exact kk Hc locsc (zc.trans zb) (fun q hq => (okc q (by omega) id).trans (okb q hq id)) Sc
    · rw [ecst0]
      have e40 := kad 40 0 (by decide) (by decide) (by decide) (by decide)
      have hN3 : N2 = (nc, k + 1, 0, 0) := by rw [hN2, hn]
      subst hN3
      rw [← e40] at hl
      refine lv_iinc (v := nI k + 1) (lv' := [(3, .int (nI k + 1)), (5, .int (t_fro ns w F k)), (4, .int (t_cell ns w (4 + k))), (0, .ref (ad2 40 0)), (1, .ref sa)]) C.1 C.2.1 dL_init_318 hl (k := 4) rfl rfl (by decide) rfl (fun ls hl => ?_)
      refine lv_goto (tgt := 239) C.1 C.2.1 dL_init_321 (by decide) ?_
      rw [← nI_succ] at hl
      refine ih (k + 1) (by omega) ad2 _ H locs ls _ S (e40.trans ha) (lv_sub hl [3, 4, 0] rfl) enn (ecc.trans (if_neg (by omega)).symm) ?_ ?_ h6 hq
      · rw [t_add_x (Or.inl (by decide)), t_new_o (by simp) (by simp) (by simp)]
        exact hF
      · rw [if_neg (show ¬ k + 1 = 0 by omega)]
        split at hcs <;> simp_all <;> omega

set_option maxHeartbeats 4000000 in
set_option maxRecDepth 100000 in
theorem w_L_init_157 {p : Program} {l : Launch} {e : Env} {s : State} {m : MethodId} {args : Array Value} {below : List Frame} {meth : Method} {c : Code} {G : Gx} {A : Nat → Prop} {R : Room} {Q : State → Prop} {sa ns : Nat} {w : Nat → Int32} (hns31 : ns < 2147483648) (hS : x_S G sa ns w) {F x : Int32} (hF0 : ¬ F = 0) {nc : Nat} {a : Nat} (hnc : nc < 10) (hx : 2 + jbits x 27 1 = nI nc) (hR : 7 ≤ R.frames ∧ 157 ≤ R.locals) (C : Cx p s m args meth c yL_init.cls cL_init 6 none G) : ∀ n k, k + n = nc → ∀ (ad : Ad) (τ : Sg) (H : Heap) (locs : List Loc) (ls : Array Slot) (cells : Nat), q_S G ad (k, 0, 0, 0) x_0 τ [] A s.heap H locs → ad 40 0 = a → lv_has ls 6 [(0, .ref (ad 40 0)), (1, .ref sa), (2, .int x), (3, .int (nI k))] → q_nn τ 0 = k → q_cc τ 0 = (if k = 0 then 0 else 10) → q_nn τ 1 = 0 → q_cc τ 1 = 0 → τ 40 0 3 = F → cells + 2 * n + (if k = 0 then 10 else 0) + 50 ≤ R.cells → 6 * R.cells ≤ R.slots →
    (∀ (ad : Ad) (τ' : Sg) (H : Heap) (locs : List Loc) (ls : Array Slot) (cells : Nat), τ' = g_cars ns w F n k τ → q_S G ad (nc, 0, 0, 0) x_0 τ' [] A s.heap H locs → ad 40 0 = a → lv_has ls 6 [(0, .ref (ad 40 0)), (1, .ref sa)] → q_nn τ' 1 = 0 → q_cc τ' 1 = 0 → τ' 40 0 3 = F → cells + 50 ≤ R.cells → W p l e R s m args below meth c H locs cells (6 * cells) Q (F0 m 237 ls [])) → W p l e R s m args below meth c H locs cells (6 * cells) Q (F0 m 157 ls []) := by
  intro n
  induction n with
  | zero =>
    intro k hk ad τ H locs ls cells S ha hl hn hc hn1 hc1 hF hcs h6 hq
    have hkn : k = nc := by omega
    subst hkn
    refine lv_iload_n C.1 C.2.1 dL_init_157 rfl (lv_at hl 3 rfl) ?_
    refine lv_iconst (v := 2) C.1 C.2.1 dL_init_158 (by decide) ?_
    refine lv_iload_n C.1 C.2.1 dL_init_159 rfl (lv_at hl 2 rfl) ?_
    refine lv_bipush (v := 27) C.1 C.2.1 dL_init_160 (by decide) ?_
    refine lv_iconst (v := 1) C.1 C.2.1 dL_init_162 (by decide) ?_
    refine q_callK C S [.int x, .int 27, .int 1] (k_bits l G _ _ _ _) kv_L_bits tw_3_159 ⟨by have := hR.1; omega, by have := hR.2; omega⟩ rfl rfl (Nat.le_of_ble_eq_true rfl) hl.1 ⟨by omega, by omega⟩ dL_init_163 (fun H locs S => ?_)
    refine lv_iadd C.1 C.2.1 dL_init_166 ?_
    rw [hx]
    refine lv_icmp_ge (tgt := 237) C.1 C.2.1 dL_init_167 (by decide) (fun cc => ?_) (fun cc => absurd (nI_le (Nat.le_refl k) (by omega)) cc)
    exact hq ad _ H locs ls cells rfl S ha (lv_sub hl [0, 1] rfl) hn1 hc1 hF (by omega)
  | succ n ih =>
    intro k hk ad τ H locs ls cells S ha hl hn hc hn1 hc1 hF hcs h6 hq
    refine lv_iload_n C.1 C.2.1 dL_init_157 rfl (lv_at hl 3 rfl) ?_
    refine lv_iconst (v := 2) C.1 C.2.1 dL_init_158 (by decide) ?_
    refine lv_iload_n C.1 C.2.1 dL_init_159 rfl (lv_at hl 2 rfl) ?_
    refine lv_bipush (v := 27) C.1 C.2.1 dL_init_160 (by decide) ?_
    refine lv_iconst (v := 1) C.1 C.2.1 dL_init_162 (by decide) ?_
    refine q_callK C S [.int x, .int 27, .int 1] (k_bits l G _ _ _ _) kv_L_bits tw_3_159 ⟨by have := hR.1; omega, by have := hR.2; omega⟩ rfl rfl (Nat.le_of_ble_eq_true rfl) hl.1 ⟨by omega, by omega⟩ dL_init_163 (fun H locs S => ?_)
    refine lv_iadd C.1 C.2.1 dL_init_166 ?_
    rw [hx]
    refine lv_icmp_ge (tgt := 237) C.1 C.2.1 dL_init_167 (by decide) (fun cc => absurd cc (nI_ge (by omega) (by omega))) (fun cc => ?_)
    have hcs2 : cells + 2 + 2 * n + (if k = 0 then 10 else 0) + 50 ≤ R.cells := by omega
    refine q_mkCar C S hl.1 ⟨by have := hR.1; omega, by have := hR.2; omega⟩ (Nat.le_of_ble_eq_true rfl) ⟨by omega, by omega⟩ dL_init_170 dL_init_173 dL_init_174 tw_3_162 (List.mem_of_getElem? (i := 10) rfl) (fun ad2 H locs kad S => ?_)
    have e40 := kad 40 0 (by decide)
    rw [← e40] at hl
    have hO := S.O
    have hF2 : t_newc τ k 40 0 3 = F := by rw [t_newc_o (by simp)]; exact hF
    have hoo : k < (k + 1, 0, 0, 0).1 := Nat.lt_succ_self k
    refine lv_astore (lv' := [(4, .ref (ad2 41 k)), (0, .ref (ad2 40 0)), (1, .ref sa), (2, .int x), (3, .int (nI k))]) C.1 C.2.1 dL_init_177 hl (by decide) rfl (fun ls hl => ?_)
    refine lv_aload_n C.1 C.2.1 dL_init_179 rfl (lv_at hl 2 rfl) ?_
    refine lv_iconst (v := 1) C.1 C.2.1 dL_init_180 (by decide) ?_
    refine lv_iload_n C.1 C.2.1 dL_init_181 rfl (lv_at hl 4 rfl) ?_
    refine lv_iadd C.1 C.2.1 dL_init_182 ?_
    rw [show (1 : Int32) + nI k = nI (1 + k) from nI_lt30 1 k (by omega) (by omega)]
    refine k_callS C S.2.1 hO [.ref sa, .int (nI (1 + k))] (k_cell l G sa ns (1 + k) w hns31 (by omega) H.size) rfl hS kv_L_cell tw_3_104 ⟨by have := hR.1; omega, by have := hR.2; omega⟩ rfl rfl (Nat.le_of_ble_eq_true rfl) hl.1 ⟨by omega, by omega⟩ dL_init_183 (fun _ h => h.elim) (fun H locs hz hle ok S2 => ?_)
    replace S := S.keep hle (fun q hq => ok q hq id) S2
    refine lv_istore (lv' := [(5, .int (t_cell ns w (1 + k))), (4, .ref (ad2 41 k)), (0, .ref (ad2 40 0)), (1, .ref sa), (2, .int x), (3, .int (nI k))]) C.1 C.2.1 dL_init_186 hl (by decide) rfl (fun ls hl => ?_)
    refine lv_aload C.1 C.2.1 dL_init_188 (lv_at hl 1 rfl) ?_
    refine lv_iload C.1 C.2.1 dL_init_190 (lv_at hl 0 rfl) ?_
    refine lv_iconst (v := 0) C.1 C.2.1 dL_init_192 (by decide) ?_
    refine lv_iconst (v := 4) C.1 C.2.1 dL_init_193 (by decide) ?_
    refine q_callK C S [.int (t_cell ns w (1 + k)), .int 0, .int 4] (k_bits l G _ _ _ _) kv_L_bits tw_3_159 ⟨by have := hR.1; omega, by have := hR.2; omega⟩ rfl rfl (Nat.le_of_ble_eq_true rfl) hl.1 ⟨by omega, by omega⟩ dL_init_194 (fun H locs S => ?_)
    refine lv_aload_n C.1 C.2.1 dL_init_197 rfl (lv_at hl 2 rfl) ?_
    refine q_getI C S 40 0 rfl rfl cf_11 3 (by decide) (qi_40_3 G _ 0) tw_4_99 dL_init_198 ?_
    rw [hF2]
    refine lv_irem C.1 C.2.1 dL_init_201 hF0 ?_
    show W _ _ _ _ _ _ _ _ _ _ _ _ _ _ _ (F0 m _ ls (.int (jrem (jbits (t_cell ns w (1 + k)) 0 4) F) :: _))
    refine q_putIN C S 41 k 0 rfl rfl hoo cf_9 0 (by decide) (qp_41_0 G _ k _) rfl rfl rfl (List.mem_of_getElem? (i := 11) rfl) dL_init_202 (fun H locs S => ?_)
    refine lv_aload C.1 C.2.1 dL_init_205 (lv_at hl 1 rfl) ?_
    refine lv_iconst (v := 1) C.1 C.2.1 dL_init_207 (by decide) ?_
    refine lv_iload C.1 C.2.1 dL_init_208 (lv_at hl 0 rfl) ?_
    refine lv_iconst (v := 4) C.1 C.2.1 dL_init_210 (by decide) ?_
    refine lv_iconst (v := 1) C.1 C.2.1 dL_init_211 (by decide) ?_
    refine q_callK C S [.int (t_cell ns w (1 + k)), .int 4, .int 1] (k_bits l G _ _ _ _) kv_L_bits tw_3_159 ⟨by have := hR.1; omega, by have := hR.2; omega⟩ rfl rfl (Nat.le_of_ble_eq_true rfl) hl.1 ⟨by omega, by omega⟩ dL_init_212 (fun H locs S => ?_)
    refine lv_iadd C.1 C.2.1 dL_init_215 ?_
    refine q_putIN C S 41 k 1 rfl rfl hoo cf_9 1 (by decide) (qp_41_1 G _ k _) rfl rfl rfl (List.mem_of_getElem? (i := 12) rfl) dL_init_216 (fun H locs S => ?_)
    generalize hτ1 : sup (sup (t_newc τ k) 41 k 0 (jrem (jbits (t_cell ns w (1 + k)) 0 4) F)) 41 k 1 (1 + jbits (t_cell ns w (1 + k)) 4 1) = τ1 at S
    have e1 : ∀ q i j, q ≠ 41 → τ1 q i j = τ q i j := fun q i j hq => by
      rw [← hτ1]
      unfold sup
      rw [if_neg (fun z => hq z.1), if_neg (fun z => hq z.1), t_newc_o (fun z => hq z.1)]
    have en0 : q_nn τ1 0 = k := by unfold q_nn; rw [e1 50 0 2 (by decide)]; exact hn
    have ec0 : q_cc τ1 0 = if k = 0 then 0 else 10 := by unfold q_cc; rw [e1 50 0 3 (by decide)]; exact hc
    obtain ⟨ecap, ecst, enn, ecc⟩ := q_cc10 en0 (by omega) ec0
    refine lv_aload_n C.1 C.2.1 dL_init_219 rfl (lv_at hl 2 rfl) ?_
    refine q_getR C S 40 0 50 0 rfl rfl rfl cf_11 0 (by decide) (qr_40_0 G _ 0) tw_4_96 dL_init_220 ?_
    refine lv_aload C.1 C.2.1 dL_init_223 (lv_at hl 1 rfl) ?_
    have row := q_lsAdd (l := l) (e := e) (below := below) (pc := 225) (ls := ls) (rest := []) (cells := cells + 2) (slots := 6 * (cells + 2)) (Q := Q) (R := R) C S 0 (Or.inl rfl) (by rw [q_mk0, en0]; exact Nat.lt_succ_self k) (by rw [ec0]; split <;> omega) tw_3_194 ⟨by have := hR.1; omega, by have := hR.2; omega⟩ (by decide) hl.1 (by rw [ecst]; constructor <;> omega) dL_init_225 (fun H locs S => by
      rw [ecst]
      refine lv_pop C.1 C.2.1 dL_init_230 rfl ?_
      refine W.widen (k := cells + 2 + (if k = 0 then 10 else 0)) (n := 6 * (cells + 2 + (if k = 0 then 10 else 0))) (by omega) (by omega) ?_
      refine lv_iinc (v := nI k + 1) (lv' := [(3, .int (nI k + 1)), (5, .int (t_cell ns w (1 + k))), (4, .ref (ad2 41 k)), (0, .ref (ad2 40 0)), (1, .ref sa), (2, .int x)]) C.1 C.2.1 dL_init_231 hl (k := 5) rfl rfl (by decide) rfl (fun ls hl => ?_)
      refine lv_goto (tgt := 157) C.1 C.2.1 dL_init_234 (by decide) ?_
      rw [← nI_succ] at hl
      refine ih (k + 1) (by omega) ad2 _ H locs ls _ S (e40.trans ha) (lv_sub hl [3, 4, 5, 0] rfl) enn (ecc.trans (if_neg (by omega)).symm) ?_ ?_ ?_ ?_ h6 (fun ad' τ' H' locs' ls' cells' hτ => hq ad' τ' H' locs' ls' cells' (hτ.trans (by rw [← hτ1]; rfl)))
      · unfold q_nn; rw [t_add_x (Or.inr (by decide)), e1 50 1 2 (by decide)]; exact hn1
      · unfold q_cc; rw [t_add_x (Or.inr (by decide)), e1 50 1 3 (by decide)]; exact hc1
      · rw [t_add_x (Or.inl (by decide)), e1 40 0 3 (by decide)]; exact hF
      · rw [if_neg (show ¬ k + 1 = 0 by omega)]
        omega)
    rw [en0] at row
    exact row

