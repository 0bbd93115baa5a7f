/-! appending beside the law's world -/
section BRW
variable {p : Program} {l : Launch} {e : Env} {R : Room} {s : State} {m : MethodId} {args : Array Value} {below : List Frame} {meth : Method} {c : Code} {H : Heap} {locs : List Loc} {cells slots : Nat} {Q : State → Prop}
variable {cc : ByteArray} {pc : Nat} {ls : Array Slot} {rest : List Value} {own : String} {nL : Nat} {ret : Option FieldType} {G : Gx} {ad : Ad} {N : Nn} {Y : Ex} {τ : Sg} {its : List It} {A : Nat → Prop} {H0 : Heap} {a : Nat} {x : Tx}
theorem q_appSr (C : Cx p s m args meth c own cc nL ret G) (hY : x_clo Y) (B : q_B G ad N Y τ its A H0 H locs a x) {i1 i2 : Nat} {tx : String} (w : Nat) (hw : w < 18) (hq : (own, i1, tx, 10 + w) ∈ z_txts) (hl : Cond.methodLink own i2 yJ4_append_15ec4 ∈ TT) (hn : x.1 + (tx_S w).1 ≤ 240) (hR : 5 + 1 ≤ R.frames ∧ 8 + (2 + 11) + 113 ≤ R.locals) (hW8 : (rest.map fun v => v.category).sum ≤ 8) (hls : ls.size = nL) (hcs : cells + 1 ≤ R.cells ∧ slots + 500 ≤ R.slots)
    (d1 : decode cc pc = .ok (.ldc i1, 2)) (d2 : decode cc (pc + 2) = .ok (.invokevirtual i2, 3))
    (kk : ∀ (H1 : Heap) (locs1 : List Loc), q_B G ad N Y τ its A H0 H1 locs1 a (tx_ap x (tx_S w)) → W p l e R s m args below meth c H1 locs1 (cells + 1) (slots + 500) Q (F0 m (pc + 5) ls (.ref a :: rest))) : W p l e R s m args below meth c H locs cells slots Q (F0 m pc ls (.ref a :: rest)) := by
  obtain ⟨v, S, ha, hv⟩ := B
  have hO := S.O
  obtain ⟨k1, hGa, hGv, hav, hYn⟩ := S.1.choose_spec.2.2.2.2.1.1
  obtain ⟨⟨c1, g1, -⟩, -, -, ⟨c2, g2, -⟩⟩ := z_sstr C w hw
  have l1 := (Array.getElem?_eq_some_iff.mp g1).1
  have l2 := (Array.getElem?_eq_some_iff.mp g2).1
  have hA := S.2.2
  have hS1 := S.2.1.1
  refine va_ldcS C.1 C.2.1 C.2.2.2.1 (C.2.2.2.2.2.1.2.2.2.1 _ hq) d1 ?_
  refine k_callV C S.2.1 hO (u_clsO C.2.2.2.2.2.1 k1.1 cf_14.1) [.ref (G.2.2.2 (10 + w))] (k_appS l G a v x.1 (G.2.2.2 (10 + w)) (G.2.2.2 (40 + w)) (tx_S w).1 x.2 (tx_S w).2 hn hGa hav ⟨by omega, by omega, by omega, by omega⟩ (tx_Sfit w hw) H.size) rfl ⟨k1, Or.inl ⟨w, hw, rfl, rfl, rfl, rfl⟩⟩ kv_J4_append_15ec4 hl hR rfl rfl hW8 hls hcs d2 (fun q h => by rcases h with h | h | h <;> exact hA q (by omega)) (fun H1 locs1 hp hle ok S2 => ?_)
  obtain ⟨v2, hsb, hv2⟩ := hp
  exact kk H1 locs1 (q_B.after (x2 := tx_ap x (tx_S w)) hY S ha hv hle ok S2 hsb hv2)
theorem q_appNr (C : Cx p s m args meth c own cc nL ret G) (hY : x_clo Y) (B : q_B G ad N Y τ its A H0 H locs a x) {i2 : Nat} (d : Nat) (hd : d < 10000) (hl : Cond.methodLink own i2 yJ4_append_bf812 ∈ TT) (hn : x.1 + (tx_N d).1 ≤ 240) (hR : 5 + 1 ≤ R.frames ∧ 8 + (2 + 11) + 114 ≤ R.locals) (hW8 : (rest.map fun v => v.category).sum ≤ 8) (hls : ls.size = nL) (hcs : cells + 1 ≤ R.cells ∧ slots + 500 ≤ R.slots)
    (d2 : decode cc pc = .ok (.invokevirtual i2, 3))
    (kk : ∀ (H1 : Heap) (locs1 : List Loc), q_B G ad N Y τ its A H0 H1 locs1 a (tx_ap x (tx_N d)) → W p l e R s m args below meth c H1 locs1 (cells + 1) (slots + 500) Q (F0 m (pc + 3) ls (.ref a :: rest))) : W p l e R s m args below meth c H locs cells slots Q (F0 m pc ls (.int (nI d) :: .ref a :: rest)) := by
  obtain ⟨v, S, ha, hv⟩ := B
  have hO := S.O
  obtain ⟨k1, hGa, hGv, hav, hYn⟩ := S.1.choose_spec.2.2.2.2.1.1
  have hA := S.2.2
  have hS1 := S.2.1.1
  refine k_callV C S.2.1 hO (u_clsO C.2.2.2.2.2.1 k1.1 cf_14.1) [.int (nI d)] (k_appI l G a v x.1 d x.2 hn hd hGa hGv hav H.size) rfl k1 kv_J4_append_bf812 hl hR rfl rfl hW8 hls hcs d2 (fun q h => by rcases h with h | h | h <;> exact hA q (by omega)) (fun H1 locs1 hp hle ok S2 => ?_)
  obtain ⟨v2, hsb, hv2⟩ := hp
  exact kk H1 locs1 (q_B.after (x2 := tx_ap x (tx_N d)) hY S ha hv hle ok S2 hsb hv2)
theorem q_appCr (C : Cx p s m args meth c own cc nL ret G) (hY : x_clo Y) (B : q_B G ad N Y τ its A H0 H locs a x) {i2 : Nat} (ch : Int32) (hch : ¬ 255 < ch ∧ ch.toInt8.toInt32 = ch ∧ vp_nar .byte ch = ch ∧ fits .byte (.int ch) = true) (hl : Cond.methodLink own i2 yJ4_append_cf468 ∈ TT) (hn : x.1 + (tx_C ch).1 ≤ 240) (hR : 5 + 1 ≤ R.frames ∧ 8 + (2 + 11) + 112 ≤ R.locals) (hW8 : (rest.map fun v => v.category).sum ≤ 8) (hls : ls.size = nL) (hcs : cells + 1 ≤ R.cells ∧ slots + 500 ≤ R.slots)
    (d2 : decode cc pc = .ok (.invokevirtual i2, 3))
    (kk : ∀ (H1 : Heap) (locs1 : List Loc), q_B G ad N Y τ its A H0 H1 locs1 a (tx_ap x (tx_C ch)) → W p l e R s m args below meth c H1 locs1 (cells + 1) (slots + 500) Q (F0 m (pc + 3) ls (.ref a :: rest))) : W p l e R s m args below meth c H locs cells slots Q (F0 m pc ls (.int ch :: .ref a :: rest)) := by
  obtain ⟨v, S, ha, hv⟩ := B
  have hO := S.O
  obtain ⟨k1, hGa, hGv, hav, hYn⟩ := S.1.choose_spec.2.2.2.2.1.1
  have hA := S.2.2
  have hS1 := S.2.1.1
  refine k_callV C S.2.1 hO (u_clsO C.2.2.2.2.2.1 k1.1 cf_14.1) [.int ch] (k_appC l G a v x.1 ch x.2 hn hch hGa hGv hav H.size) rfl k1 kv_J4_append_cf468 hl hR rfl rfl hW8 hls hcs d2 (fun q h => by rcases h with h | h | h <;> exact hA q (by omega)) (fun H1 locs1 hp hle ok S2 => ?_)
  obtain ⟨v2, hsb, hv2⟩ := hp
  exact kk H1 locs1 (q_B.after (x2 := tx_ap x (tx_C ch)) hY S ha hv hle ok S2 hsb hv2)
/-- toString(): all that stands is as before; the string is new -/
theorem q_toStr (C : Cx p s m args meth c own cc nL ret G) (B : q_B G ad N Y τ its A H0 H locs a x) {i2 : Nat} (hl : Cond.methodLink own i2 yJ4_toString_0e30d ∈ TT) (hR : 5 + 1 ≤ R.frames ∧ 8 + (1 + 11) + 117 ≤ R.locals) (hW8 : (rest.map fun v => v.category).sum ≤ 8) (hls : ls.size = nL) (hcs : cells + 2 ≤ R.cells ∧ slots + 504 ≤ R.slots)
    (d2 : decode cc pc = .ok (.invokevirtual i2, 3))
    (kk : ∀ (H1 : Heap) (locs1 : List Loc) (t2 : Nat → Int32), q_B G ad N Y τ its A H0 H1 locs1 a x → H1.size = H.size + 2 → k_str G H.size (H.size + 1) x.1 t2 H1 → (∀ j, j < x.1 → t2 j = x.2 j) → W p l e R s m args below meth c H1 locs1 (cells + 2) (slots + 504) Q (F0 m (pc + 3) ls (.ref H.size :: rest))) : W p l e R s m args below meth c H locs cells slots Q (F0 m pc ls (.ref a :: rest)) := by
  obtain ⟨v, S, ha, hv⟩ := B
  have hO := S.O
  obtain ⟨k1, hGa, hGv, hav, hYn⟩ := S.1.choose_spec.2.2.2.2.1.1
  have hA := S.2.2
  have hS1 := S.2.1.1
  refine k_callV C S.2.1 hO (u_clsO C.2.2.2.2.2.1 k1.1 cf_14.1) [] (k_toStr l G a v x.1 x.2 H.size) rfl k1 kv_J4_toString_0e30d hl hR rfl rfl hW8 hls hcs d2 (fun q h => hA q (by omega)) (fun H1 locs1 hp hle ok S2 => ?_)
  obtain ⟨z1, t2, hs, ht⟩ := hp
  exact kk H1 locs1 t2 ⟨v, S.keep hle (fun q hq => ok q hq (by omega)) S2, ha, hv⟩ z1 hs ht
end BRW
theorem ch_32 : ¬ (255 : Int32) < 32 ∧ (32 : Int32).toInt8.toInt32 = 32 ∧ vp_nar .byte 32 = 32 ∧ fits .byte (.int 32) = true := by decide +kernel
theorem ch_59 : ¬ (255 : Int32) < 59 ∧ (59 : Int32).toInt8.toInt32 = 59 ∧ vp_nar .byte 59 = 59 ∧ fits .byte (.int 59) = true := by decide +kernel
/-- a number of the world that is printed -/
def q_d (τ : Sg) (k o f : Nat) : Nat := (τ k o f).toNatClampNeg
def q_num (τ : Sg) (k o f : Nat) : Prop := τ k o f = nI (q_d τ k o f) ∧ q_d τ k o f < 10000
def g_hdr (τ : Sg) : Tx := tx_ap (tx_ap (tx_ap (tx_ap (tx_ap (tx_ap (tx_ap (tx_ap (tx_ap (tx_ap (tx_ap (tx_ap (tx_ap (0, fun _ => 0) (tx_S 9)) (tx_N (q_d τ 40 0 3))) (tx_S 10)) (tx_N (q_d τ 40 0 8))) (tx_S 11)) (tx_N (q_d τ 40 0 9))) (tx_S 12)) (tx_N (q_d τ 40 0 10))) (tx_S 13)) (tx_N (q_d τ 40 0 11))) (tx_S 14)) (tx_N (q_d τ 40 0 13))) (tx_S 15)
def g_carT (τ : Sg) (i : Nat) (x : Tx) : Tx := tx_ap (tx_ap (tx_ap (tx_ap (tx_ap x (tx_S 16)) (tx_N (q_d τ 41 i 0))) (tx_C 32)) (tx_N (q_d τ 41 i 1))) (tx_C 59)
def g_carsT (τ : Sg) : Nat → Nat → Tx → Tx
  | 0, _, x => x
  | n + 1, i, x => g_carsT τ n (i + 1) (g_carT τ i x)
def g_calT (τ : Sg) (i : Nat) (x : Tx) : Tx := tx_ap (tx_ap (tx_ap (tx_ap (tx_ap (tx_ap (tx_ap x (tx_S 17)) (tx_N (q_d τ 42 i 2))) (tx_C 32)) (tx_N (q_d τ 42 i 0))) (tx_C 32)) (tx_N (q_d τ 42 i 1))) (tx_C 59)
def g_calsT (τ : Sg) : Nat → Nat → Tx → Tx
  | 0, _, x => x
  | n + 1, i, x => g_calsT τ n (i + 1) (g_calT τ i x)
theorem g_carsT_le (τ : Sg) : ∀ n i x, x.1 ≤ (g_carsT τ n i x).1 := by
  intro n
  induction n with
  | zero => exact fun i x => Nat.le_refl _
  | succ n ih => exact fun i x => Nat.le_trans (by show x.1 ≤ x.1 + _ + _ + _ + _ + _; omega) (ih (i + 1) (g_carT τ i x))
theorem g_calsT_le (τ : Sg) : ∀ n i x, x.1 ≤ (g_calsT τ n i x).1 := by
  intro n
  induction n with
  | zero => exact fun i x => Nat.le_refl _
  | succ n ih => exact fun i x => Nat.le_trans (by show x.1 ≤ x.1 + _ + _ + _ + _ + _ + _ + _; omega) (ih (i + 1) (g_calT τ i x))

