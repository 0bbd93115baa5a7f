/-! doubles and floats: contracts and ends -/
abbrev Xd : Type := Nat × UInt64 × Sg
def bxd (x : Option Xr) (f : Int32 → Sg → Option Xd) : Option Xd := x.bind (fun q => if q.1 = 0 then f q.2.1 q.2.2 else if q.2.1 = 0 then some (q.1, 0, q.2.2) else none)
theorem bxdb {x : Option Xr} {f : Int32 → Sg → Option Xd} {r : Xd} (h : bxd x f = some r) : ∃ (c : Nat) (v : Int32) (y : Sg), x = some (c, v, y) ∧ (c ≠ 0 → (c, v, y) = (r.1, 0, r.2.2)) ∧ (c = 0 → f v y = some r) := by
  obtain ⟨⟨c, v, y⟩, h1, h2⟩ := bd h
  dsimp only at h2
  refine ⟨c, v, y, h1, fun hq => ?_, fun hq => ?_⟩
  · rw [if_neg hq] at h2
    by_cases hv : v = 0
    · rw [if_pos hv] at h2; cases h2; rw [hv]
    · rw [if_neg hv] at h2; cases h2
  · rw [if_pos hq] at h2; exact h2
def z_MD (l : Launch) (y : MethodName) (bytes : ByteArray) (maxL : Nat) (ret : Option FieldType) (fr lo b : Nat) (G : Gx) (ad : Ad) (σ : Sg) (sz : Nat) (av : List Value) (r : UInt64) (σ' : Sg) : Prop :=
  Met l y (z_ws y bytes maxL ret) { frames := fr, cells := 0, slots := 0, locals := lo } (va_Pc av (z_Pre b G ad σ sz)) (va_Qd (S := Unit) (fun r1 _ => r1 = r) (fun _ t => z_W b G ad σ' t.heap) (z_A b ad sz)) 0 0 (z_A b ad sz)
def z_MF (l : Launch) (y : MethodName) (bytes : ByteArray) (maxL : Nat) (ret : Option FieldType) (fr lo b : Nat) (G : Gx) (ad : Ad) (σ : Sg) (sz : Nat) (av : List Value) (r : UInt32) (σ' : Sg) : Prop :=
  Met l y (z_ws y bytes maxL ret) { frames := fr, cells := 0, slots := 0, locals := lo } (va_Pc av (z_Pre b G ad σ sz)) (va_Qf (S := Unit) (fun r1 _ => r1 = r) (fun _ t => z_W b G ad σ' t.heap) (z_A b ad sz)) 0 0 (z_A b ad sz)
def z_QXD (b : Nat) (G : Gx) (ad : Ad) (sz : Nat) (res : Xd) : Array Value → State → Outcome → State → Prop := va_Qd (S := Unit) (fun r1 _ => res.1 = 0 ∧ r1 = res.2.1) (fun _ t => z_W b G ad res.2.2 t.heap) (z_A b ad sz)
def z_XD (l : Launch) (y : MethodName) (bytes : ByteArray) (maxL : Nat) (ret : Option FieldType) (fr lo mc ms b : Nat) (G : Gx) (ad : Ad) (σ : Sg) (sz : Nat) (av : List Value) (res : Xd) : Prop :=
  vx_Met l y (z_ws y bytes maxL ret) { frames := fr, cells := mc, slots := ms, locals := lo } (va_Pc av (z_Pre b G ad σ sz)) (z_QXD b G ad sz res) (z_XC b G ad sz (res.1, 0, res.2.2)) mc ms (z_A b ad sz)
section ZD
variable {p : Program} {l : Launch} {e : Env} {R : Room} {s : State} {m : MethodId} {args : Array Value} {below : List Frame} {meth : Method} {c : Code} {H : Heap} {locs : List Loc} {cells slots mc ms : Nat} {Q : State → Prop}
variable {cc : ByteArray} {pc : Nat} {ls : Array Slot} {rest : List Value} {own : String} {nL : Nat} {ret : Option FieldType} {G : Gx} {b : Nat} {ad : Ad} {σ σ' : Sg} {XC : String → State → State → Prop}
theorem z_dret {r v : UInt64} (C : Cx p s m args meth c own cc nL (some .double) G) (S : z_S b G ad σ (z_A b ad s.heap.size) s.heap H locs) (hf : (some (v, σ) : Option (UInt64 × Sg)) = some (r, σ')) (hdg : decode cc pc = .ok (.dreturn, 1)) :
    W p l e R s m args below meth c H locs cells slots (MQ below (va_Qd (S := Unit) (fun r1 _ => r1 = r) (fun _ t => z_W b G ad σ' t.heap) (z_A b ad s.heap.size)) args s cells slots (z_A b ad s.heap.size)) (F0 m pc ls [.double v]) := by
  cases hf
  obtain ⟨x1, x2, x3, x4, x5, x6, x7, x8⟩ := C
  exact W.dret x1 x2 x8 (fun t ht hW => ⟨⟨_, (), rfl, rfl, by show z_W b G ad σ t.heap; rw [ht]; exact S.1⟩, S.2.1.F ht⟩) S.2.1.2.2 hdg x7
theorem z_fret {r v : UInt32} (C : Cx p s m args meth c own cc nL (some .float) G) (S : z_S b G ad σ (z_A b ad s.heap.size) s.heap H locs) (hf : (some (v, σ) : Option (UInt32 × Sg)) = some (r, σ')) (hdg : decode cc pc = .ok (.freturn, 1)) :
    W p l e R s m args below meth c H locs cells slots (MQ below (va_Qf (S := Unit) (fun r1 _ => r1 = r) (fun _ t => z_W b G ad σ' t.heap) (z_A b ad s.heap.size)) args s cells slots (z_A b ad s.heap.size)) (F0 m pc ls [.float v]) := by
  cases hf
  obtain ⟨x1, x2, x3, x4, x5, x6, x7, x8⟩ := C
  exact W.fret x1 x2 x8 (fun t ht hW => ⟨⟨_, (), rfl, rfl, by show z_W b G ad σ t.heap; rw [ht]; exact S.1⟩, S.2.1.F ht⟩) S.2.1.2.2 hdg x7
theorem z_xdret {v : UInt64} {res : Xd} (C : Cx p s m args meth c own cc nL (some .double) G) (S : z_S b G ad σ (z_A b ad s.heap.size) s.heap H locs) (hf : (some (0, v, σ) : Option Xd) = some res) (hc : cells ≤ mc) (hs : slots ≤ ms) (hdg : decode cc pc = .ok (.dreturn, 1)) :
    W p l e R s m args below meth c H locs cells slots (vx_MQ below (z_QXD b G ad s.heap.size res) XC args s mc ms (z_A b ad s.heap.size)) (F0 m pc ls [.double v]) := by
  cases hf
  obtain ⟨x1, x2, x3, x4, x5, x6, x7, x8⟩ := C
  exact vx_ret (W.widen hc hs (W.dret x1 x2 x8 (fun t ht hW => ⟨⟨_, (), rfl, ⟨rfl, rfl⟩, by show z_W b G ad σ t.heap; rw [ht]; exact S.1⟩, S.2.1.F ht⟩) S.2.1.2.2 hdg x7))
theorem nd64 {x : UInt64} (h : ¬ ¬ (x &&& 0x7fffffffffffffff ≤ 0x7ff0000000000000)) : vf_n64 x := Classical.not_not.mp h
theorem nd32 {x : UInt32} (h : ¬ ¬ (x &&& 0x7fffffff ≤ 0x7f800000)) : vf_n32 x := Classical.not_not.mp h
end ZD
