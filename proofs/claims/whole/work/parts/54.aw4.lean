/-! rows for the law's wrappers: longs, what is caught -/
def lV (z : Int) : Value := .long (Int64.ofInt z)
theorem i2l_of {z : Int} (h : inR z) : (Int32.ofInt z).toInt64 = Int64.ofInt z := by
  apply Int64.toInt_inj.mp
  rw [Int32.toInt_toInt64, ri h, Int64.toInt_ofInt_of_le (by have := h.1; omega) (by have := h.2; omega)]
section WLX
variable {p : Program} {l : Launch} {e : Env} {R : Room} {s : State} {m : MethodId} {args : Array Value} {below : List Frame} {meth : Method} {c : Code} {H : Heap} {locs : List Loc} {cells slots : Nat} {Q : State → Prop}
theorem ww_i2l {cc : ByteArray} (hexec : p.tables.exec = Jvm.exec) (hb : c.code = cc) {x : Int32} {pc : Nat} {ls : Array Slot} {rest : List Value} (hdg : decode cc pc = .ok (.i2l, 1))
    (k : W p l e R s m args below meth c H locs cells slots Q (F0 m (pc + 1) ls (.long x.toInt64 :: rest))) : W p l e R s m args below meth c H locs cells slots Q (F0 m pc ls (.int x :: rest)) := by
  intro T hT X
  obtain ⟨t, a, b⟩ := k T hT X
  refine ⟨t, ?_, b⟩
  jvm_step X.here [X.here.top, hexec, hb, hdg]
  exact a
theorem ww_lconst {cc : ByteArray} (hexec : p.tables.exec = Jvm.exec) (hb : c.code = cc) {i : Fin 2} {v : Int64} {pc : Nat} {ls : Array Slot} {rest : List Value} (hdg : decode cc pc = .ok (.lconst i, 1)) (hv : Int64.ofNat i.val = v)
    (k : W p l e R s m args below meth c H locs cells slots Q (F0 m (pc + 1) ls (.long v :: rest))) : W p l e R s m args below meth c H locs cells slots Q (F0 m pc ls rest) := by
  subst hv
  intro T hT X
  obtain ⟨t, a, b⟩ := k T hT X
  refine ⟨t, ?_, b⟩
  jvm_step X.here [X.here.top, hexec, hb, hdg]
  exact a
end WLX
section AWL
variable {K : WPar} {l : Launch} {μ : MInfo} {Z : ZT} {pc : Nat} {L : List (Option Value)} {st : List Value} {M : Mem} {cells slots : Nat}
theorem aw_i2l {z : Int} (h : inR z) (hd : decode μ.2.1 pc = .ok (.i2l, 1)) (kk : AW K l μ Z (pc + 1) L (lV z :: st) M cells slots) : AW K l μ Z pc L (iV z :: st) M cells slots := by
  intro p e s m args below meth c H locs ls C hl hW hS
  refine ww_i2l C.1 C.2.1 hd ?_
  rw [i2l_of h]
  exact kk p e s m args below meth c H locs ls C hl hW hS
theorem aw_lconst {i : Fin 2} {z : Int} (hd : decode μ.2.1 pc = .ok (.lconst i, 1)) (hv : Int64.ofNat i.val = Int64.ofInt z) (kk : AW K l μ Z (pc + 1) L (lV z :: st) M cells slots) : AW K l μ Z pc L st M cells slots := by
  intro p e s m args below meth c H locs ls C hl hW hS
  exact ww_lconst C.1 C.2.1 hd hv (kk p e s m args below meth c H locs ls C hl hW hS)
end AWL
