/-! rows for the law's wrappers: longs, what is caught -/
def lV (z : Int) : Value := .long (Int64.ofInt z)
theorem i2l_of {z : Int} (h : inR z) : (Int32.ofInt z).toInt64 = Int64.ofInt z := by
  apply Int64.toInt_inj.mp
  rw [Int32.toInt_toInt64, ri h, Int64.toInt_ofInt_of_le (by have := h.1; omega) (by have := h.2; omega)]
section WLX
variable {p : Program} {l : Launch} {e : Env} {R : Room} {s : State} {m : MethodId} {args : Array Value} {below : List Frame} {meth : Method} {c : Code} {H : Heap} {locs : List Loc} {cells slots : Nat} {Q : State → Prop}
theorem ww_i2l {cc : ByteArray} (hexec : p.tables.exec = Jvm.exec) (hb : c.code = cc) {x : Int32} {pc : Nat} {ls : Array Slot} {rest : List Value} (hdg : decode cc pc = .ok (.i2l, 1))
    (k : W p l e R s m args below meth c H locs cells slots Q (F0 m (pc + 1) ls (.long x.toInt64 :: rest))) : W p l e R s m args below meth c H locs cells slots Q (F0 m pc ls (.int x :: rest)) := by
  intro T hT X
  obtain ⟨t, a, b⟩ := k T hT X
  refine ⟨t, ?_, b⟩
  jvm_step X.here [X.here.top, hexec, hb, hdg]
  exact a
theorem ww_lconst {cc : ByteArray} (hexec : p.tables.exec = Jvm.exec) (hb : c.code = cc) {i : Fin 2} {v : Int64} {pc : Nat} {ls : Array Slot} {rest : List Value} (hdg : decode cc pc = .ok (.lconst i, 1)) (hv : Int64.ofNat i.val = v)
    (k : W p l e R s m args below meth c H locs cells slots Q (F0 m (pc + 1) ls (.long v :: rest))) : W p l e R s m args below meth c H locs cells slots Q (F0 m pc ls rest) := by
  subst hv
  intro T hT X
  obtain ⟨t, a, b⟩ := k T hT X
  refine ⟨t, ?_, b⟩
  jvm_step X.here [X.here.top, hexec, hb, hdg]
  exact a
end WLX
section AWL
variable {K : WPar} {l : Launch} {μ : MInfo} {Z : ZT} {pc : Nat} {L : List (Option Value)} {st : List Value} {M : Mem} {cells slots : Nat}
theorem aw_i2l {z : Int} (h : inR z) (hd : decode μ.2.1 pc = .ok (.i2l, 1)) (kk : AW K l μ Z (pc + 1) L (lV z :: st) M cells slots) : AW K l μ Z pc L (iV z :: st) M cells slots := by
  intro p e s m args below meth c H locs ls C hl hW hS
  refine ww_i2l C.1 C.2.1 hd ?_
  rw [i2l_of h]
  exact kk p e s m args below meth c H locs ls C hl hW hS
theorem aw_lconst {i : Fin 2} {z : Int} (hd : decode μ.2.1 pc = .ok (.lconst i, 1)) (hv : Int64.ofNat i.val = Int64.ofInt z) (kk : AW K l μ Z (pc + 1) L (lV z :: st) M cells slots) : AW K l μ Z pc L st M cells slots := by
  intro p e s m args below meth c H locs ls C hl hW hS
  exact ww_lconst C.1 C.2.1 hd hv (kk p e s m args below meth c H locs ls C hl hW hS)
theorem aw_last {g n x : Nat} {fs : List (Option Nat)} {i j v : Int} {M' : Mem} (hk : gk g = (3, n, x, fs)) (hn : n ≤ 2147483647) (hd : decode μ.2.1 pc = .ok (.lastore, 1)) (hi : 0 ≤ i ∧ i < gcnt g) (hj : 0 ≤ j ∧ j < (n : Int)) (hr : inR v) (hM' : updM M g i j v = M') (kk : AW K l μ Z (pc + 1) L st M' cells slots) : AW K l μ Z pc L (lV v :: iV j :: rV K g i :: st) M cells slots := by
  subst hM'
  intro p e s m args below meth c H locs ls C hl2 hW hS
  have hR : inR j := by omega
  have hP := wd_one hW g i hi.1 hi.2 (cellOf_longs hk)
  have hK := C.2.2.2.2.2.2.2.2.1
  have hAD : ADK K := C.2.2.2.2.2.2.2.2.2.2.1
  refine W.last C.1 C.2.1 (hP 0 _ rfl) ((hK.2 1 _ rfl).1 n (fun t => .long (Int64.ofInt (M g i (t : Int))))) (fun q => by cases q) (by show ¬ (_ ∨ (arrV _ _ _).slots.size ≤ _); rw [arrV_size]; exact r_vin hj.1 hj.2 hR) rfl rfl hd fun H1 e1 z oq => ?_
  have hnew : va_at K.1 vwCl (kad K g i, cellOf K (updM M g i j v) g i) H1 := by
    rw [cellOf_longs hk]
    show H1[kad K g i]? = some (vp_cell _ _)
    rw [e1]
    first | rw [vp_cell_l, vp_cell_l] | simp only [vp_cell]
    rw [arrV_store, rn hR]
    congr 2
    funext q
    by_cases hq : q = j.toNat
    · subst hq
      rw [Int.toNat_of_nonneg hj.1, updM_same]
      simp [updV]
    · rw [updM_j (show (q : Int) ≠ j by omega)]
      simp [updV, hq]
  exact kk p e s m args below meth c H1 _ ls C hl2 (wd_upd hAD hW hi.1 hi.2 hnew oq (updM_r hW.1 hr) (fun g' i' q => updM_o q)) (hS.put z oq (hAD.2 g i hi.1 hi.2))
end AWL
theorem lwk_rf : ∀ L : List (Option Value), lwk L L
  | [] => trivial
  | _ :: r => ⟨Or.inr rfl, lwk_rf r⟩
theorem lwk_set : ∀ (L : List (Option Value)) (i : Nat) (v : Value), L[i]? = some none → lwk (L.set i (some v)) L
  | [], _, _, h => by simp at h
  | a :: r, 0, v, h => by
    have : a = none := by simpa using h
    subst this
    exact ⟨Or.inl rfl, lwk_rf r⟩
  | a :: r, i + 1, v, h => ⟨Or.inr rfl, lwk_set r i v (by simpa using h)⟩
section AWC
variable {K : WPar} {l : Launch} {μ : MInfo} {Z : ZT} {pc : Nat} {L : List (Option Value)} {st : List Value} {M : Mem} {cells slots : Nat}
/-- a thrown exception is caught here -/
theorem ax_catch {E name : String} {i : Nat} (pre : List ExceptionTableEntry) (x : ExceptionTableEntry) (suf : List ExceptionTableEntry) (hsplit : tableOf μ.2.2.2.2.2.2 = pre ++ x :: suf)
    (hpass : ∀ z ∈ pre, covers z pc = false ∨ (z.catchType ≠ 0 ∧ ∃ nm : String, Cond.classLink μ.1.cls z.catchType nm ∈ AL ∧ (E, nm) ∈ ncs)) (hx : covers x pc = true) (h0 : x.catchType ≠ 0) (hlink : Cond.classLink μ.1.cls x.catchType name ∈ AL) (hcast : Cond.castable E name ∈ lw_tbl) (hda : decode μ.2.1 x.handlerPc = .ok (.astore i, 2)) (hi : i < μ.2.2.1) (hL : L[i]? = some none)
    (kk : AW K l μ Z (x.handlerPc + 2) L [] M cells slots) : AX K l μ Z pc L st M cells slots E := by
  intro p e s m args below meth c H locs ls q ce C hl hW hS hce hcv hcl
  have hts : ∀ w ∈ AL, w.before args s = true := C.2.2.2.2.1
  have hSX := C.2.2.2.2.2.2.2.2.2.1
  refine vx_catch (name := name) (E := E) C.2.2.2.1 pre x suf (C.2.2.2.2.2.2.2.1.trans hsplit) (fun z hz => ?_) hx h0 (hts _ hlink) (nw_use rfl (hSX.2.2.2.1 _ hcast rfl)) hce hcv hcl ?_
  · rcases hpass z hz with h | ⟨h1, nm, h2, h3⟩
    · exact Or.inl h
    · exact Or.inr ⟨h1, nm, hts _ h2, hSX.2.2.2.2 _ h3⟩
  · refine lv_astore C.1 C.2.1 hda hl.1 hi rfl (fun ls2 h2 => ?_)
    refine kk p e s m args below meth c H locs ls2 C ((hl.set rfl h2).weak ?_) hW hS
    exact lwk_set L i _ hL
end AWC
