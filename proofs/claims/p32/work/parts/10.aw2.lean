theorem in_Throwable : Cond.initialized "java/lang/Throwable" ∈ AL := al_in 30 (by decide +kernel) rfl
theorem in_Exception : Cond.initialized "java/lang/Exception" ∈ AL := al_in 31 (by decide +kernel) rfl
theorem in_RuntimeException : Cond.initialized "java/lang/RuntimeException" ∈ AL := al_in 32 (by decide +kernel) rfl
theorem in_IllegalArgumentException : Cond.initialized "java/lang/IllegalArgumentException" ∈ AL := al_in 33 (by decide +kernel) rfl
theorem in_IllegalStateException : Cond.initialized "java/lang/IllegalStateException" ∈ AL := al_in 34 (by decide +kernel) rfl
theorem in_Math : Cond.initialized "java/lang/Math" ∈ AL := al_in 35 (by decide +kernel) rfl
theorem in_IndexOutOfBoundsException : Cond.initialized "java/lang/IndexOutOfBoundsException" ∈ AL := al_in 36 (by decide +kernel) rfl
/-! calls, ends, throws, the entry -/
theorem nw_same {w : Cond} (hd : isDC w = true) {u U : State} (h : u.vm = U.vm) (hZ : va_Nw w u) : va_Nw w U := by
  cases w with
  | declares x => exact va_Nw.same rfl h hZ
  | castable C T => exact va_Nw.same rfl h hZ
  | _ => cases hd
theorem nw_warm {w : Cond} (hd : isDC w = true) {s U : State} (hW : s.WarmedH U.vm) (hZ : va_Nw w s) : va_Nw w U := by
  cases w with
  | declares x => exact va_Nw.warmD hW hZ
  | castable C T => exact va_Nw.warmC hW hZ
  | _ => cases hd
theorem nw_use {w : Cond} (hd : isDC w = true) {args : Array Value} {U : State} (hZ : va_Nw w U) : w.before args U = true := by
  cases w with
  | declares x => exact va_Nw.use rfl hZ
  | castable C T => exact va_Nw.use rfl hZ
  | _ => cases hd
theorem sx_at {K : WPar} {s U : State} {H : Heap} {locs : List Loc} (h : SX K s) (hW : s.WarmedH U.vm) (hU : U.heap = H) (hS : va_S (kF K) s.heap H locs) : SX K U := by
  obtain ⟨a, b, c, d, nc⟩ := h
  have kp : ∀ q : Nat, q < s.heap.size → ¬ kF K q → U.heap[q]? = s.heap[q]? := fun q h1 h2 => by rw [hU]; exact hS.2.1 q h1 h2
  refine ⟨vx_Zq.kept (vx_Zq.moved hW.alike a) kp, vx_Zq.kept (vx_Zq.moved hW.alike b) kp, fun q hq => ?_, fun w hw hd => nw_warm hd hW (d w hw hd), fun q hq => va_Nc.moved hW.alike (nc q hq)⟩
  obtain ⟨sa, h⟩ := c q hq
  exact ⟨sa, vk_R.warm hW h⟩
theorem pre_blind {K : WPar} {avs : List Value} {M : Mem} : FrameBlind (va_Pc avs (PRE K M)) := by
  intro a U g mk ⟨h1, hWd, hK, ⟨s1, s2, s3, s4, s5⟩, hA⟩
  refine ⟨h1, hWd, va_K.moved (u := U) (U := U.calling g mk a) (Vm.Alike.refl U.vm) hK, ⟨vx_Zq.moved (u := U) (U := U.calling g mk a) (Vm.Alike.refl U.vm) s1, vx_Zq.moved (u := U) (U := U.calling g mk a) (Vm.Alike.refl U.vm) s2, fun q hq => ?_, fun w hw hd => nw_same (u := U) hd rfl (s4 w hw hd), fun q hq => va_Nc.moved (u := U) (U := U.calling g mk a) (Vm.Alike.refl U.vm) (s5 q hq)⟩, hA⟩
  obtain ⟨sa, h⟩ := s3 q hq
  exact ⟨sa, vk_R.same (u := U) rfl h⟩
theorem pre_at {K : WPar} {M : Mem} {s U : State} {H : Heap} {locs : List Loc} (hWd : WD K M H) (hK : va_K K.1 vwCl (ktys K) s) (hSX : SX K s) (hA : ADK K) (hS : va_S (kF K) s.heap H locs) (hU : U.heap = H) (hW : s.WarmedH U.vm) : PRE K M U :=
  ⟨by rw [hU]; exact hWd, va_K.moved hW.alike hK, sx_at hSX hW hU hS, hA⟩
abbrev CALV (ν : MInfo) (n : Nat) : Prop := Cond.code ν.1 ν.2.1 ν.2.2.1 ν.2.2.2.1 ∈ AL ∧ Cond.instanceMethod ν.1 ∈ AL ∧ Cond.selects ν.1.cls ν.1 ν.1 ∈ AL ∧ Cond.initialized ν.1.cls ∈ AL ∧ ν.1.cls ≠ "java/lang/invoke/MethodHandle" ∧ ν.1.cls ≠ "java/lang/invoke/VarHandle" ∧ (parseMethodDescriptor ν.1.desc).map (fun d => d.parameters.length) = some n
abbrev CALS (ν : MInfo) (n : Nat) : Prop := Cond.code ν.1 ν.2.1 ν.2.2.1 ν.2.2.2.1 ∈ AL ∧ Cond.static ν.1 ∈ AL ∧ Cond.initialized ν.1.cls ∈ AL ∧ ν.1.cls ≠ "java/lang/invoke/MethodHandle" ∧ ν.1.cls ≠ "java/lang/invoke/VarHandle" ∧ (parseMethodDescriptor ν.1.desc).map (fun d => d.parameters.length) = some n
theorem al_good {ν : MInfo} (h : Cond.code ν.1 ν.2.1 ν.2.2.1 ν.2.2.2.1 ∈ AL) : GoodIn AL (Cond.code ν.1 ν.2.1 ν.2.2.1 ν.2.2.2.1 :: AL) := by
  have g : ∀ w ∈ AL, w ∈ AL ∧ ((w.onTables && w.keeps) = true ∨ ∃ ty, w = .arrayClass ty) := fun w hw => ⟨hw, good_of_word (List.mem_filter.mp hw).2⟩
  intro w hw
  rcases List.mem_cons.mp hw with rfl | hw
  · exact g _ h
  · exact g _ hw
section AWC
variable {K : WPar} {l : Launch} {μ : MInfo} {Z : ZT} {pc : Nat} {L : List (Option Value)} {st : List Value} {M : Mem} {cells slots : Nat}
theorem aw_go {p : Program} {e : Env} {s : State} {m : MethodId} {args : Array Value} {below : List Frame} {meth : Method} {c : Code} {H : Heap} {locs : List Loc} {ls : Array Slot} {mc ms : Nat} {st0 rest : List Value} {P' : OutT → Mem → Prop} {a : Array Value}
    (C : CX K l μ Z p s m args meth c) (hl : LH ls μ.2.2.1 L) (hS : va_S (kF K) s.heap H locs)
    (hr : vx_Run p l e (mRm μ) s m args below meth c H locs cells slots mc ms (F0 m pc ls st0) rest (ctQ K P' a) (ctX K P') (kF K))
    (kr : ∀ r M1, P' (.inl r) M1 → AW K l μ Z (pc + 3) L ((r.map iV).toList ++ rest) M1 (cells + mc) (slots + ms))
    (kx : ∀ E M1, P' (.inr E) M1 → AX K l μ Z pc L rest M1 (cells + mc) (slots + ms) E) : W p l e (mRm μ) s m args below meth c H locs cells slots (Z.2 below args s) (F0 m pc ls st0) := by
  intro T hT X
  rcases hr T hT X with ⟨v, st₀, t, T', L', h0, X', hL, e1, e2, ⟨⟨r, M1, hv, hp, hb⟩, hF⟩, st⟩ | ⟨q, st₀, t, T', L', E, ce, h0, X', hL, e1, e2, ⟨⟨M1, hp, hb⟩, hF⟩, hce, hcv, hcl, st⟩
  · have hv2 : v = r.map iV := by simpa using hv
    subst hv2
    obtain ⟨k1, k2, k3⟩ := vx_keep h0 e1 hS (fun _ _ h => h) (fun _ h => h) hL hF
    obtain ⟨t2, a1, b1⟩ := kr r M1 hp p e s m args below meth c T'.heap (locs ++ L') ls C hl (by rw [e1]; exact hb) k3 T' rfl X'
    exact ⟨t2, st t2 a1, b1⟩
  · obtain ⟨k1, k2, k3⟩ := vx_keep h0 e1 hS (fun _ _ h => h) (fun _ h => h) hL hF
    obtain ⟨t2, a1, b1⟩ := kx E M1 hp p e s m args below meth c T'.heap (locs ++ L') ls q ce C hl (by rw [e1]; exact hb) k3 (by rw [e1]; exact hce) hcv hcl T' rfl X'
    exact ⟨t2, st.trans a1, b1⟩
theorem aw_callV {ν : MInfo} {n g ci x N idx : Nat} {T : u_T} {fs : List (Option Nat)} {As rest : List Value} {P' : OutT → Mem → Prop} (hCT : CT K l ν (rV K g 0 :: As) M P') (hcal : CALV ν n) (hd : decode μ.2.1 pc = .ok (.invokevirtual idx, 3)) (hli : Cond.methodLink μ.1.cls idx ν.1 ∈ AL) (hk : gk g = (0, ci, x, fs)) (hc : vwCl[ci]? = some (ν.1.cls, T, N)) (hcnt : gcnt g = 1) (hn : As.length = n) (hst : st = As.reverse ++ rV K g 0 :: rest) (hre : (rest.map fun v => v.category).sum ≤ 8)
    (hR : (mRm ν).frames + 1 ≤ (mRm μ).frames ∧ 8 + (ν.2.2.1 + 11) + (mRm ν).locals ≤ (mRm μ).locals) (hf : cells + (mRm ν).cells ≤ (mRm μ).cells ∧ slots + (mRm ν).slots ≤ (mRm μ).slots)
    (kr : ∀ r M1, P' (.inl r) M1 → AW K l μ Z (pc + 3) L ((r.map iV).toList ++ rest) M1 (cells + (mRm ν).cells) (slots + (mRm ν).slots))
    (kx : ∀ E M1, P' (.inr E) M1 → AX K l μ Z pc L rest M1 (cells + (mRm ν).cells) (slots + (mRm ν).slots) E) : AW K l μ Z pc L st M cells slots := by
  subst hst
  intro p e s m args below meth c H locs ls C hl hW hS
  have hts : ∀ w ∈ AL, w.before args s = true := C.2.2.2.2.1
  have hK := C.2.2.2.2.2.2.2.2.1
  have hSX := C.2.2.2.2.2.2.2.2.2.1
  have hAD : ADK K := C.2.2.2.2.2.2.2.2.2.2.1
  have hrec := va_recv hK (wd_one hW g 0 (Int.le_refl 0) (by omega) (cellOf_obj hk)) hc (q0 := 0) rfl
  exact aw_go C hl hS (vx_runV (mc := (mRm ν).cells) (ms := (mRm ν).slots) (As := As) (rest := rest) ⟨C.1, C.2.1, C.2.2.1, C.2.2.2.1, hts⟩ hCT ⟨callB_of n hts (al_good hcal.1) rfl rfl rfl (hts _ hcal.2.2.2.1) (hts _ hli) hcal.2.2.2.2 hR, hts _ hcal.2.1, hts _ hcal.2.2.1⟩ ⟨pre_blind, hrec, fun U hU hWm => ⟨rfl, pre_at hW hK hSX hAD hS hU hWm⟩⟩ rfl hn hl.1.1 rfl (lv_room hre) hd hf) kr kx
theorem aw_callS {ν : MInfo} {n idx : Nat} {As rest : List Value} {P' : OutT → Mem → Prop} (hCT : CT K l ν As M P') (hcal : CALS ν n) (hd : decode μ.2.1 pc = .ok (.invokestatic idx, 3)) (hli : Cond.methodLink μ.1.cls idx ν.1 ∈ AL) (hn : As.length = n) (hst : st = As.reverse ++ rest) (hre : (rest.map fun v => v.category).sum ≤ 8)
    (hR : (mRm ν).frames + 1 ≤ (mRm μ).frames ∧ 8 + (ν.2.2.1 + 11) + (mRm ν).locals ≤ (mRm μ).locals) (hf : cells + (mRm ν).cells ≤ (mRm μ).cells ∧ slots + (mRm ν).slots ≤ (mRm μ).slots)
    (kr : ∀ r M1, P' (.inl r) M1 → AW K l μ Z (pc + 3) L ((r.map iV).toList ++ rest) M1 (cells + (mRm ν).cells) (slots + (mRm ν).slots))
    (kx : ∀ E M1, P' (.inr E) M1 → AX K l μ Z pc L rest M1 (cells + (mRm ν).cells) (slots + (mRm ν).slots) E) : AW K l μ Z pc L st M cells slots := by
  subst hst
  intro p e s m args below meth c H locs ls C hl hW hS
  have hts : ∀ w ∈ AL, w.before args s = true := C.2.2.2.2.1
  have hK := C.2.2.2.2.2.2.2.2.1
  have hSX := C.2.2.2.2.2.2.2.2.2.1
  have hAD : ADK K := C.2.2.2.2.2.2.2.2.2.2.1
  exact aw_go C hl hS (vx_runS (mc := (mRm ν).cells) (ms := (mRm ν).slots) (As := As) (rest := rest) ⟨C.1, C.2.1, C.2.2.1, C.2.2.2.1, hts⟩ hCT ⟨callB_of n hts (al_good hcal.1) rfl rfl rfl (hts _ hcal.2.2.1) (hts _ hli) hcal.2.2.2 hR, hts _ hcal.2.1⟩ ⟨pre_blind, fun U hU hWm => ⟨rfl, pre_at hW hK hSX hAD hS hU hWm⟩⟩ rfl hn hl.1.1 rfl (lv_room hre) hd hf) kr kx
/-- the ends of a method that throws nothing, and whose answer is known -/
def rI (z : Int) (M1 : Mem) : OutT → Mem → Prop := fun o m => o = .inl (some z) ∧ m = M1
def rN (M1 : Mem) : OutT → Mem → Prop := fun o m => o = .inl none ∧ m = M1
theorem aw_cVi {ν : MInfo} {n g ci x N idx : Nat} {T : u_T} {fs : List (Option Nat)} {As rest : List Value} {z : Int} {M1 : Mem} (hCT : CT K l ν (rV K g 0 :: As) M (rI z M1)) (hcal : CALV ν n) (hd : decode μ.2.1 pc = .ok (.invokevirtual idx, 3)) (hli : Cond.methodLink μ.1.cls idx ν.1 ∈ AL) (hk : gk g = (0, ci, x, fs)) (hc : vwCl[ci]? = some (ν.1.cls, T, N)) (hcnt : gcnt g = 1) (hn : As.length = n) (hst : st = As.reverse ++ rV K g 0 :: rest) (hre : (rest.map fun v => v.category).sum ≤ 8)
    (hR : (mRm ν).frames + 1 ≤ (mRm μ).frames ∧ 8 + (ν.2.2.1 + 11) + (mRm ν).locals ≤ (mRm μ).locals) (h0 : (mRm ν).cells = 0) (h1 : (mRm ν).slots = 0) (hf : cells ≤ (mRm μ).cells ∧ slots ≤ (mRm μ).slots)
    (kk : AW K l μ Z (pc + 3) L (iV z :: rest) M1 cells slots) : AW K l μ Z pc L st M cells slots := by
  refine aw_callV hCT hcal hd hli hk hc hcnt hn hst hre hR (by rw [h0, h1]; exact hf) (fun r M2 h => ?_) (fun E M2 h => ?_)
  · obtain ⟨e1, e2⟩ := h
    cases e1
    rw [h0, h1, e2]
    exact kk
  · cases h.1
theorem aw_cVn {ν : MInfo} {n g ci x N idx : Nat} {T : u_T} {fs : List (Option Nat)} {As rest : List Value} {M1 : Mem} (hCT : CT K l ν (rV K g 0 :: As) M (rN M1)) (hcal : CALV ν n) (hd : decode μ.2.1 pc = .ok (.invokevirtual idx, 3)) (hli : Cond.methodLink μ.1.cls idx ν.1 ∈ AL) (hk : gk g = (0, ci, x, fs)) (hc : vwCl[ci]? = some (ν.1.cls, T, N)) (hcnt : gcnt g = 1) (hn : As.length = n) (hst : st = As.reverse ++ rV K g 0 :: rest) (hre : (rest.map fun v => v.category).sum ≤ 8)
    (hR : (mRm ν).frames + 1 ≤ (mRm μ).frames ∧ 8 + (ν.2.2.1 + 11) + (mRm ν).locals ≤ (mRm μ).locals) (h0 : (mRm ν).cells = 0) (h1 : (mRm ν).slots = 0) (hf : cells ≤ (mRm μ).cells ∧ slots ≤ (mRm μ).slots)
    (kk : AW K l μ Z (pc + 3) L rest M1 cells slots) : AW K l μ Z pc L st M cells slots := by
  refine aw_callV hCT hcal hd hli hk hc hcnt hn hst hre hR (by rw [h0, h1]; exact hf) (fun r M2 h => ?_) (fun E M2 h => ?_)
  · obtain ⟨e1, e2⟩ := h
    cases e1
    rw [h0, h1, e2]
    exact kk
  · cases h.1
theorem aw_cSi {ν : MInfo} {n idx : Nat} {As rest : List Value} {z : Int} {M1 : Mem} (hCT : CT K l ν As M (rI z M1)) (hcal : CALS ν n) (hd : decode μ.2.1 pc = .ok (.invokestatic idx, 3)) (hli : Cond.methodLink μ.1.cls idx ν.1 ∈ AL) (hn : As.length = n) (hst : st = As.reverse ++ rest) (hre : (rest.map fun v => v.category).sum ≤ 8)
    (hR : (mRm ν).frames + 1 ≤ (mRm μ).frames ∧ 8 + (ν.2.2.1 + 11) + (mRm ν).locals ≤ (mRm μ).locals) (h0 : (mRm ν).cells = 0) (h1 : (mRm ν).slots = 0) (hf : cells ≤ (mRm μ).cells ∧ slots ≤ (mRm μ).slots)
    (kk : AW K l μ Z (pc + 3) L (iV z :: rest) M1 cells slots) : AW K l μ Z pc L st M cells slots := by
  refine aw_callS hCT hcal hd hli hn hst hre hR (by rw [h0, h1]; exact hf) (fun r M2 h => ?_) (fun E M2 h => ?_)
  · obtain ⟨e1, e2⟩ := h
    cases e1
    rw [h0, h1, e2]
    exact kk
  · cases h.1
/-- the ends -/
theorem aw_iret {P : OutT → Mem → Prop} {z : Int} {ty : FieldType} (hd : decode μ.2.1 pc = .ok (.ireturn, 1)) (hrt : μ.2.2.2.1 = some ty) (hn : narrow ty (iV z) = iV z) (h1 : cells ≤ (mRm μ).cells) (h2 : slots ≤ (mRm μ).slots) (hP : P (.inl (some z)) M) : AW K l μ (ZM K μ P) pc L [iV z] M cells slots := by
  intro p e s m args below meth c H locs ls C hl hW hS
  refine vx_ret (W.widen h1 h2 ?_)
  exact W.zret (v := Int32.ofInt z) C.1 C.2.1 (C.2.2.2.2.2.1.trans hrt) hn (fun t ht hWt => ⟨⟨some z, M, rfl, hP, by rw [ht]; exact hW⟩, hS.F ht⟩) hS.2.2 hd C.2.2.2.2.2.2.1
theorem aw_vret {P : OutT → Mem → Prop} (hd : decode μ.2.1 pc = .ok (.return_, 1)) (hrt : μ.2.2.2.1 = none) (h1 : cells ≤ (mRm μ).cells) (h2 : slots ≤ (mRm μ).slots) (hP : P (.inl none) M) : AW K l μ (ZM K μ P) pc L [] M cells slots := by
  intro p e s m args below meth c H locs ls C hl hW hS
  refine vx_ret (W.widen h1 h2 ?_)
  exact W.vret C.1 C.2.1 (C.2.2.2.2.2.1.trans hrt) (fun t ht hWt => ⟨⟨none, M, rfl, hP, by rw [ht]; exact hW⟩, hS.F ht⟩) hS.2.2 hd C.2.2.2.2.2.2.1
/-- what a callee threw goes on -/
theorem ax_out {P : OutT → Mem → Prop} {E : String} (htb : μ.2.2.2.2.2.2 = []) (h1 : cells ≤ (mRm μ).cells) (h2 : slots ≤ (mRm μ).slots) (hP : P (.inr E) M) : AX K l μ (ZM K μ P) pc L st M cells slots E := by
  intro p e s m args below meth c H locs ls q ce C hl hW hS hce hcv hcl
  have htab := C.2.2.2.2.2.2.2.1
  rw [htb] at htab
  exact vx_out (fun x hx => by rw [htab] at hx; cases hx) C.2.2.2.2.2.2.1 hce hcv hcl (fun t ht hWt => ⟨⟨M, hP, by rw [ht]; exact hW⟩, hS.F ht⟩) hS.2.2 h1 h2
abbrev nms : List String := ["java/lang/RuntimeException", "java/lang/Exception"]
abbrev ATW (ik ic : Nat) (E : String) : Prop := Bundle.fit E = true ∧ Cond.classLink RX4 ik E ∈ AL ∧ Cond.initialized E ∈ AL ∧ (∀ w ∈ vx_atS RX4 ic E nms, w ∈ lw_tbl) ∧ (∀ w ∈ vx_atS RX4 ic E nms, goodWord w = true ∨ isDC w = true) ∧ ∀ w ∈ Cond.classLink RX4 ik E :: Cond.initialized E :: vx_atS RX4 ic E nms, vx_ot w = true
theorem aw_throw {P : OutT → Mem → Prop} {E text : String} {ik is ic : Nat} (hA : ATW ik ic E) (hown : μ.1.cls = RX4) (htb : μ.2.2.2.2.2.2 = []) (hstr : (is, text) ∈ strs) (d0 : decode μ.2.1 pc = .ok (.new ik, 3)) (d3 : decode μ.2.1 (pc + 3) = .ok (.dup, 1)) (d4 : decode μ.2.1 (pc + 4) = .ok (.ldc is, 2)) (d6 : decode μ.2.1 (pc + 6) = .ok (.invokespecial ic, 3)) (d9 : decode μ.2.1 (pc + 9) = .ok (.athrow, 1)) (hfr : 5 < (mRm μ).frames) (hlo : (st.map fun v => v.category).sum + 82 ≤ (mRm μ).locals) (h1 : cells + 1 ≤ (mRm μ).cells) (h2 : slots + 6 ≤ (mRm μ).slots) (hP : P (.inr E) M) : AW K l μ (ZM K μ P) pc L st M cells slots := by
  intro p e s m args below meth c H locs ls C hl hW hS
  have hts : ∀ w ∈ AL, w.before args s = true := C.2.2.2.2.1
  have hSX := C.2.2.2.2.2.2.2.2.2.1
  have htab := C.2.2.2.2.2.2.2.1
  rw [htb] at htab
  have ho := C.2.2.2.1
  rw [hown] at ho
  obtain ⟨sa, hsa⟩ := hSX.2.2.1 _ hstr
  have hlt : ∀ (g : Nat) (i : Int), 0 ≤ i → i < gcnt g → kad K g i < H.size := fun g i a b => (hW.2 g i a b).lt
  exact vx_throwS (sa := sa) (names := nms) (A := kF K) C.1 C.2.1 C.2.2.2.2.2.2.2.2.2.2.2.1 ho hA.1 (by decide) (hts _ hA.2.1) (hts _ hA.2.2.1) hsa (fun w hw => by
    rcases hA.2.2.2.2.1 w hw with h | h
    · exact hts w (List.mem_filter.mpr ⟨hA.2.2.2.1 w hw, h⟩)
    · exact nw_use h (hSX.2.2.2.1 w (hA.2.2.2.1 w hw) h)) hA.2.2.2.2.2 hSX.1 hSX.2.1 hS (hl.1.1.trans C.2.2.1.symm) d0 d3 d4 d6 d9 (fun x hx => by rw [htab] at hx; cases hx) hfr hlo h1 h2 C.2.2.2.2.2.2.1
    (fun t hvm hz hk => ⟨⟨M, hP, hW.1, fun g i a b => (hW.2 g i a b).kept (hk _ (hlt g i a b))⟩, Nat.le_trans hS.1 hz, fun q h3 h4 => by rw [hk q (Nat.lt_of_lt_of_le h3 hS.1)]; exact hS.2.1 q h3 h4⟩) hS.2.2 h1 h2
/-- from the contract to the walk -/
theorem aw_met {P : OutT → Mem → Prop} {avs : List Value} (L0 : List (Option Value)) (hst : l.stackTraces = false) (hy : plainName μ.1.cls = true) (htb : μ.2.2.2.2.2.2 = []) (hlen : (lg_sl avs).length ≤ μ.2.2.1) (hL : lv_args 0 avs = lvo 0 L0) (hLl : L0.length = μ.2.2.1) (hcat : ∀ v, some v ∈ L0 → v.category = 1) (k : AW K l μ (ZM K μ P) 0 L0 [] M 0 0) : CT K l μ avs M P := by
  refine vx_ofW (cc := μ.2.1) (maxL := μ.2.2.1) (ret := μ.2.2.2.1) hy rfl ?_
  intro p e s m args below meth c s₁ B hml hex hv
  obtain ⟨rfl, hWd, hK, hS, hA⟩ := hv
  have hts := atoms_spec (ws := .code μ.1 μ.2.1 μ.2.2.1 μ.2.2.2.1 :: AL) B.pre
  rw [lg_entry_eq]
  have hle := lv_entry avs hlen
  rw [hL] at hle
  exact k p e s m _ below meth c s.heap [] _ ⟨B.exec, B.bytes, hml, findClass_of_methodNamed B.named, fun w hw => hts w (List.mem_cons_of_mem _ hw), B.returns, B.notSynchronized, by rw [htb]; exact List.eq_nil_iff_forall_not_mem.mpr (fun x hx => hex x hx), hK, hS, hA, hst, trivial⟩ ⟨hle, hLl, hcat⟩ hWd va_S.rf
theorem aw_mmax {a b : Int} {idx : Nat} (ha : inR a) (hb : inR b) (hd : decode μ.2.1 pc = .ok (.invokestatic idx, 3)) (hli : Cond.methodLink μ.1.cls idx Lib.Math.max.name ∈ AL) (hfr : 1 ≤ (mRm μ).frames) (hlo : (st.map fun v => v.category).sum + 13 ≤ (mRm μ).locals) (h1 : cells ≤ (mRm μ).cells) (h2 : slots ≤ (mRm μ).slots) (kk : AW K l μ Z (pc + 3) L (iV (max a b) :: st) M cells slots) : AW K l μ Z pc L (iV b :: iV a :: st) M cells slots := by
  intro p e s m args below meth c H locs ls C hl hW hS
  have hts : ∀ w ∈ AL, w.before args s = true := C.2.2.2.2.1
  have k2 := kk p e s m args below meth c H locs ls C hl hW hS
  refine va_mmax C.1 C.2.1 (C.2.2.1.trans hl.1.1.symm) C.2.2.2.1 (hts _ hli) (hts _ st_Math_max) (hts _ in_Math) (hts _ co_Math_max) hfr hlo h1 h2 hd ?_
  have : (if Int32.ofInt a < Int32.ofInt b then Int32.ofInt b else Int32.ofInt a) = Int32.ofInt (max a b) := by
    by_cases h : a < b
    · rw [if_pos ((r_lt ha hb).mpr h), Int.max_eq_right (by omega)]
    · rw [if_neg (fun q => h ((r_lt ha hb).mp q)), Int.max_eq_left (by omega)]
  rw [this]
  exact k2
theorem aw_mmin {a b : Int} {idx : Nat} (ha : inR a) (hb : inR b) (hd : decode μ.2.1 pc = .ok (.invokestatic idx, 3)) (hli : Cond.methodLink μ.1.cls idx Lib.Math.min.name ∈ AL) (hfr : 1 ≤ (mRm μ).frames) (hlo : (st.map fun v => v.category).sum + 13 ≤ (mRm μ).locals) (h1 : cells ≤ (mRm μ).cells) (h2 : slots ≤ (mRm μ).slots) (kk : AW K l μ Z (pc + 3) L (iV (min a b) :: st) M cells slots) : AW K l μ Z pc L (iV b :: iV a :: st) M cells slots := by
  intro p e s m args below meth c H locs ls C hl hW hS
  have hts : ∀ w ∈ AL, w.before args s = true := C.2.2.2.2.1
  have k2 := kk p e s m args below meth c H locs ls C hl hW hS
  refine va_mmin C.1 C.2.1 (C.2.2.1.trans hl.1.1.symm) C.2.2.2.1 (hts _ hli) (hts _ st_Math_min) (hts _ in_Math) (hts _ co_Math_min) hfr hlo h1 h2 hd ?_
  have : (if Int32.ofInt b < Int32.ofInt a then Int32.ofInt b else Int32.ofInt a) = Int32.ofInt (min a b) := by
    by_cases h : b < a
    · rw [if_pos ((r_lt hb ha).mpr h), Int.min_eq_right (by omega)]
    · rw [if_neg (fun q => h ((r_lt hb ha).mp q)), Int.min_eq_left (by omega)]
  rw [this]
  exact k2
theorem aw_mabs {a : Int} {idx : Nat} (ha : inR a) (hd : decode μ.2.1 pc = .ok (.invokestatic idx, 3)) (hli : Cond.methodLink μ.1.cls idx Lib.Math.abs.name ∈ AL) (hfr : 1 ≤ (mRm μ).frames) (hlo : (st.map fun v => v.category).sum + 13 ≤ (mRm μ).locals) (h1 : cells ≤ (mRm μ).cells) (h2 : slots ≤ (mRm μ).slots) (kk : AW K l μ Z (pc + 3) L (iV (if 0 ≤ a then a else 0 - a) :: st) M cells slots) : AW K l μ Z pc L (iV a :: st) M cells slots := by
  intro p e s m args below meth c H locs ls C hl hW hS
  have hts : ∀ w ∈ AL, w.before args s = true := C.2.2.2.2.1
  have k2 := kk p e s m args below meth c H locs ls C hl hW hS
  refine va_mabs C.1 C.2.1 (C.2.2.1.trans hl.1.1.symm) C.2.2.2.1 (hts _ hli) (hts _ st_Math_abs) (hts _ in_Math) (hts _ co_Math_abs) hfr hlo h1 h2 hd ?_
  have : (if (0 : Int32) ≤ Int32.ofInt a then Int32.ofInt a else 0 - Int32.ofInt a) = Int32.ofInt (if 0 ≤ a then a else 0 - a) := by
    by_cases h : 0 ≤ a
    · rw [if_pos h, r_z, if_pos ((r_le r_0 ha).mpr h)]
    · rw [if_neg h, Int32.ofInt_sub, r_z, if_neg (fun q => h ((r_le r_0 ha).mp q))]
  rw [this]
  exact k2
end AWC
theorem at_ISE : ATW 60 64 "java/lang/IllegalStateException" := ⟨by decide, kl_X4_60, in_IllegalStateException, by decide +kernel, by decide +kernel, by decide +kernel⟩
theorem at_IAE : ATW 234 238 "java/lang/IllegalArgumentException" := ⟨by decide, kl_X4_234, in_IllegalArgumentException, by decide +kernel, by decide +kernel, by decide +kernel⟩
theorem at_IOB : ATW 218 222 "java/lang/IndexOutOfBoundsException" := ⟨by decide, kl_X4_218, in_IndexOutOfBoundsException, by decide +kernel, by decide +kernel, by decide +kernel⟩
