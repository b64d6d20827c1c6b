/-! rows for the law: bits; calls whose room is counted from above; the script -/
theorem i32_r (x : Int32) : inR x.toInt := by
  have h1 := Int32.minValue_le_toInt x
  have h2 := Int32.toInt_le x
  have e1 : Int32.minValue.toInt = -2147483648 := by decide
  have e2 : Int32.maxValue.toInt = 2147483647 := by decide
  omega
def shI (v k : Int) : Int := (Int32.ofInt v >>> (Int32.ofInt k &&& 31)).toInt
theorem shI_r (v k : Int) : inR (shI v k) := i32_r _
def lowI (v n : Int) : Int := v % 2147483648 % n
theorem lowI_bd (v : Int) {n : Int} (h : 0 < n) : 0 ≤ lowI v n ∧ lowI v n < n := ⟨Int.emod_nonneg _ (by omega), Int.emod_lt_of_pos _ h⟩
section AWB
variable {K : WPar} {l : Launch} {μ : MInfo} {Z : ZT} {pc : Nat} {L : List (Option Value)} {st : List Value} {M : Mem} {cells slots : Nat}
theorem aw_iandM {a : Int} (ha : inR a) (hd : decode μ.2.1 pc = .ok (.iand, 1)) (kk : AW K l μ Z (pc + 1) L (iV (a % 2147483648) :: st) M cells slots) : AW K l μ Z pc L (iV 2147483647 :: iV a :: st) M cells slots := by
  intro p e s m args below meth c H locs ls C hl hW hS
  refine lv_iand C.1 C.2.1 hd ?_
  have e1 : (Int32.ofInt a &&& Int32.ofInt 2147483647).toInt = a % 2 ^ 31 := by
    have := Jvm.Kit.i32_mask (Int32.ofInt a) (Int32.ofInt 2147483647) (k := 31) (by decide) (by decide)
    rw [ri ha] at this
    exact this
  have k2 := kk p e s m args below meth c H locs ls C hl hW hS
  have e2 : a % 2147483648 = a % 2 ^ 31 := rfl
  unfold iV at k2
  rw [e2, ← e1, Int32.ofInt_toInt] at k2
  exact k2
theorem aw_ishr {a k : Int} (hd : decode μ.2.1 pc = .ok (.ishr, 1)) (kk : AW K l μ Z (pc + 1) L (iV (shI a k) :: st) M cells slots) : AW K l μ Z pc L (iV k :: iV a :: st) M cells slots := by
  intro p e s m args below meth c H locs ls C hl hW hS
  refine lv_ishr C.1 C.2.1 hd ?_
  have k2 := kk p e s m args below meth c H locs ls C hl hW hS
  unfold iV shI at k2
  rw [Int32.ofInt_toInt] at k2
  exact k2
/-- calls, the room counted from above -/
theorem lw_V {ν : MInfo} {n g ci x N idx c2 s2 : Nat} {T : u_T} {fs : List (Option Nat)} {As rest : List Value} {P' : OutT → Mem → Prop} (hCT : CT K l ν (rV K g 0 :: As) M P') (hcal : CALV ν n) (hd : decode μ.2.1 pc = .ok (.invokevirtual idx, 3)) (hli : Cond.methodLink μ.1.cls idx ν.1 ∈ AL) (hk : gk g = (0, ci, x, fs)) (hc : vwCl[ci]? = some (ν.1.cls, T, N)) (hcnt : gcnt g = 1) (hn : As.length = n) (hst : st = As.reverse ++ rV K g 0 :: rest) (hre : (rest.map fun v => v.category).sum ≤ 8)
    (hR : (mRm ν).frames + 1 ≤ (mRm μ).frames ∧ 8 + (ν.2.2.1 + 11) + (mRm ν).locals ≤ (mRm μ).locals) (hc2 : cells + (mRm ν).cells ≤ c2) (hs2 : slots + (mRm ν).slots ≤ s2) (hf : c2 ≤ (mRm μ).cells ∧ s2 ≤ (mRm μ).slots) (hx : ∀ E m, ¬ P' (.inr E) m)
    (kr : ∀ r M1, P' (.inl r) M1 → AW K l μ Z (pc + 3) L ((r.map iV).toList ++ rest) M1 c2 s2) : AW K l μ Z pc L st M cells slots :=
  aw_callV hCT hcal hd hli hk hc hcnt hn hst hre hR ⟨Nat.le_trans hc2 hf.1, Nat.le_trans hs2 hf.2⟩ (fun r M1 h => aw_wide hc2 hs2 (kr r M1 h)) (fun E M1 h => absurd h (hx E M1))
theorem lw_S {ν : MInfo} {n idx c2 s2 : Nat} {As rest : List Value} {P' : OutT → Mem → Prop} (hCT : CT K l ν As M P') (hcal : CALS ν n) (hd : decode μ.2.1 pc = .ok (.invokestatic idx, 3)) (hli : Cond.methodLink μ.1.cls idx ν.1 ∈ AL) (hn : As.length = n) (hst : st = As.reverse ++ rest) (hre : (rest.map fun v => v.category).sum ≤ 8)
    (hR : (mRm ν).frames + 1 ≤ (mRm μ).frames ∧ 8 + (ν.2.2.1 + 11) + (mRm ν).locals ≤ (mRm μ).locals) (hc2 : cells + (mRm ν).cells ≤ c2) (hs2 : slots + (mRm ν).slots ≤ s2) (hf : c2 ≤ (mRm μ).cells ∧ s2 ≤ (mRm μ).slots) (hx : ∀ E m, ¬ P' (.inr E) m)
    (kr : ∀ r M1, P' (.inl r) M1 → AW K l μ Z (pc + 3) L ((r.map iV).toList ++ rest) M1 c2 s2) : AW K l μ Z pc L st M cells slots :=
  aw_callS hCT hcal hd hli hn hst hre hR ⟨Nat.le_trans hc2 hf.1, Nat.le_trans hs2 hf.2⟩ (fun r M1 h => aw_wide hc2 hs2 (kr r M1 h)) (fun E M1 h => absurd h (hx E M1))
theorem lw_Vi {ν : MInfo} {n g ci x N idx c2 s2 : Nat} {T : u_T} {fs : List (Option Nat)} {As rest : List Value} {z : Int} {M1 : Mem} (hCT : CT K l ν (rV K g 0 :: As) M (rI z M1)) (hcal : CALV ν n) (hd : decode μ.2.1 pc = .ok (.invokevirtual idx, 3)) (hli : Cond.methodLink μ.1.cls idx ν.1 ∈ AL) (hk : gk g = (0, ci, x, fs)) (hc : vwCl[ci]? = some (ν.1.cls, T, N)) (hcnt : gcnt g = 1) (hn : As.length = n) (hst : st = As.reverse ++ rV K g 0 :: rest) (hre : (rest.map fun v => v.category).sum ≤ 8) (hR : (mRm ν).frames + 1 ≤ (mRm μ).frames ∧ 8 + (ν.2.2.1 + 11) + (mRm ν).locals ≤ (mRm μ).locals) (hc2 : cells + (mRm ν).cells ≤ c2) (hs2 : slots + (mRm ν).slots ≤ s2) (hf : c2 ≤ (mRm μ).cells ∧ s2 ≤ (mRm μ).slots)
    (kk : AW K l μ Z (pc + 3) L (iV z :: rest) M1 c2 s2) : AW K l μ Z pc L st M cells slots :=
  lw_V hCT hcal hd hli hk hc hcnt hn hst hre hR hc2 hs2 hf (fun E m h => by cases h.1) (fun r m h => by obtain ⟨e1, e2⟩ := h; cases e1; rw [e2]; exact kk)
theorem lw_Vr {ν : MInfo} {n g ci x N idx c2 s2 : Nat} {T : u_T} {fs : List (Option Nat)} {As rest : List Value} {R : Int → Prop} {M1 : Mem} (hCT : CT K l ν (rV K g 0 :: As) M (rR R M1)) (hcal : CALV ν n) (hd : decode μ.2.1 pc = .ok (.invokevirtual idx, 3)) (hli : Cond.methodLink μ.1.cls idx ν.1 ∈ AL) (hk : gk g = (0, ci, x, fs)) (hc : vwCl[ci]? = some (ν.1.cls, T, N)) (hcnt : gcnt g = 1) (hn : As.length = n) (hst : st = As.reverse ++ rV K g 0 :: rest) (hre : (rest.map fun v => v.category).sum ≤ 8) (hR : (mRm ν).frames + 1 ≤ (mRm μ).frames ∧ 8 + (ν.2.2.1 + 11) + (mRm ν).locals ≤ (mRm μ).locals) (hc2 : cells + (mRm ν).cells ≤ c2) (hs2 : slots + (mRm ν).slots ≤ s2) (hf : c2 ≤ (mRm μ).cells ∧ s2 ≤ (mRm μ).slots)
    (kk : ∀ z, R z → AW K l μ Z (pc + 3) L (iV z :: rest) M1 c2 s2) : AW K l μ Z pc L st M cells slots :=
  lw_V hCT hcal hd hli hk hc hcnt hn hst hre hR hc2 hs2 hf (fun E m h => by obtain ⟨z, e1, e2⟩ := h; cases e1) (fun r m h => by obtain ⟨z, e1, e2, e3⟩ := h; cases e1; rw [e3]; exact kk z e2)
theorem lw_Vw {ν : MInfo} {n g ci x N idx c2 s2 : Nat} {T : u_T} {fs : List (Option Nat)} {As rest : List Value} {R : Int → Mem → Prop} (hCT : CT K l ν (rV K g 0 :: As) M (rZm R)) (hcal : CALV ν n) (hd : decode μ.2.1 pc = .ok (.invokevirtual idx, 3)) (hli : Cond.methodLink μ.1.cls idx ν.1 ∈ AL) (hk : gk g = (0, ci, x, fs)) (hc : vwCl[ci]? = some (ν.1.cls, T, N)) (hcnt : gcnt g = 1) (hn : As.length = n) (hst : st = As.reverse ++ rV K g 0 :: rest) (hre : (rest.map fun v => v.category).sum ≤ 8) (hR : (mRm ν).frames + 1 ≤ (mRm μ).frames ∧ 8 + (ν.2.2.1 + 11) + (mRm ν).locals ≤ (mRm μ).locals) (hc2 : cells + (mRm ν).cells ≤ c2) (hs2 : slots + (mRm ν).slots ≤ s2) (hf : c2 ≤ (mRm μ).cells ∧ s2 ≤ (mRm μ).slots)
    (kk : ∀ z m, R z m → AW K l μ Z (pc + 3) L (iV z :: rest) m c2 s2) : AW K l μ Z pc L st M cells slots :=
  lw_V hCT hcal hd hli hk hc hcnt hn hst hre hR hc2 hs2 hf (fun E m h => by obtain ⟨z, e1, e2⟩ := h; cases e1) (fun r m h => by obtain ⟨z, e1, e2⟩ := h; cases e1; exact kk z m e2)
theorem lw_Vb {ν : MInfo} {n g ci x N idx c2 s2 : Nat} {T : u_T} {fs : List (Option Nat)} {As rest : List Value} {q : Prop} {M1 : Mem} (hCT : CT K l ν (rV K g 0 :: As) M (rB q M1)) (hcal : CALV ν n) (hd : decode μ.2.1 pc = .ok (.invokevirtual idx, 3)) (hli : Cond.methodLink μ.1.cls idx ν.1 ∈ AL) (hk : gk g = (0, ci, x, fs)) (hc : vwCl[ci]? = some (ν.1.cls, T, N)) (hcnt : gcnt g = 1) (hn : As.length = n) (hst : st = As.reverse ++ rV K g 0 :: rest) (hre : (rest.map fun v => v.category).sum ≤ 8) (hR : (mRm ν).frames + 1 ≤ (mRm μ).frames ∧ 8 + (ν.2.2.1 + 11) + (mRm ν).locals ≤ (mRm μ).locals) (hc2 : cells + (mRm ν).cells ≤ c2) (hs2 : slots + (mRm ν).slots ≤ s2) (hf : c2 ≤ (mRm μ).cells ∧ s2 ≤ (mRm μ).slots)
    (kt : q → AW K l μ Z (pc + 3) L (iV 1 :: rest) M1 c2 s2) (kf : ¬ q → AW K l μ Z (pc + 3) L (iV 0 :: rest) M1 c2 s2) : AW K l μ Z pc L st M cells slots :=
  lw_V hCT hcal hd hli hk hc hcnt hn hst hre hR hc2 hs2 hf (fun E m h => by rcases h.1 with ⟨e1, e2⟩ | ⟨e1, e2⟩ <;> cases e1) (fun r m h => by obtain ⟨⟨e1, e2⟩ | ⟨e1, e2⟩, e3⟩ := h; (cases e1; rw [e3]; exact kt e2); (cases e1; rw [e3]; exact kf e2))
theorem lw_Si {ν : MInfo} {n idx c2 s2 : Nat} {As rest : List Value} {z : Int} {M1 : Mem} (hCT : CT K l ν As M (rI z M1)) (hcal : CALS ν n) (hd : decode μ.2.1 pc = .ok (.invokestatic idx, 3)) (hli : Cond.methodLink μ.1.cls idx ν.1 ∈ AL) (hn : As.length = n) (hst : st = As.reverse ++ rest) (hre : (rest.map fun v => v.category).sum ≤ 8) (hR : (mRm ν).frames + 1 ≤ (mRm μ).frames ∧ 8 + (ν.2.2.1 + 11) + (mRm ν).locals ≤ (mRm μ).locals) (hc2 : cells + (mRm ν).cells ≤ c2) (hs2 : slots + (mRm ν).slots ≤ s2) (hf : c2 ≤ (mRm μ).cells ∧ s2 ≤ (mRm μ).slots)
    (kk : AW K l μ Z (pc + 3) L (iV z :: rest) M1 c2 s2) : AW K l μ Z pc L st M cells slots :=
  lw_S hCT hcal hd hli hn hst hre hR hc2 hs2 hf (fun E m h => by cases h.1) (fun r m h => by obtain ⟨e1, e2⟩ := h; cases e1; rw [e2]; exact kk)
theorem lw_Sr {ν : MInfo} {n idx c2 s2 : Nat} {As rest : List Value} {R : Int → Prop} {M1 : Mem} (hCT : CT K l ν As M (rR R M1)) (hcal : CALS ν n) (hd : decode μ.2.1 pc = .ok (.invokestatic idx, 3)) (hli : Cond.methodLink μ.1.cls idx ν.1 ∈ AL) (hn : As.length = n) (hst : st = As.reverse ++ rest) (hre : (rest.map fun v => v.category).sum ≤ 8) (hR : (mRm ν).frames + 1 ≤ (mRm μ).frames ∧ 8 + (ν.2.2.1 + 11) + (mRm ν).locals ≤ (mRm μ).locals) (hc2 : cells + (mRm ν).cells ≤ c2) (hs2 : slots + (mRm ν).slots ≤ s2) (hf : c2 ≤ (mRm μ).cells ∧ s2 ≤ (mRm μ).slots)
    (kk : ∀ z, R z → AW K l μ Z (pc + 3) L (iV z :: rest) M1 c2 s2) : AW K l μ Z pc L st M cells slots :=
  lw_S hCT hcal hd hli hn hst hre hR hc2 hs2 hf (fun E m h => by obtain ⟨z, e1, e2⟩ := h; cases e1) (fun r m h => by obtain ⟨z, e1, e2, e3⟩ := h; cases e1; rw [e3]; exact kk z e2)
theorem lw_Sw {ν : MInfo} {n idx c2 s2 : Nat} {As rest : List Value} {R : Int → Mem → Prop} (hCT : CT K l ν As M (rZm R)) (hcal : CALS ν n) (hd : decode μ.2.1 pc = .ok (.invokestatic idx, 3)) (hli : Cond.methodLink μ.1.cls idx ν.1 ∈ AL) (hn : As.length = n) (hst : st = As.reverse ++ rest) (hre : (rest.map fun v => v.category).sum ≤ 8) (hR : (mRm ν).frames + 1 ≤ (mRm μ).frames ∧ 8 + (ν.2.2.1 + 11) + (mRm ν).locals ≤ (mRm μ).locals) (hc2 : cells + (mRm ν).cells ≤ c2) (hs2 : slots + (mRm ν).slots ≤ s2) (hf : c2 ≤ (mRm μ).cells ∧ s2 ≤ (mRm μ).slots)
    (kk : ∀ z m, R z m → AW K l μ Z (pc + 3) L (iV z :: rest) m c2 s2) : AW K l μ Z pc L st M cells slots :=
  lw_S hCT hcal hd hli hn hst hre hR hc2 hs2 hf (fun E m h => by obtain ⟨z, e1, e2⟩ := h; cases e1) (fun r m h => by obtain ⟨z, e1, e2⟩ := h; cases e1; exact kk z m e2)
theorem lw_Sb {ν : MInfo} {n idx c2 s2 : Nat} {As rest : List Value} {q : Prop} {M1 : Mem} (hCT : CT K l ν As M (rB q M1)) (hcal : CALS ν n) (hd : decode μ.2.1 pc = .ok (.invokestatic idx, 3)) (hli : Cond.methodLink μ.1.cls idx ν.1 ∈ AL) (hn : As.length = n) (hst : st = As.reverse ++ rest) (hre : (rest.map fun v => v.category).sum ≤ 8) (hR : (mRm ν).frames + 1 ≤ (mRm μ).frames ∧ 8 + (ν.2.2.1 + 11) + (mRm ν).locals ≤ (mRm μ).locals) (hc2 : cells + (mRm ν).cells ≤ c2) (hs2 : slots + (mRm ν).slots ≤ s2) (hf : c2 ≤ (mRm μ).cells ∧ s2 ≤ (mRm μ).slots)
    (kt : q → AW K l μ Z (pc + 3) L (iV 1 :: rest) M1 c2 s2) (kf : ¬ q → AW K l μ Z (pc + 3) L (iV 0 :: rest) M1 c2 s2) : AW K l μ Z pc L st M cells slots :=
  lw_S hCT hcal hd hli hn hst hre hR hc2 hs2 hf (fun E m h => by rcases h.1 with ⟨e1, e2⟩ | ⟨e1, e2⟩ <;> cases e1) (fun r m h => by obtain ⟨⟨e1, e2⟩ | ⟨e1, e2⟩, e3⟩ := h; (cases e1; rw [e3]; exact kt e2); (cases e1; rw [e3]; exact kf e2))
theorem lw_Wi {ν : MInfo} {n idx : Nat} {As rest : List Value} {z : Int} {M1 : Mem} {c2 s2 : Nat} (hCT : CTL K l ν As M (rI z M1)) (hcal : CALSW ν n) (hd : decode μ.2.1 pc = .ok (.invokestatic idx, 3)) (hli : Cond.methodLink μ.1.cls idx ν.1 ∈ AL) (hn : As.length = n) (hst : st = As.reverse ++ rest) (hre : (rest.map fun v => v.category).sum ≤ 8)
    (hR : (mRm ν).frames + 1 ≤ (mRm μ).frames ∧ 8 + (ν.2.2.1 + 11) + (mRm ν).locals ≤ (mRm μ).locals) (hc2 : cells + (mRm ν).cells ≤ c2) (hs2 : slots + (mRm ν).slots ≤ s2) (hf : c2 ≤ (mRm μ).cells ∧ s2 ≤ (mRm μ).slots)
    (kk : AW K l μ Z (pc + 3) L (iV z :: rest) M1 c2 s2) : AW K l μ Z pc L st M cells slots :=
  aw_callW (R := fun y m => y = z ∧ m = M1) (CTL_mono hCT (fun o m _ h => ⟨z, h.1, rfl, h.2⟩)) hcal hd hli hn hst hre hR hc2 hs2 hf (fun y m h => by rw [h.1, h.2]; exact kk)
/-- the script -/
theorem lw_slen {b L0 : Nat} {xs : Nat → Int32} (hZ : ∀ s a, Z.1 s a → va_X b L0 xs s s.heap ∧ b < s.heap.size ∧ ¬ kF K b) (hL : L0 ≤ 260) (hd : decode μ.2.1 pc = .ok (.arraylength, 1)) (kk : AW K l μ Z (pc + 1) L (iV (L0 : Int) :: st) M cells slots) : AW K l μ Z pc L (.ref b :: st) M cells slots := by
  intro p e s m args below meth c H locs ls C hl2 hW hS
  obtain ⟨hX, hbl, hbA⟩ := hZ _ _ C.2.2.2.2.2.2.2.2.2.2.2.2
  refine va_slen C.1 C.2.1 hX hbl hbA hS hd ?_
  have e1 : Int32.ofNat L0 = Int32.ofInt (L0 : Int) := by
    apply Int32.toInt_inj.mp
    rw [ri (by omega), Int32.toInt_ofNat_of_lt (by omega)]
  rw [e1]
  exact kk p e s m args below meth c H locs ls C hl2 hW hS
theorem lw_sld {b L0 : Nat} {xs : Nat → Int32} {j : Int} (hZ : ∀ s a, Z.1 s a → va_X b L0 xs s s.heap ∧ b < s.heap.size ∧ ¬ kF K b) (hL : L0 ≤ 260) (hj : 0 ≤ j ∧ j < (L0 : Int)) (hd : decode μ.2.1 pc = .ok (.iaload, 1)) (kk : ∀ z, inR z → AW K l μ Z (pc + 1) L (iV z :: st) M cells slots) : AW K l μ Z pc L (iV j :: .ref b :: st) M cells slots := by
  intro p e s m args below meth c H locs ls C hl2 hW hS
  obtain ⟨hX, hbl, hbA⟩ := hZ _ _ C.2.2.2.2.2.2.2.2.2.2.2.2
  have hR : inR j := by omega
  refine va_sld C.1 C.2.1 hX hbl hbA hS (r_vin hj.1 hj.2 hR) hd ?_
  have k2 := kk (xs (Int32.ofInt j).toNatClampNeg).toInt (i32_r _) p e s m args below meth c H locs ls C hl2 hW hS
  unfold iV at k2
  rw [Int32.ofInt_toInt] at k2
  exact k2
theorem lw_aload {k : Fin 4} {i : Nat} {a : Nat} (hd : decode μ.2.1 pc = .ok (.aload_n k, 1)) (hi : (k : Nat) = i) (hL : L[i]? = some (some (.ref a))) (kk : AW K l μ Z (pc + 1) L (.ref a :: st) M cells slots) : AW K l μ Z pc L st M cells slots := by
  intro p e s m args below meth c H locs ls C hl hW hS
  exact lv_aload_n C.1 C.2.1 hd hi (hl.at hL) (kk p e s m args below meth c H locs ls C hl hW hS)
theorem aw_same {a b : Int} {off : Int} {tgt : Nat} (hd : decode μ.2.1 pc = .ok (.if_icmp .eq off, 3)) (ht : (pc : Int) + off = (tgt : Int)) (hab : a = b) (kk : AW K l μ Z tgt L st M cells slots) : AW K l μ Z pc L (iV b :: iV a :: st) M cells slots := by
  subst hab
  intro p e s m args below meth c H locs ls C hl hW hS
  exact lv_icmp_eq C.1 C.2.1 hd ht (fun _ => kk p e s m args below meth c H locs ls C hl hW hS) (fun h => absurd rfl h)
theorem aw_samen {a b : Int} {off : Int} {tgt : Nat} (hd : decode μ.2.1 pc = .ok (.if_icmp .ne off, 3)) (ht : (pc : Int) + off = (tgt : Int)) (hab : a = b) (kk : AW K l μ Z (pc + 3) L st M cells slots) : AW K l μ Z pc L (iV b :: iV a :: st) M cells slots := by
  subst hab
  intro p e s m args below meth c H locs ls C hl hW hS
  exact lv_icmp_ne C.1 C.2.1 hd ht (fun h => absurd rfl h) (fun _ => kk p e s m args below meth c H locs ls C hl hW hS)
end AWB
/-! a method that is given the script -/
def PRX (K : WPar) (M : Mem) (b L0 : Nat) (xs : Nat → Int32) (U : State) : Prop := PRE K M U ∧ va_X b L0 xs U U.heap ∧ b < U.heap.size ∧ ¬ kF K b
def CTX (K : WPar) (l : Launch) (μ : MInfo) (avs : List Value) (M : Mem) (b L0 : Nat) (xs : Nat → Int32) (P : OutT → Mem → Prop) : Prop :=
  vx_Met l μ.1 (.code μ.1 μ.2.1 μ.2.2.1 μ.2.2.2.1 :: AL) (mRm μ) (va_Pc avs (PRX K M b L0 xs)) (ctQ K P) (ctX K P) μ.2.2.2.2.2.1.1 μ.2.2.2.2.2.1.2 (kF K)
def ZX (K : WPar) (μ : MInfo) (b L0 : Nat) (xs : Nat → Int32) (P : OutT → Mem → Prop) : ZT := (fun s _ => va_X b L0 xs s s.heap ∧ b < s.heap.size ∧ ¬ kF K b, (ZM K μ P).2)
section AWX
variable {K : WPar} {l : Launch} {μ : MInfo} {Z : ZT} {pc : Nat} {L : List (Option Value)} {st : List Value} {M : Mem} {cells slots : Nat} {b L0 : Nat} {xs : Nat → Int32}
theorem aw_zx {P : OutT → Mem → Prop} (k : AW K l μ (ZM K μ P) pc L st M cells slots) : AW K l μ (ZX K μ b L0 xs P) pc L st M cells slots := by
  intro p e s m args below meth c H locs ls C hl hW hS
  exact k p e s m args below meth c H locs ls ⟨C.1, C.2.1, C.2.2.1, C.2.2.2.1, C.2.2.2.2.1, C.2.2.2.2.2.1, C.2.2.2.2.2.2.1, C.2.2.2.2.2.2.2.1, C.2.2.2.2.2.2.2.2.1, C.2.2.2.2.2.2.2.2.2.1, C.2.2.2.2.2.2.2.2.2.2.1, C.2.2.2.2.2.2.2.2.2.2.2.1, trivial⟩ hl hW hS
theorem prx_blind {avs : List Value} : FrameBlind (va_Pc avs (PRX K M b L0 xs)) := by
  intro a U g mk ⟨h1, hp, hX, h3, h4⟩
  have := pre_blind (K := K) (avs := avs) (M := M) a U g mk ⟨h1, hp⟩
  exact ⟨this.1, this.2, va_X.moved (u := U) (U := U.calling g mk a) (Vm.Alike.refl U.vm) hX, h3, h4⟩
theorem aw_metX {P : OutT → Mem → Prop} {avs : List Value} (L1 : List (Option Value)) (hst : l.stackTraces = false) (hy : plainName μ.1.cls = true) (htb : μ.2.2.2.2.2.2 = []) (hlen : (lg_sl avs).length ≤ μ.2.2.1) (hL : lv_args 0 avs = lvo 0 L1) (hLl : L1.length = μ.2.2.1) (hcat : ∀ v, some v ∈ L1 → v.category = 1) (k : AW K l μ (ZX K μ b L0 xs P) 0 L1 [] M 0 0) : CTX K l μ avs M b L0 xs P := by
  refine vx_ofW (cc := μ.2.1) (maxL := μ.2.2.1) (ret := μ.2.2.2.1) hy rfl ?_
  intro p e s m args below meth c s₁ B hml hex hv
  obtain ⟨rfl, ⟨hWd, hK, hS, hA⟩, hX⟩ := hv
  have hts := atoms_spec (ws := .code μ.1 μ.2.1 μ.2.2.1 μ.2.2.2.1 :: AL) B.pre
  rw [lg_entry_eq]
  have hle := lv_entry avs hlen
  rw [hL] at hle
  exact k p e s m _ below meth c s.heap [] _ ⟨B.exec, B.bytes, hml, findClass_of_methodNamed B.named, fun w hw => hts w (List.mem_cons_of_mem _ hw), B.returns, B.notSynchronized, by rw [htb]; exact List.eq_nil_iff_forall_not_mem.mpr (fun x hx => hex x hx), hK, hS, hA, hst, hX⟩ ⟨hle, hLl, hcat⟩ hWd va_S.rf
theorem lw_X {ν : MInfo} {n idx c2 s2 : Nat} {As rest : List Value} {R : Int → Prop} (hZ : ∀ s a, Z.1 s a → va_X b L0 xs s s.heap ∧ b < s.heap.size ∧ ¬ kF K b) (hCT : CTX K l ν As M b L0 xs (rR R M)) (hcal : CALS ν n) (hd : decode μ.2.1 pc = .ok (.invokestatic idx, 3)) (hli : Cond.methodLink μ.1.cls idx ν.1 ∈ AL) (hn : As.length = n) (hst : st = As.reverse ++ rest) (hre : (rest.map fun v => v.category).sum ≤ 8)
    (hR : (mRm ν).frames + 1 ≤ (mRm μ).frames ∧ 8 + (ν.2.2.1 + 11) + (mRm ν).locals ≤ (mRm μ).locals) (hc2 : cells + (mRm ν).cells ≤ c2) (hs2 : slots + (mRm ν).slots ≤ s2) (hf : c2 ≤ (mRm μ).cells ∧ s2 ≤ (mRm μ).slots)
    (kk : ∀ z, R z → AW K l μ Z (pc + 3) L (iV z :: rest) M c2 s2) : AW K l μ Z pc L st M cells slots := by
  subst hst
  intro p e s m args below meth c H locs ls C hl hW hS
  have hts : ∀ w ∈ AL, w.before args s = true := C.2.2.2.2.1
  have hK := C.2.2.2.2.2.2.2.2.1
  have hSX := C.2.2.2.2.2.2.2.2.2.1
  have hAD : ADK K := C.2.2.2.2.2.2.2.2.2.2.1
  obtain ⟨hX, hbl, hbA⟩ := hZ _ _ C.2.2.2.2.2.2.2.2.2.2.2.2
  refine aw_go C hl hS (vx_runS (mc := (mRm ν).cells) (ms := (mRm ν).slots) (As := As) (rest := rest) ⟨C.1, C.2.1, C.2.2.1, C.2.2.2.1, hts⟩ hCT ⟨callB_of n hts (al_good hcal.1) rfl rfl rfl (hts _ hcal.2.2.1) (hts _ hli) hcal.2.2.2 hR, hts _ hcal.2.1⟩ ⟨prx_blind, fun U hU hWm => ⟨rfl, pre_at hW hK hSX hAD hS hU hWm, ?_, ?_, hbA⟩⟩ rfl hn hl.1.1 rfl (lv_room hre) hd ⟨Nat.le_trans hc2 hf.1, Nat.le_trans hs2 hf.2⟩) (fun r M1 h => ?_) (fun E M1 h => ?_)
  · exact va_X.moved hWm.alike (hX.kept (by rw [hU]; exact hS.2.1 b hbl hbA))
  · rw [hU]; exact Nat.lt_of_lt_of_le hbl hS.1
  · obtain ⟨z, e1, e2, e3⟩ := h
    cases e1
    rw [e3]
    exact aw_wide hc2 hs2 (kk z e2)
  · obtain ⟨z, e1, _⟩ := h
    cases e1
end AWX
