/-! the forms of an end, and calls by them; a method's facts -/
def catB (L : List (Option Value)) : Bool := L.all fun o => match o with
  | none => true
  | some v => v.category == 1
theorem lcat {L : List (Option Value)} (h : catB L = true) : ∀ v, some v ∈ L → v.category = 1 := by
  intro v hv
  have := List.all_eq_true.mp h (some v) hv
  simpa using this
def rB (p : Prop) (M1 : Mem) : OutT → Mem → Prop := fun o m => ((o = .inl (some 1) ∧ p) ∨ (o = .inl (some 0) ∧ ¬ p)) ∧ m = M1
def rX (ok : Prop) (res : Option Int) (M1 : Mem) (E : String) (M : Mem) : OutT → Mem → Prop := fun o m => (ok ∧ o = .inl res ∧ m = M1) ∨ (¬ ok ∧ o = .inr E ∧ m = M)
def rR (R : Int → Prop) (M1 : Mem) : OutT → Mem → Prop := fun o m => ∃ z, o = .inl (some z) ∧ R z ∧ m = M1
def rMm (R : Mem → Prop) : OutT → Mem → Prop := fun o m => o = .inl none ∧ R m
section AWD
variable {K : WPar} {l : Launch} {μ : MInfo} {Z : ZT} {pc : Nat} {L : List (Option Value)} {st : List Value} {M : Mem} {cells slots : Nat}
theorem aw_cVb {ν : MInfo} {n g ci x N idx : Nat} {T : u_T} {fs : List (Option Nat)} {As rest : List Value} {q : Prop} {M1 : Mem} (hCT : CT K l ν (rV K g 0 :: As) M (rB q M1)) (hcal : CALV ν n) (hd : decode μ.2.1 pc = .ok (.invokevirtual idx, 3)) (hli : Cond.methodLink μ.1.cls idx ν.1 ∈ AL) (hk : gk g = (0, ci, x, fs)) (hc : vwCl[ci]? = some (ν.1.cls, T, N)) (hcnt : gcnt g = 1) (hn : As.length = n) (hst : st = As.reverse ++ rV K g 0 :: rest) (hre : (rest.map fun v => v.category).sum ≤ 8) (hR : (mRm ν).frames + 1 ≤ (mRm μ).frames ∧ 8 + (ν.2.2.1 + 11) + (mRm ν).locals ≤ (mRm μ).locals) (h0 : (mRm ν).cells = 0) (h1 : (mRm ν).slots = 0) (hf : cells ≤ (mRm μ).cells ∧ slots ≤ (mRm μ).slots) (kt : q → AW K l μ Z (pc + 3) L (iV 1 :: rest) M1 cells slots) (kf : ¬ q → AW K l μ Z (pc + 3) L (iV 0 :: rest) M1 cells slots) : AW K l μ Z pc L st M cells slots := by
  refine aw_callV hCT hcal hd hli hk hc hcnt hn hst hre hR (by rw [h0, h1]; exact hf) (fun r M2 h => ?_) (fun E M2 h => ?_)
  · rcases h with ⟨⟨e1, e2⟩ | ⟨e1, e2⟩, e3⟩
    · cases e1
      rw [h0, h1, e3]
      exact kt e2
    · cases e1
      rw [h0, h1, e3]
      exact kf e2
  · rcases h with ⟨⟨e1, e2⟩ | ⟨e1, e2⟩, e3⟩
    · cases e1
    · cases e1
theorem aw_cVr {ν : MInfo} {n g ci x N idx : Nat} {T : u_T} {fs : List (Option Nat)} {As rest : List Value} {R : Int → Prop} {M1 : Mem} (hCT : CT K l ν (rV K g 0 :: As) M (rR R M1)) (hcal : CALV ν n) (hd : decode μ.2.1 pc = .ok (.invokevirtual idx, 3)) (hli : Cond.methodLink μ.1.cls idx ν.1 ∈ AL) (hk : gk g = (0, ci, x, fs)) (hc : vwCl[ci]? = some (ν.1.cls, T, N)) (hcnt : gcnt g = 1) (hn : As.length = n) (hst : st = As.reverse ++ rV K g 0 :: rest) (hre : (rest.map fun v => v.category).sum ≤ 8) (hR : (mRm ν).frames + 1 ≤ (mRm μ).frames ∧ 8 + (ν.2.2.1 + 11) + (mRm ν).locals ≤ (mRm μ).locals) (h0 : (mRm ν).cells = 0) (h1 : (mRm ν).slots = 0) (hf : cells ≤ (mRm μ).cells ∧ slots ≤ (mRm μ).slots) (kk : ∀ z, R z → AW K l μ Z (pc + 3) L (iV z :: rest) M1 cells slots) : AW K l μ Z pc L st M cells slots := by
  refine aw_callV hCT hcal hd hli hk hc hcnt hn hst hre hR (by rw [h0, h1]; exact hf) (fun r M2 h => ?_) (fun E M2 h => ?_)
  · obtain ⟨z, e1, e2, e3⟩ := h
    cases e1
    rw [h0, h1, e3]
    exact kk z e2
  · obtain ⟨z, e1, e2, e3⟩ := h
    cases e1
theorem aw_cVm {ν : MInfo} {n g ci x N idx : Nat} {T : u_T} {fs : List (Option Nat)} {As rest : List Value} {R : Mem → Prop} (hCT : CT K l ν (rV K g 0 :: As) M (rMm R)) (hcal : CALV ν n) (hd : decode μ.2.1 pc = .ok (.invokevirtual idx, 3)) (hli : Cond.methodLink μ.1.cls idx ν.1 ∈ AL) (hk : gk g = (0, ci, x, fs)) (hc : vwCl[ci]? = some (ν.1.cls, T, N)) (hcnt : gcnt g = 1) (hn : As.length = n) (hst : st = As.reverse ++ rV K g 0 :: rest) (hre : (rest.map fun v => v.category).sum ≤ 8) (hR : (mRm ν).frames + 1 ≤ (mRm μ).frames ∧ 8 + (ν.2.2.1 + 11) + (mRm ν).locals ≤ (mRm μ).locals) (h0 : (mRm ν).cells = 0) (h1 : (mRm ν).slots = 0) (hf : cells ≤ (mRm μ).cells ∧ slots ≤ (mRm μ).slots) (kk : ∀ m, R m → AW K l μ Z (pc + 3) L rest m cells slots) : AW K l μ Z pc L st M cells slots := by
  refine aw_callV hCT hcal hd hli hk hc hcnt hn hst hre hR (by rw [h0, h1]; exact hf) (fun r M2 h => ?_) (fun E M2 h => ?_)
  · obtain ⟨e1, e2⟩ := h
    cases e1
    rw [h0, h1]
    exact kk M2 e2
  · cases h.1
theorem aw_cVx {ν : MInfo} {n g ci x N idx : Nat} {T : u_T} {fs : List (Option Nat)} {As rest : List Value} {ok : Prop} {res : Option Int} {M1 : Mem} {E : String} {st2 : List Value} {c2 s2 : Nat} (hCT : CT K l ν (rV K g 0 :: As) M (rX ok res M1 E M)) (hcal : CALV ν n) (hd : decode μ.2.1 pc = .ok (.invokevirtual idx, 3)) (hli : Cond.methodLink μ.1.cls idx ν.1 ∈ AL) (hk : gk g = (0, ci, x, fs)) (hc : vwCl[ci]? = some (ν.1.cls, T, N)) (hcnt : gcnt g = 1) (hn : As.length = n) (hst : st = As.reverse ++ rV K g 0 :: rest) (hre : (rest.map fun v => v.category).sum ≤ 8) (hR : (mRm ν).frames + 1 ≤ (mRm μ).frames ∧ 8 + (ν.2.2.1 + 11) + (mRm ν).locals ≤ (mRm μ).locals) (hs2 : (res.map iV).toList ++ rest = st2) (hc2 : cells + (mRm ν).cells = c2) (hl2 : slots + (mRm ν).slots = s2) (hf : c2 ≤ (mRm μ).cells ∧ s2 ≤ (mRm μ).slots) (kk : ok → AW K l μ Z (pc + 3) L st2 M1 c2 s2) (kx : ¬ ok → AX K l μ Z pc L rest M c2 s2 E) : AW K l μ Z pc L st M cells slots := by
  subst hs2 hc2 hl2
  refine aw_callV hCT hcal hd hli hk hc hcnt hn hst hre hR hf (fun r M2 h => ?_) (fun E2 M2 h => ?_)
  · rcases h with ⟨e1, e2, e3⟩ | ⟨e1, e2, e3⟩
    · cases e2
      rw [e3]
      exact kk e1
    · cases e2
  · rcases h with ⟨e1, e2, e3⟩ | ⟨e1, e2, e3⟩
    · cases e2
    · cases e2
      rw [e3]
      exact kx e1
theorem aw_cSb {ν : MInfo} {n idx : Nat} {As rest : List Value} {q : Prop} {M1 : Mem} (hCT : CT K l ν As M (rB q M1)) (hcal : CALS ν n) (hd : decode μ.2.1 pc = .ok (.invokestatic idx, 3)) (hli : Cond.methodLink μ.1.cls idx ν.1 ∈ AL) (hn : As.length = n) (hst : st = As.reverse ++ rest) (hre : (rest.map fun v => v.category).sum ≤ 8) (hR : (mRm ν).frames + 1 ≤ (mRm μ).frames ∧ 8 + (ν.2.2.1 + 11) + (mRm ν).locals ≤ (mRm μ).locals) (h0 : (mRm ν).cells = 0) (h1 : (mRm ν).slots = 0) (hf : cells ≤ (mRm μ).cells ∧ slots ≤ (mRm μ).slots) (kt : q → AW K l μ Z (pc + 3) L (iV 1 :: rest) M1 cells slots) (kf : ¬ q → AW K l μ Z (pc + 3) L (iV 0 :: rest) M1 cells slots) : AW K l μ Z pc L st M cells slots := by
  refine aw_callS hCT hcal hd hli hn hst hre hR (by rw [h0, h1]; exact hf) (fun r M2 h => ?_) (fun E M2 h => ?_)
  · rcases h with ⟨⟨e1, e2⟩ | ⟨e1, e2⟩, e3⟩
    · cases e1
      rw [h0, h1, e3]
      exact kt e2
    · cases e1
      rw [h0, h1, e3]
      exact kf e2
  · rcases h with ⟨⟨e1, e2⟩ | ⟨e1, e2⟩, e3⟩
    · cases e1
    · cases e1
theorem aw_cSr {ν : MInfo} {n idx : Nat} {As rest : List Value} {R : Int → Prop} {M1 : Mem} (hCT : CT K l ν As M (rR R M1)) (hcal : CALS ν n) (hd : decode μ.2.1 pc = .ok (.invokestatic idx, 3)) (hli : Cond.methodLink μ.1.cls idx ν.1 ∈ AL) (hn : As.length = n) (hst : st = As.reverse ++ rest) (hre : (rest.map fun v => v.category).sum ≤ 8) (hR : (mRm ν).frames + 1 ≤ (mRm μ).frames ∧ 8 + (ν.2.2.1 + 11) + (mRm ν).locals ≤ (mRm μ).locals) (h0 : (mRm ν).cells = 0) (h1 : (mRm ν).slots = 0) (hf : cells ≤ (mRm μ).cells ∧ slots ≤ (mRm μ).slots) (kk : ∀ z, R z → AW K l μ Z (pc + 3) L (iV z :: rest) M1 cells slots) : AW K l μ Z pc L st M cells slots := by
  refine aw_callS hCT hcal hd hli hn hst hre hR (by rw [h0, h1]; exact hf) (fun r M2 h => ?_) (fun E M2 h => ?_)
  · obtain ⟨z, e1, e2, e3⟩ := h
    cases e1
    rw [h0, h1, e3]
    exact kk z e2
  · obtain ⟨z, e1, e2, e3⟩ := h
    cases e1
theorem aw_cSm {ν : MInfo} {n idx : Nat} {As rest : List Value} {R : Mem → Prop} (hCT : CT K l ν As M (rMm R)) (hcal : CALS ν n) (hd : decode μ.2.1 pc = .ok (.invokestatic idx, 3)) (hli : Cond.methodLink μ.1.cls idx ν.1 ∈ AL) (hn : As.length = n) (hst : st = As.reverse ++ rest) (hre : (rest.map fun v => v.category).sum ≤ 8) (hR : (mRm ν).frames + 1 ≤ (mRm μ).frames ∧ 8 + (ν.2.2.1 + 11) + (mRm ν).locals ≤ (mRm μ).locals) (h0 : (mRm ν).cells = 0) (h1 : (mRm ν).slots = 0) (hf : cells ≤ (mRm μ).cells ∧ slots ≤ (mRm μ).slots) (kk : ∀ m, R m → AW K l μ Z (pc + 3) L rest m cells slots) : AW K l μ Z pc L st M cells slots := by
  refine aw_callS hCT hcal hd hli hn hst hre hR (by rw [h0, h1]; exact hf) (fun r M2 h => ?_) (fun E M2 h => ?_)
  · obtain ⟨e1, e2⟩ := h
    cases e1
    rw [h0, h1]
    exact kk M2 e2
  · cases h.1
theorem aw_cSn {ν : MInfo} {n idx : Nat} {As rest : List Value} {M1 : Mem} (hCT : CT K l ν As M (rN M1)) (hcal : CALS ν n) (hd : decode μ.2.1 pc = .ok (.invokestatic idx, 3)) (hli : Cond.methodLink μ.1.cls idx ν.1 ∈ AL) (hn : As.length = n) (hst : st = As.reverse ++ rest) (hre : (rest.map fun v => v.category).sum ≤ 8) (hR : (mRm ν).frames + 1 ≤ (mRm μ).frames ∧ 8 + (ν.2.2.1 + 11) + (mRm ν).locals ≤ (mRm μ).locals) (h0 : (mRm ν).cells = 0) (h1 : (mRm ν).slots = 0) (hf : cells ≤ (mRm μ).cells ∧ slots ≤ (mRm μ).slots) (kk : AW K l μ Z (pc + 3) L rest M1 cells slots) : AW K l μ Z pc L st M cells slots := by
  refine aw_callS hCT hcal hd hli hn hst hre hR (by rw [h0, h1]; exact hf) (fun r M2 h => ?_) (fun E M2 h => ?_)
  · obtain ⟨e1, e2⟩ := h
    cases e1
    rw [h0, h1, e2]
    exact kk
  · cases h.1
theorem aw_cSx {ν : MInfo} {n idx : Nat} {As rest : List Value} {ok : Prop} {res : Option Int} {M1 : Mem} {E : String} {st2 : List Value} {c2 s2 : Nat} (hCT : CT K l ν As M (rX ok res M1 E M)) (hcal : CALS ν n) (hd : decode μ.2.1 pc = .ok (.invokestatic idx, 3)) (hli : Cond.methodLink μ.1.cls idx ν.1 ∈ AL) (hn : As.length = n) (hst : st = As.reverse ++ rest) (hre : (rest.map fun v => v.category).sum ≤ 8) (hR : (mRm ν).frames + 1 ≤ (mRm μ).frames ∧ 8 + (ν.2.2.1 + 11) + (mRm ν).locals ≤ (mRm μ).locals) (hs2 : (res.map iV).toList ++ rest = st2) (hc2 : cells + (mRm ν).cells = c2) (hl2 : slots + (mRm ν).slots = s2) (hf : c2 ≤ (mRm μ).cells ∧ s2 ≤ (mRm μ).slots) (kk : ok → AW K l μ Z (pc + 3) L st2 M1 c2 s2) (kx : ¬ ok → AX K l μ Z pc L rest M c2 s2 E) : AW K l μ Z pc L st M cells slots := by
  subst hs2 hc2 hl2
  refine aw_callS hCT hcal hd hli hn hst hre hR hf (fun r M2 h => ?_) (fun E2 M2 h => ?_)
  · rcases h with ⟨e1, e2, e3⟩ | ⟨e1, e2, e3⟩
    · cases e2
      rw [e3]
      exact kk e1
    · cases e2
  · rcases h with ⟨e1, e2, e3⟩ | ⟨e1, e2, e3⟩
    · cases e2
    · cases e2
      rw [e3]
      exact kx e1
end AWD
def iX0_carryOut : MInfo := (yX0_carryOut, cX0_carryOut, 9, some .int, (4, 105), (0, 0), [])
theorem cv_X0_carryOut : CALV iX0_carryOut 0 := ⟨co_X0_carryOut, im_X0_carryOut, se_X0_carryOut, in_X0, by decide, by decide, by decide +kernel⟩
def iX0_collect : MInfo := (yX0_collect, cX0_collect, 5, none, (4, 86), (0, 0), [])
theorem cv_X0_collect : CALV iX0_collect 2 := ⟨co_X0_collect, im_X0_collect, se_X0_collect, in_X0, by decide, by decide, by decide +kernel⟩
def iX0_find : MInfo := (yX0_find, cX0_find, 3, some .boolean, (5, 128), (0, 0), [])
theorem cv_X0_find : CALV iX0_find 1 := ⟨co_X0_find, im_X0_find, se_X0_find, in_X0, by decide, by decide, by decide +kernel⟩
def iX0_lowestIn : MInfo := (yX0_lowestIn, cX0_lowestIn, 4, some .int, (3, 63), (0, 0), [])
theorem cv_X0_lowestIn : CALV iX0_lowestIn 2 := ⟨co_X0_lowestIn, im_X0_lowestIn, se_X0_lowestIn, in_X0, by decide, by decide, by decide +kernel⟩
def iX0_markEnds : MInfo := (yX0_markEnds, cX0_markEnds, 4, none, (4, 105), (0, 0), [])
theorem cv_X0_markEnds : CALV iX0_markEnds 1 := ⟨co_X0_markEnds, im_X0_markEnds, se_X0_markEnds, in_X0, by decide, by decide, by decide +kernel⟩
def iX0_move : MInfo := (yX0_move, cX0_move, 4, none, (2, 47), (0, 0), [])
theorem cv_X0_move : CALV iX0_move 3 := ⟨co_X0_move, im_X0_move, se_X0_move, in_X0, by decide, by decide, by decide +kernel⟩
def iX0_shortenSteps : MInfo := (yX0_shortenSteps, cX0_shortenSteps, 4, none, (3, 63), (0, 0), [])
theorem cv_X0_shortenSteps : CALV iX0_shortenSteps 0 := ⟨co_X0_shortenSteps, im_X0_shortenSteps, se_X0_shortenSteps, in_X0, by decide, by decide, by decide +kernel⟩
def iX0_stepsOf : MInfo := (yX0_stepsOf, cX0_stepsOf, 2, some .int, (1, 21), (0, 0), [])
theorem cv_X0_stepsOf : CALV iX0_stepsOf 1 := ⟨co_X0_stepsOf, im_X0_stepsOf, se_X0_stepsOf, in_X0, by decide, by decide, by decide +kernel⟩
def iX0_takesPart : MInfo := (yX0_takesPart, cX0_takesPart, 2, some .boolean, (2, 42), (0, 0), [])
theorem cv_X0_takesPart : CALV iX0_takesPart 1 := ⟨co_X0_takesPart, im_X0_takesPart, se_X0_takesPart, in_X0, by decide, by decide, by decide +kernel⟩
def iX1_decide : MInfo := (yX1_decide, cX1_decide, 10, none, (1, 30), (0, 0), [])
theorem cv_X1_decide : CALV iX1_decide 2 := ⟨co_X1_decide, im_X1_decide, se_X1_decide, in_X1, by decide, by decide, by decide +kernel⟩
def iX1_find : MInfo := (yX1_find, cX1_find, 4, some .boolean, (5, 128), (0, 0), [])
theorem cv_X1_find : CALV iX1_find 1 := ⟨co_X1_find, im_X1_find, se_X1_find, in_X1, by decide, by decide, by decide +kernel⟩
def iX1_firstIn : MInfo := (yX1_firstIn, cX1_firstIn, 2, some .int, (1, 21), (0, 0), [])
theorem cv_X1_firstIn : CALV iX1_firstIn 1 := ⟨co_X1_firstIn, im_X1_firstIn, se_X1_firstIn, in_X1, by decide, by decide, by decide +kernel⟩
def iX1_keepsBest : MInfo := (yX1_keepsBest, cX1_keepsBest, 4, some .boolean, (0, 0), (0, 0), [])
theorem cv_X1_keepsBest : CALV iX1_keepsBest 3 := ⟨co_X1_keepsBest, im_X1_keepsBest, se_X1_keepsBest, in_X1, by decide, by decide, by decide +kernel⟩
def iX1_mostSeats : MInfo := (yX1_mostSeats, cX1_mostSeats, 4, some .int, (1, 30), (0, 0), [])
theorem cv_X1_mostSeats : CALV iX1_mostSeats 2 := ⟨co_X1_mostSeats, im_X1_mostSeats, se_X1_mostSeats, in_X1, by decide, by decide, by decide +kernel⟩
def iX1_readBlocks : MInfo := (yX1_readBlocks, cX1_readBlocks, 4, none, (4, 105), (0, 0), [])
theorem cv_X1_readBlocks : CALV iX1_readBlocks 1 := ⟨co_X1_readBlocks, im_X1_readBlocks, se_X1_readBlocks, in_X1, by decide, by decide, by decide +kernel⟩
def iX1_rowsUsed : MInfo := (yX1_rowsUsed, cX1_rowsUsed, 1, some .int, (0, 0), (0, 0), [])
theorem cv_X1_rowsUsed : CALV iX1_rowsUsed 0 := ⟨co_X1_rowsUsed, im_X1_rowsUsed, se_X1_rowsUsed, in_X1, by decide, by decide, by decide +kernel⟩
def iX1_seatsFrom : MInfo := (yX1_seatsFrom, cX1_seatsFrom, 2, some .int, (1, 21), (0, 0), [])
theorem cv_X1_seatsFrom : CALV iX1_seatsFrom 1 := ⟨co_X1_seatsFrom, im_X1_seatsFrom, se_X1_seatsFrom, in_X1, by decide, by decide, by decide +kernel⟩
def iX1_startBehindLastRow : MInfo := (yX1_startBehindLastRow, cX1_startBehindLastRow, 4, none, (1, 20), (0, 0), [])
theorem cv_X1_startBehindLastRow : CALV iX1_startBehindLastRow 1 := ⟨co_X1_startBehindLastRow, im_X1_startBehindLastRow, se_X1_startBehindLastRow, in_X1, by decide, by decide, by decide +kernel⟩
def iX1_takeFromRows : MInfo := (yX1_takeFromRows, cX1_takeFromRows, 4, none, (2, 53), (0, 0), [])
theorem cv_X1_takeFromRows : CALV iX1_takeFromRows 1 := ⟨co_X1_takeFromRows, im_X1_takeFromRows, se_X1_takeFromRows, in_X1, by decide, by decide, by decide +kernel⟩
def iX2_append : MInfo := (yX2_append, cX2_append, 4, some .int, (0, 0), (0, 0), [])
theorem cv_X2_append : CALV iX2_append 3 := ⟨co_X2_append, im_X2_append, se_X2_append, in_X2, by decide, by decide, by decide +kernel⟩
def iX2_blockValue : MInfo := (yX2_blockValue, cX2_blockValue, 6, some .int, (2, 52), (0, 0), [])
theorem cv_X2_blockValue : CALV iX2_blockValue 3 := ⟨co_X2_blockValue, im_X2_blockValue, se_X2_blockValue, in_X2, by decide, by decide, by decide +kernel⟩
def iX2_countFree : MInfo := (yX2_countFree, cX2_countFree, 4, some .int, (2, 44), (0, 0), [])
theorem cv_X2_countFree : CALV iX2_countFree 1 := ⟨co_X2_countFree, im_X2_countFree, se_X2_countFree, in_X2, by decide, by decide, by decide +kernel⟩
def iX2_countOrphans : MInfo := (yX2_countOrphans, cX2_countOrphans, 4, some .int, (2, 44), (0, 0), [])
theorem cv_X2_countOrphans : CALV iX2_countOrphans 0 := ⟨co_X2_countOrphans, im_X2_countOrphans, se_X2_countOrphans, in_X2, by decide, by decide, by decide +kernel⟩
def iX2_freeOwnedBy : MInfo := (yX2_freeOwnedBy, cX2_freeOwnedBy, 4, none, (1, 21), (0, 0), [])
theorem cv_X2_freeOwnedBy : CALV iX2_freeOwnedBy 1 := ⟨co_X2_freeOwnedBy, im_X2_freeOwnedBy, se_X2_freeOwnedBy, in_X2, by decide, by decide, by decide +kernel⟩
def iX2_give : MInfo := (yX2_give, cX2_give, 6, none, (1, 22), (0, 0), [])
theorem cv_X2_give : CALV iX2_give 4 := ⟨co_X2_give, im_X2_give, se_X2_give, in_X2, by decide, by decide, by decide +kernel⟩
def iX2_greatestIn : MInfo := (yX2_greatestIn, cX2_greatestIn, 9, some .int, (3, 77), (0, 0), [])
theorem cv_X2_greatestIn : CALV iX2_greatestIn 3 := ⟨co_X2_greatestIn, im_X2_greatestIn, se_X2_greatestIn, in_X2, by decide, by decide, by decide +kernel⟩
def iX2_greatestOfAll : MInfo := (yX2_greatestOfAll, cX2_greatestOfAll, 8, some .int, (4, 105), (0, 0), [])
theorem cv_X2_greatestOfAll : CALV iX2_greatestOfAll 2 := ⟨co_X2_greatestOfAll, im_X2_greatestOfAll, se_X2_greatestOfAll, in_X2, by decide, by decide, by decide +kernel⟩
def iX2_hasRow : MInfo := (yX2_hasRow, cX2_hasRow, 2, some .boolean, (0, 0), (0, 0), [])
theorem cv_X2_hasRow : CALV iX2_hasRow 1 := ⟨co_X2_hasRow, im_X2_hasRow, se_X2_hasRow, in_X2, by decide, by decide, by decide +kernel⟩
def iX2_hasSeat : MInfo := (yX2_hasSeat, cX2_hasSeat, 3, some .boolean, (0, 0), (0, 0), [])
theorem cv_X2_hasSeat : CALV iX2_hasSeat 2 := ⟨co_X2_hasSeat, im_X2_hasSeat, se_X2_hasSeat, in_X2, by decide, by decide, by decide +kernel⟩
def iX2_isFree : MInfo := (yX2_isFree, cX2_isFree, 3, some .boolean, (1, 22), (0, 0), [])
theorem cv_X2_isFree : CALV iX2_isFree 2 := ⟨co_X2_isFree, im_X2_isFree, se_X2_isFree, in_X2, by decide, by decide, by decide +kernel⟩
def iX2_isPossible : MInfo := (yX2_isPossible, cX2_isPossible, 5, some .boolean, (1, 21), (0, 0), [])
theorem cv_X2_isPossible : CALV iX2_isPossible 3 := ⟨co_X2_isPossible, im_X2_isPossible, se_X2_isPossible, in_X2, by decide, by decide, by decide +kernel⟩
def iX2_longestFree : MInfo := (yX2_longestFree, cX2_longestFree, 3, some .int, (3, 68), (0, 0), [])
theorem cv_X2_longestFree : CALV iX2_longestFree 0 := ⟨co_X2_longestFree, im_X2_longestFree, se_X2_longestFree, in_X2, by decide, by decide, by decide +kernel⟩
def iX2_longestFreeIn : MInfo := (yX2_longestFreeIn, cX2_longestFreeIn, 5, some .int, (2, 44), (0, 0), [])
theorem cv_X2_longestFreeIn : CALV iX2_longestFreeIn 1 := ⟨co_X2_longestFreeIn, im_X2_longestFreeIn, se_X2_longestFreeIn, in_X2, by decide, by decide, by decide +kernel⟩
def iX2_orphanBeside : MInfo := (yX2_orphanBeside, cX2_orphanBeside, 6, some .boolean, (2, 44), (0, 0), [])
theorem cv_X2_orphanBeside : CALV iX2_orphanBeside 3 := ⟨co_X2_orphanBeside, im_X2_orphanBeside, se_X2_orphanBeside, in_X2, by decide, by decide, by decide +kernel⟩
def iX2_ownerOf : MInfo := (yX2_ownerOf, cX2_ownerOf, 3, some .int, (1, 22), (0, 0), [])
theorem cv_X2_ownerOf : CALV iX2_ownerOf 2 := ⟨co_X2_ownerOf, im_X2_ownerOf, se_X2_ownerOf, in_X2, by decide, by decide, by decide +kernel⟩
def iX2_priceOwnedBy : MInfo := (yX2_priceOwnedBy, cX2_priceOwnedBy, 5, some .int, (1, 21), (0, 0), [])
theorem cv_X2_priceOwnedBy : CALV iX2_priceOwnedBy 1 := ⟨co_X2_priceOwnedBy, im_X2_priceOwnedBy, se_X2_priceOwnedBy, in_X2, by decide, by decide, by decide +kernel⟩
def iX2_rowCount : MInfo := (yX2_rowCount, cX2_rowCount, 1, some .int, (0, 0), (0, 0), [])
theorem cv_X2_rowCount : CALV iX2_rowCount 0 := ⟨co_X2_rowCount, im_X2_rowCount, se_X2_rowCount, in_X2, by decide, by decide, by decide +kernel⟩
def iX2_seatValue : MInfo := (yX2_seatValue, cX2_seatValue, 3, some .int, (1, 30), (0, 0), [])
theorem cv_X2_seatValue : CALV iX2_seatValue 2 := ⟨co_X2_seatValue, im_X2_seatValue, se_X2_seatValue, in_X2, by decide, by decide, by decide +kernel⟩
def iX2_seatsIn : MInfo := (yX2_seatsIn, cX2_seatsIn, 2, some .int, (0, 0), (0, 0), [])
theorem cv_X2_seatsIn : CALV iX2_seatsIn 1 := ⟨co_X2_seatsIn, im_X2_seatsIn, se_X2_seatsIn, in_X2, by decide, by decide, by decide +kernel⟩
def iX3_close : MInfo := (yX3_close, cX3_close, 3, none, (1, 21), (0, 0), [])
theorem cv_X3_close : CALV iX3_close 2 := ⟨co_X3_close, im_X3_close, se_X3_close, in_X3, by decide, by decide, by decide +kernel⟩
def iX3_count : MInfo := (yX3_count, cX3_count, 1, some .int, (0, 0), (0, 0), [])
theorem cv_X3_count : CALV iX3_count 0 := ⟨co_X3_count, im_X3_count, se_X3_count, in_X3, by decide, by decide, by decide +kernel⟩
def iX3_earliestEnd : MInfo := (yX3_earliestEnd, cX3_earliestEnd, 3, some .int, (0, 0), (0, 0), [])
theorem cv_X3_earliestEnd : CALV iX3_earliestEnd 0 := ⟨co_X3_earliestEnd, im_X3_earliestEnd, se_X3_earliestEnd, in_X3, by decide, by decide, by decide +kernel⟩
def iX3_endOf : MInfo := (yX3_endOf, cX3_endOf, 2, some .int, (1, 21), (0, 0), [])
theorem cv_X3_endOf : CALV iX3_endOf 1 := ⟨co_X3_endOf, im_X3_endOf, se_X3_endOf, in_X3, by decide, by decide, by decide +kernel⟩
def iX3_extensionsOf : MInfo := (yX3_extensionsOf, cX3_extensionsOf, 2, some .int, (1, 21), (0, 0), [])
theorem cv_X3_extensionsOf : CALV iX3_extensionsOf 1 := ⟨co_X3_extensionsOf, im_X3_extensionsOf, se_X3_extensionsOf, in_X3, by decide, by decide, by decide +kernel⟩
def iX3_firstOf : MInfo := (yX3_firstOf, cX3_firstOf, 2, some .int, (1, 21), (0, 0), [])
theorem cv_X3_firstOf : CALV iX3_firstOf 1 := ⟨co_X3_firstOf, im_X3_firstOf, se_X3_firstOf, in_X3, by decide, by decide, by decide +kernel⟩
def iX3_hasTicket : MInfo := (yX3_hasTicket, cX3_hasTicket, 2, some .boolean, (0, 0), (0, 0), [])
theorem cv_X3_hasTicket : CALV iX3_hasTicket 1 := ⟨co_X3_hasTicket, im_X3_hasTicket, se_X3_hasTicket, in_X3, by decide, by decide, by decide +kernel⟩
def iX3_isOpen : MInfo := (yX3_isOpen, cX3_isOpen, 3, some .boolean, (2, 42), (0, 0), [])
theorem cv_X3_isOpen : CALV iX3_isOpen 1 := ⟨co_X3_isOpen, im_X3_isOpen, se_X3_isOpen, in_X3, by decide, by decide, by decide +kernel⟩
def iX3_open : MInfo := (yX3_open, cX3_open, 3, some .int, (0, 0), (0, 0), [])
theorem cv_X3_open : CALV iX3_open 2 := ⟨co_X3_open, im_X3_open, se_X3_open, in_X3, by decide, by decide, by decide +kernel⟩
def iX3_paidFor : MInfo := (yX3_paidFor, cX3_paidFor, 2, some .int, (1, 21), (0, 0), [])
theorem cv_X3_paidFor : CALV iX3_paidFor 1 := ⟨co_X3_paidFor, im_X3_paidFor, se_X3_paidFor, in_X3, by decide, by decide, by decide +kernel⟩
def iX3_prolong : MInfo := (yX3_prolong, cX3_prolong, 3, none, (1, 21), (0, 0), [])
theorem cv_X3_prolong : CALV iX3_prolong 2 := ⟨co_X3_prolong, im_X3_prolong, se_X3_prolong, in_X3, by decide, by decide, by decide +kernel⟩
def iX3_putAt : MInfo := (yX3_putAt, cX3_putAt, 4, none, (1, 21), (0, 0), [])
theorem cv_X3_putAt : CALV iX3_putAt 3 := ⟨co_X3_putAt, im_X3_putAt, se_X3_putAt, in_X3, by decide, by decide, by decide +kernel⟩
def iX3_rowOf : MInfo := (yX3_rowOf, cX3_rowOf, 2, some .int, (1, 21), (0, 0), [])
theorem cv_X3_rowOf : CALV iX3_rowOf 1 := ⟨co_X3_rowOf, im_X3_rowOf, se_X3_rowOf, in_X3, by decide, by decide, by decide +kernel⟩
def iX3_setWish : MInfo := (yX3_setWish, cX3_setWish, 3, none, (1, 21), (0, 0), [])
theorem cv_X3_setWish : CALV iX3_setWish 2 := ⟨co_X3_setWish, im_X3_setWish, se_X3_setWish, in_X3, by decide, by decide, by decide +kernel⟩
def iX3_sizeOf : MInfo := (yX3_sizeOf, cX3_sizeOf, 2, some .int, (1, 21), (0, 0), [])
theorem cv_X3_sizeOf : CALV iX3_sizeOf 1 := ⟨co_X3_sizeOf, im_X3_sizeOf, se_X3_sizeOf, in_X3, by decide, by decide, by decide +kernel⟩
def iX3_stateOf : MInfo := (yX3_stateOf, cX3_stateOf, 2, some .int, (1, 21), (0, 0), [])
theorem cv_X3_stateOf : CALV iX3_stateOf 1 := ⟨co_X3_stateOf, im_X3_stateOf, se_X3_stateOf, in_X3, by decide, by decide, by decide +kernel⟩
def iX3_turnIntoBooking : MInfo := (yX3_turnIntoBooking, cX3_turnIntoBooking, 3, none, (1, 21), (0, 0), [])
theorem cv_X3_turnIntoBooking : CALV iX3_turnIntoBooking 2 := ⟨co_X3_turnIntoBooking, im_X3_turnIntoBooking, se_X3_turnIntoBooking, in_X3, by decide, by decide, by decide +kernel⟩
def iX3_wishOf : MInfo := (yX3_wishOf, cX3_wishOf, 2, some .int, (1, 21), (0, 0), [])
theorem cv_X3_wishOf : CALV iX3_wishOf 1 := ⟨co_X3_wishOf, im_X3_wishOf, se_X3_wishOf, in_X3, by decide, by decide, by decide +kernel⟩
def iX4_addRow : MInfo := (yX4_addRow, cX4_addRow, 4, some .int, (8, 142), (4, 24), [])
theorem cv_X4_addRow : CALV iX4_addRow 3 := ⟨co_X4_addRow, im_X4_addRow, se_X4_addRow, in_X4, by decide, by decide, by decide +kernel⟩
def iX4_bestBlock : MInfo := (yX4_bestBlock, cX4_bestBlock, 2, some .int, (8, 154), (2, 12), [])
theorem cv_X4_bestBlock : CALV iX4_bestBlock 1 := ⟨co_X4_bestBlock, im_X4_bestBlock, se_X4_bestBlock, in_X4, by decide, by decide, by decide +kernel⟩
def iX4_cancel : MInfo := (yX4_cancel, cX4_cancel, 3, some .int, (7, 121), (2, 12), [])
theorem cv_X4_cancel : CALV iX4_cancel 1 := ⟨co_X4_cancel, im_X4_cancel, se_X4_cancel, in_X4, by decide, by decide, by decide +kernel⟩
def iX4_closeTicket : MInfo := (yX4_closeTicket, cX4_closeTicket, 3, none, (2, 44), (0, 0), [])
theorem cv_X4_closeTicket : CALV iX4_closeTicket 2 := ⟨co_X4_closeTicket, im_X4_closeTicket, se_X4_closeTicket, in_X4, by decide, by decide, by decide +kernel⟩
def iX4_exchange : MInfo := (yX4_exchange, cX4_exchange, 2, some .int, (7, 150), (2, 12), [])
theorem cv_X4_exchange : CALV iX4_exchange 1 := ⟨co_X4_exchange, im_X4_exchange, se_X4_exchange, in_X4, by decide, by decide, by decide +kernel⟩
def iX4_extend : MInfo := (yX4_extend, cX4_extend, 3, some .int, (8, 142), (4, 24), [])
theorem cv_X4_extend : CALV iX4_extend 2 := ⟨co_X4_extend, im_X4_extend, se_X4_extend, in_X4, by decide, by decide, by decide +kernel⟩
def iX4_freeSeats : MInfo := (yX4_freeSeats, cX4_freeSeats, 2, some .int, (7, 121), (1, 6), [])
theorem cv_X4_freeSeats : CALV iX4_freeSeats 1 := ⟨co_X4_freeSeats, im_X4_freeSeats, se_X4_freeSeats, in_X4, by decide, by decide, by decide +kernel⟩
def iX4_grantBlock : MInfo := (yX4_grantBlock, cX4_grantBlock, 6, some .int, (2, 47), (0, 0), [])
theorem cv_X4_grantBlock : CALV iX4_grantBlock 4 := ⟨co_X4_grantBlock, im_X4_grantBlock, se_X4_grantBlock, in_X4, by decide, by decide, by decide +kernel⟩
def iX4_grantSplit : MInfo := (yX4_grantSplit, cX4_grantSplit, 8, some .int, (2, 47), (0, 0), [])
theorem cv_X4_grantSplit : CALV iX4_grantSplit 2 := ⟨co_X4_grantSplit, im_X4_grantSplit, se_X4_grantSplit, in_X4, by decide, by decide, by decide +kernel⟩
def iX4_hold : MInfo := (yX4_hold, cX4_hold, 4, some .int, (8, 154), (4, 24), [])
theorem cv_X4_hold : CALV iX4_hold 2 := ⟨co_X4_hold, im_X4_hold, se_X4_hold, in_X4, by decide, by decide, by decide +kernel⟩
def iX4_holdAt : MInfo := (yX4_holdAt, cX4_holdAt, 5, some .int, (8, 142), (5, 30), [])
theorem cv_X4_holdAt : CALV iX4_holdAt 4 := ⟨co_X4_holdAt, im_X4_holdAt, se_X4_holdAt, in_X4, by decide, by decide, by decide +kernel⟩
def iX4_holdGroup : MInfo := (yX4_holdGroup, cX4_holdGroup, 3, some .int, (8, 172), (4, 24), [])
theorem cv_X4_holdGroup : CALV iX4_holdGroup 2 := ⟨co_X4_holdGroup, im_X4_holdGroup, se_X4_holdGroup, in_X4, by decide, by decide, by decide +kernel⟩
def iX4_leavesOrphan : MInfo := (yX4_leavesOrphan, cX4_leavesOrphan, 3, some .boolean, (8, 154), (2, 12), [])
theorem cv_X4_leavesOrphan : CALV iX4_leavesOrphan 1 := ⟨co_X4_leavesOrphan, im_X4_leavesOrphan, se_X4_leavesOrphan, in_X4, by decide, by decide, by decide +kernel⟩
def iX4_longestBlock : MInfo := (yX4_longestBlock, cX4_longestBlock, 1, some .int, (4, 90), (0, 0), [])
theorem cv_X4_longestBlock : CALV iX4_longestBlock 0 := ⟨co_X4_longestBlock, im_X4_longestBlock, se_X4_longestBlock, in_X4, by decide, by decide, by decide +kernel⟩
def iX4_needBest : MInfo := (yX4_needBest, cX4_needBest, 3, some .int, (6, 132), (1, 6), [])
theorem cv_X4_needBest : CALV iX4_needBest 1 := ⟨co_X4_needBest, im_X4_needBest, se_X4_needBest, in_X4, by decide, by decide, by decide +kernel⟩
def iX4_needHold : MInfo := (yX4_needHold, cX4_needHold, 2, none, (6, 100), (1, 6), [])
theorem cv_X4_needHold : CALV iX4_needHold 1 := ⟨co_X4_needHold, im_X4_needHold, se_X4_needHold, in_X4, by decide, by decide, by decide +kernel⟩
def iX4_needMinutes : MInfo := (yX4_needMinutes, cX4_needMinutes, 1, none, (7, 122), (1, 6), [])
theorem cs_X4_needMinutes : CALS iX4_needMinutes 1 := ⟨co_X4_needMinutes, st_X4_needMinutes, in_X4, by decide, by decide, by decide +kernel⟩
def iX4_needPeople : MInfo := (yX4_needPeople, cX4_needPeople, 1, none, (7, 122), (1, 6), [])
theorem cs_X4_needPeople : CALS iX4_needPeople 1 := ⟨co_X4_needPeople, st_X4_needPeople, in_X4, by decide, by decide, by decide +kernel⟩
def iX4_needRange : MInfo := (yX4_needRange, cX4_needRange, 3, none, (6, 100), (1, 6), [])
theorem cs_X4_needRange : CALS iX4_needRange 3 := ⟨co_X4_needRange, st_X4_needRange, in_X4, by decide, by decide, by decide +kernel⟩
def iX4_needRow : MInfo := (yX4_needRow, cX4_needRow, 2, none, (6, 100), (1, 6), [])
theorem cv_X4_needRow : CALV iX4_needRow 1 := ⟨co_X4_needRow, im_X4_needRow, se_X4_needRow, in_X4, by decide, by decide, by decide +kernel⟩
def iX4_needSeat : MInfo := (yX4_needSeat, cX4_needSeat, 3, none, (6, 100), (1, 6), [])
theorem cv_X4_needSeat : CALV iX4_needSeat 2 := ⟨co_X4_needSeat, im_X4_needSeat, se_X4_needSeat, in_X4, by decide, by decide, by decide +kernel⟩
def iX4_needSeats : MInfo := (yX4_needSeats, cX4_needSeats, 1, none, (7, 122), (1, 6), [])
theorem cs_X4_needSeats : CALS iX4_needSeats 1 := ⟨co_X4_needSeats, st_X4_needSeats, in_X4, by decide, by decide, by decide +kernel⟩
def iX4_needSplit : MInfo := (yX4_needSplit, cX4_needSplit, 2, none, (6, 151), (1, 6), [])
theorem cv_X4_needSplit : CALV iX4_needSplit 1 := ⟨co_X4_needSplit, im_X4_needSplit, se_X4_needSplit, in_X4, by decide, by decide, by decide +kernel⟩
def iX4_needTicket : MInfo := (yX4_needTicket, cX4_needTicket, 2, none, (6, 100), (1, 6), [])
theorem cv_X4_needTicket : CALV iX4_needTicket 1 := ⟨co_X4_needTicket, im_X4_needTicket, se_X4_needTicket, in_X4, by decide, by decide, by decide +kernel⟩
def iX4_needTicketLeft : MInfo := (yX4_needTicketLeft, cX4_needTicketLeft, 1, none, (6, 100), (1, 6), [])
theorem cv_X4_needTicketLeft : CALV iX4_needTicketLeft 0 := ⟨co_X4_needTicketLeft, im_X4_needTicketLeft, se_X4_needTicketLeft, in_X4, by decide, by decide, by decide +kernel⟩
def iX4_nextExpiry : MInfo := (yX4_nextExpiry, cX4_nextExpiry, 2, some .int, (6, 100), (1, 6), [])
theorem cv_X4_nextExpiry : CALV iX4_nextExpiry 0 := ⟨co_X4_nextExpiry, im_X4_nextExpiry, se_X4_nextExpiry, in_X4, by decide, by decide, by decide +kernel⟩
def iX4_now : MInfo := (yX4_now, cX4_now, 1, some .int, (0, 0), (0, 0), [])
theorem cv_X4_now : CALV iX4_now 0 := ⟨co_X4_now, im_X4_now, se_X4_now, in_X4, by decide, by decide, by decide +kernel⟩
def iX4_orphans : MInfo := (yX4_orphans, cX4_orphans, 1, some .int, (3, 67), (0, 0), [])
theorem cv_X4_orphans : CALV iX4_orphans 0 := ⟨co_X4_orphans, im_X4_orphans, se_X4_orphans, in_X4, by decide, by decide, by decide +kernel⟩
def iX4_pass : MInfo := (yX4_pass, cX4_pass, 4, some .int, (7, 122), (1, 6), [])
theorem cv_X4_pass : CALV iX4_pass 1 := ⟨co_X4_pass, im_X4_pass, se_X4_pass, in_X4, by decide, by decide, by decide +kernel⟩
def iX4_pay : MInfo := (yX4_pay, cX4_pay, 3, some .int, (7, 121), (2, 12), [])
theorem cv_X4_pay : CALV iX4_pay 1 := ⟨co_X4_pay, im_X4_pay, se_X4_pay, in_X4, by decide, by decide, by decide +kernel⟩
def iX4_priceOf : MInfo := (yX4_priceOf, cX4_priceOf, 2, some .int, (7, 121), (1, 6), [])
theorem cv_X4_priceOf : CALV iX4_priceOf 1 := ⟨co_X4_priceOf, im_X4_priceOf, se_X4_priceOf, in_X4, by decide, by decide, by decide +kernel⟩
def iX4_rows : MInfo := (yX4_rows, cX4_rows, 1, some .int, (1, 20), (0, 0), [])
theorem cv_X4_rows : CALV iX4_rows 0 := ⟨co_X4_rows, im_X4_rows, se_X4_rows, in_X4, by decide, by decide, by decide +kernel⟩
def iX4_rowsForGroup : MInfo := (yX4_rowsForGroup, cX4_rowsForGroup, 2, some .int, (8, 172), (2, 12), [])
theorem cv_X4_rowsForGroup : CALV iX4_rowsForGroup 1 := ⟨co_X4_rowsForGroup, im_X4_rowsForGroup, se_X4_rowsForGroup, in_X4, by decide, by decide, by decide +kernel⟩
def iX4_seatsForGroup : MInfo := (yX4_seatsForGroup, cX4_seatsForGroup, 3, some .int, (8, 172), (3, 18), [])
theorem cv_X4_seatsForGroup : CALV iX4_seatsForGroup 2 := ⟨co_X4_seatsForGroup, im_X4_seatsForGroup, se_X4_seatsForGroup, in_X4, by decide, by decide, by decide +kernel⟩
def iX4_seatsOf : MInfo := (yX4_seatsOf, cX4_seatsOf, 2, some .int, (7, 121), (1, 6), [])
theorem cv_X4_seatsOf : CALV iX4_seatsOf 1 := ⟨co_X4_seatsOf, im_X4_seatsOf, se_X4_seatsOf, in_X4, by decide, by decide, by decide +kernel⟩
def iX4_state : MInfo := (yX4_state, cX4_state, 4, some .int, (7, 122), (1, 6), [])
theorem cv_X4_state : CALV iX4_state 2 := ⟨co_X4_state, im_X4_state, se_X4_state, in_X4, by decide, by decide, by decide +kernel⟩
def iX4_takings : MInfo := (yX4_takings, cX4_takings, 1, some .int, (0, 0), (0, 0), [])
theorem cv_X4_takings : CALV iX4_takings 0 := ⟨co_X4_takings, im_X4_takings, se_X4_takings, in_X4, by decide, by decide, by decide +kernel⟩
def iX4_ticketAt : MInfo := (yX4_ticketAt, cX4_ticketAt, 3, some .int, (7, 122), (1, 6), [])
theorem cv_X4_ticketAt : CALV iX4_ticketAt 2 := ⟨co_X4_ticketAt, im_X4_ticketAt, se_X4_ticketAt, in_X4, by decide, by decide, by decide +kernel⟩
def iX4_ticketState : MInfo := (yX4_ticketState, cX4_ticketState, 2, some .int, (7, 121), (1, 6), [])
theorem cv_X4_ticketState : CALV iX4_ticketState 1 := ⟨co_X4_ticketState, im_X4_ticketState, se_X4_ticketState, in_X4, by decide, by decide, by decide +kernel⟩
def iX4_tickets : MInfo := (yX4_tickets, cX4_tickets, 1, some .int, (1, 20), (0, 0), [])
theorem cv_X4_tickets : CALV iX4_tickets 0 := ⟨co_X4_tickets, im_X4_tickets, se_X4_tickets, in_X4, by decide, by decide, by decide +kernel⟩
def iX4_toggleBlocked : MInfo := (yX4_toggleBlocked, cX4_toggleBlocked, 5, some .boolean, (7, 122), (2, 12), [])
theorem cv_X4_toggleBlocked : CALV iX4_toggleBlocked 2 := ⟨co_X4_toggleBlocked, im_X4_toggleBlocked, se_X4_toggleBlocked, in_X4, by decide, by decide, by decide +kernel⟩
def iX4_value : MInfo := (yX4_value, cX4_value, 3, some .int, (7, 122), (1, 6), [])
theorem cv_X4_value : CALV iX4_value 2 := ⟨co_X4_value, im_X4_value, se_X4_value, in_X4, by decide, by decide, by decide +kernel⟩
def iX4_wish : MInfo := (yX4_wish, cX4_wish, 5, some .int, (7, 121), (3, 18), [])
theorem cv_X4_wish : CALV iX4_wish 2 := ⟨co_X4_wish, im_X4_wish, se_X4_wish, in_X4, by decide, by decide, by decide +kernel⟩
