theorem bw_istore_n {G : BPar} {l : Launch} {μ : MInfo} {Z : BZT} {pc : Nat} {L : List (Option Value)} {st : List Value} {E : List va_E} {cells slots : Nat} {k : Fin 4} {i : Nat} {a : Int} {L2 : List (Option Value)} (hd : decode μ.2.1 pc = .ok (.istore_n k, 1)) (hk : (k : Nat) = i) (hi : i < μ.2.2.1) (hL : L.set i (some (iV a)) = L2) (kk : BLD G l μ Z (pc + 1) L2 st E cells slots) : BLD G l μ Z pc L (iV a :: st) E cells slots := by
  intro p e s m args below meth c H locs ls C hl hE hS hz hq
  exact lv_istore_n C.1 C.2.1 hd hk hl.1 hi rfl (fun ls2 h2 => kk p e s m args below meth c H locs ls2 C (hL ▸ hl.set rfl h2) hE hS hz hq)
def offT (g : Nat) : Nat := [0, 1, 2, 3, 4, 5, 6, 18, 19, 20, 21, 22, 23, 24, 25, 26, 27, 28, 29, 30, 42, 43, 55, 56, 69, 70, 83, 84, 85, 86, 87, 88, 89, 90, 91, 92, 93, 105, 106, 107, 108, 109, 110, 111, 112, 113, 114, 115, 116, 117, 129, 130, 142, 143, 156, 157, 170, 171, 172, 173].getD g 0
def mkK (G : BPar) : WPar := (G.1, G.2.1, fun g i => G.2.2 + offT g + i.toNat, G.2.2)
def E_all (G : BPar) : List va_E := E_X4 G ++ E_X4 (G.1, G.2.1, G.2.2 + 87)
def M0 : Mem := fun _ _ _ => 0
set_option maxRecDepth 20000 in
theorem pl_0 (G : BPar) : (E_all G)[0]? = some (cellOf (mkK G) M0 0 0) := rfl
set_option maxRecDepth 20000 in
theorem pl_1 (G : BPar) : (E_all G)[1]? = some (cellOf (mkK G) M0 1 0) := rfl
set_option maxRecDepth 20000 in
theorem pl_2 (G : BPar) : (E_all G)[2]? = some (cellOf (mkK G) M0 2 0) := rfl
set_option maxRecDepth 20000 in
theorem pl_3 (G : BPar) : (E_all G)[3]? = some (cellOf (mkK G) M0 3 0) := rfl
set_option maxRecDepth 20000 in
theorem pl_4 (G : BPar) : (E_all G)[4]? = some (cellOf (mkK G) M0 4 0) := rfl
set_option maxRecDepth 20000 in
theorem pl_5 (G : BPar) : (E_all G)[5]? = some (cellOf (mkK G) M0 5 0) := rfl
set_option maxRecDepth 20000 in
theorem pl_7 (G : BPar) : (E_all G)[18]? = some (cellOf (mkK G) M0 7 0) := rfl
set_option maxRecDepth 20000 in
theorem pl_8 (G : BPar) : (E_all G)[19]? = some (cellOf (mkK G) M0 8 0) := rfl
set_option maxRecDepth 20000 in
theorem pl_9 (G : BPar) : (E_all G)[20]? = some (cellOf (mkK G) M0 9 0) := rfl
set_option maxRecDepth 20000 in
theorem pl_10 (G : BPar) : (E_all G)[21]? = some (cellOf (mkK G) M0 10 0) := rfl
set_option maxRecDepth 20000 in
theorem pl_11 (G : BPar) : (E_all G)[22]? = some (cellOf (mkK G) M0 11 0) := rfl
set_option maxRecDepth 20000 in
theorem pl_12 (G : BPar) : (E_all G)[23]? = some (cellOf (mkK G) M0 12 0) := rfl
set_option maxRecDepth 20000 in
theorem pl_13 (G : BPar) : (E_all G)[24]? = some (cellOf (mkK G) M0 13 0) := rfl
set_option maxRecDepth 20000 in
theorem pl_14 (G : BPar) : (E_all G)[25]? = some (cellOf (mkK G) M0 14 0) := rfl
set_option maxRecDepth 20000 in
theorem pl_15 (G : BPar) : (E_all G)[26]? = some (cellOf (mkK G) M0 15 0) := rfl
set_option maxRecDepth 20000 in
theorem pl_16 (G : BPar) : (E_all G)[27]? = some (cellOf (mkK G) M0 16 0) := rfl
set_option maxRecDepth 20000 in
theorem pl_17 (G : BPar) : (E_all G)[28]? = some (cellOf (mkK G) M0 17 0) := rfl
set_option maxRecDepth 20000 in
theorem pl_18 (G : BPar) : (E_all G)[29]? = some (cellOf (mkK G) M0 18 0) := rfl
set_option maxRecDepth 20000 in
theorem pl_20 (G : BPar) : (E_all G)[42]? = some (cellOf (mkK G) M0 20 0) := rfl
set_option maxRecDepth 20000 in
theorem pl_22 (G : BPar) : (E_all G)[55]? = some (cellOf (mkK G) M0 22 0) := rfl
set_option maxRecDepth 20000 in
theorem pl_24 (G : BPar) : (E_all G)[69]? = some (cellOf (mkK G) M0 24 0) := rfl
set_option maxRecDepth 20000 in
theorem pl_26 (G : BPar) : (E_all G)[83]? = some (cellOf (mkK G) M0 26 0) := rfl
set_option maxRecDepth 20000 in
theorem pl_27 (G : BPar) : (E_all G)[84]? = some (cellOf (mkK G) M0 27 0) := rfl
set_option maxRecDepth 20000 in
theorem pl_28 (G : BPar) : (E_all G)[85]? = some (cellOf (mkK G) M0 28 0) := rfl
set_option maxRecDepth 20000 in
theorem pl_29 (G : BPar) : (E_all G)[86]? = some (cellOf (mkK G) M0 29 0) := rfl
set_option maxRecDepth 20000 in
theorem pl_30 (G : BPar) : (E_all G)[87]? = some (cellOf (mkK G) M0 30 0) := rfl
set_option maxRecDepth 20000 in
theorem pl_31 (G : BPar) : (E_all G)[88]? = some (cellOf (mkK G) M0 31 0) := rfl
set_option maxRecDepth 20000 in
theorem pl_32 (G : BPar) : (E_all G)[89]? = some (cellOf (mkK G) M0 32 0) := rfl
set_option maxRecDepth 20000 in
theorem pl_33 (G : BPar) : (E_all G)[90]? = some (cellOf (mkK G) M0 33 0) := rfl
set_option maxRecDepth 20000 in
theorem pl_34 (G : BPar) : (E_all G)[91]? = some (cellOf (mkK G) M0 34 0) := rfl
set_option maxRecDepth 20000 in
theorem pl_35 (G : BPar) : (E_all G)[92]? = some (cellOf (mkK G) M0 35 0) := rfl
set_option maxRecDepth 20000 in
theorem pl_37 (G : BPar) : (E_all G)[105]? = some (cellOf (mkK G) M0 37 0) := rfl
set_option maxRecDepth 20000 in
theorem pl_38 (G : BPar) : (E_all G)[106]? = some (cellOf (mkK G) M0 38 0) := rfl
set_option maxRecDepth 20000 in
theorem pl_39 (G : BPar) : (E_all G)[107]? = some (cellOf (mkK G) M0 39 0) := rfl
set_option maxRecDepth 20000 in
theorem pl_40 (G : BPar) : (E_all G)[108]? = some (cellOf (mkK G) M0 40 0) := rfl
set_option maxRecDepth 20000 in
theorem pl_41 (G : BPar) : (E_all G)[109]? = some (cellOf (mkK G) M0 41 0) := rfl
set_option maxRecDepth 20000 in
theorem pl_42 (G : BPar) : (E_all G)[110]? = some (cellOf (mkK G) M0 42 0) := rfl
set_option maxRecDepth 20000 in
theorem pl_43 (G : BPar) : (E_all G)[111]? = some (cellOf (mkK G) M0 43 0) := rfl
set_option maxRecDepth 20000 in
theorem pl_44 (G : BPar) : (E_all G)[112]? = some (cellOf (mkK G) M0 44 0) := rfl
set_option maxRecDepth 20000 in
theorem pl_45 (G : BPar) : (E_all G)[113]? = some (cellOf (mkK G) M0 45 0) := rfl
set_option maxRecDepth 20000 in
theorem pl_46 (G : BPar) : (E_all G)[114]? = some (cellOf (mkK G) M0 46 0) := rfl
set_option maxRecDepth 20000 in
theorem pl_47 (G : BPar) : (E_all G)[115]? = some (cellOf (mkK G) M0 47 0) := rfl
set_option maxRecDepth 20000 in
theorem pl_48 (G : BPar) : (E_all G)[116]? = some (cellOf (mkK G) M0 48 0) := rfl
set_option maxRecDepth 20000 in
theorem pl_50 (G : BPar) : (E_all G)[129]? = some (cellOf (mkK G) M0 50 0) := rfl
set_option maxRecDepth 20000 in
theorem pl_52 (G : BPar) : (E_all G)[142]? = some (cellOf (mkK G) M0 52 0) := rfl
set_option maxRecDepth 20000 in
theorem pl_54 (G : BPar) : (E_all G)[156]? = some (cellOf (mkK G) M0 54 0) := rfl
set_option maxRecDepth 20000 in
theorem pl_56 (G : BPar) : (E_all G)[170]? = some (cellOf (mkK G) M0 56 0) := rfl
set_option maxRecDepth 20000 in
theorem pl_57 (G : BPar) : (E_all G)[171]? = some (cellOf (mkK G) M0 57 0) := rfl
set_option maxRecDepth 20000 in
theorem pl_58 (G : BPar) : (E_all G)[172]? = some (cellOf (mkK G) M0 58 0) := rfl
set_option maxRecDepth 20000 in
theorem pl_59 (G : BPar) : (E_all G)[173]? = some (cellOf (mkK G) M0 59 0) := rfl
set_option maxRecDepth 20000 in
theorem pl_6 (G : BPar) (i : Int) (h0 : 0 ≤ i) (h1 : i < 12) : (E_all G)[6 + i.toNat]? = some (cellOf (mkK G) M0 6 i) := by
  rcases (show i = 0 ∨ i = 1 ∨ i = 2 ∨ i = 3 ∨ i = 4 ∨ i = 5 ∨ i = 6 ∨ i = 7 ∨ i = 8 ∨ i = 9 ∨ i = 10 ∨ i = 11 by omega) with rfl | rfl | rfl | rfl | rfl | rfl | rfl | rfl | rfl | rfl | rfl | rfl
  · exact (rfl : (E_all G)[6]? = some (cellOf (mkK G) M0 6 0))
  · exact (rfl : (E_all G)[7]? = some (cellOf (mkK G) M0 6 1))
  · exact (rfl : (E_all G)[8]? = some (cellOf (mkK G) M0 6 2))
  · exact (rfl : (E_all G)[9]? = some (cellOf (mkK G) M0 6 3))
  · exact (rfl : (E_all G)[10]? = some (cellOf (mkK G) M0 6 4))
  · exact (rfl : (E_all G)[11]? = some (cellOf (mkK G) M0 6 5))
  · exact (rfl : (E_all G)[12]? = some (cellOf (mkK G) M0 6 6))
  · exact (rfl : (E_all G)[13]? = some (cellOf (mkK G) M0 6 7))
  · exact (rfl : (E_all G)[14]? = some (cellOf (mkK G) M0 6 8))
  · exact (rfl : (E_all G)[15]? = some (cellOf (mkK G) M0 6 9))
  · exact (rfl : (E_all G)[16]? = some (cellOf (mkK G) M0 6 10))
  · exact (rfl : (E_all G)[17]? = some (cellOf (mkK G) M0 6 11))
set_option maxRecDepth 20000 in
theorem pl_19 (G : BPar) (i : Int) (h0 : 0 ≤ i) (h1 : i < 12) : (E_all G)[30 + i.toNat]? = some (cellOf (mkK G) M0 19 i) := by
  rcases (show i = 0 ∨ i = 1 ∨ i = 2 ∨ i = 3 ∨ i = 4 ∨ i = 5 ∨ i = 6 ∨ i = 7 ∨ i = 8 ∨ i = 9 ∨ i = 10 ∨ i = 11 by omega) with rfl | rfl | rfl | rfl | rfl | rfl | rfl | rfl | rfl | rfl | rfl | rfl
  · exact (rfl : (E_all G)[30]? = some (cellOf (mkK G) M0 19 0))
  · exact (rfl : (E_all G)[31]? = some (cellOf (mkK G) M0 19 1))
  · exact (rfl : (E_all G)[32]? = some (cellOf (mkK G) M0 19 2))
  · exact (rfl : (E_all G)[33]? = some (cellOf (mkK G) M0 19 3))
  · exact (rfl : (E_all G)[34]? = some (cellOf (mkK G) M0 19 4))
  · exact (rfl : (E_all G)[35]? = some (cellOf (mkK G) M0 19 5))
  · exact (rfl : (E_all G)[36]? = some (cellOf (mkK G) M0 19 6))
  · exact (rfl : (E_all G)[37]? = some (cellOf (mkK G) M0 19 7))
  · exact (rfl : (E_all G)[38]? = some (cellOf (mkK G) M0 19 8))
  · exact (rfl : (E_all G)[39]? = some (cellOf (mkK G) M0 19 9))
  · exact (rfl : (E_all G)[40]? = some (cellOf (mkK G) M0 19 10))
  · exact (rfl : (E_all G)[41]? = some (cellOf (mkK G) M0 19 11))
set_option maxRecDepth 20000 in
theorem pl_21 (G : BPar) (i : Int) (h0 : 0 ≤ i) (h1 : i < 12) : (E_all G)[43 + i.toNat]? = some (cellOf (mkK G) M0 21 i) := by
  rcases (show i = 0 ∨ i = 1 ∨ i = 2 ∨ i = 3 ∨ i = 4 ∨ i = 5 ∨ i = 6 ∨ i = 7 ∨ i = 8 ∨ i = 9 ∨ i = 10 ∨ i = 11 by omega) with rfl | rfl | rfl | rfl | rfl | rfl | rfl | rfl | rfl | rfl | rfl | rfl
  · exact (rfl : (E_all G)[43]? = some (cellOf (mkK G) M0 21 0))
  · exact (rfl : (E_all G)[44]? = some (cellOf (mkK G) M0 21 1))
  · exact (rfl : (E_all G)[45]? = some (cellOf (mkK G) M0 21 2))
  · exact (rfl : (E_all G)[46]? = some (cellOf (mkK G) M0 21 3))
  · exact (rfl : (E_all G)[47]? = some (cellOf (mkK G) M0 21 4))
  · exact (rfl : (E_all G)[48]? = some (cellOf (mkK G) M0 21 5))
  · exact (rfl : (E_all G)[49]? = some (cellOf (mkK G) M0 21 6))
  · exact (rfl : (E_all G)[50]? = some (cellOf (mkK G) M0 21 7))
  · exact (rfl : (E_all G)[51]? = some (cellOf (mkK G) M0 21 8))
  · exact (rfl : (E_all G)[52]? = some (cellOf (mkK G) M0 21 9))
  · exact (rfl : (E_all G)[53]? = some (cellOf (mkK G) M0 21 10))
  · exact (rfl : (E_all G)[54]? = some (cellOf (mkK G) M0 21 11))
set_option maxRecDepth 20000 in
theorem pl_23 (G : BPar) (i : Int) (h0 : 0 ≤ i) (h1 : i < 13) : (E_all G)[56 + i.toNat]? = some (cellOf (mkK G) M0 23 i) := by
  rcases (show i = 0 ∨ i = 1 ∨ i = 2 ∨ i = 3 ∨ i = 4 ∨ i = 5 ∨ i = 6 ∨ i = 7 ∨ i = 8 ∨ i = 9 ∨ i = 10 ∨ i = 11 ∨ i = 12 by omega) with rfl | rfl | rfl | rfl | rfl | rfl | rfl | rfl | rfl | rfl | rfl | rfl | rfl
  · exact (rfl : (E_all G)[56]? = some (cellOf (mkK G) M0 23 0))
  · exact (rfl : (E_all G)[57]? = some (cellOf (mkK G) M0 23 1))
  · exact (rfl : (E_all G)[58]? = some (cellOf (mkK G) M0 23 2))
  · exact (rfl : (E_all G)[59]? = some (cellOf (mkK G) M0 23 3))
  · exact (rfl : (E_all G)[60]? = some (cellOf (mkK G) M0 23 4))
  · exact (rfl : (E_all G)[61]? = some (cellOf (mkK G) M0 23 5))
  · exact (rfl : (E_all G)[62]? = some (cellOf (mkK G) M0 23 6))
  · exact (rfl : (E_all G)[63]? = some (cellOf (mkK G) M0 23 7))
  · exact (rfl : (E_all G)[64]? = some (cellOf (mkK G) M0 23 8))
  · exact (rfl : (E_all G)[65]? = some (cellOf (mkK G) M0 23 9))
  · exact (rfl : (E_all G)[66]? = some (cellOf (mkK G) M0 23 10))
  · exact (rfl : (E_all G)[67]? = some (cellOf (mkK G) M0 23 11))
  · exact (rfl : (E_all G)[68]? = some (cellOf (mkK G) M0 23 12))
set_option maxRecDepth 20000 in
theorem pl_25 (G : BPar) (i : Int) (h0 : 0 ≤ i) (h1 : i < 13) : (E_all G)[70 + i.toNat]? = some (cellOf (mkK G) M0 25 i) := by
  rcases (show i = 0 ∨ i = 1 ∨ i = 2 ∨ i = 3 ∨ i = 4 ∨ i = 5 ∨ i = 6 ∨ i = 7 ∨ i = 8 ∨ i = 9 ∨ i = 10 ∨ i = 11 ∨ i = 12 by omega) with rfl | rfl | rfl | rfl | rfl | rfl | rfl | rfl | rfl | rfl | rfl | rfl | rfl
  · exact (rfl : (E_all G)[70]? = some (cellOf (mkK G) M0 25 0))
  · exact (rfl : (E_all G)[71]? = some (cellOf (mkK G) M0 25 1))
  · exact (rfl : (E_all G)[72]? = some (cellOf (mkK G) M0 25 2))
  · exact (rfl : (E_all G)[73]? = some (cellOf (mkK G) M0 25 3))
  · exact (rfl : (E_all G)[74]? = some (cellOf (mkK G) M0 25 4))
  · exact (rfl : (E_all G)[75]? = some (cellOf (mkK G) M0 25 5))
  · exact (rfl : (E_all G)[76]? = some (cellOf (mkK G) M0 25 6))
  · exact (rfl : (E_all G)[77]? = some (cellOf (mkK G) M0 25 7))
  · exact (rfl : (E_all G)[78]? = some (cellOf (mkK G) M0 25 8))
  · exact (rfl : (E_all G)[79]? = some (cellOf (mkK G) M0 25 9))
  · exact (rfl : (E_all G)[80]? = some (cellOf (mkK G) M0 25 10))
  · exact (rfl : (E_all G)[81]? = some (cellOf (mkK G) M0 25 11))
  · exact (rfl : (E_all G)[82]? = some (cellOf (mkK G) M0 25 12))
set_option maxRecDepth 20000 in
theorem pl_36 (G : BPar) (i : Int) (h0 : 0 ≤ i) (h1 : i < 12) : (E_all G)[93 + i.toNat]? = some (cellOf (mkK G) M0 36 i) := by
  rcases (show i = 0 ∨ i = 1 ∨ i = 2 ∨ i = 3 ∨ i = 4 ∨ i = 5 ∨ i = 6 ∨ i = 7 ∨ i = 8 ∨ i = 9 ∨ i = 10 ∨ i = 11 by omega) with rfl | rfl | rfl | rfl | rfl | rfl | rfl | rfl | rfl | rfl | rfl | rfl
  · exact (rfl : (E_all G)[93]? = some (cellOf (mkK G) M0 36 0))
  · exact (rfl : (E_all G)[94]? = some (cellOf (mkK G) M0 36 1))
  · exact (rfl : (E_all G)[95]? = some (cellOf (mkK G) M0 36 2))
  · exact (rfl : (E_all G)[96]? = some (cellOf (mkK G) M0 36 3))
  · exact (rfl : (E_all G)[97]? = some (cellOf (mkK G) M0 36 4))
  · exact (rfl : (E_all G)[98]? = some (cellOf (mkK G) M0 36 5))
  · exact (rfl : (E_all G)[99]? = some (cellOf (mkK G) M0 36 6))
  · exact (rfl : (E_all G)[100]? = some (cellOf (mkK G) M0 36 7))
  · exact (rfl : (E_all G)[101]? = some (cellOf (mkK G) M0 36 8))
  · exact (rfl : (E_all G)[102]? = some (cellOf (mkK G) M0 36 9))
  · exact (rfl : (E_all G)[103]? = some (cellOf (mkK G) M0 36 10))
  · exact (rfl : (E_all G)[104]? = some (cellOf (mkK G) M0 36 11))
set_option maxRecDepth 20000 in
theorem pl_49 (G : BPar) (i : Int) (h0 : 0 ≤ i) (h1 : i < 12) : (E_all G)[117 + i.toNat]? = some (cellOf (mkK G) M0 49 i) := by
  rcases (show i = 0 ∨ i = 1 ∨ i = 2 ∨ i = 3 ∨ i = 4 ∨ i = 5 ∨ i = 6 ∨ i = 7 ∨ i = 8 ∨ i = 9 ∨ i = 10 ∨ i = 11 by omega) with rfl | rfl | rfl | rfl | rfl | rfl | rfl | rfl | rfl | rfl | rfl | rfl
  · exact (rfl : (E_all G)[117]? = some (cellOf (mkK G) M0 49 0))
  · exact (rfl : (E_all G)[118]? = some (cellOf (mkK G) M0 49 1))
  · exact (rfl : (E_all G)[119]? = some (cellOf (mkK G) M0 49 2))
  · exact (rfl : (E_all G)[120]? = some (cellOf (mkK G) M0 49 3))
  · exact (rfl : (E_all G)[121]? = some (cellOf (mkK G) M0 49 4))
  · exact (rfl : (E_all G)[122]? = some (cellOf (mkK G) M0 49 5))
  · exact (rfl : (E_all G)[123]? = some (cellOf (mkK G) M0 49 6))
  · exact (rfl : (E_all G)[124]? = some (cellOf (mkK G) M0 49 7))
  · exact (rfl : (E_all G)[125]? = some (cellOf (mkK G) M0 49 8))
  · exact (rfl : (E_all G)[126]? = some (cellOf (mkK G) M0 49 9))
  · exact (rfl : (E_all G)[127]? = some (cellOf (mkK G) M0 49 10))
  · exact (rfl : (E_all G)[128]? = some (cellOf (mkK G) M0 49 11))
set_option maxRecDepth 20000 in
theorem pl_51 (G : BPar) (i : Int) (h0 : 0 ≤ i) (h1 : i < 12) : (E_all G)[130 + i.toNat]? = some (cellOf (mkK G) M0 51 i) := by
  rcases (show i = 0 ∨ i = 1 ∨ i = 2 ∨ i = 3 ∨ i = 4 ∨ i = 5 ∨ i = 6 ∨ i = 7 ∨ i = 8 ∨ i = 9 ∨ i = 10 ∨ i = 11 by omega) with rfl | rfl | rfl | rfl | rfl | rfl | rfl | rfl | rfl | rfl | rfl | rfl
  · exact (rfl : (E_all G)[130]? = some (cellOf (mkK G) M0 51 0))
  · exact (rfl : (E_all G)[131]? = some (cellOf (mkK G) M0 51 1))
  · exact (rfl : (E_all G)[132]? = some (cellOf (mkK G) M0 51 2))
  · exact (rfl : (E_all G)[133]? = some (cellOf (mkK G) M0 51 3))
  · exact (rfl : (E_all G)[134]? = some (cellOf (mkK G) M0 51 4))
  · exact (rfl : (E_all G)[135]? = some (cellOf (mkK G) M0 51 5))
  · exact (rfl : (E_all G)[136]? = some (cellOf (mkK G) M0 51 6))
  · exact (rfl : (E_all G)[137]? = some (cellOf (mkK G) M0 51 7))
  · exact (rfl : (E_all G)[138]? = some (cellOf (mkK G) M0 51 8))
  · exact (rfl : (E_all G)[139]? = some (cellOf (mkK G) M0 51 9))
  · exact (rfl : (E_all G)[140]? = some (cellOf (mkK G) M0 51 10))
  · exact (rfl : (E_all G)[141]? = some (cellOf (mkK G) M0 51 11))
set_option maxRecDepth 20000 in
theorem pl_53 (G : BPar) (i : Int) (h0 : 0 ≤ i) (h1 : i < 13) : (E_all G)[143 + i.toNat]? = some (cellOf (mkK G) M0 53 i) := by
  rcases (show i = 0 ∨ i = 1 ∨ i = 2 ∨ i = 3 ∨ i = 4 ∨ i = 5 ∨ i = 6 ∨ i = 7 ∨ i = 8 ∨ i = 9 ∨ i = 10 ∨ i = 11 ∨ i = 12 by omega) with rfl | rfl | rfl | rfl | rfl | rfl | rfl | rfl | rfl | rfl | rfl | rfl | rfl
  · exact (rfl : (E_all G)[143]? = some (cellOf (mkK G) M0 53 0))
  · exact (rfl : (E_all G)[144]? = some (cellOf (mkK G) M0 53 1))
  · exact (rfl : (E_all G)[145]? = some (cellOf (mkK G) M0 53 2))
  · exact (rfl : (E_all G)[146]? = some (cellOf (mkK G) M0 53 3))
  · exact (rfl : (E_all G)[147]? = some (cellOf (mkK G) M0 53 4))
  · exact (rfl : (E_all G)[148]? = some (cellOf (mkK G) M0 53 5))
  · exact (rfl : (E_all G)[149]? = some (cellOf (mkK G) M0 53 6))
  · exact (rfl : (E_all G)[150]? = some (cellOf (mkK G) M0 53 7))
  · exact (rfl : (E_all G)[151]? = some (cellOf (mkK G) M0 53 8))
  · exact (rfl : (E_all G)[152]? = some (cellOf (mkK G) M0 53 9))
  · exact (rfl : (E_all G)[153]? = some (cellOf (mkK G) M0 53 10))
  · exact (rfl : (E_all G)[154]? = some (cellOf (mkK G) M0 53 11))
  · exact (rfl : (E_all G)[155]? = some (cellOf (mkK G) M0 53 12))
set_option maxRecDepth 20000 in
theorem pl_55 (G : BPar) (i : Int) (h0 : 0 ≤ i) (h1 : i < 13) : (E_all G)[157 + i.toNat]? = some (cellOf (mkK G) M0 55 i) := by
  rcases (show i = 0 ∨ i = 1 ∨ i = 2 ∨ i = 3 ∨ i = 4 ∨ i = 5 ∨ i = 6 ∨ i = 7 ∨ i = 8 ∨ i = 9 ∨ i = 10 ∨ i = 11 ∨ i = 12 by omega) with rfl | rfl | rfl | rfl | rfl | rfl | rfl | rfl | rfl | rfl | rfl | rfl | rfl
  · exact (rfl : (E_all G)[157]? = some (cellOf (mkK G) M0 55 0))
  · exact (rfl : (E_all G)[158]? = some (cellOf (mkK G) M0 55 1))
  · exact (rfl : (E_all G)[159]? = some (cellOf (mkK G) M0 55 2))
  · exact (rfl : (E_all G)[160]? = some (cellOf (mkK G) M0 55 3))
  · exact (rfl : (E_all G)[161]? = some (cellOf (mkK G) M0 55 4))
  · exact (rfl : (E_all G)[162]? = some (cellOf (mkK G) M0 55 5))
  · exact (rfl : (E_all G)[163]? = some (cellOf (mkK G) M0 55 6))
  · exact (rfl : (E_all G)[164]? = some (cellOf (mkK G) M0 55 7))
  · exact (rfl : (E_all G)[165]? = some (cellOf (mkK G) M0 55 8))
  · exact (rfl : (E_all G)[166]? = some (cellOf (mkK G) M0 55 9))
  · exact (rfl : (E_all G)[167]? = some (cellOf (mkK G) M0 55 10))
  · exact (rfl : (E_all G)[168]? = some (cellOf (mkK G) M0 55 11))
  · exact (rfl : (E_all G)[169]? = some (cellOf (mkK G) M0 55 12))
theorem pl_all (G : BPar) (g : Nat) (i : Int) (h0 : 0 ≤ i) (h1 : i < gcnt g) : (E_all G)[offT g + i.toNat]? = some (cellOf (mkK G) M0 g i) := by
  by_cases hg : 60 ≤ g
  · rw [gcnt_60 hg] at h1
    omega
  · rcases (show g = 0 ∨ g = 1 ∨ g = 2 ∨ g = 3 ∨ g = 4 ∨ g = 5 ∨ g = 6 ∨ g = 7 ∨ g = 8 ∨ g = 9 ∨ g = 10 ∨ g = 11 ∨ g = 12 ∨ g = 13 ∨ g = 14 ∨ g = 15 ∨ g = 16 ∨ g = 17 ∨ g = 18 ∨ g = 19 ∨ g = 20 ∨ g = 21 ∨ g = 22 ∨ g = 23 ∨ g = 24 ∨ g = 25 ∨ g = 26 ∨ g = 27 ∨ g = 28 ∨ g = 29 ∨ g = 30 ∨ g = 31 ∨ g = 32 ∨ g = 33 ∨ g = 34 ∨ g = 35 ∨ g = 36 ∨ g = 37 ∨ g = 38 ∨ g = 39 ∨ g = 40 ∨ g = 41 ∨ g = 42 ∨ g = 43 ∨ g = 44 ∨ g = 45 ∨ g = 46 ∨ g = 47 ∨ g = 48 ∨ g = 49 ∨ g = 50 ∨ g = 51 ∨ g = 52 ∨ g = 53 ∨ g = 54 ∨ g = 55 ∨ g = 56 ∨ g = 57 ∨ g = 58 ∨ g = 59 by omega) with rfl | rfl | rfl | rfl | rfl | rfl | rfl | rfl | rfl | rfl | rfl | rfl | rfl | rfl | rfl | rfl | rfl | rfl | rfl | rfl | rfl | rfl | rfl | rfl | rfl | rfl | rfl | rfl | rfl | rfl | rfl | rfl | rfl | rfl | rfl | rfl | rfl | rfl | rfl | rfl | rfl | rfl | rfl | rfl | rfl | rfl | rfl | rfl | rfl | rfl | rfl | rfl | rfl | rfl | rfl | rfl | rfl | rfl | rfl | rfl
    · have e : i = 0 := (by have h2 : i < 1 := h1; omega)
      subst e
      exact pl_0 G
    · have e : i = 0 := (by have h2 : i < 1 := h1; omega)
      subst e
      exact pl_1 G
    · have e : i = 0 := (by have h2 : i < 1 := h1; omega)
      subst e
      exact pl_2 G
    · have e : i = 0 := (by have h2 : i < 1 := h1; omega)
      subst e
      exact pl_3 G
    · have e : i = 0 := (by have h2 : i < 1 := h1; omega)
      subst e
      exact pl_4 G
    · have e : i = 0 := (by have h2 : i < 1 := h1; omega)
      subst e
      exact pl_5 G
    · exact pl_6 G i h0 h1
    · have e : i = 0 := (by have h2 : i < 1 := h1; omega)
      subst e
      exact pl_7 G
    · have e : i = 0 := (by have h2 : i < 1 := h1; omega)
      subst e
      exact pl_8 G
    · have e : i = 0 := (by have h2 : i < 1 := h1; omega)
      subst e
      exact pl_9 G
    · have e : i = 0 := (by have h2 : i < 1 := h1; omega)
      subst e
      exact pl_10 G
    · have e : i = 0 := (by have h2 : i < 1 := h1; omega)
      subst e
      exact pl_11 G
    · have e : i = 0 := (by have h2 : i < 1 := h1; omega)
      subst e
      exact pl_12 G
    · have e : i = 0 := (by have h2 : i < 1 := h1; omega)
      subst e
      exact pl_13 G
    · have e : i = 0 := (by have h2 : i < 1 := h1; omega)
      subst e
      exact pl_14 G
    · have e : i = 0 := (by have h2 : i < 1 := h1; omega)
      subst e
      exact pl_15 G
    · have e : i = 0 := (by have h2 : i < 1 := h1; omega)
      subst e
      exact pl_16 G
    · have e : i = 0 := (by have h2 : i < 1 := h1; omega)
      subst e
      exact pl_17 G
    · have e : i = 0 := (by have h2 : i < 1 := h1; omega)
      subst e
      exact pl_18 G
    · exact pl_19 G i h0 h1
    · have e : i = 0 := (by have h2 : i < 1 := h1; omega)
      subst e
      exact pl_20 G
    · exact pl_21 G i h0 h1
    · have e : i = 0 := (by have h2 : i < 1 := h1; omega)
      subst e
      exact pl_22 G
    · exact pl_23 G i h0 h1
    · have e : i = 0 := (by have h2 : i < 1 := h1; omega)
      subst e
      exact pl_24 G
    · exact pl_25 G i h0 h1
    · have e : i = 0 := (by have h2 : i < 1 := h1; omega)
      subst e
      exact pl_26 G
    · have e : i = 0 := (by have h2 : i < 1 := h1; omega)
      subst e
      exact pl_27 G
    · have e : i = 0 := (by have h2 : i < 1 := h1; omega)
      subst e
      exact pl_28 G
    · have e : i = 0 := (by have h2 : i < 1 := h1; omega)
      subst e
      exact pl_29 G
    · have e : i = 0 := (by have h2 : i < 1 := h1; omega)
      subst e
      exact pl_30 G
    · have e : i = 0 := (by have h2 : i < 1 := h1; omega)
      subst e
      exact pl_31 G
    · have e : i = 0 := (by have h2 : i < 1 := h1; omega)
      subst e
      exact pl_32 G
    · have e : i = 0 := (by have h2 : i < 1 := h1; omega)
      subst e
      exact pl_33 G
    · have e : i = 0 := (by have h2 : i < 1 := h1; omega)
      subst e
      exact pl_34 G
    · have e : i = 0 := (by have h2 : i < 1 := h1; omega)
      subst e
      exact pl_35 G
    · exact pl_36 G i h0 h1
    · have e : i = 0 := (by have h2 : i < 1 := h1; omega)
      subst e
      exact pl_37 G
    · have e : i = 0 := (by have h2 : i < 1 := h1; omega)
      subst e
      exact pl_38 G
    · have e : i = 0 := (by have h2 : i < 1 := h1; omega)
      subst e
      exact pl_39 G
    · have e : i = 0 := (by have h2 : i < 1 := h1; omega)
      subst e
      exact pl_40 G
    · have e : i = 0 := (by have h2 : i < 1 := h1; omega)
      subst e
      exact pl_41 G
    · have e : i = 0 := (by have h2 : i < 1 := h1; omega)
      subst e
      exact pl_42 G
    · have e : i = 0 := (by have h2 : i < 1 := h1; omega)
      subst e
      exact pl_43 G
    · have e : i = 0 := (by have h2 : i < 1 := h1; omega)
      subst e
      exact pl_44 G
    · have e : i = 0 := (by have h2 : i < 1 := h1; omega)
      subst e
      exact pl_45 G
    · have e : i = 0 := (by have h2 : i < 1 := h1; omega)
      subst e
      exact pl_46 G
    · have e : i = 0 := (by have h2 : i < 1 := h1; omega)
      subst e
      exact pl_47 G
    · have e : i = 0 := (by have h2 : i < 1 := h1; omega)
      subst e
      exact pl_48 G
    · exact pl_49 G i h0 h1
    · have e : i = 0 := (by have h2 : i < 1 := h1; omega)
      subst e
      exact pl_50 G
    · exact pl_51 G i h0 h1
    · have e : i = 0 := (by have h2 : i < 1 := h1; omega)
      subst e
      exact pl_52 G
    · exact pl_53 G i h0 h1
    · have e : i = 0 := (by have h2 : i < 1 := h1; omega)
      subst e
      exact pl_54 G
    · exact pl_55 G i h0 h1
    · have e : i = 0 := (by have h2 : i < 1 := h1; omega)
      subst e
      exact pl_56 G
    · have e : i = 0 := (by have h2 : i < 1 := h1; omega)
      subst e
      exact pl_57 G
    · have e : i = 0 := (by have h2 : i < 1 := h1; omega)
      subst e
      exact pl_58 G
    · have e : i = 0 := (by have h2 : i < 1 := h1; omega)
      subst e
      exact pl_59 G
theorem off_apart : ∀ g, g < 60 → ∀ g', g' < 60 → g ≠ g' → offT g + (gcnt g).toNat ≤ offT g' ∨ offT g' + (gcnt g').toNat ≤ offT g := by decide +kernel
theorem mk_adk (G : BPar) : ADK (mkK G) := by
  refine ⟨fun g i g' i' a b a' b' h => ?_, fun g i a b => by show G.2.2 ≤ G.2.2 + offT g + i.toNat; omega⟩
  have h : G.2.2 + offT g + i.toNat = G.2.2 + offT g' + i'.toNat := h
  have hg : g < 60 := by
    by_cases q : 60 ≤ g
    · rw [gcnt_60 q] at b; omega
    · omega
  have hg' : g' < 60 := by
    by_cases q : 60 ≤ g'
    · rw [gcnt_60 q] at b'; omega
    · omega
  by_cases e : g = g'
  · subst e
    exact ⟨rfl, by omega⟩
  · exfalso
    have := off_apart g hg g' hg' e
    omega
theorem mk_wd {G : BPar} {H : Heap} (h : EW G.1 G.2.2 (E_all G) H) : WD (mkK G) M0 H := by
  refine ⟨fun _ _ _ => by show -2147483648 ≤ (0 : Int) ∧ (0 : Int) ≤ 2147483647; omega, fun g i a b => ?_⟩
  have := h.2 _ _ (pl_all G g i a b)
  rw [← Nat.add_assoc] at this
  exact this
def ZB (G : BPar) (b L : Nat) (xs : Nat → Int32) : BZT := (fun s args _ c => args = #[Value.ref b] ∧ va_X b L xs s s.heap ∧ b < s.heap.size ∧ G.2.2 = s.heap.size ∧ c.exceptionTable.toList = [] ∧ ∀ K : WPar, K.2.2.2 = s.heap.size → SX K s, fun below args s => lw_Z below args s)
theorem bw_to {G : BPar} {l : Launch} (hst : l.stackTraces = false) {b L0 : Nat} {xs : Nat → Int32} {pc : Nat} {L : List (Option Value)} {cells slots : Nat} (k : AW (mkK G) l iL_law (ZL b L0 xs (mkK G)) pc L [] M0 cells slots) : BLD G l iL_law (ZB G b L0 xs) pc L [] (E_all G) cells slots := by
  intro p e s m args below meth c H locs ls C hl hE hS hz hq
  obtain ⟨z1, z2, z3, z4, z5, z6⟩ := C.2.2.2.2.2.2.2.2.2
  exact k p e s m args below meth c H locs ls ⟨C.1, C.2.1, C.2.2.1, C.2.2.2.1, C.2.2.2.2.1, C.2.2.2.2.2.1, C.2.2.2.2.2.2.1, z5, C.2.2.2.2.2.2.2.1, z6 _ z4, mk_adk G, hst, z1, z2, z3, z4⟩ hl (mk_wd hE) hS
theorem M0_inv : INV M0 0 := by
  have e : ∀ g i j, M0 g i j = 0 := fun _ _ _ => rfl
  refine ⟨⟨by rw [e]; omega, by rw [e]; omega, fun r r0 r1 => ?_⟩, ⟨⟨by rw [e]; omega, by rw [e]; omega⟩, fun t t1 t2 => ?_⟩, fun a a0 a1 => ⟨fun _ => rfl, Or.inl rfl⟩, fun t t1 t2 => ?_, ⟨by rw [e]; omega, by rw [e]; omega⟩, by rw [e]; omega, by rw [e]; omega⟩
  · rw [e] at r1; omega
  · rw [e] at t2; omega
  · rw [e] at t2; omega
theorem M0_ends : ENDS M0 := fun t t1 t2 => by
  have : M0 7 0 8 = 0 := rfl
  omega
theorem M0_eq : EQ2 M0 := fun _ _ => rfl
set_option maxHeartbeats 4000000 in
set_option maxRecDepth 20000 in
theorem law_pro {G : BPar} {l : Launch} (hst : l.stackTraces = false) {b L0 : Nat} {xs : Nat → Int32} (hL0 : L0 ≤ 260) : BLD G l iL_law (ZB G b L0 xs) 0 [some (.ref b), none, none, none, none, none] [] [] 0 0 := by
  refine bw_new (n := 0) (fs := [.null, .null, .null, .null, iV 0, iV 0]) (E1 := [.inr (4, [.null, .null, .null, .null, iV 0, iV 0])]) tyX4 tyX4_ok rfl ly_X4 dL_law_0 kl_L_9 is_X4 in_X4 (fun j hj => by rcases (show j = 0 ∨ j = 1 ∨ j = 2 ∨ j = 3 ∨ j = 4 ∨ j = 5 by omega) with rfl | rfl | rfl | rfl | rfl | rfl <;> rfl) rfl (Nat.le_of_ble_eq_true rfl) (Nat.le_of_ble_eq_true rfl) rfl ?_
  refine bw_dup dL_law_3 rfl ?_
  refine bw_call (x := 0) (P := []) (e0 := .inr (4, [.null, .null, .null, .null, iV 0, iV 0])) (Ec := E_X4 G) (As := []) (rest := [.ref (G.2.2 + 0)]) (E1 := E_X4 G) (c_X4_init (G.1, G.2.1, G.2.2 + 0)) ci_X4_init dL_law_4 ml_L_148 rfl rfl rfl rfl (Nat.le_of_ble_eq_true rfl) (by decide) (Nat.le_of_ble_eq_true rfl |> fun h => ⟨h, Nat.le_of_ble_eq_true rfl⟩) rfl ?_
  refine bw_astore_n (L2 := [some (.ref b), some (.ref (G.2.2 + 0)), none, none, none, none]) dL_law_7 rfl (by decide) rfl ?_
  refine bw_new (n := 87) (fs := [.null, .null, .null, .null, iV 0, iV 0]) (E1 := E_X4 G ++ [.inr (4, [.null, .null, .null, .null, iV 0, iV 0])]) tyX4 tyX4_ok rfl ly_X4 dL_law_8 kl_L_9 is_X4 in_X4 (fun j hj => by rcases (show j = 0 ∨ j = 1 ∨ j = 2 ∨ j = 3 ∨ j = 4 ∨ j = 5 by omega) with rfl | rfl | rfl | rfl | rfl | rfl <;> rfl) rfl (Nat.le_of_ble_eq_true rfl) (Nat.le_of_ble_eq_true rfl) rfl ?_
  refine bw_dup dL_law_11 rfl ?_
  refine bw_call (x := 87) (P := E_X4 G) (e0 := .inr (4, [.null, .null, .null, .null, iV 0, iV 0])) (Ec := E_X4 (G.1, G.2.1, G.2.2 + 87)) (As := []) (rest := [.ref (G.2.2 + 87)]) (E1 := E_all G) (c_X4_init (G.1, G.2.1, G.2.2 + 87)) ci_X4_init dL_law_12 ml_L_148 rfl rfl rfl rfl (Nat.le_of_ble_eq_true rfl) (by decide) ⟨Nat.le_of_ble_eq_true rfl, Nat.le_of_ble_eq_true rfl⟩ rfl ?_
  refine bw_astore_n (L2 := [some (.ref b), some (.ref (G.2.2 + 0)), some (.ref (G.2.2 + 87)), none, none, none]) dL_law_15 rfl (by decide) rfl ?_
  refine bw_iconst dL_law_16 ?_
  refine bw_istore_n (L2 := [some (.ref b), some (.ref (G.2.2 + 0)), some (.ref (G.2.2 + 87)), some (iV 0), none, none]) dL_law_17 rfl (by decide) rfl ?_
  refine bw_wide (a := 20000) (b := 6 * 20000) (Nat.le_of_ble_eq_true rfl) (Nat.le_of_ble_eq_true rfl) ?_
  exact bw_to hst (law_loop hst hL0 M0 M0_inv M0_ends M0_eq)
