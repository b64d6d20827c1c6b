/-! THE CLAIM OUT OF ONE WALK OF THE LAW'S BODY. Your part is whole_start (and what it stands on); all else here is the same for every law, but numbers. -/
def R_law : String := "BoxofficeRowLaw"
def lw_P (b : Addr) (xs : List Int32) (args : Array Value) (s : State) : Prop := args = #[.ref b] ∧ s.IntsAt b xs ∧ xs.length ≤ 2560 ∧ (Jvm.Cond.and given_1 narrow_1).before args s = true
def lw_Q (_ : Array Value) (s : State) (o : Outcome) (t : State) : Prop := o = .returned (some (.int 1)) ∧ Framed s o t [] 601024 7293034
def lw_Z (below : List Frame) (a : Array Value) (s : State) : State → Prop := fun t => ∃ o, t.status = .running ∧ Ended t below o ∧ lw_Q a s o t
/-- the law's own end, with 1 on the stack, nothing written that was there before, its room as the claim has it -/
theorem lw_ret {p : Program} {l : Launch} {e : Env} {s : State} {m : MethodId} {below : List Frame} {meth : Method} {c : Code} {b : Nat} (hx : p.tables.exec = Jvm.exec) (hb : c.code = code) (hr : meth.sig.returnType = ret) (hlocks : meth.locks = false) {pc : Nat} {H : Heap} {ls : Array Slot} (hdg : decode code pc = .ok (.ireturn, 1)) : W p l e room_1 s m #[Value.ref b] below meth c H [] 601024 7293034 (lw_Z below #[Value.ref b] s) (F0 m pc ls [.int 1]) := by
  intro T hT X
  obtain ⟨fs, hret, hrun, hended, hW, hframe⟩ := X.leave (v := some (.int 1)) (hlocks := hlocks) (fun h => by rw [hr] at h; cases h)
  have hmeth' : T.vm.method? m = some meth := X.method'
  refine ⟨T.setFrames fs, ?_, .returned (some (.int 1)), hrun, hended, rfl, ⟨_, rfl⟩, hW, hframe⟩
  jvm_step X.here [X.here.top, hx, hb, hdg, hmeth', hr, ret, narrow_b1]
  (try refine ⟨rfl, ?_⟩); (try refine ⟨rfl, ?_⟩)
  first | (intro acts; rw [hret _ acts rfl rfl rfl]) | rw [hret _ _ rfl rfl rfl]
  exact Steps.refl _
/-- what holds at the law's entry: the machine, the code, the tables' words (any of lw_tbl by 'hts w (by decide +kernel)'), the script of L ints xs at the cell b, what the Statement gives of the start (any of its parts by flat_of_before) -/
def lw_At (p : Program) (s : State) (m : MethodId) (meth : Method) (c : Code) (b L : Nat) (xs : Nat → Int32) : Prop :=
  p.tables.exec = Jvm.exec ∧ c.code = code ∧ meth.sig.returnType = ret ∧ c.maxLocals = 7 ∧ s.vm.findClass R_law = some m.cls ∧ (∀ w ∈ lw_tbl, w.before #[Value.ref b] s = true) ∧ va_X b L xs s s.heap ∧ b < s.heap.size ∧ meth.locks = false ∧ (Jvm.Cond.and given_1 narrow_1).before #[Value.ref b] s = true ∧ c.exceptionTable.toList = []
def iL_law : MInfo := (yL_law, code, 7, ret, (12, 480), (601024, 7293034), [])
def ZL (b L : Nat) (xs : Nat → Int32) (K : WPar) : ZT := (fun s args => args = #[Value.ref b] ∧ va_X b L xs s s.heap ∧ b < s.heap.size ∧ K.2.2.2 = s.heap.size, fun below args s => lw_Z below args s)
def sx (xs : Nat → Int32) (j : Int) : Int := (xs j.toNat).toInt
theorem sx_r (xs : Nat → Int32) (j : Int) : inR (sx xs j) := by
  have h1 := Int32.minValue_le_toInt (xs j.toNat)
  have h2 := Int32.toInt_le (xs j.toNat)
  have e1 : Int32.minValue.toInt = -2147483648 := by decide
  have e2 : Int32.maxValue.toInt = 2147483647 := by decide
  unfold sx
  omega
section AWL2
variable {K : WPar} {l : Launch} {pc : Nat} {L : List (Option Value)} {st : List Value} {M : Mem} {cells slots : Nat} {b L0 : Nat} {xs : Nat → Int32}
theorem aw_aload_nb {μ : MInfo} {Z : ZT} {k : Fin 4} {i : Nat} {a : Nat} (hd : decode μ.2.1 pc = .ok (.aload_n k, 1)) (hi : (k : Nat) = i) (hL : L[i]? = some (some (.ref a))) (kk : AW K l μ Z (pc + 1) L (.ref a :: st) M cells slots) : AW K l μ Z pc L st M cells slots := by
  intro p e s m args below meth c H locs ls C hl hW hS
  exact lv_aload_n C.1 C.2.1 hd hi (hl.at hL) (kk p e s m args below meth c H locs ls C hl hW hS)
theorem aw_slen (hL : L0 ≤ 2560) (hd : decode iL_law.2.1 pc = .ok (.arraylength, 1)) (kk : AW K l iL_law (ZL b L0 xs K) (pc + 1) L (iV (L0 : Int) :: st) M cells slots) : AW K l iL_law (ZL b L0 xs K) pc L (.ref b :: st) M cells slots := by
  intro p e s m args below meth c H locs ls C hl2 hW hS
  obtain ⟨ha, hX, hbl, hsz⟩ := C.2.2.2.2.2.2.2.2.2.2.2.2
  have hbA : ¬ kF K b := by show ¬ K.2.2.2 ≤ b; omega
  refine va_slen C.1 C.2.1 hX hbl hbA hS hd ?_
  have e1 : Int32.ofNat L0 = Int32.ofInt (L0 : Int) := by
    apply Int32.toInt_inj.mp
    rw [ri (by omega), Int32.toInt_ofNat_of_lt (by omega)]
  rw [e1]
  exact kk p e s m args below meth c H locs ls C hl2 hW hS
theorem aw_sld {j : Int} (hL : L0 ≤ 2560) (hj : 0 ≤ j ∧ j < (L0 : Int)) (hd : decode iL_law.2.1 pc = .ok (.iaload, 1)) (kk : inR (sx xs j) → AW K l iL_law (ZL b L0 xs K) (pc + 1) L (iV (sx xs j) :: st) M cells slots) : AW K l iL_law (ZL b L0 xs K) pc L (iV j :: .ref b :: st) M cells slots := by
  intro p e s m args below meth c H locs ls C hl2 hW hS
  obtain ⟨ha, hX, hbl, hsz⟩ := C.2.2.2.2.2.2.2.2.2.2.2.2
  have hbA : ¬ kF K b := by show ¬ K.2.2.2 ≤ b; omega
  have hR : inR j := by omega
  refine va_sld C.1 C.2.1 hX hbl hbA hS (r_vin hj.1 hj.2 hR) hd ?_
  rw [rn hR]
  have k2 := kk (sx_r xs j) p e s m args below meth c H locs ls C hl2 hW hS
  unfold iV sx at k2
  rw [Int32.ofInt_toInt] at k2
  exact k2
/-- the law's end -/
theorem aw_lend (hd : decode iL_law.2.1 pc = .ok (.ireturn, 1)) (h1 : cells ≤ 601024) (h2 : slots ≤ 7293034) : AW K l iL_law (ZL b L0 xs K) pc L [iV 1] M cells slots := by
  intro p e s m args below meth c H locs ls C hl2 hW hS
  obtain ⟨ha, hX, hbl, hsz⟩ := C.2.2.2.2.2.2.2.2.2.2.2.2
  subst ha
  refine va_forget (fun q hq => by rw [← hsz]; exact hS.2.2 q hq) ?_
  refine W.widen h1 h2 ?_
  exact lw_ret C.1 C.2.1 C.2.2.2.2.2.1 C.2.2.2.2.2.2.1 hd
end AWL2
/-! what the calls want, out of INV -/
theorem INV.nowb {M : Mem} {c : Int} (h : INV M c) (hc : c ≤ 512) : 0 ≤ M 0 0 4 ∧ M 0 0 4 ≤ 1000000 := by
  have := h.2.2.2.2.2.1
  omega
theorem INV.balb {M : Mem} {c : Int} (h : INV M c) (hc : c ≤ 512) : -1300000000 ≤ M 0 0 5 ∧ M 0 0 5 ≤ 1300000000 := by
  have := h.2.2.2.2.2.2.2
  omega
theorem INV.pd {M : Mem} {c : Int} (h : INV M c) (t : Int) : 1 ≤ t → t ≤ M 7 0 8 → 0 ≤ M 12 0 t ∧ M 12 0 t ≤ 2400000 := fun t1 t2 => (h.2.1.2.2.1 t t1 t2).2.2.2.2.1
theorem INV.en {M : Mem} {c : Int} (h : INV M c) : ∀ t : Int, 1 ≤ t → t ≤ M 7 0 8 → 0 ≤ M 10 0 t := fun t t1 t2 => (h.2.1.2.2.1 t t1 t2).2.2.1
theorem INV.nowm {M : Mem} {c : Int} (h : INV M c) (hc : c ≤ 512) : 0 ≤ M 30 0 1 ∧ M 30 0 1 ≤ 1000000 := by
  have a := h.nowb hc
  have e := h.2.2.2.2.1
  rw [← e]
  exact a
theorem INV.balm {M : Mem} {c : Int} (h : INV M c) (hc : c ≤ 512) : -1300000000 ≤ M 30 0 2 ∧ M 30 0 2 ≤ 1300000000 := by
  have a := h.balb hc
  have e := h.2.2.2.2.2.2.1
  rw [← e]
  exact a
theorem INV.pdm {M : Mem} {c : Int} (h : INV M c) (t : Int) : 1 ≤ t → t ≤ M 30 0 8 → 0 ≤ M 38 0 t ∧ M 38 0 t ≤ 2400000 := fun t1 t2 => by
  have e8 := h.2.1.2.1
  have ti := h.2.1.2.2.1 t t1 (by omega)
  have e := ti.1.2.2.2
  have q := ti.2.2.2.2.1
  omega
theorem INV.xxm {M : Mem} {c : Int} (h : INV M c) (t : Int) : 1 ≤ t → t ≤ M 30 0 8 → M 37 0 t ≤ 2 := fun t1 t2 => by
  have e8 := h.2.1.2.1
  have ti := h.2.1.2.2.1 t t1 (by omega)
  have e := ti.1.2.2.1
  have q := ti.2.2.2.1
  omega
theorem INV.enm2 {M : Mem} {c : Int} (h : INV M c) : ∀ t : Int, 1 ≤ t → t ≤ M 30 0 8 → 0 ≤ M 36 0 t := fun t t1 t2 => by
  have e8 := h.2.1.2.1
  have ti := h.2.1.2.2.1 t t1 (by omega)
  have e := ti.1.2.1
  have q := ti.2.2.1
  omega
theorem INV.prm {M : Mem} {c : Int} (h : INV M c) : ∀ r : Int, 0 ≤ r → r < 12 → 0 ≤ M 33 0 r ∧ M 33 0 r ≤ 10000 := h.1.2.2.2
theorem INV.exm {M : Mem} {c : Int} (h : INV M c) (t : Int) : 1 ≤ t → t ≤ M 30 0 8 → M 35 0 t = 1 → ∃ a : Int, 0 ≤ a ∧ a < 240 ∧ M 34 0 a = t := fun t1 t2 q => by
  have e8 := h.2.1.2.1
  have ti := h.2.1.2.2.1 t t1 (by omega)
  have e := ti.1.1
  rcases (h.2.2.2.1 t t1 (by omega)).1 (by omega) with x | x
  · obtain ⟨b1, b2, b3⟩ := x
    have w := h.hw.2.2 _ b1.1 b1.2
    have n := h.hw.2.1
    exact ⟨20 * M 13 0 t + M 14 0 t, by omega, by omega, (b3 _ (by omega) (by omega)).mpr ⟨by omega, by omega⟩⟩
  · obtain ⟨-, -, a, b, a0, a1, -, -, a2, -⟩ := x
    exact ⟨a, a0, a1, a2⟩
/-- the reference's part of the memory stays, so what its calls want stays -/
def MOD (M m : Mem) : Prop := ∀ g : Nat, 30 ≤ g → g < 40 → m g = M g
theorem MOD.hwm {M m : Mem} {c : Int} (k : MOD M m) (h : INV M c) : HWm m := by
  unfold HWm
  rw [k 30 (by decide) (by decide), k 31 (by decide) (by decide), k 32 (by decide) (by decide), k 33 (by decide) (by decide)]
  exact h.hwm
theorem MOD.bwm {M m : Mem} {c : Int} (k : MOD M m) (h : INV M c) : BWm m := by
  unfold BWm
  rw [k 30 (by decide) (by decide)]
  exact h.bwm
theorem MOD.now {M m : Mem} {c : Int} (k : MOD M m) (h : INV M c) (hc : c ≤ 512) : 0 ≤ m 30 0 1 ∧ m 30 0 1 ≤ 1000000 := by
  rw [k 30 (by decide) (by decide)]
  exact h.nowm hc
theorem MOD.bal {M m : Mem} {c : Int} (k : MOD M m) (h : INV M c) (hc : c ≤ 512) : -1300000000 ≤ m 30 0 2 ∧ m 30 0 2 ≤ 1300000000 := by
  rw [k 30 (by decide) (by decide)]
  exact h.balm hc
theorem MOD.pd {M m : Mem} {c : Int} (k : MOD M m) (h : INV M c) (t : Int) : 1 ≤ t → t ≤ m 30 0 8 → 0 ≤ m 38 0 t ∧ m 38 0 t ≤ 2400000 := by
  rw [k 30 (by decide) (by decide), k 38 (by decide) (by decide)]
  exact h.pdm t
theorem MOD.xx {M m : Mem} {c : Int} (k : MOD M m) (h : INV M c) (t : Int) : 1 ≤ t → t ≤ m 30 0 8 → m 37 0 t ≤ 2 := by
  rw [k 30 (by decide) (by decide), k 37 (by decide) (by decide)]
  exact h.xxm t
theorem MOD.pr {M m : Mem} {c : Int} (k : MOD M m) (h : INV M c) : ∀ r : Int, 0 ≤ r → r < 12 → 0 ≤ m 33 0 r ∧ m 33 0 r ≤ 10000 := by
  rw [k 33 (by decide) (by decide)]
  exact h.prm
theorem MOD.ex {M m : Mem} {c : Int} (k : MOD M m) (h : INV M c) (t : Int) : 1 ≤ t → t ≤ m 30 0 8 → m 35 0 t = 1 → ∃ a : Int, 0 ≤ a ∧ a < 240 ∧ m 34 0 a = t := by
  rw [k 30 (by decide) (by decide), k 34 (by decide) (by decide), k 35 (by decide) (by decide)]
  exact h.exm t
theorem MOD.wim {M m : Mem} {c : Int} (k : MOD M m) (h : INV M c) : WIm m := by
  obtain ⟨p1, p2, p3, p4, p5, p6⟩ := mod_eq k
  unfold WIm
  rw [p3, p6, k 30 (by decide) (by decide), k 34 (by decide) (by decide), k 39 (by decide) (by decide)]
  exact h.wim
theorem MOD.mz {M m : Mem} {c : Int} (k : MOD M m) (h : INV M c) : ∀ t : Int, 1 ≤ t → t ≤ m 30 0 8 → hsW m t → 1 ≤ manyM m t ∧ manyM m t ≤ 20 ∧ fsM m t % 20 + manyM m t ≤ 20 := by
  obtain ⟨p1, p2, p3, p4, p5, p6⟩ := mod_eq k
  rw [p3, p5, p6, k 30 (by decide) (by decide)]
  exact h.mz
theorem MOD.rf {M : Mem} : MOD M M := fun _ _ _ => rfl
theorem MOD.o {M y : Mem} {a : Int} (k : MOD M y) : MOD M (updM y 45 0 0 a) := fun g g1 g2 => (updM_g (by omega)).trans (k g g1 g2)
theorem FOUND_m {M y m : Mem} {people : Int} (hs : SF M y) (e16 : m 16 = y 16) (e19 : m 19 = y 19) (e26 : m 26 = y 26) (e1 : m 1 = y 1) (e2 : m 2 = y 2) (e3 : m 3 = y 3) (e6 : m 6 = y 6) (h : FOUND M y people) : FOUND m m people := by
  have f1 : m 1 = M 1 := e1.trans (hs 1 (by decide))
  have f2 : m 2 = M 2 := e2.trans (hs 2 (by decide))
  have f3 : m 3 = M 3 := e3.trans (hs 3 (by decide))
  have f6 : m 6 = M 6 := e6.trans (hs 6 (by decide))
  unfold FOUND cM TKM okM VM bM at h ⊢
  rw [f1, f2, f3, f6, e16, e19, e26]
  exact h
theorem SF_cM {M m : Mem} {b p v : Int} (hs : SF M m) : cM m 0 b p v ↔ cM M 0 b p v := by
  unfold cM okM VM
  rw [hs 1 (by decide), hs 2 (by decide), hs 3 (by decide), hs 6 (by decide)]
theorem SF_inv {M m : Mem} {c : Int} (hs : SF M m) (h : INV M c) : INV m c := INV_same (SAME_g (fun g hg => hs g (by omega))) h
