/-! a method with a table of handlers that lets nothing through: its contract, its entry, its end, its call -/
def CTL (K : WPar) (l : Launch) (μ : MInfo) (avs : List Value) (M : Mem) (P : OutT → Mem → Prop) : Prop :=
  Met l μ.1 (.codeWith μ.1 μ.2.1 μ.2.2.1 μ.2.2.2.1 μ.2.2.2.2.2.2 :: AL) (mRm μ) (va_Pc avs (PRE K M)) (ctQ K P) μ.2.2.2.2.2.1.1 μ.2.2.2.2.2.1.2 (kF K)
def ZW (K : WPar) (μ : MInfo) (P : OutT → Mem → Prop) : ZT := (fun _ _ => True, fun below args s => MQ below (ctQ K P) args s μ.2.2.2.2.2.1.1 μ.2.2.2.2.2.1.2 (kF K))
abbrev CALSW (ν : MInfo) (n : Nat) : Prop := Cond.codeWith ν.1 ν.2.1 ν.2.2.1 ν.2.2.2.1 ν.2.2.2.2.2.2 ∈ AL ∧ Cond.static ν.1 ∈ AL ∧ Cond.initialized ν.1.cls ∈ AL ∧ ν.1.cls ≠ "java/lang/invoke/MethodHandle" ∧ ν.1.cls ≠ "java/lang/invoke/VarHandle" ∧ (parseMethodDescriptor ν.1.desc).map (fun d => d.parameters.length) = some n
theorem al_goodS {own : String} {index : Nat} {ν : MInfo} {n : Nat} (h : CALSW ν n) (hl : Cond.methodLink own index ν.1 ∈ AL) : GoodIn AL (va_wsS own index ν.1 (Cond.codeWith ν.1 ν.2.1 ν.2.2.1 ν.2.2.2.1 ν.2.2.2.2.2.2 :: AL)) := by
  have g : ∀ w ∈ AL, w ∈ AL ∧ ((w.onTables && w.keeps) = true ∨ ∃ ty, w = .arrayClass ty) := fun w hw => ⟨hw, good_of_word (List.mem_filter.mp hw).2⟩
  intro w hw
  simp only [va_wsS, List.mem_append, List.mem_cons, List.not_mem_nil, or_false] at hw
  rcases hw with (rfl | rfl | rfl) | rfl | hw
  · exact g _ hl
  · exact g _ h.2.1
  · exact g _ h.2.2.1
  · exact g _ h.1
  · exact g _ hw
section AWM
variable {K : WPar} {l : Launch} {μ : MInfo} {Z : ZT} {pc : Nat} {L : List (Option Value)} {st : List Value} {M : Mem} {cells slots : Nat}
theorem aw_metW {P : OutT → Mem → Prop} {avs : List Value} (L0 : List (Option Value)) (hst : l.stackTraces = false) (hy : plainName μ.1.cls = true) (hlen : (lg_sl avs).length ≤ μ.2.2.1) (hL : lv_args 0 avs = lvo 0 L0) (hLl : L0.length = μ.2.2.1) (hcat : ∀ v, some v ∈ L0 → v.category = 1) (k : AW K l μ (ZW K μ P) 0 L0 [] M 0 0) : CTL K l μ avs M P := by
  refine va_MetW (cc := μ.2.1) (maxL := μ.2.2.1) (ret := μ.2.2.2.1) (hh := μ.2.2.2.2.2.2) hy rfl ?_
  intro p e s m args below meth c s₁ B hml hv
  obtain ⟨rfl, hWd, hK, hS, hA⟩ := hv
  have hts := atoms_spec (ws := .codeWith μ.1 μ.2.1 μ.2.2.1 μ.2.2.2.1 μ.2.2.2.2.2.2 :: AL) B.pre
  rw [lg_entry_eq]
  have hle := lv_entry avs hlen
  rw [hL] at hle
  exact k p e s m _ below meth c s.heap [] _ ⟨B.exec, B.bytes, hml, findClass_of_methodNamed B.named, fun w hw => hts w (List.mem_cons_of_mem _ hw), B.returns, B.notSynchronized, vx_table (x := μ.1) B (hts _ List.mem_cons_self), hK, hS, hA, hst, trivial⟩ ⟨hle, hLl, hcat⟩ hWd va_S.rf
theorem aw_iretW {P : OutT → Mem → Prop} {z : Int} {ty : FieldType} (hd : decode μ.2.1 pc = .ok (.ireturn, 1)) (hrt : μ.2.2.2.1 = some ty) (hn : narrow ty (iV z) = iV z) (h1 : cells ≤ (mRm μ).cells) (h2 : slots ≤ (mRm μ).slots) (hP : P (.inl (some z)) M) : AW K l μ (ZW K μ P) pc L [iV z] M cells slots := by
  intro p e s m args below meth c H locs ls C hl hW hS
  refine W.widen h1 h2 ?_
  exact W.zret (v := Int32.ofInt z) C.1 C.2.1 (C.2.2.2.2.2.1.trans hrt) hn (fun t ht hWt => ⟨⟨some z, M, rfl, hP, by rw [ht]; exact hW⟩, hS.F ht⟩) hS.2.2 hd C.2.2.2.2.2.2.1
theorem ax_catchn {E name : String} {k : Fin 4} {i : Nat} (pre : List ExceptionTableEntry) (x : ExceptionTableEntry) (suf : List ExceptionTableEntry) (hsplit : tableOf μ.2.2.2.2.2.2 = pre ++ x :: suf)
    (hpass : ∀ z ∈ pre, covers z pc = false ∨ (z.catchType ≠ 0 ∧ ∃ nm : String, Cond.classLink μ.1.cls z.catchType nm ∈ AL ∧ (E, nm) ∈ ncs)) (hx : covers x pc = true) (h0 : x.catchType ≠ 0) (hlink : Cond.classLink μ.1.cls x.catchType name ∈ AL) (hcast : Cond.castable E name ∈ lw_tbl) (hda : decode μ.2.1 x.handlerPc = .ok (.astore_n k, 1)) (hk : (k : Nat) = i) (hi : i < μ.2.2.1) (hL : L[i]? = some none)
    (kk : AW K l μ Z (x.handlerPc + 1) L [] M cells slots) : AX K l μ Z pc L st M cells slots E := by
  intro p e s m args below meth c H locs ls q ce C hl hW hS hce hcv hcl
  have hts : ∀ w ∈ AL, w.before args s = true := C.2.2.2.2.1
  have hSX := C.2.2.2.2.2.2.2.2.2.1
  refine vx_catch (name := name) (E := E) C.2.2.2.1 pre x suf (C.2.2.2.2.2.2.2.1.trans hsplit) (fun z hz => ?_) hx h0 (hts _ hlink) (nw_use rfl (hSX.2.2.2.1 _ hcast rfl)) hce hcv hcl ?_
  · rcases hpass z hz with h | ⟨h1, nm, h2, h3⟩
    · exact Or.inl h
    · exact Or.inr ⟨h1, nm, hts _ h2, hSX.2.2.2.2 _ h3⟩
  · refine lv_astore_n C.1 C.2.1 hda hk hl.1 hi rfl (fun ls2 h2 => ?_)
    refine kk p e s m args below meth c H locs ls2 C ((hl.set rfl h2).weak ?_) hW hS
    exact lwk_set L i _ hL
/-- a call of a wrapper -/
theorem aw_callW {ν : MInfo} {n idx : Nat} {As rest : List Value} {R : Int → Mem → Prop} {c2 s2 : Nat} (hCT : CTL K l ν As M (rZm R)) (hcal : CALSW ν n) (hd : decode μ.2.1 pc = .ok (.invokestatic idx, 3)) (hli : Cond.methodLink μ.1.cls idx ν.1 ∈ AL) (hn : As.length = n) (hst : st = As.reverse ++ rest) (hre : (rest.map fun v => v.category).sum ≤ 8)
    (hR : (mRm ν).frames + 1 ≤ (mRm μ).frames ∧ 8 + (ν.2.2.1 + 11) + (mRm ν).locals ≤ (mRm μ).locals) (hc2 : cells + (mRm ν).cells ≤ c2) (hs2 : slots + (mRm ν).slots ≤ s2) (hf : c2 ≤ (mRm μ).cells ∧ s2 ≤ (mRm μ).slots)
    (kk : ∀ z m, R z m → AW K l μ Z (pc + 3) L (iV z :: rest) m c2 s2) : AW K l μ Z pc L st M cells slots := by
  subst hst
  intro p e s m args below meth c H locs ls C hl hW hS
  have hts : ∀ w ∈ AL, w.before args s = true := C.2.2.2.2.1
  have hK := C.2.2.2.2.2.2.2.2.1
  have hSX := C.2.2.2.2.2.2.2.2.2.1
  have hAD : ADK K := C.2.2.2.2.2.2.2.2.2.2.1
  have hr := vx_runSW (mc := (mRm ν).cells) (ms := (mRm ν).slots) (As := As) (rest := rest) (g := F0 m pc ls (As.reverse ++ rest)) (cells := cells) (slots := slots) (locs := locs) (below := below) (p := p) (e := e) (R := mRm μ) (meth := meth) (l := l) ⟨C.1, C.2.1, C.2.2.1, C.2.2.2.1, hts⟩ hCT (vx_cwSW n hts (al_goodS hcal hli) rfl rfl rfl hcal.2.2.2 hR) ⟨pre_blind, fun U hU hWm => ⟨rfl, pre_at hW hK hSX hAD hS hU hWm⟩⟩ rfl hn hl.1.1 rfl (lv_room hre) hd ⟨Nat.le_trans hc2 hf.1, Nat.le_trans hs2 hf.2⟩
  intro T hT X
  obtain ⟨v, st₀, t, T', L', h0, X', hL, e1, e2, ⟨⟨r, M1, hv, hp, hb⟩, hF⟩, st⟩ := hr T hT X
  have hv2 : v = r.map iV := by simpa using hv
  subst hv2
  obtain ⟨z, hz, hp⟩ := hp
  have hr2 : r = some z := by simpa using hz
  subst hr2
  obtain ⟨k1, k2, k3⟩ := vx_keep h0 e1 hS (fun _ _ h => h) (fun _ h => h) hL hF
  obtain ⟨t2, a1, b1⟩ := W.widen hc2 hs2 (kk z M1 hp p e s m args below meth c T'.heap (locs ++ L') ls C hl (by rw [e1]; exact hb) k3) T' rfl X'
  exact ⟨t2, st t2 a1, b1⟩
end AWM
