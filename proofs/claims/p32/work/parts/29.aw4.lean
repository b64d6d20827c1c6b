/-! what is caught -/
def rZm (A : Int → Mem → Prop) : OutT → Mem → Prop := fun o m => ∃ z, o = .inl (some z) ∧ A z m
theorem lwk_rf : ∀ L : List (Option Value), lwk L L
  | [] => trivial
  | _ :: r => ⟨Or.inr rfl, lwk_rf r⟩
theorem lwk_set : ∀ (L : List (Option Value)) (i : Nat) (v : Value), L[i]? = some none → lwk (L.set i (some v)) L
  | [], _, _, h => by simp at h
  | a :: r, 0, v, h => by
    have : a = none := by simpa using h
    subst this
    exact ⟨Or.inl rfl, lwk_rf r⟩
  | a :: r, i + 1, v, h => ⟨Or.inr rfl, lwk_set r i v (by simpa using h)⟩
section AWC
variable {K : WPar} {l : Launch} {μ : MInfo} {Z : ZT} {pc : Nat} {L : List (Option Value)} {st : List Value} {M : Mem} {cells slots : Nat}
/-- a thrown exception is caught here -/
theorem ax_catch {E name : String} {i : Nat} (pre : List ExceptionTableEntry) (x : ExceptionTableEntry) (suf : List ExceptionTableEntry) (hsplit : tableOf μ.2.2.2.2.2.2 = pre ++ x :: suf)
    (hpass : ∀ z ∈ pre, covers z pc = false ∨ (z.catchType ≠ 0 ∧ ∃ nm : String, Cond.classLink μ.1.cls z.catchType nm ∈ AL ∧ (E, nm) ∈ ncs)) (hx : covers x pc = true) (h0 : x.catchType ≠ 0) (hlink : Cond.classLink μ.1.cls x.catchType name ∈ AL) (hcast : Cond.castable E name ∈ lw_tbl) (hda : decode μ.2.1 x.handlerPc = .ok (.astore i, 2)) (hi : i < μ.2.2.1) (hL : L[i]? = some none)
    (kk : AW K l μ Z (x.handlerPc + 2) L [] M cells slots) : AX K l μ Z pc L st M cells slots E := by
  intro p e s m args below meth c H locs ls q ce C hl hW hS hce hcv hcl
  have hts : ∀ w ∈ AL, w.before args s = true := C.2.2.2.2.1
  have hSX := C.2.2.2.2.2.2.2.2.2.1
  refine vx_catch (name := name) (E := E) C.2.2.2.1 pre x suf (C.2.2.2.2.2.2.2.1.trans hsplit) (fun z hz => ?_) hx h0 (hts _ hlink) (nw_use rfl (hSX.2.2.2.1 _ hcast rfl)) hce hcv hcl ?_
  · rcases hpass z hz with h | ⟨h1, nm, h2, h3⟩
    · exact Or.inl h
    · exact Or.inr ⟨h1, nm, hts _ h2, hSX.2.2.2.2 _ h3⟩
  · refine lv_astore C.1 C.2.1 hda hl.1 hi rfl (fun ls2 h2 => ?_)
    refine kk p e s m args below meth c H locs ls2 C ((hl.set rfl h2).weak ?_) hW hS
    exact lwk_set L i _ hL
end AWC
