/-! the search for a split -/
def rBM (A B : Mem → Prop) : OutT → Mem → Prop := fun o m => (o = .inl (some 1) ∧ A m) ∨ (o = .inl (some 0) ∧ B m)
section AWF
variable {K : WPar} {l : Launch} {μ : MInfo} {Z : ZT} {pc : Nat} {L : List (Option Value)} {st : List Value} {M : Mem} {cells slots : Nat}
theorem aw_cVf {ν : MInfo} {n g ci x N idx : Nat} {T : u_T} {fs : List (Option Nat)} {As rest : List Value} {A B : Mem → Prop} (hCT : CT K l ν (rV K g 0 :: As) M (rBM A B)) (hcal : CALV ν n) (hd : decode μ.2.1 pc = .ok (.invokevirtual idx, 3)) (hli : Cond.methodLink μ.1.cls idx ν.1 ∈ AL) (hk : gk g = (0, ci, x, fs)) (hc : vwCl[ci]? = some (ν.1.cls, T, N)) (hcnt : gcnt g = 1) (hn : As.length = n) (hst : st = As.reverse ++ rV K g 0 :: rest) (hre : (rest.map fun v => v.category).sum ≤ 8) (hR : (mRm ν).frames + 1 ≤ (mRm μ).frames ∧ 8 + (ν.2.2.1 + 11) + (mRm ν).locals ≤ (mRm μ).locals) (h0 : (mRm ν).cells = 0) (h1 : (mRm ν).slots = 0) (hf : cells ≤ (mRm μ).cells ∧ slots ≤ (mRm μ).slots)
    (kt : ∀ m, A m → AW K l μ Z (pc + 3) L (iV 1 :: rest) m cells slots) (kf : ∀ m, B m → AW K l μ Z (pc + 3) L (iV 0 :: rest) m cells slots) : AW K l μ Z pc L st M cells slots := by
  refine aw_callV hCT hcal hd hli hk hc hcnt hn hst hre hR (by rw [h0, h1]; exact hf) (fun r M2 h => ?_) (fun E M2 h => ?_)
  · rcases h with ⟨e1, e2⟩ | ⟨e1, e2⟩
    · cases e1
      rw [h0, h1]
      exact kt M2 e2
    · cases e1
      rw [h0, h1]
      exact kf M2 e2
  · rcases h with ⟨e1, e2⟩ | ⟨e1, e2⟩
    · cases e1
    · cases e1
end AWF
def FINDP (M : Mem) (people : Int) : OutT → Mem → Prop := rBM (fun m => SF M m ∧ FOUND M m people) (fun m => SF M m ∧ ∀ b v : Int, ¬ cM M 0 b people v)
theorem SPr_n {M : Mem} {people : Int} (hw : HW M) : SPr M (sbM M (M 1 0 4) (people + 1)) people (M 1 0 4 - 1 + 1) := by
  rw [show M 1 0 4 - 1 + 1 = M 1 0 4 by omega]
  refine ⟨fun r h1 h2 => by omega, fun r p h1 h2 h3 h4 => ?_⟩
  have e : r = M 1 0 4 := by omega
  subst e
  exact sbM_fg h3 (by omega)
theorem sbM_sf {M : Mem} {k : Int} : SF M (sbM M (M 1 0 4) k) := fun g hg => sbM_g (by omega) (by omega)
def SPi (M m : Mem) (people row lef : Int) : Prop := (∀ r : Int, row ≤ r → r < M 1 0 4 → rowOK M m r) ∧ (∀ r p : Int, row + 1 ≤ r → r ≤ M 1 0 4 → 0 ≤ p → p ≤ people → FGat M m r p) ∧ ∀ p : Int, 0 ≤ p → p < lef → FGat M m row p
theorem SPi_0 {M m1 m : Mem} {people row : Int} (hsf : SF M m1) (h : SPr M m1 people (row + 1)) (q : rowOK m1 m row ∧ SF m1 m ∧ (∀ g : Nat, g ≠ 17 → g ≠ 19 → g ≠ 21 → m g = m1 g) ∧ ∀ r : Int, r ≠ row → m 17 0 r = m1 17 0 r ∧ m 19 r = m1 19 r ∧ m 21 r = m1 21 r) : SPi M m people row 0 := by
  refine ⟨fun r h1 h2 => ?_, fun r p h1 h2 h3 h4 => ?_, fun p h1 h2 => by omega⟩
  · by_cases e : r = row
    · subst e
      exact (rowOK_sf hsf).mp q.1
    · have := q.2.2.2 r e
      exact rowOK_cg this.1 this.2.1 this.2.2 (h.1 r (by omega) h2)
  · exact FGat_cg (by rw [q.2.2.1 23 (by decide) (by decide) (by decide)]) (by rw [q.2.2.1 25 (by decide) (by decide) (by decide)]) (h.2 r p h1 h2 h3 h4)
theorem SPi_s {M m2 m : Mem} {people row lef : Int} (hsf : SF M m2) (h : SPi M m2 people row lef) (q : ∃ f g : Int, isFG (fun b v => cM m2 row b lef v) f g ∧ m = updM (updM m2 23 row lef f) 25 row lef g) : SPi M m people row (lef + 1) ∧ SF M m := by
  obtain ⟨f, g, q1, rfl⟩ := q
  have e17 : updM (updM m2 23 row lef f) 25 row lef g 17 = m2 17 := by rw [updM_g (by decide), updM_g (by decide)]
  have e19 : updM (updM m2 23 row lef f) 25 row lef g 19 = m2 19 := by rw [updM_g (by decide), updM_g (by decide)]
  have e21 : updM (updM m2 23 row lef f) 25 row lef g 21 = m2 21 := by rw [updM_g (by decide), updM_g (by decide)]
  refine ⟨⟨fun r h1 h2 => rowOK_cg (by rw [e17]) (by rw [e19]) (by rw [e21]) (h.1 r h1 h2), fun r p h1 h2 h3 h4 => ?_, fun p h1 h2 => ?_⟩, fun x hx => ?_⟩
  · exact FGat_cg (by rw [updM_g (by decide), updM_i (by omega)]) (by rw [updM_i (by omega), updM_g (by decide)]) (h.2.1 r p h1 h2 h3 h4)
  · by_cases e : p = lef
    · subst e
      have q2 : FGat m2 (updM (updM m2 23 row p f) 25 row p g) row p := by
        unfold FGat
        rw [updM_g (by decide), updM_same, updM_same]
        exact q1
      exact (FGat_sf hsf).mp q2
    · exact FGat_cg (by rw [updM_g (by decide), updM_j e]) (by rw [updM_j e, updM_g (by decide)]) (h.2.2 p h1 (by omega))
  · rw [updM_g (by omega), updM_g (by omega)]
    exact hsf x hx
theorem SPi_all {M m : Mem} {people row lef : Int} (h : SPi M m people row lef) (hl : people < lef) (hr : 0 ≤ row) : SPr M m people (row + -1 + 1) := by
  rw [show row + -1 + 1 = row by omega]
  refine ⟨h.1, fun r p h1 h2 h3 h4 => ?_⟩
  by_cases e : r = row
  · subst e; exact h.2.2 p h3 (by omega)
  · exact h.2.1 r p (by omega) h2 h3 h4
theorem SPr_up {M m : Mem} {people v : Int} (hsf : SF M m) (h : SPr M m people 0) : SPr (updM m 16 0 7 v) (updM m 16 0 7 v) people 0 ∧ SF M (updM m 16 0 7 v) := by
  have s2 : SF M (updM m 16 0 7 v) := fun g hg => by rw [updM_g (by omega)]; exact hsf g hg
  have e1 : updM m 16 0 7 v 1 0 4 = M 1 0 4 := by rw [s2 1 (by decide)]
  refine ⟨⟨fun r h1 h2 => (rowOK_sf s2).mpr (rowOK_cg (by rw [updM_g (by decide)]) (by rw [updM_g (by decide)]) (by rw [updM_g (by decide)]) (h.1 r h1 (by omega))), fun r p h1 h2 h3 h4 => (FGat_sf s2).mpr (FGat_cg (by rw [updM_g (by decide)]) (by rw [updM_g (by decide)]) (h.2 r p h1 (by omega) h3 h4))⟩, s2⟩
theorem SPr_none {M m : Mem} {people : Int} (hw : HW M) (hp : 0 ≤ people) (h : SPr M m people 0) (hf : ¬ m 23 0 people < 13) : ∀ b v : Int, ¬ cM M 0 b people v := by
  rcases h.2 0 people (Int.le_refl 0) hw.1 hp (Int.le_refl _) with ⟨_, q⟩ | ⟨_, q, _⟩
  · exact q
  · omega
theorem FOUND_mk {M m1 m : Mem} {people : Int} (hw : HW M) (hp : 0 ≤ people) (hsf : SF M m1) (h : SPr M m1 people 0) (hf : m1 23 0 people < 13)
    (q : (∀ g : Nat, g ≠ 26 → m g = updM m1 16 0 7 (m1 23 0 people) g) ∧ TKM (updM m1 16 0 7 (m1 23 0 people)) 0 people (updM m1 16 0 7 (m1 23 0 people) 23 0 people) (updM m1 16 0 7 (m1 23 0 people) 25 0 people) (m 26 0) ∧ ∀ r : Int, 0 ≤ r → r < updM m1 16 0 7 (m1 23 0 people) 1 0 4 → 0 ≤ m 26 0 r ∧ m 26 0 r ≤ 20) : FOUND M m people ∧ SF M m := by
  obtain ⟨q1, q2, q3⟩ := q
  have s2 := (SPr_up (v := m1 23 0 people) hsf h).2
  have e1 : updM m1 16 0 7 (m1 23 0 people) 1 0 4 = M 1 0 4 := by rw [s2 1 (by decide)]
  have F := h.2 0 people (Int.le_refl 0) hw.1 hp (Int.le_refl _)
  have q4 : TKM M 0 people (m1 23 0 people) (m1 25 0 people) (m 26 0) := by
    unfold TKM okM VM at q2 ⊢
    rw [s2 1 (by decide), s2 2 (by decide), s2 3 (by decide), s2 6 (by decide), updM_g (show (23 : Nat) ≠ 16 by decide), updM_g (show (25 : Nat) ≠ 16 by decide)] at q2
    exact q2
  refine ⟨⟨m1 23 0 people, m1 25 0 people, by omega, F, by rw [q1 16 (by decide), updM_same], q4, fun r r1 r2 => ⟨q3 r r1 (by omega), fun r3 => ?_⟩⟩, fun g hg => by rw [q1 g (by omega)]; exact s2 g hg⟩
  have ho := h.1 r r1 r2
  rcases TK_ok _ _ _ _ q4 r (by omega) r2 with t | ⟨t1, t2⟩
  · omega
  · refine ⟨?_, t2⟩
    rw [q1 19 (by decide), updM_g (by decide)]
    exact ((ho.2.2 _ t1).2 (((ho.2.2 _ t1).1).mp t2)).2
