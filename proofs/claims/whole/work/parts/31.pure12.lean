/-! the reference's split -/
def rZm (A : Int → Mem → Prop) : OutT → Mem → Prop := fun o m => ∃ z, o = .inl (some z) ∧ A z m
section AWH
variable {K : WPar} {l : Launch} {μ : MInfo} {Z : ZT} {pc : Nat} {L : List (Option Value)} {st : List Value} {M : Mem} {cells slots : Nat}
theorem aw_cVw {ν : MInfo} {n g ci x N idx : Nat} {T : u_T} {fs : List (Option Nat)} {As rest : List Value} {A : Int → Mem → Prop} (hCT : CT K l ν (rV K g 0 :: As) M (rZm A)) (hcal : CALV ν n) (hd : decode μ.2.1 pc = .ok (.invokevirtual idx, 3)) (hli : Cond.methodLink μ.1.cls idx ν.1 ∈ AL) (hk : gk g = (0, ci, x, fs)) (hc : vwCl[ci]? = some (ν.1.cls, T, N)) (hcnt : gcnt g = 1) (hn : As.length = n) (hst : st = As.reverse ++ rV K g 0 :: rest) (hre : (rest.map fun v => v.category).sum ≤ 8) (hR : (mRm ν).frames + 1 ≤ (mRm μ).frames ∧ 8 + (ν.2.2.1 + 11) + (mRm ν).locals ≤ (mRm μ).locals) (h0 : (mRm ν).cells = 0) (h1 : (mRm ν).slots = 0) (hf : cells ≤ (mRm μ).cells ∧ slots ≤ (mRm μ).slots)
    (kk : ∀ z m, A z m → AW K l μ Z (pc + 3) L (iV z :: rest) m cells slots) : AW K l μ Z pc L st M cells slots := by
  refine aw_callV hCT hcal hd hli hk hc hcnt hn hst hre hR (by rw [h0, h1]; exact hf) (fun r M2 h => ?_) (fun E M2 h => ?_)
  · obtain ⟨z, e1, e2⟩ := h
    cases e1
    rw [h0, h1]
    exact kk z M2 e2
  · obtain ⟨z, e1, e2⟩ := h
    cases e1
end AWH
abbrev okd (M : Mem) : Int → Int → Prop := okH (M 31 0) (oMd M) (M 32 0)
noncomputable abbrev Vd (M : Mem) : Int → Int → Int := VH (M 31 0) (oMd M) (M 32 0)
abbrev cD (M : Mem) (r b p v : Int) : Prop := canI (M 30 0 3) (okd M) (Vd M) r b p v
abbrev idx (r b p : Int) : Int := (13 * r + b) * 101 + p
abbrev sp (m : Mem) (r b p : Int) : Int := m 40 0 (idx r b p)
/-- the greatest of some values; -1000000 if there is none -/
def isG (S : Int → Prop) (x : Int) : Prop := (x = -1000000 ∧ ∀ v : Int, ¬ S v) ∨ (S x ∧ ∀ v : Int, S v → v ≤ x)
theorem isG_iff {S S' : Int → Prop} {x : Int} (h : isG S x) (hS : ∀ v, S v ↔ S' v) : isG S' x := by
  rcases h with ⟨a, b⟩ | ⟨a, b⟩
  · exact Or.inl ⟨a, fun v q => b v ((hS v).mpr q)⟩
  · exact Or.inr ⟨(hS _).mp a, fun v q => b v ((hS v).mpr q)⟩
theorem Vd_bd {M : Mem} (hw : HWm M) : ∀ r s : Int, 0 ≤ r → r < M 30 0 3 → 2 ≤ s → okd M r s → -400 ≤ Vd M r s ∧ Vd M r s ≤ 20000 := fun r s h0 h1 h2 h3 => by
  have h := bFst_sp (M 31 0) (oMd M) (M 32 0) s r
  rcases h with ⟨e, _⟩ | ⟨q0, q1, _⟩
  · have : 0 ≤ bFst (M 31 0) (oMd M) (M 32 0) s r := h3
    omega
  · have w := hw.2.2 r h0 h1
    exact vB_bd (by omega) (by omega) (by omega) q0 (by omega) q1.1
theorem okd_le {M : Mem} {r s : Int} (h : okd M r s) : s ≤ M 31 0 r := by
  rcases bFst_sp (M 31 0) (oMd M) (M 32 0) s r with ⟨e, _⟩ | ⟨q0, q1, _⟩
  · have : 0 ≤ bFst (M 31 0) (oMd M) (M 32 0) s r := h
    omega
  · have := q1.1
    omega
abbrev rwS (M : Mem) (r p s b v : Int) : Prop := rowS (M 30 0 3) (okd M) (Vd M) r p s b v
/-- all of a row's places are right as to the rows behind and blocks below s -/
def GA (M m : Mem) (r s : Int) : Prop := ∀ b p : Int, 0 ≤ b → b ≤ 12 → 0 ≤ p → p ≤ 100 → isG (fun v => rwS M r p s b v) (sp m r b p)
def GF (M m : Mem) (r : Int) : Prop := ∀ b p : Int, 0 ≤ b → b ≤ 12 → 0 ≤ p → p ≤ 100 → isG (fun v => cD M r b p v) (sp m r b p)
theorem gS_same {M : Mem} {r p s b x : Int} (hn : ∀ v : Int, ¬ (okd M r s ∧ cD M (r + 1) (b - 1) (p - s) (v - Vd M r s))) (h : isG (fun v => rwS M r p s b v) x) : isG (fun v => rwS M r p (s + 1) b v) x :=
  isG_iff h (fun v => ⟨fun q => q.elim Or.inl (fun ⟨y, h1, h2, h3, h4⟩ => Or.inr ⟨y, h1, by omega, h3, h4⟩), fun q => q.elim Or.inl (fun ⟨y, h1, h2, h3, h4⟩ => by
    by_cases e : y = s
    · subst e; exact absurd ⟨h3, h4⟩ (hn v)
    · exact Or.inr ⟨y, h1, by omega, h3, h4⟩)⟩)
theorem gS_step {M : Mem} (hw : HWm M) {r p s b x rest : Int} (h0 : 0 ≤ r) (h1 : r < M 30 0 3) (hs : 2 ≤ s) (hok : okd M r s) (h : isG (fun v => rwS M r p s b v) x) (h2 : isG (fun v => cD M (r + 1) (b - 1) (p - s) v) rest) (hr : rest ≠ -1000000) : isG (fun v => rwS M r p (s + 1) b v) (if x < rest + Vd M r s then rest + Vd M r s else x) := by
  rcases h2 with ⟨q, _⟩ | ⟨c1, c2⟩
  · exact absurd q hr
  have hb := canI_bd (Vd_bd hw) (by omega) (by omega) hw.2.1 c1
  have hv := Vd_bd hw r s h0 h1 hs hok
  have nw : rwS M r p (s + 1) b (rest + Vd M r s) := Or.inr ⟨s, hs, by omega, hok, by rw [show rest + Vd M r s - Vd M r s = rest by omega]; exact c1⟩
  have up : ∀ v, rwS M r p s b v → rwS M r p (s + 1) b v := fun v q => q.elim Or.inl (fun ⟨y, h1, h2, h3, h4⟩ => Or.inr ⟨y, h1, by omega, h3, h4⟩)
  have dn : ∀ v, rwS M r p (s + 1) b v → rwS M r p s b v ∨ v ≤ rest + Vd M r s := fun v q => by
    rcases q with q | ⟨y, h1, h2, h3, h4⟩
    · exact Or.inl (Or.inl q)
    · by_cases e : y = s
      · subst e
        have := c2 _ h4
        exact Or.inr (by omega)
      · exact Or.inl (Or.inr ⟨y, h1, by omega, h3, h4⟩)
  by_cases e : x < rest + Vd M r s
  · rw [if_pos e]
    refine Or.inr ⟨nw, fun v q => ?_⟩
    rcases dn v q with q | q
    · rcases h with ⟨_, a⟩ | ⟨_, a⟩
      · exact absurd q (a v)
      · have := a v q; omega
    · exact q
  · rw [if_neg e]
    rcases h with ⟨a, _⟩ | ⟨a, a2⟩
    · omega
    · refine Or.inr ⟨up _ a, fun v q => ?_⟩
      rcases dn v q with q | q
      · exact a2 v q
      · omega
/-- .. as far as the blocks below B are through, of B the people below P -/
def GP (M m : Mem) (r s B P : Int) : Prop := ∀ b p : Int, 0 ≤ b → b ≤ 12 → 0 ≤ p → p ≤ 100 → ((b < B ∨ (b = B ∧ p < P)) → isG (fun v => rwS M r p (s + 1) b v) (sp m r b p)) ∧ (¬ (b < B ∨ (b = B ∧ p < P)) → isG (fun v => rwS M r p s b v) (sp m r b p))
theorem GP_0 {M m : Mem} (hw : HWm M) {r s : Int} (h0 : 0 ≤ r) (h1 : r < M 30 0 3) (h : GA M m r s) : GP M m r s 1 0 := fun b p b0 b1 p0 p1 => ⟨fun q => gS_same (fun v x => by
  have := canI_bd (Vd_bd hw) (by omega) (by omega) hw.2.1 x.2
  omega) (h b p b0 b1 p0 p1), fun _ => h b p b0 b1 p0 p1⟩
/-- people fewer than the block's seats: nothing comes -/
theorem GP_lo {M m : Mem} (hw : HWm M) {r s B : Int} (h0 : 0 ≤ r) (h1 : r < M 30 0 3) (h : GP M m r s B 0) : GP M m r s B s := fun b p b0 b1 p0 p1 => ⟨fun q => by
  by_cases e : b < B ∨ (b = B ∧ p < 0)
  · exact (h b p b0 b1 p0 p1).1 e
  · exact gS_same (fun v x => by
      have := canI_bd (Vd_bd hw) (by omega) (by omega) hw.2.1 x.2
      omega) ((h b p b0 b1 p0 p1).2 e), fun q => (h b p b0 b1 p0 p1).2 (by omega)⟩
theorem GP_up {M m : Mem} {r s B : Int} (h : GP M m r s B 101) : GP M m r s (B + 1) 0 := fun b p b0 b1 p0 p1 => ⟨fun q => (h b p b0 b1 p0 p1).1 (by omega), fun q => (h b p b0 b1 p0 p1).2 (by omega)⟩
theorem GP_all {M m : Mem} (hw : HWm M) {r s B : Int} (h0 : 0 ≤ r) (h1 : r < M 30 0 3) (hB : M 30 0 3 - r < B) (h : GP M m r s B 0) : GA M m r (s + 1) := fun b p b0 b1 p0 p1 => by
  by_cases e : b < B ∨ (b = B ∧ p < 0)
  · exact (h b p b0 b1 p0 p1).1 e
  · exact gS_same (fun v x => by
      have := canI_bd (Vd_bd hw) (by omega) (by omega) hw.2.1 x.2
      omega) ((h b p b0 b1 p0 p1).2 e)
theorem GP_no {M m : Mem} {r s B : Int} (hn : ¬ okd M r s) (h : GP M m r s B 0) : GA M m r (s + 1) := fun b p b0 b1 p0 p1 => by
  by_cases e : b < B ∨ (b = B ∧ p < 0)
  · exact (h b p b0 b1 p0 p1).1 e
  · exact gS_same (fun v x => hn x.1) ((h b p b0 b1 p0 p1).2 e)
theorem GP_s {M m m2 : Mem} (hw : HWm M) {r s B P x : Int} (h0 : 0 ≤ r) (h1 : r < M 30 0 3) (hB : 1 ≤ B ∧ B ≤ 12) (hP : s ≤ P ∧ P ≤ 100) (hs : 2 ≤ s) (hok : okd M r s) (hF : GF M m (r + 1)) (h : GP M m r s B P)
    (hx : x = (if sp m (r + 1) (B - 1) (P - s) = -1000000 then sp m r B P else if sp m r B P < sp m (r + 1) (B - 1) (P - s) + Vd M r s then sp m (r + 1) (B - 1) (P - s) + Vd M r s else sp m r B P))
    (hm : ∀ b p : Int, 0 ≤ b → b ≤ 12 → 0 ≤ p → p ≤ 100 → sp m2 r b p = if b = B ∧ p = P then x else sp m r b p) : GP M m2 r s B (P + 1) := fun b p b0 b1 p0 p1 => by
  rw [hm b p b0 b1 p0 p1]
  by_cases e : b = B ∧ p = P
  · obtain ⟨rfl, rfl⟩ := e
    rw [if_pos ⟨rfl, rfl⟩]
    refine ⟨fun _ => ?_, fun q => absurd (Or.inr ⟨rfl, by omega⟩) q⟩
    have old := (h b p b0 b1 p0 p1).2 (by omega)
    have rst := hF (b - 1) (p - s) (by omega) (by omega) (by omega) (by omega)
    subst hx
    by_cases e2 : sp m (r + 1) (b - 1) (p - s) = -1000000
    · rw [if_pos e2]
      refine gS_same (fun v y => ?_) old
      rcases rst with ⟨_, q⟩ | ⟨q, _⟩
      · exact q _ y.2
      · have := canI_bd (Vd_bd hw) (by omega) (by omega) hw.2.1 q
        omega
    · rw [if_neg e2]
      exact gS_step hw h0 h1 hs hok old rst e2
  · rw [if_neg e]
    exact ⟨fun q => (h b p b0 b1 p0 p1).1 (by omega), fun q => (h b p b0 b1 p0 p1).2 (by omega)⟩
/-- the places of a row are written, the others stay -/
def rowFr (M m : Mem) (r : Int) : Prop := (∀ g : Nat, g ≠ 40 → m g = M g) ∧ ∀ q b p : Int, q ≠ r → 0 ≤ b → b ≤ 12 → 0 ≤ p → p ≤ 100 → sp m q b p = sp M q b p
theorem rowFr.rf {M : Mem} {r : Int} : rowFr M M r := ⟨fun _ _ => rfl, fun _ _ _ _ _ _ _ _ => rfl⟩
theorem rowFr_s {M m : Mem} {r b p v : Int} (h : rowFr M m r) (hb : 0 ≤ b ∧ b ≤ 12) (hp : 0 ≤ p ∧ p ≤ 100) : rowFr M (updM m 40 0 (idx r b p) v) r ∧ ∀ b' p' : Int, 0 ≤ b' → b' ≤ 12 → 0 ≤ p' → p' ≤ 100 → sp (updM m 40 0 (idx r b p) v) r b' p' = if b' = b ∧ p' = p then v else sp m r b' p' := by
  refine ⟨⟨fun g hg => by rw [updM_g hg]; exact h.1 g hg, fun q b' p' hq b0 b1 p0 p1 => ?_⟩, fun b' p' b0 b1 p0 p1 => ?_⟩
  · show updM m 40 0 (idx r b p) v 40 0 (idx q b' p') = _
    rw [updM_j (by unfold idx; omega)]
    exact h.2 q b' p' hq b0 b1 p0 p1
  · show updM m 40 0 (idx r b p) v 40 0 (idx r b' p') = _
    by_cases e : b' = b ∧ p' = p
    · rw [if_pos e, e.1, e.2, updM_same]
    · rw [if_neg e, updM_j (by unfold idx; omega)]
theorem GF_fr {M m m2 : Mem} {r q : Int} (hq : q ≠ r) (h : rowFr m m2 r) (hF : GF M m q) : GF M m2 q := fun b p b0 b1 p0 p1 => by
  rw [h.2 q b p hq b0 b1 p0 p1]
  exact hF b p b0 b1 p0 p1
/-- everything is -1000000 -/
def nvM (M : Mem) (k : Int) : Mem := fun g i j => if g = 40 ∧ i = 0 ∧ 0 ≤ j ∧ j < k then -1000000 else M g i j
theorem nvM_0 (M : Mem) : nvM M 0 = M := by
  funext g i j
  unfold nvM
  rw [if_neg (by omega)]
theorem nvM_s {M : Mem} {k : Int} (hk : 0 ≤ k) : updM (nvM M k) 40 0 k (-1000000) = nvM M (k + 1) := by
  funext g i j
  unfold updM nvM
  by_cases h1 : g = 40 ∧ i = 0 ∧ j = k
  · rw [if_pos h1, if_pos (by omega)]
  · rw [if_neg h1]
    by_cases h2 : g = 40 ∧ i = 0 ∧ 0 ≤ j ∧ j < k
    · rw [if_pos h2, if_pos (by omega)]
    · rw [if_neg h2, if_neg (by omega)]
theorem nvM_g {M : Mem} {k : Int} {g : Nat} (h : g ≠ 40) : nvM M k g = M g := by
  funext i j
  simp [nvM, h]
/-- what is laid when the rows from R on are through -/
def LAID (M m : Mem) (R : Int) : Prop := (∀ g : Nat, g ≠ 40 → m g = M g) ∧ (∀ r : Int, R ≤ r → r ≤ M 30 0 3 → GF M m r) ∧ ∀ r b p : Int, 0 ≤ r → r < R → 0 ≤ b → b ≤ 12 → 0 ≤ p → p ≤ 100 → sp m r b p = -1000000
theorem LAID_n {M : Mem} (hw : HWm M) : LAID M (updM (nvM M 17069) 40 0 (idx (M 30 0 3) 0 0) 0) (M 30 0 3 - 1 + 1) := by
  rw [show M 30 0 3 - 1 + 1 = M 30 0 3 by omega]
  have n0 := hw.1
  have n1 := hw.2.1
  refine ⟨fun g hg => by rw [updM_g hg, nvM_g hg], fun r r0 r1 b p b0 b1 p0 p1 => ?_, fun r b p r0 r1 b0 b1 p0 p1 => ?_⟩
  · have e : r = M 30 0 3 := by omega
    subst e
    have c : ∀ v, cD M (M 30 0 3) b p v ↔ b = 0 ∧ p = 0 ∧ v = 0 := fun v => canI_n
    by_cases q : b = 0 ∧ p = 0
    · obtain ⟨rfl, rfl⟩ := q
      show isG _ (updM (nvM M 17069) 40 0 (idx (M 30 0 3) 0 0) 0 40 0 (idx (M 30 0 3) 0 0))
      rw [updM_same]
      exact Or.inr ⟨(c 0).mpr ⟨rfl, rfl, rfl⟩, fun v h => by have := (c v).mp h; omega⟩
    · show isG _ (updM (nvM M 17069) 40 0 (idx (M 30 0 3) 0 0) 0 40 0 (idx (M 30 0 3) b p))
      rw [updM_j (by unfold idx; omega)]
      refine Or.inl ⟨?_, fun v h => q ⟨((c v).mp h).1, ((c v).mp h).2.1⟩⟩
      unfold nvM
      rw [if_pos (by refine ⟨rfl, rfl, ?_, ?_⟩ <;> (unfold idx; omega))]
  · show updM (nvM M 17069) 40 0 (idx (M 30 0 3) 0 0) 0 40 0 (idx r b p) = _
    rw [updM_j (by unfold idx; omega)]
    unfold nvM
    rw [if_pos (by refine ⟨rfl, rfl, ?_, ?_⟩ <;> (unfold idx; omega))]
/-- the row R is being copied: the blocks below B, of B the people below P -/
def CPD (M m : Mem) (R B P : Int) : Prop := (∀ g : Nat, g ≠ 40 → m g = M g) ∧ (∀ r : Int, R < r → r ≤ M 30 0 3 → GF M m r) ∧ (∀ r b p : Int, 0 ≤ r → r < R → 0 ≤ b → b ≤ 12 → 0 ≤ p → p ≤ 100 → sp m r b p = -1000000) ∧ ∀ b p : Int, 0 ≤ b → b ≤ 12 → 0 ≤ p → p ≤ 100 → sp m R b p = if b < B ∨ (b = B ∧ p < P) then sp m (R + 1) b p else -1000000
theorem CPD_0 {M m : Mem} {R : Int} (hR : 0 ≤ R) (h : LAID M m (R + 1)) : CPD M m R 0 0 := ⟨h.1, fun r r0 r1 => h.2.1 r (by omega) r1, fun r b p r0 r1 b0 b1 p0 p1 => h.2.2 r b p r0 (by omega) b0 b1 p0 p1, fun b p b0 b1 p0 p1 => by
  rw [if_neg (by omega)]
  exact h.2.2 R b p hR (by omega) b0 b1 p0 p1⟩
theorem CPD_s {M m : Mem} {R B P v : Int} (hB : 0 ≤ B ∧ B ≤ 12) (hP : 0 ≤ P ∧ P ≤ 100) (hv : v = sp m (R + 1) B P) (h : CPD M m R B P) : CPD M (updM m 40 0 (idx R B P) v) R B (P + 1) := by
  obtain ⟨a1, a2, a3, a4⟩ := h
  have F := rowFr_s (v := v) (rowFr.rf (M := m) (r := R)) hB hP
  refine ⟨fun g hg => (F.1.1 g hg).trans (a1 g hg), fun r r0 r1 => GF_fr (by omega) F.1 (a2 r r0 r1), fun r b p r0 r1 b0 b1 p0 p1 => (F.1.2 r b p (by omega) b0 b1 p0 p1).trans (a3 r b p r0 r1 b0 b1 p0 p1), fun b p b0 b1 p0 p1 => ?_⟩
  rw [F.2 b p b0 b1 p0 p1, F.1.2 (R + 1) b p (by omega) b0 b1 p0 p1]
  by_cases e : b = B ∧ p = P
  · rw [if_pos e, if_pos (by omega), e.1, e.2]; exact hv
  · rw [if_neg e, a4 b p b0 b1 p0 p1]
    by_cases e2 : b < B ∨ (b = B ∧ p < P)
    · rw [if_pos e2, if_pos (by omega)]
    · rw [if_neg e2, if_neg (by omega)]
theorem CPD_up {M m : Mem} {R B : Int} (h : CPD M m R B 101) : CPD M m R (B + 1) 0 := ⟨h.1, h.2.1, h.2.2.1, fun b p b0 b1 p0 p1 => by
  rw [h.2.2.2 b p b0 b1 p0 p1]
  by_cases e2 : b < B ∨ (b = B ∧ p < 101)
  · rw [if_pos e2, if_pos (by omega)]
  · rw [if_neg e2, if_neg (by omega)]⟩
/-- the row R with blocks below s seats -/
def LRS (M m : Mem) (R s : Int) : Prop := (∀ g : Nat, g ≠ 40 → m g = M g) ∧ (∀ r : Int, R < r → r ≤ M 30 0 3 → GF M m r) ∧ (∀ r b p : Int, 0 ≤ r → r < R → 0 ≤ b → b ≤ 12 → 0 ≤ p → p ≤ 100 → sp m r b p = -1000000) ∧ GA M m R s
theorem LRS_0 {M m : Mem} (hw : HWm M) {R B : Int} (h0 : 0 ≤ R) (h1 : R < M 30 0 3) (hB : M 30 0 3 - R < B) (h : CPD M m R B 0) : LRS M m R 2 := by
  obtain ⟨a1, a2, a3, a4⟩ := h
  refine ⟨a1, a2, a3, fun b p b0 b1 p0 p1 => ?_⟩
  rw [a4 b p b0 b1 p0 p1]
  have F := a2 (R + 1) (by omega) (by omega) b p b0 b1 p0 p1
  have e : ∀ v, cD M (R + 1) b p v ↔ rwS M R p 2 b v := fun v => ⟨Or.inl, fun q => q.elim id (fun ⟨x, h1, h2, _⟩ => by omega)⟩
  by_cases e2 : b < B ∨ (b = B ∧ p < 0)
  · rw [if_pos e2]
    exact isG_iff F e
  · rw [if_neg e2]
    refine Or.inl ⟨rfl, fun v q => ?_⟩
    have := canI_bd (Vd_bd hw) (by omega) (by omega) hw.2.1 ((e v).mpr q)
    omega
theorem LRS_all {M m : Mem} (hw : HWm M) {R s : Int} (h0 : 0 ≤ R) (h1 : R < M 30 0 3) (hs : M 31 0 R < s) (h : LRS M m R s) : LAID M m (R + -1 + 1) := by
  rw [show R + -1 + 1 = R by omega]
  refine ⟨h.1, fun r r0 r1 => ?_, h.2.2.1⟩
  by_cases e : r = R
  · subst e
    intro b p b0 b1 p0 p1
    refine isG_iff (h.2.2.2 b p b0 b1 p0 p1) (fun v => ⟨fun q => (canI_s h1).mpr (q.elim Or.inl (fun ⟨x, x1, x2, x3, x4⟩ => Or.inr ⟨x, x1, x3, x4⟩)), fun q => ?_⟩)
    rcases (canI_s h1).mp q with q | ⟨x, x1, x3, x4⟩
    · exact Or.inl q
    · exact Or.inr ⟨x, x1, by have := okd_le x3; omega, x3, x4⟩
  · exact h.2.1 r (by omega) r1
def SFd (M m : Mem) : Prop := ∀ g : Nat, g ≠ 40 → g ≠ 41 → m g = M g
theorem cD_fr {M m : Mem} (h : ∀ g : Nat, g ≠ 40 → g ≠ 41 → m g = M g) : okd m = okd M ∧ Vd m = Vd M ∧ cD m = cD M ∧ m 30 0 3 = M 30 0 3 := by
  have e : oMd m = oMd M := by funext r s; unfold oMd; rw [h 34 (by decide) (by decide)]
  unfold cD okd Vd
  rw [e, h 30 (by decide) (by decide), h 31 (by decide) (by decide), h 32 (by decide) (by decide)]
  exact ⟨rfl, rfl, rfl, rfl⟩
theorem GF_m {M m x : Mem} {r : Int} (h : ∀ g : Nat, g ≠ 40 → g ≠ 41 → m g = M g) : GF m x r ↔ GF M x r := by
  unfold GF
  rw [(cD_fr h).2.2.1]
theorem GA_m {M m x : Mem} {r s : Int} (h : ∀ g : Nat, g ≠ 40 → g ≠ 41 → m g = M g) : GA m x r s ↔ GA M x r s := by
  unfold GA rwS
  rw [(cD_fr h).1, (cD_fr h).2.1, (cD_fr h).2.2.2]
