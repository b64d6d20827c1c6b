/-! the split's arrays -/
def SF (M m : Mem) : Prop := ∀ g : Nat, (g < 16 ∨ 26 < g) → m g = M g
theorem SF.rf {M : Mem} : SF M M := fun _ _ => rfl
theorem SF.tr {M m m2 : Mem} (h : SF M m) (h2 : SF m m2) : SF M m2 := fun g hg => (h2 g hg).trans (h g hg)
theorem SF.hw {M m : Mem} (h : SF M m) (hw : HW M) : HW m := HW_g hw (h 1 (by decide)) (h 2 (by decide)) (h 3 (by decide)) (h 4 (by decide))
abbrev okM (M : Mem) : Int → Int → Prop := okH (M 2 0) (M 6) (M 3 0)
noncomputable abbrev VM (M : Mem) : Int → Int → Int := VH (M 2 0) (M 6) (M 3 0)
noncomputable abbrev bM (M : Mem) (s r : Int) : Int := bFst (M 2 0) (M 6) (M 3 0) s r
abbrev cM (M : Mem) (r b p v : Int) : Prop := canI (M 1 0 4) (okM M) (VM M) r b p v
def rowOK (M m : Mem) (r : Int) : Prop := 0 ≤ m 17 0 r ∧ m 17 0 r ≤ 20 ∧ ∀ s : Int, 2 ≤ s → (okM M r s ↔ s ≤ m 17 0 r) ∧ (s ≤ m 17 0 r → m 21 r s = VM M r s ∧ m 19 r s = bM M s r)
def FGat (M m : Mem) (r p : Int) : Prop := isFG (fun b v => cM M r b p v) (m 23 r p) (m 25 r p)
theorem rowOK_sf {M m x : Mem} {r : Int} (h : SF M m) : rowOK m x r ↔ rowOK M x r := by
  unfold rowOK okM VM bM
  rw [h 2 (by decide), h 3 (by decide), h 6 (by decide)]
theorem FGat_sf {M m x : Mem} {r p : Int} (h : SF M m) : FGat m x r p ↔ FGat M x r p := by
  unfold FGat cM okM VM
  rw [h 1 (by decide), h 2 (by decide), h 3 (by decide), h 6 (by decide)]
theorem exBestN {c : Int → Prop} {v : Int → Int} : ∀ k : Nat, ∃ z, isBest (fun g => g < (k : Int) ∧ c g) v z
  | 0 => ⟨-1, isBest_none⟩
  | k + 1 => by
    obtain ⟨z, h⟩ := exBestN (c := c) (v := v) k
    have e : ((k + 1 : Nat) : Int) = (k : Int) + 1 := by omega
    rw [e]
    by_cases hc : c (k : Int)
    · by_cases hz : z = -1
      · exact ⟨k, isBest_take h (by omega) hc (Or.inl hz)⟩
      · by_cases hv : v (k : Int) ≤ v z
        · exact ⟨z, isBest_keep h hz hv⟩
        · exact ⟨k, isBest_take h (by omega) hc (Or.inr (by omega))⟩
    · exact ⟨z, isBest_skip h hc⟩
theorem exBest {c : Int → Prop} {v : Int → Int} (B : Int) (h : ∀ f, c f → f < B) : ∃ z, isBest c v z := by
  obtain ⟨z, hz⟩ := exBestN (c := c) (v := v) B.toNat
  exact ⟨z, isBest_all hz (fun g hg => by have := h g hg; omega)⟩
theorem bFst_sp (w : Int → Int) (o : Int → Int → Int) (sc : Int → Int) (s r : Int) : isBest (cB w o s True r) (vBR sc w s r) (bFst w o sc s r) :=
  Classical.epsilon_spec (exBest (w r + 1 - s) (fun f hf => by have := hf.1; omega))
theorem VM_bd {M : Mem} (hw : HW M) : ∀ r s : Int, 0 ≤ r → r < M 1 0 4 → 2 ≤ s → okM M r s → -400 ≤ VM M r s ∧ VM M r s ≤ 20000 := fun r s h0 h1 h2 h3 => by
  have h := bFst_sp (M 2 0) (M 6) (M 3 0) s r
  rcases h with ⟨e, _⟩ | ⟨q0, q1, _⟩
  · have : 0 ≤ bFst (M 2 0) (M 6) (M 3 0) s r := h3
    omega
  · have w := hw.2.2 r h0 h1
    exact vB_bd (by omega) (by omega) (by omega) q0 (by omega) q1.1
theorem FG_bd {M m : Mem} (hw : HW M) {r p : Int} (h0 : 0 ≤ r) (h1 : r ≤ M 1 0 4) (h : FGat M m r p) : (m 23 r p = 13 ∨ (0 ≤ m 23 r p ∧ m 23 r p ≤ M 1 0 4 - r ∧ 2 * m 23 r p ≤ p ∧ -4800 ≤ m 25 r p ∧ m 25 r p ≤ 240000)) := by
  rcases h with ⟨a, _⟩ | ⟨_, _, c, _⟩
  · exact Or.inl a
  · exact Or.inr (canI_bd (VM_bd hw) h0 h1 hw.2.1 c)
/-- a row's blocks below k seats are read -/
def RB (M m : Mem) (row L k : Int) : Prop := (∀ g : Nat, g ≠ 17 → g ≠ 19 → g ≠ 21 → m g = M g) ∧ m 17 0 row = L ∧ (∀ j : Int, j ≠ row → m 17 0 j = M 17 0 j) ∧ (∀ i : Int, i ≠ row → m 19 i = M 19 i ∧ m 21 i = M 21 i) ∧ ∀ s : Int, 2 ≤ s → s < k → m 19 row s = bM M s row ∧ m 21 row s = VM M row s
theorem RB_0 {M : Mem} {row L : Int} : RB M (updM M 17 0 row L) row L 2 := by
  refine ⟨fun g h1 h2 h3 => updM_g h1, updM_same, fun j hj => updM_j hj, fun i hi => ⟨by rw [updM_g (by decide)], by rw [updM_g (by decide)]⟩, fun s h1 h2 => by omega⟩
theorem RB_s {M m : Mem} {row L k z v : Int} (h : RB M m row L k) (hz : z = bM M k row) (hv : v = VM M row k) : RB M (updM (updM m 19 row k z) 21 row k v) row L (k + 1) := by
  obtain ⟨a1, a2, a3, a4, a5⟩ := h
  refine ⟨fun g h1 h2 h3 => by rw [updM_g h3, updM_g h2, a1 g h1 h2 h3], by rw [updM_g (by decide), updM_g (by decide)]; exact a2, fun j hj => by rw [updM_g (by decide), updM_g (by decide)]; exact a3 j hj, fun i hi => ⟨?_, ?_⟩, fun s h1 h2 => ?_⟩
  · rw [updM_g (by decide), updM_i hi]; exact (a4 i hi).1
  · rw [updM_i hi, updM_g (by decide)]; exact (a4 i hi).2
  · by_cases e : s = k
    · subst e
      exact ⟨by rw [updM_g (by decide), updM_same, hz], by rw [updM_same, hv]⟩
    · have := a5 s h1 (by omega)
      exact ⟨by rw [updM_g (by decide), updM_j e]; exact this.1, by rw [updM_j e, updM_g (by decide)]; exact this.2⟩
theorem RB_row {M m : Mem} {row L k : Int} (hw : HW M) (hr : 0 ≤ row ∧ row < M 1 0 4) (hL : isLong (M 6 row) (M 2 0 row) L) (h : RB M m row L k) (hk : L < k) : rowOK M m row := by
  have hb := isLong_bd hL
  have w := hw.2.2 row hr.1 hr.2
  refine ⟨by rw [h.2.1]; omega, by rw [h.2.1]; omega, fun s hs => ⟨?_, fun q => ?_⟩⟩
  · rw [h.2.1]
    exact long_ok (by omega) hL (bFst_sp _ _ _ _ _)
  · rw [h.2.1] at q
    have := h.2.2.2.2 s hs (by omega)
    exact ⟨this.2, this.1⟩
theorem rowOK_cg {M m m2 : Mem} {r : Int} (h1 : m2 17 0 r = m 17 0 r) (h2 : m2 19 r = m 19 r) (h3 : m2 21 r = m 21 r) (h : rowOK M m r) : rowOK M m2 r := by
  unfold rowOK
  rw [h1, h2, h3]
  exact h
theorem FGat_cg {M m m2 : Mem} {r p : Int} (h1 : m2 23 r p = m 23 r p) (h2 : m2 25 r p = m 25 r p) (h : FGat M m r p) : FGat M m2 r p := by
  unfold FGat
  rw [h1, h2]
  exact h
/-- the arrays behind the last row -/
def sbM (M : Mem) (n k : Int) : Mem := fun g i j => if g = 23 ∧ i = n ∧ 0 ≤ j ∧ j < k then (if j = 0 then 0 else 13) else if g = 25 ∧ i = n ∧ 0 ≤ j ∧ j < k then 0 else M g i j
theorem sbM_0 (M : Mem) (n : Int) : sbM M n 0 = M := by
  funext g i j
  unfold sbM
  rw [if_neg (by omega), if_neg (by omega)]
theorem sbM_s {M : Mem} {n k v : Int} (hk : 0 ≤ k) (hv : v = if k = 0 then 0 else 13) : updM (updM (sbM M n k) 23 n k v) 25 n k 0 = sbM M n (k + 1) := by
  subst hv
  funext g i j
  unfold updM sbM
  by_cases e1 : g = 25 ∧ i = n ∧ j = k
  · obtain ⟨rfl, rfl, rfl⟩ := e1
    rw [if_pos ⟨rfl, rfl, rfl⟩, if_neg (by omega), if_pos (by omega)]
  · rw [if_neg e1]
    by_cases e2 : g = 23 ∧ i = n ∧ j = k
    · obtain ⟨rfl, rfl, rfl⟩ := e2
      rw [if_pos ⟨rfl, rfl, rfl⟩, if_pos (show (23 : Nat) = 23 ∧ i = i ∧ 0 ≤ j ∧ j < j + 1 from ⟨rfl, rfl, hk, by omega⟩)]
    · rw [if_neg e2]
      by_cases e3 : g = 23 ∧ i = n ∧ 0 ≤ j ∧ j < k
      · rw [if_pos e3, if_pos (show g = 23 ∧ i = n ∧ 0 ≤ j ∧ j < k + 1 from ⟨e3.1, e3.2.1, e3.2.2.1, by omega⟩)]
      · rw [if_neg e3, if_neg (show ¬ (g = 23 ∧ i = n ∧ 0 ≤ j ∧ j < k + 1) by omega)]
        by_cases e4 : g = 25 ∧ i = n ∧ 0 ≤ j ∧ j < k
        · rw [if_pos e4, if_pos (by omega)]
        · rw [if_neg e4, if_neg (by omega)]
theorem sbM_g {M : Mem} {n k : Int} {g : Nat} (h1 : g ≠ 23) (h2 : g ≠ 25) : sbM M n k g = M g := by
  funext i j
  simp [sbM, h1, h2]
theorem sbM_fg {M : Mem} {k p : Int} (h0 : 0 ≤ p) (h1 : p < k) : FGat M (sbM M (M 1 0 4) k) (M 1 0 4) p := by
  unfold FGat cM
  have e : ∀ b v, canI (M 1 0 4) (okM M) (VM M) (M 1 0 4) b p v ↔ b = 0 ∧ p = 0 ∧ v = 0 := fun b v => canI_n
  by_cases hp : p = 0
  · subst hp
    have a : sbM M (M 1 0 4) k 23 (M 1 0 4) 0 = 0 := by unfold sbM; rw [if_pos (by omega)]; rfl
    have b : sbM M (M 1 0 4) k 25 (M 1 0 4) 0 = 0 := by unfold sbM; rw [if_neg (by omega), if_pos (by omega)]
    rw [a, b]
    exact Or.inr ⟨by omega, by omega, (e 0 0).mpr ⟨rfl, rfl, rfl⟩, fun x y h => by have := (e x y).mp h; omega⟩
  · have a : sbM M (M 1 0 4) k 23 (M 1 0 4) p = 13 := by unfold sbM; rw [if_pos (by omega), if_neg hp]
    rw [a]
    exact Or.inl ⟨rfl, fun x y h => hp ((e x y).mp h).2.1⟩
/-- no block keeps the best: the rows behind have it -/
theorem FG_skip {M m : Mem} (hw : HW M) {r p : Int} (h0 : 0 ≤ r) (h1 : r < M 1 0 4) (h : FGat M m r p) (h2 : FGat M m (r + 1) p) (hf : m 23 r p ≠ 13) (hn : ∀ s : Int, 2 ≤ s → ¬ works (M 1 0 4) (okM M) (VM M) r p (m 23 r p) (m 25 r p) s) : m 23 (r + 1) p = m 23 r p ∧ m 25 (r + 1) p = m 25 r p := by
  have h3 : isFG (fun b v => cM M (r + 1) b p v) (m 23 r p) (m 25 r p) := by
    rcases h with ⟨a, _⟩ | ⟨a, b, c, d⟩
    · exact absurd a hf
    · refine Or.inr ⟨a, b, ?_, fun x y q => d x y ((canI_s h1).mpr (Or.inl q))⟩
      rcases (canI_s h1).mp c with c | ⟨s, s1, s2, s3⟩
      · exact c
      · exact absurd ⟨s2, s3⟩ (hn s s1)
  have := isFG_u (fun _ _ => Iff.rfl) h2 h3
  exact ⟨this.1, this.2 (by rw [this.1]; exact hf)⟩
abbrev wk (M m : Mem) (r p s : Int) : Prop := works (M 1 0 4) (okM M) (VM M) r p (m 23 r p) (m 25 r p) s
/-- the class's test of a block -/
theorem wk_iff {M m : Mem} {r p s : Int} (h1 : r < M 1 0 4) (h : FGat M m r p) (hf : m 23 r p ≠ 13) (h2 : FGat M m (r + 1) (p - s)) (ho : rowOK M m r) (hs : 2 ≤ s) (hl : s ≤ m 17 0 r) : wk M m r p s ↔ m 23 (r + 1) (p - s) + 1 = m 23 r p ∧ m 25 (r + 1) (p - s) + m 21 r s = m 25 r p := by
  have q := (ho.2.2 s hs).2 hl
  rw [q.1]
  exact works_iff h1 h hf h2 hs (((ho.2.2 s hs).1).mpr hl)
theorem wk_le {M m : Mem} (hw : HW M) {r p s : Int} (h0 : 0 ≤ r) (h1 : r < M 1 0 4) (ho : rowOK M m r) (hs : 2 ≤ s) (h : wk M m r p s) : s ≤ m 17 0 r ∧ s ≤ p := by
  refine ⟨((ho.2.2 s hs).1).mp h.1, ?_⟩
  have := canI_bd (VM_bd hw) (by omega) (by omega) hw.2.1 h.2
  omega
/-- all that find lays from a row on -/
def SPr (M m : Mem) (people r0 : Int) : Prop := (∀ r : Int, r0 ≤ r → r < M 1 0 4 → rowOK M m r) ∧ ∀ r p : Int, r0 ≤ r → r ≤ M 1 0 4 → 0 ≤ p → p ≤ people → FGat M m r p
abbrev TKM (M : Mem) (r p f g : Int) (tk : Int → Int) : Prop := TKI (M 1 0 4) (okM M) (VM M) r p f g tk
/-- the group is split, as the memory m says -/
def FOUND (M m : Mem) (people : Int) : Prop := ∃ f g : Int, f ≠ 13 ∧ isFG (fun b v => cM M 0 b people v) f g ∧ m 16 0 7 = f ∧ TKM M 0 people f g (m 26 0) ∧ ∀ r : Int, 0 ≤ r → r < M 1 0 4 → (0 ≤ m 26 0 r ∧ m 26 0 r ≤ 20) ∧ (2 ≤ m 26 0 r → m 19 r (m 26 0 r) = bM M (m 26 0 r) r ∧ okM M r (m 26 0 r))
/-- a row takes its seats -/
theorem TKstep {M m1 : Mem} (hw : HW M) {row lef people s : Int} (h0 : 0 ≤ row) (h1 : row < M 1 0 4) (hsp : SPr M M people 0) (l0 : 0 ≤ lef) (l1 : lef ≤ people) (h : M 23 row lef ≠ 13 ∧ ∀ tk : Int → Int, (∀ r : Int, 0 ≤ r → r < row → tk r = m1 26 0 r) → TKM M row lef (M 23 row lef) (M 25 row lef) tk → TKM M 0 people (M 23 0 people) (M 25 0 people) tk)
    (hs : (s = 0 ∧ ∀ x : Int, 2 ≤ x → ¬ wk M M row lef x) ∨ (2 ≤ s ∧ s ≤ M 17 0 row ∧ s ≤ lef ∧ wk M M row lef s ∧ ∀ x : Int, 2 ≤ x → wk M M row lef x → x ≤ s)) :
    M 23 (row + 1) (lef - s) ≠ 13 ∧ ∀ tk : Int → Int, (∀ r : Int, 0 ≤ r → r < row + 1 → tk r = updM m1 26 0 row s 26 0 r) → TKM M (row + 1) (lef - s) (M 23 (row + 1) (lef - s)) (M 25 (row + 1) (lef - s)) tk → TKM M 0 people (M 23 0 people) (M 25 0 people) tk := by
  obtain ⟨hf, hk⟩ := h
  have F := hsp.2 row lef h0 (by omega) l0 l1
  have prep : ∀ tk : Int → Int, (∀ r : Int, 0 ≤ r → r < row + 1 → tk r = updM m1 26 0 row s 26 0 r) → tk row = s ∧ ∀ r : Int, 0 ≤ r → r < row → tk r = m1 26 0 r := fun tk h => ⟨by rw [h row h0 (by omega), updM_same], fun r r0 r1 => by rw [h r r0 (by omega), updM_j (by omega)]⟩
  rcases hs with ⟨rfl, hn⟩ | ⟨s2, sL, sl, hw2, hm⟩
  · rw [show lef - 0 = lef by omega]
    have F2 := hsp.2 (row + 1) lef (by omega) (by omega) l0 l1
    obtain ⟨e1, e2⟩ := FG_skip hw h0 h1 F F2 hf hn
    rw [e1, e2]
    refine ⟨hf, fun tk ht htk => ?_⟩
    obtain ⟨p1, p2⟩ := prep tk ht
    exact hk tk p2 ((TKI_s h1).mpr (Or.inl ⟨⟨p1, hn⟩, htk⟩))
  · have F2 := hsp.2 (row + 1) (lef - s) (by omega) (by omega) (by omega) (by omega)
    have ho := hsp.1 row (by omega) h1
    obtain ⟨e1, e2⟩ := (wk_iff h1 F hf F2 ho s2 sL).mp hw2
    have hv := ((ho.2.2 s s2).2 sL).1
    have q := FG_bd hw h0 (by omega) F
    have n2 := hw.2.1
    refine ⟨by omega, fun tk ht htk => ?_⟩
    obtain ⟨p1, p2⟩ := prep tk ht
    refine hk tk p2 ((TKI_s h1).mpr (Or.inr ⟨by rw [p1]; exact ⟨s2, hw2, hm⟩, ?_⟩))
    rw [p1, show M 23 row lef - 1 = M 23 (row + 1) (lef - s) by omega, show M 25 row lef - VM M row s = M 25 (row + 1) (lef - s) by rw [← hv]; omega]
    exact htk
def mostR (M : Mem) (row lef z : Int) : Prop := (z = 0 ∧ ∀ s : Int, 2 ≤ s → ¬ wk M M row lef s) ∨ (2 ≤ z ∧ z ≤ M 17 0 row ∧ z ≤ lef ∧ wk M M row lef z ∧ ∀ s : Int, 2 ≤ s → wk M M row lef s → s ≤ z)
theorem mostR_cg {M m : Mem} {row lef z : Int} (h : ∀ g : Nat, g ≠ 26 → m g = M g) (q : mostR m row lef z) : mostR M row lef z := by
  unfold mostR wk okM VM at q ⊢
  rw [h 1 (by decide), h 2 (by decide), h 3 (by decide), h 6 (by decide), h 17 (by decide), h 23 (by decide), h 25 (by decide)] at q
  exact q
