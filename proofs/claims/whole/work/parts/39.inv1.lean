/-! the class and the reference side by side -/
def vld (M : Mem) (a : Int) : Prop := a / 20 < M 1 0 4 ∧ a % 20 < M 2 0 (a / 20)
def I1 (M : Mem) : Prop := HW M ∧ M 30 0 3 = M 1 0 4 ∧ (∀ r : Int, 0 ≤ r → r < M 1 0 4 → M 31 0 r = M 2 0 r ∧ M 32 0 r = M 3 0 r ∧ M 33 0 r = M 4 0 r) ∧ ∀ r : Int, 0 ≤ r → r < 12 → 0 ≤ M 33 0 r ∧ M 33 0 r ≤ 10000
def TI (M : Mem) (t : Int) : Prop := (M 35 0 t = M 8 0 t ∧ M 36 0 t = M 10 0 t ∧ M 37 0 t = M 11 0 t ∧ M 38 0 t = M 12 0 t) ∧ (0 ≤ M 8 0 t ∧ M 8 0 t ≤ 3) ∧ 0 ≤ M 10 0 t ∧ (0 ≤ M 11 0 t ∧ M 11 0 t ≤ 2) ∧ (0 ≤ M 12 0 t ∧ M 12 0 t ≤ 2400000) ∧ (M 8 0 t ≤ 1 → M 39 0 t = M 15 0 t) ∧ (M 8 0 t ≠ 1 → M 15 0 t = -1)
def I2 (M : Mem) : Prop := BW M ∧ M 30 0 8 = M 7 0 8 ∧ (∀ t : Int, 1 ≤ t → t ≤ M 7 0 8 → TI M t) ∧ ∀ t : Int, M 7 0 8 < t → t ≤ 100 → M 37 0 t = 0 ∧ M 38 0 t = 0
def CI (M : Mem) (a : Int) : Prop := M 34 0 a = M 6 (a / 20) (a % 20) ∧ (¬ vld M a → M 34 0 a = 0) ∧ (M 34 0 a = 0 ∨ M 34 0 a = -1 ∨ (1 ≤ M 34 0 a ∧ M 34 0 a ≤ M 7 0 8 ∧ M 8 0 (M 34 0 a) ≤ 1))
def I3 (M : Mem) : Prop := ∀ a : Int, 0 ≤ a → a < 240 → CI M a
def blk (M : Mem) (t : Int) : Prop := (0 ≤ M 13 0 t ∧ M 13 0 t < M 1 0 4) ∧ (0 ≤ M 14 0 t ∧ 1 ≤ M 9 0 t ∧ M 14 0 t + M 9 0 t ≤ M 2 0 (M 13 0 t)) ∧ ∀ a : Int, 0 ≤ a → a < 240 → (M 34 0 a = t ↔ 20 * M 13 0 t + M 14 0 t ≤ a ∧ a < 20 * M 13 0 t + M 14 0 t + M 9 0 t)
def spl (M : Mem) (t : Int) : Prop := M 13 0 t = -1 ∧ manyM M t = M 9 0 t ∧ ∃ a b : Int, 0 ≤ a ∧ a < 240 ∧ 0 ≤ b ∧ b < 240 ∧ M 34 0 a = t ∧ M 34 0 b = t ∧ a / 20 ≠ b / 20
def WS (M : Mem) (t : Int) : Prop := M 15 0 t ≠ -1 → M 8 0 t = 1 ∧ M 13 0 t ≠ -1 ∧ 0 ≤ M 15 0 t ∧ M 15 0 t < M 1 0 4 ∧ M 15 0 t ≠ M 13 0 t
def I4 (M : Mem) : Prop := ∀ t : Int, 1 ≤ t → t ≤ M 7 0 8 → (M 8 0 t ≤ 1 → blk M t ∨ spl M t) ∧ WS M t
def I5 (M : Mem) (c : Int) : Prop := M 0 0 4 = M 30 0 1 ∧ (0 ≤ M 0 0 4 ∧ M 0 0 4 ≤ 1000 * c) ∧ M 0 0 5 = M 30 0 2 ∧ -(2400000 * c) ≤ M 0 0 5 ∧ M 0 0 5 ≤ 2400000 * c
def INV (M : Mem) (c : Int) : Prop := I1 M ∧ I2 M ∧ I3 M ∧ I4 M ∧ I5 M c
/-- what the invariant looks at -/
def SAME (M M' : Mem) : Prop := (∀ g : Nat, (g < 16 ∨ (31 ≤ g ∧ g ≤ 39)) → M' g = M g) ∧ M' 30 0 1 = M 30 0 1 ∧ M' 30 0 2 = M 30 0 2 ∧ M' 30 0 3 = M 30 0 3 ∧ M' 30 0 8 = M 30 0 8
theorem SAME.tr {M M1 M2 : Mem} (h : SAME M M1) (k : SAME M1 M2) : SAME M M2 :=
  ⟨fun g hg => (k.1 g hg).trans (h.1 g hg), k.2.1.trans h.2.1, k.2.2.1.trans h.2.2.1, k.2.2.2.1.trans h.2.2.2.1, k.2.2.2.2.trans h.2.2.2.2⟩
theorem SAME.rf {M : Mem} : SAME M M := ⟨fun _ _ => rfl, rfl, rfl, rfl, rfl⟩
theorem SAME_t {M : Mem} (k : Int) : SAME M (thr M k) := ⟨fun g hg => thr_g (by omega), thr_j (by decide), thr_j (by decide), thr_j (by decide), thr_j (by decide)⟩
theorem SAME_g {M M' : Mem} (h : ∀ g : Nat, g < 16 ∨ (30 ≤ g ∧ g ≤ 39) → M' g = M g) : SAME M M' := by
  have e := h 30 (by decide)
  exact ⟨fun g hg => h g (by omega), by rw [e], by rw [e], by rw [e], by rw [e]⟩
theorem SAME_u {M : Mem} {g : Nat} {i j v : Int} (h : 40 ≤ g ∨ (16 ≤ g ∧ g < 30)) : SAME M (updM M g i j v) := SAME_g (fun q hq => updM_g (by omega))
theorem INV_same {M M' : Mem} {c : Int} (s : SAME M M') (h : INV M c) : INV M' c := by
  obtain ⟨s1, s2, s3, s4, s5⟩ := s
  have e1 := s1 1 (by decide); have e2 := s1 2 (by decide); have e3 := s1 3 (by decide); have e4 := s1 4 (by decide)
  have e6 := s1 6 (by decide); have e7 := s1 7 (by decide); have e8 := s1 8 (by decide); have e9 := s1 9 (by decide)
  have e0 := s1 0 (by decide); have e10 := s1 10 (by decide); have e11 := s1 11 (by decide); have e12 := s1 12 (by decide)
  have e13 := s1 13 (by decide); have e14 := s1 14 (by decide); have e15 := s1 15 (by decide)
  have f1 := s1 31 (by decide); have f2 := s1 32 (by decide); have f3 := s1 33 (by decide); have f4 := s1 34 (by decide)
  have f5 := s1 35 (by decide); have f6 := s1 36 (by decide); have f7 := s1 37 (by decide); have f8 := s1 38 (by decide); have f9 := s1 39 (by decide)
  unfold INV I1 I2 I3 I4 I5 HW BW TI CI vld blk spl WS manyM at h ⊢
  rw [s2, s3, s4, s5, e0, e1, e2, e3, e4, e6, e7, e8, e9, e10, e11, e12, e13, e14, e15, f1, f2, f3, f4, f5, f6, f7, f8, f9]
  exact h
theorem INV_up {M : Mem} {c : Int} (h : INV M c) : INV M (c + 1) := by
  obtain ⟨h1, h2, h3, h4, a, b, d, e, f⟩ := h
  exact ⟨h1, h2, h3, h4, a, by omega, d, by omega, by omega⟩
/-- the invariant and what the class's own calls want -/
theorem INV.hw {M : Mem} {c : Int} (h : INV M c) : HW M := h.1.1
theorem INV.bw {M : Mem} {c : Int} (h : INV M c) : BW M := h.2.1.1
theorem INV.hwm {M : Mem} {c : Int} (h : INV M c) : HWm M := by
  obtain ⟨a, b, d, _⟩ := h.1
  refine ⟨by rw [b]; exact a.1, by rw [b]; exact a.2.1, fun r r0 r1 => ?_⟩
  rw [b] at r1
  obtain ⟨q1, q2, q3⟩ := d r r0 r1
  rw [q1, q2, q3]
  exact a.2.2 r r0 r1
theorem INV.bwm {M : Mem} {c : Int} (h : INV M c) : BWm M := by
  have := h.2.1.2.1
  unfold BWm
  rw [this]
  exact h.bw
theorem INV.row {M : Mem} {c : Int} (h : INV M c) : M 30 0 3 = M 1 0 4 ∧ ∀ r : Int, 0 ≤ r → r < M 1 0 4 → M 31 0 r = M 2 0 r ∧ M 32 0 r = M 3 0 r ∧ M 33 0 r = M 4 0 r := ⟨h.1.2.1, h.1.2.2.1⟩
theorem INV.own {M : Mem} {c : Int} (h : INV M c) {r s : Int} (r0 : 0 ≤ r) (r1 : r < M 1 0 4) (s0 : 0 ≤ s) (s1 : s < M 2 0 r) : oMd M r s = M 6 r s := by
  have w := h.hw.2.2 r r0 r1
  have n := h.hw.2.1
  have q := (h.2.2.1 (20 * r + s) (by omega) (by omega)).1
  rw [show (20 * r + s) / 20 = r by omega, show (20 * r + s) % 20 = s by omega] at q
  exact q
theorem INV.vo {M : Mem} {c : Int} (h : INV M c) : ∀ r s : Int, 0 ≤ r → r < M 1 0 4 → 0 ≤ s → s < M 2 0 r → M 6 r s = 0 ∨ M 6 r s = -1 ∨ (1 ≤ M 6 r s ∧ M 6 r s ≤ M 7 0 8) := fun r s r0 r1 s0 s1 => by
  have w := h.hw.2.2 r r0 r1
  have n := h.hw.2.1
  have q := (h.2.2.1 (20 * r + s) (by omega) (by omega)).2.2
  have e := h.own r0 r1 s0 s1
  unfold oMd at e
  rw [e] at q
  rcases q with q | q | q
  · exact Or.inl q
  · exact Or.inr (Or.inl q)
  · exact Or.inr (Or.inr ⟨q.1, q.2.1⟩)
theorem INV.vom {M : Mem} {c : Int} (h : INV M c) : ∀ r s : Int, 0 ≤ r → r < M 30 0 3 → 0 ≤ s → s < M 31 0 r → oMd M r s = 0 ∨ oMd M r s = -1 ∨ (1 ≤ oMd M r s ∧ oMd M r s ≤ M 30 0 8) := fun r s r0 r1 s0 s1 => by
  rw [h.row.1] at r1
  rw [(h.row.2 r r0 r1).1] at s1
  rw [h.own r0 r1 s0 s1, h.2.1.2.1]
  exact h.vo r s r0 r1 s0 s1
/-! what the two see is the same: by rows -/
theorem isBest_cg {c c' : Int → Prop} {v v' : Int → Int} {z : Int} (hc : ∀ f : Int, 0 ≤ f → (c f ↔ c' f)) (hv : ∀ f : Int, 0 ≤ f → c f → v f = v' f) (h : isBest c v z) : isBest c' v' z := by
  rcases h with ⟨a, b⟩ | ⟨a, b, d⟩
  · exact Or.inl ⟨a, fun f f0 q => b f f0 ((hc f f0).mpr q)⟩
  · refine Or.inr ⟨a, (hc z a).mp b, fun f f0 q => ?_⟩
    have q' := (hc f f0).mpr q
    rw [← hv f f0 q', ← hv z a b]
    exact d f f0 q'
theorem cB_cg {w w' : Int → Int} {o o' : Int → Int → Int} {k r f : Int} {al : Prop} (hw : w r = w' r) (ho : ∀ s : Int, 0 ≤ s → s < w r → o r s = o' r s) (f0 : 0 ≤ f) (k0 : 0 ≤ k) : cB w o k al r f ↔ cB w' o' k al r f := by
  have fe : ∀ s : Int, fr (w r) (o r) s ↔ fr (w' r) (o' r) s := fun s => by
    unfold fr
    rw [← hw]
    constructor
    · intro ⟨a, b, d⟩; exact ⟨a, b, by rw [← ho s a b]; exact d⟩
    · intro ⟨a, b, d⟩; exact ⟨a, b, by rw [ho s a b]; exact d⟩
  have hoe : hasO (w r) (o r) f k ↔ hasO (w' r) (o' r) f k := by
    unfold hasO
    rw [fe, fe, fe, fe]
  unfold cB
  rw [hoe, ← hw]
  constructor
  · intro ⟨a, b, d⟩; exact ⟨a, fun s s0 s1 => by rw [← ho s (by omega) (by omega)]; exact b s s0 s1, d⟩
  · intro ⟨a, b, d⟩; exact ⟨a, fun s s0 s1 => by rw [ho s (by omega) (by omega)]; exact b s s0 s1, d⟩
theorem hasO_cg {w w' : Int} {o o' : Int → Int} {f k : Int} (hw : w = w') (ho : ∀ s : Int, 0 ≤ s → s < w → o s = o' s) : hasO w o f k ↔ hasO w' o' f k := by
  subst hw
  have fe : ∀ s : Int, fr w o s ↔ fr w o' s := fun s => by
    unfold fr
    constructor
    · intro ⟨a, b, d⟩; exact ⟨a, b, by rw [← ho s a b]; exact d⟩
    · intro ⟨a, b, d⟩; exact ⟨a, b, by rw [ho s a b]; exact d⟩
  unfold hasO
  rw [fe, fe, fe, fe]
theorem isBestRV_cg {n : Int} {c c' : Int → Int → Prop} {v v' : Int → Int → Int} {z bv : Int} (hc : ∀ r f : Int, 0 ≤ r → r < n → 0 ≤ f → (c r f ↔ c' r f)) (hv : ∀ r f : Int, 0 ≤ r → r < n → v r f = v' r f) (h : isBestRV n c v z bv) : isBestRV n c' v' z bv := by
  rcases h with ⟨a, b⟩ | ⟨r, f, b1, b2, b3, b4, b5, b6, b7⟩
  · exact Or.inl ⟨a, fun r f r0 r1 f0 q => b r f r0 r1 f0 ((hc r f r0 r1 f0).mpr q)⟩
  · refine Or.inr ⟨r, f, b1, by rw [b2, hv r f b3 b4], b3, b4, b5, (hc r f b3 b4 b5).mp b6, fun r' f' r0 r1 f0 q => ?_⟩
    rw [← hv r f b3 b4, ← hv r' f' r0 r1]
    exact b7 r' f' r0 r1 f0 ((hc r' f' r0 r1 f0).mpr q)
theorem bestG_u {n : Int} {w : Int → Int} {o : Int → Int → Int} {sc : Int → Int} {k y z : Int} (h : bestG n w o sc k y) (h' : bestG n w o sc k z) : y = z := by
  have U : ∀ {al : Prop} {y z b b' : Int}, isBestRV n (cB w o k al) (vBR sc w k) y b → isBestRV n (cB w o k al) (vBR sc w k) z b' → y = z := fun h1 h2 => isBestRV_u (fun _ _ _ _ _ => Iff.rfl) (fun _ _ _ _ _ _ => rfl) h1 h2
  rcases h with ⟨a, b, d⟩ | ⟨⟨b, d⟩, b2, d2⟩ <;> rcases h' with ⟨a', b', d'⟩ | ⟨⟨b', d'⟩, b2', d2'⟩
  · exact U d d'
  · exact absurd (U d d') a
  · exact absurd (U d' d) a'
  · exact U d2 d2'
theorem bestG_cg {n n' : Int} {w w' : Int → Int} {o o' : Int → Int → Int} {sc sc' : Int → Int} {k z : Int} (hn : n = n') (k0 : 0 ≤ k) (hw : ∀ r : Int, 0 ≤ r → r < n → w r = w' r) (hs : ∀ r : Int, 0 ≤ r → r < n → sc r = sc' r) (ho : ∀ r s : Int, 0 ≤ r → r < n → 0 ≤ s → s < w r → o r s = o' r s) (h : bestG n w o sc k z) : bestG n' w' o' sc' k z := by
  subst hn
  have U : ∀ {al : Prop} {z b : Int}, isBestRV n (cB w o k al) (vBR sc w k) z b → isBestRV n (cB w' o' k al) (vBR sc' w' k) z b := fun h => isBestRV_cg (fun r f r0 r1 f0 => cB_cg (hw r r0 r1) (fun s s0 s1 => ho r s r0 r1 s0 s1) f0 k0) (fun r f r0 r1 => by unfold vBR; rw [hw r r0 r1, hs r r0 r1]) h
  rcases h with ⟨a, b, d⟩ | ⟨⟨b, d⟩, b2, d2⟩
  · exact Or.inl ⟨a, b, U d⟩
  · exact Or.inr ⟨⟨b, U d⟩, b2, U d2⟩
theorem INV.best {M : Mem} {c : Int} (h : INV M c) {k z : Int} (k0 : 0 ≤ k) : bestM M k z ↔ bestG (M 30 0 3) (M 31 0) (oMd M) (M 32 0) k z := by
  constructor
  · intro q
    exact bestG_cg h.row.1.symm k0 (fun r r0 r1 => (h.row.2 r r0 r1).1.symm) (fun r r0 r1 => (h.row.2 r r0 r1).2.1.symm) (fun r s r0 r1 s0 s1 => (h.own r0 r1 s0 s1).symm) q
  · intro q
    have e := h.row.1
    exact bestG_cg e k0 (fun r r0 r1 => (h.row.2 r r0 (by omega)).1) (fun r r0 r1 => (h.row.2 r r0 (by omega)).2.1) (fun r s r0 r1 s0 s1 => h.own r0 (by omega) s0 (by have := (h.row.2 r r0 (by omega)).1; omega)) q
theorem bFst_ce {w w' : Int → Int} {o o' : Int → Int → Int} {sc sc' : Int → Int} {s r : Int} (s0 : 0 ≤ s) (hw : w r = w' r) (hs : sc r = sc' r) (ho : ∀ a : Int, 0 ≤ a → a < w r → o r a = o' r a) : bFst w o sc s r = bFst w' o' sc' s r :=
  (bFst_eq (isBest_cg (fun f f0 => (cB_cg hw ho f0 s0).symm) (fun f f0 _ => by unfold vBR; rw [hw, hs]) (bFst_sp w' o' sc' s r)))
theorem INV.bF {M : Mem} {c : Int} (h : INV M c) {s r : Int} (s0 : 0 ≤ s) (r0 : 0 ≤ r) (r1 : r < M 1 0 4) : bM M s r = bFst (M 31 0) (oMd M) (M 32 0) s r :=
  bFst_ce s0 (h.row.2 r r0 r1).1.symm (h.row.2 r r0 r1).2.1.symm (fun a a0 a1 => (h.own r0 r1 a0 a1).symm)
theorem INV.ok {M : Mem} {c : Int} (h : INV M c) {s r : Int} (s0 : 0 ≤ s) (r0 : 0 ≤ r) (r1 : r < M 1 0 4) : okM M r s ↔ okd M r s := by
  show 0 ≤ bM M s r ↔ _
  rw [h.bF s0 r0 r1]
  exact Iff.rfl
theorem INV.V {M : Mem} {c : Int} (h : INV M c) {s r : Int} (s0 : 0 ≤ s) (r0 : 0 ≤ r) (r1 : r < M 1 0 4) : VM M r s = Vd M r s := by
  show vBR (M 3 0) (M 2 0) s r (bM M s r) = vBR (M 32 0) (M 31 0) s r (bFst (M 31 0) (oMd M) (M 32 0) s r)
  rw [h.bF s0 r0 r1]
  unfold vBR
  rw [(h.row.2 r r0 r1).1, (h.row.2 r r0 r1).2.1]
theorem can_cg {n : Int} {ok ok' : Int → Int → Prop} {V V' : Int → Int → Int} (ho : ∀ r s : Int, 0 ≤ r → r < n → 2 ≤ s → (ok r s ↔ ok' r s)) (hV : ∀ r s : Int, 0 ≤ r → r < n → 2 ≤ s → V r s = V' r s) : ∀ (j : Nat) (b p v : Int), (j : Int) ≤ n → (can n ok V j b p v ↔ can n ok' V' j b p v)
  | 0, _, _, _, _ => Iff.rfl
  | j + 1, b, p, v, hj => by
    have ih := can_cg ho hV j
    simp only [can]
    rw [ih b p v (by omega)]
    constructor
    · rintro (a | ⟨s, s1, s2, s3⟩)
      · exact Or.inl a
      · refine Or.inr ⟨s, s1, (ho _ s (by omega) (by omega) s1).mp s2, ?_⟩
        rw [← hV _ s (by omega) (by omega) s1]
        exact (ih _ _ _ (by omega)).mp s3
    · rintro (a | ⟨s, s1, s2, s3⟩)
      · exact Or.inl a
      · refine Or.inr ⟨s, s1, (ho _ s (by omega) (by omega) s1).mpr s2, ?_⟩
        rw [hV _ s (by omega) (by omega) s1]
        exact (ih _ _ _ (by omega)).mpr s3
theorem works_cg {n : Int} {ok ok' : Int → Int → Prop} {V V' : Int → Int → Int} (ho : ∀ r s : Int, 0 ≤ r → r < n → 2 ≤ s → (ok r s ↔ ok' r s)) (hV : ∀ r s : Int, 0 ≤ r → r < n → 2 ≤ s → V r s = V' r s) {r p f g s : Int} (r0 : 0 ≤ r) (r1 : r < n) (s2 : 2 ≤ s) : works n ok V r p f g s ↔ works n ok' V' r p f g s := by
  unfold works canI
  rw [ho r s r0 r1 s2, hV r s r0 r1 s2, can_cg ho hV _ _ _ _ (by omega)]
theorem TK_cg {n : Int} {ok ok' : Int → Int → Prop} {V V' : Int → Int → Int} {tk : Int → Int} (ho : ∀ r s : Int, 0 ≤ r → r < n → 2 ≤ s → (ok r s ↔ ok' r s)) (hV : ∀ r s : Int, 0 ≤ r → r < n → 2 ≤ s → V r s = V' r s) : ∀ (j : Nat) (p f g : Int), (j : Int) ≤ n → TK n ok V j p f g tk → TK n ok' V' j p f g tk
  | 0, _, _, _, _, _ => trivial
  | j + 1, p, f, g, hj, h => by
    have ih := TK_cg (tk := tk) ho hV j
    rcases h with ⟨⟨a1, a2⟩, a3⟩ | ⟨⟨a1, a2, a4⟩, a3⟩
    · exact Or.inl ⟨⟨a1, fun s s2 q => a2 s s2 ((works_cg ho hV (by omega) (by omega) s2).mpr q)⟩, ih _ _ _ (by omega) a3⟩
    · refine Or.inr ⟨⟨a1, (works_cg ho hV (by omega) (by omega) a1).mp a2, fun s s2 q => a4 s s2 ((works_cg ho hV (by omega) (by omega) s2).mpr q)⟩, ?_⟩
      rw [← hV _ _ (by omega) (by omega) a1]
      exact ih _ _ _ (by omega) a3
theorem INV.cM {M : Mem} {c : Int} (h : INV M c) {b p v : Int} : cM M 0 b p v ↔ cD M 0 b p v := by
  show can _ _ _ _ b p v ↔ can _ _ _ _ b p v
  rw [h.row.1]
  exact can_cg (fun r s r0 r1 s2 => h.ok (by omega) r0 r1) (fun r s r0 r1 s2 => h.V (by omega) r0 r1) _ _ _ _ (by have := h.hw.1; omega)
/-- the two splits are the same -/
theorem INV.split {M m m' : Mem} {c people z : Int} (h : INV M c) (hf : FOUND M m people) (hs : SPLd M m' people z) : m 16 0 7 = z ∧ ∀ r : Int, 0 ≤ r → r < M 1 0 4 → m 26 0 r = m' 41 0 r := by
  obtain ⟨f, g, f13, hF, h7, hT, _⟩ := hf
  obtain ⟨z1, z2, g', hF', hT', _⟩ := hs
  have u := isFG_u (fun b v => h.cM) hF hF'
  have eg := u.2 f13
  have ef := u.1
  subst eg ef
  refine ⟨h7, fun r r0 r1 => ?_⟩
  have hT2 := TK_cg (ok' := okd M) (V' := Vd M) (fun r s r0 r1 s2 => h.ok (by omega) r0 r1) (fun r s r0 r1 s2 => h.V (by omega) r0 r1) _ _ _ _ (by have := h.hw.1; omega) hT
  unfold TKd TKI at hT'
  rw [h.row.1] at hT'
  exact TK_u _ _ _ _ hT2 hT' r (by omega) r1
