/-! what a run of calls keeps, of one object: its groups below 16 -/
def fo (M : Mem) (a : Int) : Int := M 6 (a / 20) (a % 20)
def vld (M : Mem) (a : Int) : Prop := a / 20 < M 1 0 4 ∧ a % 20 < M 2 0 (a / 20)
def many (M : Mem) (t : Int) : Int := sumI (fun a => if fo M a = t then 1 else 0) 240
def TI (M : Mem) (t : Int) : Prop := (0 ≤ M 8 0 t ∧ M 8 0 t ≤ 3) ∧ 0 ≤ M 10 0 t ∧ (0 ≤ M 11 0 t ∧ M 11 0 t ≤ 2) ∧ (0 ≤ M 12 0 t ∧ M 12 0 t ≤ 2400000) ∧ (M 8 0 t ≠ 1 → M 15 0 t = -1)
def I2 (M : Mem) : Prop := BW M ∧ ∀ t : Int, 1 ≤ t → t ≤ M 7 0 8 → TI M t
def CI (M : Mem) (a : Int) : Prop := (¬ vld M a → fo M a = 0) ∧ (fo M a = 0 ∨ fo M a = -1 ∨ (1 ≤ fo M a ∧ fo M a ≤ M 7 0 8 ∧ M 8 0 (fo M a) ≤ 1))
def I3 (M : Mem) : Prop := ∀ a : Int, 0 ≤ a → a < 240 → CI M a
def blk (M : Mem) (t : Int) : Prop := (0 ≤ M 13 0 t ∧ M 13 0 t < M 1 0 4) ∧ (0 ≤ M 14 0 t ∧ 1 ≤ M 9 0 t ∧ M 14 0 t + M 9 0 t ≤ M 2 0 (M 13 0 t)) ∧ ∀ a : Int, 0 ≤ a → a < 240 → (fo M a = t ↔ 20 * M 13 0 t + M 14 0 t ≤ a ∧ a < 20 * M 13 0 t + M 14 0 t + M 9 0 t)
def spl (M : Mem) (t : Int) : Prop := M 13 0 t = -1 ∧ many M t = M 9 0 t ∧ 1 ≤ M 9 0 t
def WS (M : Mem) (t : Int) : Prop := M 15 0 t ≠ -1 → M 8 0 t = 1 ∧ M 13 0 t ≠ -1 ∧ 0 ≤ M 15 0 t ∧ M 15 0 t < M 1 0 4
def I4 (M : Mem) : Prop := ∀ t : Int, 1 ≤ t → t ≤ M 7 0 8 → (M 8 0 t ≤ 1 → blk M t ∨ spl M t) ∧ WS M t
def I5 (M : Mem) (c : Int) : Prop := (0 ≤ M 0 0 4 ∧ M 0 0 4 ≤ 1000 * c) ∧ -(2400000 * c) ≤ M 0 0 5 ∧ M 0 0 5 ≤ 2400000 * c
def INV (M : Mem) (c : Int) : Prop := HW M ∧ I2 M ∧ I3 M ∧ I4 M ∧ I5 M c
def ENDS (M : Mem) : Prop := ∀ t : Int, 1 ≤ t → t ≤ M 7 0 8 → M 8 0 t = 0 → M 0 0 4 < M 10 0 t ∧ M 10 0 t ≤ M 0 0 4 + 200
theorem INV_cg {M M' : Mem} {c : Int} (s : S16 M M') (h : INV M c) : INV M' c := by
  have e1 := s 1 (by decide); have e2 := s 2 (by decide); have e3 := s 3 (by decide); have e4 := s 4 (by decide)
  have e6 := s 6 (by decide); have e7 := s 7 (by decide); have e8 := s 8 (by decide); have e9 := s 9 (by decide)
  have e0 := s 0 (by decide); have e10 := s 10 (by decide); have e11 := s 11 (by decide); have e12 := s 12 (by decide)
  have e13 := s 13 (by decide); have e14 := s 14 (by decide); have e15 := s 15 (by decide)
  have ef : fo M' = fo M := by funext a; unfold fo; rw [e6]
  unfold INV I2 I3 I4 I5 HW BW TI CI vld blk spl WS many at h ⊢
  rw [ef, e0, e1, e2, e3, e4, e7, e8, e9, e10, e11, e12, e13, e14, e15]
  exact h
theorem ENDS_cg {M M' : Mem} (s : S16 M M') (h : ENDS M) : ENDS M' := by
  unfold ENDS at h ⊢
  rw [s 7 (by decide), s 8 (by decide), s 10 (by decide), s 0 (by decide)]
  exact h
theorem INV_up {M : Mem} {c : Int} (h : INV M c) : INV M (c + 1) := by
  obtain ⟨h1, h2, h3, h4, a, e, f⟩ := h
  exact ⟨h1, h2, h3, h4, by omega, by omega, by omega⟩
theorem INV.hw {M : Mem} {c : Int} (h : INV M c) : HW M := h.1
theorem INV.bw {M : Mem} {c : Int} (h : INV M c) : BW M := h.2.1.1
theorem fo_at {M : Mem} {r s : Int} (s0 : 0 ≤ s) (s1 : s < 20) : fo M (20 * r + s) = M 6 r s := by
  unfold fo
  rw [show (20 * r + s) / 20 = r by omega, show (20 * r + s) % 20 = s by omega]
theorem INV.seat {M : Mem} {c : Int} (h : INV M c) {r s : Int} (r0 : 0 ≤ r) (r1 : r < M 1 0 4) (s0 : 0 ≤ s) (s1 : s < M 2 0 r) : M 6 r s = 0 ∨ M 6 r s = -1 ∨ (1 ≤ M 6 r s ∧ M 6 r s ≤ M 7 0 8 ∧ M 8 0 (M 6 r s) ≤ 1) := by
  have w := h.hw.2.2 r r0 r1
  have n := h.hw.2.1
  have q := (h.2.2.1 (20 * r + s) (by omega) (by omega)).2
  rw [fo_at s0 (by omega)] at q
  exact q
theorem INV.vo {M : Mem} {c : Int} (h : INV M c) : ∀ r s : Int, 0 ≤ r → r < M 1 0 4 → 0 ≤ s → s < M 2 0 r → M 6 r s = 0 ∨ M 6 r s = -1 ∨ (1 ≤ M 6 r s ∧ M 6 r s ≤ M 7 0 8) := fun r s r0 r1 s0 s1 => by
  rcases h.seat r0 r1 s0 s1 with q | q | q
  · exact Or.inl q
  · exact Or.inr (Or.inl q)
  · exact Or.inr (Or.inr ⟨q.1, q.2.1⟩)
theorem INV.nowb {M : Mem} {c : Int} (h : INV M c) (hc : c ≤ 512) : 0 ≤ M 0 0 4 ∧ M 0 0 4 ≤ 1000000 := by
  have := h.2.2.2.2.1
  omega
theorem INV.balb {M : Mem} {c : Int} (h : INV M c) (hc : c ≤ 512) : -1300000000 ≤ M 0 0 5 ∧ M 0 0 5 ≤ 1300000000 := by
  have := h.2.2.2.2.2
  omega
theorem INV.pd {M : Mem} {c : Int} (h : INV M c) (t : Int) : 1 ≤ t → t ≤ M 7 0 8 → 0 ≤ M 12 0 t ∧ M 12 0 t ≤ 2400000 := fun t1 t2 => (h.2.1.2 t t1 t2).2.2.2.1
theorem INV.en {M : Mem} {c : Int} (h : INV M c) : ∀ t : Int, 1 ≤ t → t ≤ M 7 0 8 → 0 ≤ M 10 0 t := fun t t1 t2 => (h.2.1.2 t t1 t2).2.1
/-- a ticket with a wish lies in one block -/
theorem INV.wb {M : Mem} {c t : Int} (h : INV M c) (t1 : 1 ≤ t) (t2 : t ≤ M 7 0 8) (hw : M 15 0 t ≠ -1) : blk M t ∧ M 8 0 t = 1 ∧ (0 ≤ M 15 0 t ∧ M 15 0 t < M 1 0 4) ∧ M 9 0 t ≤ 20 ∧ M 14 0 t + M 9 0 t ≤ 20 := by
  have k := h.2.2.2.1 t t1 t2
  have ws := k.2 hw
  rcases k.1 (by omega) with b | b
  · have w := h.hw.2.2 _ b.1.1 b.1.2
    have b2 := b.2.1
    exact ⟨b, ws.1, ws.2.2, by omega, by omega⟩
  · exact absurd b.1 ws.2.1
theorem INV.xw {M : Mem} {c : Int} (h : INV M c) : XW M := fun t t1 t2 => by
  by_cases q : M 15 0 t = -1
  · exact Or.inl q
  · have x := h.wb t1 t2 q
    exact Or.inr ⟨x.2.2.1.1, x.2.2.1.2, x.1.1.1, x.1.1.2⟩
theorem INV.vpl {M : Mem} {c : Int} (h : INV M c) : ∀ t : Int, 1 ≤ t → t ≤ M 7 0 8 → M 15 0 t ≠ -1 → vpl M (M 9 0 t) (M 13 0 t) (M 14 0 t) ∧ 1 ≤ M 9 0 t ∧ M 9 0 t ≤ 20 := fun t t1 t2 q => by
  have x := h.wb t1 t2 q
  have b := x.1
  exact ⟨⟨b.1.1, b.1.2, b.2.1.1, b.2.1.2.2⟩, b.2.1.2.1, x.2.2.2.1⟩
/-! sums -/
theorem sumTo_add (f : Int → Int) (j : Nat) : ∀ k : Nat, sumTo f (j + k) = sumTo f j + sumTo (fun i => f ((j : Int) + i)) k
  | 0 => by simp [sumTo]
  | k + 1 => by
    have ih := sumTo_add f j k
    show sumTo f (j + k) + f ((j + k : Nat) : Int) = sumTo f j + (sumTo (fun i => f ((j : Int) + i)) k + f ((j : Int) + (k : Int)))
    rw [ih, Int.natCast_add]
    omega
theorem sumI_add (f : Int → Int) {j k : Int} (j0 : 0 ≤ j) (k0 : 0 ≤ k) : sumI f (j + k) = sumI f j + sumI (fun i => f (j + i)) k := by
  unfold sumI
  rw [show (j + k).toNat = j.toNat + k.toNat by omega, sumTo_add, Int.toNat_of_nonneg j0]
theorem sumI_zero {f : Int → Int} {k : Int} (h : ∀ i : Int, 0 ≤ i → i < k → f i = 0) : sumI f k = 0 := by
  rw [sumI_cg (g := fun _ => 0) h]
  unfold sumI
  generalize k.toNat = n
  induction n with
  | zero => rfl
  | succ n ih => show sumTo (fun _ => 0) n + 0 = 0; rw [ih]; rfl
theorem sumI_one {k : Int} (k0 : 0 ≤ k) : sumI (fun _ => 1) k = k := by
  have h : ∀ n : Nat, sumTo (fun _ => 1) n = (n : Int) := fun n => by
    induction n with
    | zero => rfl
    | succ n ih => show sumTo (fun _ => 1) n + 1 = _; rw [ih]; omega
  unfold sumI
  rw [h]; omega
/-- a sum over a stretch -/
theorem sumI_part {f : Int → Int} {lo k n : Int} (l0 : 0 ≤ lo) (k0 : 0 ≤ k) (hn : lo + k ≤ n) (h : ∀ i : Int, 0 ≤ i → i < n → ¬ (lo ≤ i ∧ i < lo + k) → f i = 0) : sumI f n = sumI (fun i => f (lo + i)) k := by
  have e1 : sumI f n = sumI f (lo + k) + sumI (fun i => f (lo + k + i)) (n - (lo + k)) := by
    rw [← sumI_add f (by omega) (by omega), show lo + k + (n - (lo + k)) = n by omega]
  rw [e1, sumI_add f l0 k0, sumI_zero (f := f) (k := lo) (fun i i0 i1 => h i i0 (by omega) (by omega)), sumI_zero (f := fun i => f (lo + k + i)) (k := n - (lo + k)) (fun i i0 i1 => h (lo + k + i) (by omega) (by omega) (by omega))]
  omega
/-- 240 places as 12 rows of 20 -/
theorem sumI_240 (f : Int → Int) : ∀ k : Nat, sumI f (20 * (k : Int)) = sumI (fun r => sumI (fun s => f (20 * r + s)) 20) (k : Int)
  | 0 => rfl
  | k + 1 => by
    have ih := sumI_240 f k
    rw [show (20 * ((k + 1 : Nat) : Int)) = 20 * (k : Int) + 20 by omega, sumI_add f (by omega) (by decide), ih, show ((k + 1 : Nat) : Int) = (k : Int) + 1 by omega, sumI_s (by omega)]
/-- .. and as the rows that there are, where all else counts nothing -/
theorem sumI_rows {M : Mem} (hw : HW M) {g : Int → Int → Int} {f : Int → Int} (hf : ∀ r s : Int, 0 ≤ r → r < 12 → 0 ≤ s → s < 20 → f (20 * r + s) = g r s) (hz : ∀ r s : Int, 0 ≤ r → r < 12 → 0 ≤ s → s < 20 → ¬ (r < M 1 0 4 ∧ s < M 2 0 r) → g r s = 0) : sumI f 240 = sumI (fun r => sumI (g r) (M 2 0 r)) (M 1 0 4) := by
  have n0 := hw.1
  have n1 := hw.2.1
  have e := sumI_240 f 12
  rw [show (20 * ((12 : Nat) : Int)) = 240 by decide] at e
  have e1 : sumI (fun r => sumI (fun s => f (20 * r + s)) 20) ((12 : Nat) : Int) = sumI (fun r => sumI (g r) 20) ((12 : Nat) : Int) := sumI_cg (fun r r0 r1 => sumI_cg (fun s s0 s1 => hf r s r0 r1 s0 s1))
  refine (e.trans e1).trans ?_
  have e2 := sumI_part (f := fun r => sumI (g r) 20) (lo := 0) (k := M 1 0 4) (n := ((12 : Nat) : Int)) (Int.le_refl 0) n0 (by show 0 + M 1 0 4 ≤ 12; omega) (fun r r0 r1 q => sumI_zero (fun s s0 s1 => hz r s r0 r1 s0 s1 (by omega)))
  rw [e2]
  refine sumI_cg (fun r r0 r1 => ?_)
  have w := hw.2.2 r r0 r1
  show sumI (g (0 + r)) 20 = _
  rw [show (0 : Int) + r = r by omega]
  have e3 := sumI_part (f := g r) (lo := 0) (k := M 2 0 r) (n := 20) (Int.le_refl 0) (by omega) (by omega) (fun s s0 s1 q => hz r s r0 (by omega) s0 s1 (by omega))
  rw [e3]
  exact sumI_cg (fun s _ _ => by rw [show (0 : Int) + s = s by omega])
theorem many_blk {M : Mem} {t lo k : Int} (l0 : 0 ≤ lo) (k0 : 0 ≤ k) (hn : lo + k ≤ 240) (h : ∀ a : Int, 0 ≤ a → a < 240 → (fo M a = t ↔ lo ≤ a ∧ a < lo + k)) : many M t = k := by
  unfold many
  rw [sumI_part (lo := lo) (k := k) l0 k0 hn (fun i i0 i1 q => if_neg (fun e => q ((h i i0 i1).mp e))), sumI_cg (g := fun _ => 1) (fun i i0 i1 => if_pos ((h (lo + i) (by omega) (by omega)).mpr ⟨by omega, by omega⟩)), sumI_one k0]
theorem many_cg {M M' : Mem} {t : Int} (h : ∀ a : Int, 0 ≤ a → a < 240 → (fo M' a = t ↔ fo M a = t)) : many M' t = many M t :=
  sumI_cg (fun a a0 a1 => by
    by_cases e : fo M a = t
    · rw [if_pos e, if_pos ((h a a0 a1).mpr e)]
    · rw [if_neg e, if_neg (fun q => e ((h a a0 a1).mp q))])
/-- an open ticket has just its seats, a closed one none -/
theorem INV.many {M : Mem} {c t : Int} (h : INV M c) (t1 : 1 ≤ t) (t2 : t ≤ M 7 0 8) : many M t = if M 8 0 t = 0 ∨ M 8 0 t = 1 then M 9 0 t else 0 := by
  have ti := h.2.1.2 t t1 t2
  by_cases o : M 8 0 t = 0 ∨ M 8 0 t = 1
  · rw [if_pos o]
    rcases (h.2.2.2.1 t t1 t2).1 (by omega) with b | b
    · have w := h.hw.2.2 _ b.1.1 b.1.2
      have n := h.hw.2.1
      have b1 := b.1
      have b2 := b.2.1
      exact many_blk (by omega) (by omega) (by omega) b.2.2
    · exact b.2.1
  · rw [if_neg o]
    refine sumI_zero (fun a a0 a1 => if_neg (fun e => ?_))
    rcases (h.2.2.1 a a0 a1).2 with q | q | q
    · omega
    · omega
    · rw [e] at q; have := ti.1.1; omega
theorem INV.size {M : Mem} {c t : Int} (h : INV M c) (t1 : 1 ≤ t) (t2 : t ≤ M 7 0 8) (o : M 8 0 t ≤ 1) : 1 ≤ M 9 0 t := by
  rcases (h.2.2.2.1 t t1 t2).1 o with b | b
  · exact b.2.1.2.1
  · exact b.2.2
/-! how the invariant goes on -/
def keepT (M M' : Mem) (t : Int) : Prop := M' 8 0 t = M 8 0 t ∧ M' 9 0 t = M 9 0 t ∧ M' 10 0 t = M 10 0 t ∧ M' 11 0 t = M 11 0 t ∧ M' 12 0 t = M 12 0 t ∧ M' 13 0 t = M 13 0 t ∧ M' 14 0 t = M 14 0 t ∧ M' 15 0 t = M 15 0 t
def keepH (M M' : Mem) : Prop := M' 1 = M 1 ∧ M' 2 = M 2 ∧ M' 3 = M 3 ∧ M' 4 = M 4
theorem keepT_o {M M' : Mem} {t : Int} (h : ∀ g : Nat, 8 ≤ g → g ≤ 15 → M' g 0 t = M g 0 t) : keepT M M' t := ⟨h 8 (by decide) (by decide), h 9 (by decide) (by decide), h 10 (by decide) (by decide), h 11 (by decide) (by decide), h 12 (by decide) (by decide), h 13 (by decide) (by decide), h 14 (by decide) (by decide), h 15 (by decide) (by decide)⟩
theorem keep_ti {M M' : Mem} {t : Int} (k : keepT M M' t) (h : TI M t) : TI M' t := by
  obtain ⟨a1, a2, a3, a4, a5, a6, a7, a8⟩ := k
  unfold TI at h ⊢
  rw [a1, a3, a4, a5, a8]
  exact h
theorem keep_ws {M M' : Mem} {t : Int} (k : keepT M M' t) (k1 : M' 1 = M 1) (h : WS M t) : WS M' t := by
  obtain ⟨a1, a2, a3, a4, a5, a6, a7, a8⟩ := k
  unfold WS at h ⊢
  rw [a1, a6, a8, k1]
  exact h
theorem keep_bs {M M' : Mem} {t : Int} (k : keepT M M' t) (k1 : M' 1 = M 1) (k2 : M' 2 = M 2) (hc : ∀ a : Int, 0 ≤ a → a < 240 → (fo M' a = t ↔ fo M a = t)) (h : blk M t ∨ spl M t) : blk M' t ∨ spl M' t := by
  obtain ⟨a1, a2, a3, a4, a5, a6, a7, a8⟩ := k
  rcases h with ⟨h1, h2, h3⟩ | ⟨h1, h2, h3⟩
  · refine Or.inl ⟨?_, ?_, fun a a0 a1 => ?_⟩
    · rw [a6, k1]; exact h1
    · rw [a6, a7, a2, k2]; exact h2
    · rw [hc a a0 a1, a6, a7, a2]; exact h3 a a0 a1
  · refine Or.inr ⟨?_, ?_, ?_⟩
    · rw [a6]; exact h1
    · rw [a2, many_cg hc]; exact h2
    · rw [a2]; exact h3
theorem keep_hw {M M' : Mem} (k : keepH M M') (h : HW M) : HW M' := HW_g h k.1 k.2.1 k.2.2.1 k.2.2.2
/-- a new ticket -/
theorem INV_new {M M' : Mem} {c n : Int} (h : INV M c) (hT : M 7 0 8 < 100) (hn : n = M 7 0 8 + 1) (kh : keepH M M') (k0 : M' 0 = M 0) (t7 : M' 7 0 8 = n) (kt : ∀ t : Int, t ≠ n → keepT M M' t)
    (n8 : M' 8 0 n = 0) (n10 : 0 ≤ M' 10 0 n) (n11 : M' 11 0 n = 0) (n12 : M' 12 0 n = 0) (n15 : M' 15 0 n = -1)
    (cn : ∀ a : Int, 0 ≤ a → a < 240 → fo M' a = fo M a ∨ (fo M a = 0 ∧ vld M a ∧ fo M' a = n)) (nb : blk M' n ∨ spl M' n) : INV M' c := by
  have hb := h.bw
  obtain ⟨h1, ⟨_, b3⟩, h3, h4, h5⟩ := h
  have q1 := kh.1
  have q2 := kh.2.1
  refine ⟨keep_hw kh h1, ⟨⟨by rw [t7]; have := hb.1; omega, by rw [t7]; omega⟩, fun t t1 t2 => ?_⟩, fun a a0 a1 => ?_, fun t t1 t2 => ?_, ?_⟩
  · by_cases e : t = n
    · subst e
      unfold TI
      rw [n8, n11, n12, n15]
      exact ⟨⟨by omega, by omega⟩, n10, ⟨by omega, by omega⟩, ⟨by omega, by omega⟩, fun _ => rfl⟩
    · exact keep_ti (kt t e) (b3 t t1 (by omega))
  · obtain ⟨c2, c3⟩ := h3 a a0 a1
    refine ⟨fun q => ?_, ?_⟩
    · unfold vld at q c2
      rw [q1, q2] at q
      rcases cn a a0 a1 with e | ⟨_, e, _⟩
      · rw [e]; exact c2 q
      · exact absurd e q
    · rcases cn a a0 a1 with e | ⟨_, _, e⟩
      · rw [e]
        rcases c3 with c3 | c3 | ⟨d1, d2, d3⟩
        · exact Or.inl c3
        · exact Or.inr (Or.inl c3)
        · refine Or.inr (Or.inr ⟨d1, by omega, ?_⟩)
          rw [(kt _ (by omega)).1]; exact d3
      · rw [e]
        exact Or.inr (Or.inr ⟨by have := hb.1; omega, by omega, by omega⟩)
  · by_cases e : t = n
    · subst e
      exact ⟨fun _ => nb, fun q => absurd n15 q⟩
    · have k := kt t e
      have d := h4 t t1 (by omega)
      refine ⟨fun q => keep_bs k q1 q2 (fun a a0 a1 => ?_) (d.1 (by rw [← k.1]; exact q)), keep_ws k q1 d.2⟩
      rcases cn a a0 a1 with e2 | ⟨e3, _, e2⟩
      · rw [e2]
      · rw [e2, e3]; omega
  · unfold I5 at h5 ⊢
    rw [k0]
    exact h5
/-- a ticket is closed -/
theorem INV_clo {M M' : Mem} {c n how : Int} (h : INV M c) (hn : 1 ≤ n ∧ n ≤ M 7 0 8) (hh : how = 2 ∨ how = 3) (kh : keepH M M') (k0 : M' 0 = M 0) (k7 : M' 7 = M 7) (kt : ∀ t : Int, t ≠ n → keepT M M' t)
    (n8 : M' 8 0 n = how) (n10 : M' 10 0 n = M 10 0 n) (n11 : M' 11 0 n = M 11 0 n) (n12 : M' 12 0 n = M 12 0 n) (n15 : M' 15 0 n = -1)
    (cn : ∀ a : Int, 0 ≤ a → a < 240 → fo M' a = if fo M a = n then 0 else fo M a) : INV M' c := by
  obtain ⟨h1, ⟨b1, b3⟩, h3, h4, h5⟩ := h
  have q1 := kh.1
  have q2 := kh.2.1
  refine ⟨keep_hw kh h1, ⟨BW_g b1 k7, fun t t1 t2 => ?_⟩, fun a a0 a1 => ?_, fun t t1 t2 => ?_, ?_⟩
  · rw [k7] at t2
    by_cases e : t = n
    · subst e
      have d := b3 t t1 t2
      unfold TI at d ⊢
      rw [n8, n10, n11, n12, n15]
      exact ⟨⟨by omega, by omega⟩, d.2.1, d.2.2.1, d.2.2.2.1, fun _ => rfl⟩
    · exact keep_ti (kt t e) (b3 t t1 t2)
  · obtain ⟨c2, c3⟩ := h3 a a0 a1
    refine ⟨fun q => ?_, ?_⟩
    · rw [cn a a0 a1]
      unfold vld at q c2
      rw [q1, q2] at q
      rw [c2 q]
      split <;> rfl
    · rw [cn a a0 a1]
      by_cases e : fo M a = n
      · rw [if_pos e]; exact Or.inl rfl
      · rw [if_neg e, k7]
        rcases c3 with c3 | c3 | ⟨d1, d2, d3⟩
        · exact Or.inl c3
        · exact Or.inr (Or.inl c3)
        · refine Or.inr (Or.inr ⟨d1, d2, ?_⟩)
          rw [(kt _ e).1]; exact d3
  · rw [k7] at t2
    by_cases e : t = n
    · subst e
      exact ⟨fun q => by omega, fun q => absurd n15 q⟩
    · have k := kt t e
      have d := h4 t t1 t2
      refine ⟨fun q => keep_bs k q1 q2 (fun a a0 a1 => ?_) (d.1 (by rw [← k.1]; exact q)), keep_ws k q1 d.2⟩
      rw [cn a a0 a1]
      by_cases e2 : fo M a = n
      · rw [if_pos e2, e2]; omega
      · rw [if_neg e2]
  · unfold I5 at h5 ⊢
    rw [k0]
    exact h5
/-- one ticket's own numbers change, its seats stay -/
theorem INV_tk {M M' : Mem} {c n : Int} (h : INV M c) (hn : 1 ≤ n ∧ n ≤ M 7 0 8) (hg : ∀ g : Nat, g < 8 → M' g = M g) (kt : ∀ t : Int, t ≠ n → keepT M M' t)
    (n8 : M' 8 0 n ≤ 1) (o8 : M 8 0 n ≤ 1) (n9 : M' 9 0 n = M 9 0 n) (n13 : M' 13 0 n = M 13 0 n) (n14 : M' 14 0 n = M 14 0 n) (ti : TI M' n) (ws : WS M' n) : INV M' c := by
  have e1 := hg 1 (by decide); have e2 := hg 2 (by decide); have e6 := hg 6 (by decide); have e7 := hg 7 (by decide)
  have ef : fo M' = fo M := by funext a; unfold fo; rw [e6]
  obtain ⟨h1, ⟨b1, b3⟩, h3, h4, h5⟩ := h
  have kh : keepH M M' := ⟨e1, e2, hg 3 (by decide), hg 4 (by decide)⟩
  refine ⟨keep_hw kh h1, ⟨BW_g b1 e7, fun t t1 t2 => ?_⟩, fun a a0 a1 => ?_, fun t t1 t2 => ?_, ?_⟩
  · rw [e7] at t2
    by_cases e : t = n
    · rw [e]; exact ti
    · exact keep_ti (kt t e) (b3 t t1 t2)
  · obtain ⟨c2, c3⟩ := h3 a a0 a1
    unfold CI vld
    rw [ef, e1, e2, e7]
    refine ⟨c2, ?_⟩
    rcases c3 with c3 | c3 | ⟨d1, d2, d3⟩
    · exact Or.inl c3
    · exact Or.inr (Or.inl c3)
    · refine Or.inr (Or.inr ⟨d1, d2, ?_⟩)
      by_cases e : fo M a = n
      · rw [e]; exact n8
      · rw [(kt _ e).1]; exact d3
  · rw [e7] at t2
    have d := h4 t t1 t2
    by_cases e : t = n
    · subst e
      refine ⟨fun _ => ?_, ws⟩
      rcases d.1 o8 with ⟨x1, x2, x3⟩ | ⟨x1, x2, x3⟩
      · refine Or.inl ⟨?_, ?_, fun a a0 a1 => ?_⟩
        · rw [n13, e1]; exact x1
        · rw [n13, n14, n9, e2]; exact x2
        · rw [n13, n14, n9, ef]; exact x3 a a0 a1
      · refine Or.inr ⟨by rw [n13]; exact x1, ?_, by rw [n9]; exact x3⟩
        rw [n9, ← x2]; unfold many; rw [ef]
    · have k := kt t e
      exact ⟨fun q => keep_bs k e1 e2 (fun a a0 a1 => by rw [ef]) (d.1 (by rw [← k.1]; exact q)), keep_ws k e1 d.2⟩
  · unfold I5 at h5 ⊢
    rw [hg 0 (by decide)]
    exact h5
/-- the money or the minute alone changes -/
theorem INV_zero {M M' : Mem} {c a b : Int} (h : INV M c) (hg : ∀ g : Nat, g ≠ 0 → g < 16 → M' g = M g) (k4 : M' 0 0 4 = M 0 0 4 + a) (k5 : M' 0 0 5 = M 0 0 5 + b) (ha : 0 ≤ a ∧ a ≤ 1000) (hb : -2400000 ≤ b ∧ b ≤ 2400000) : INV M' (c + 1) := by
  have s : S16 M (fun g => if g = 0 then M 0 else M' g) := fun g g1 => by
    show (if g = 0 then M 0 else M' g) = M g
    by_cases e : g = 0
    · rw [if_pos e, e]
    · rw [if_neg e]; exact hg g e g1
  have h' := INV_cg s h
  obtain ⟨h1, h2, h3, h4, i2, i4⟩ := h'
  have j2 : 0 ≤ M 0 0 4 ∧ M 0 0 4 ≤ 1000 * c := i2
  have j4 : -(2400000 * c) ≤ M 0 0 5 ∧ M 0 0 5 ≤ 2400000 * c := i4
  refine ⟨h1, h2, h3, h4, ?_⟩
  unfold I5
  rw [k4, k5]
  omega
