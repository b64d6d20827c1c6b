/-! plain facts: sums, blocks, values -/
def sumTo (f : Int → Int) : Nat → Int
  | 0 => 0
  | k + 1 => sumTo f k + f (k : Int)
def sumI (f : Int → Int) (z : Int) : Int := sumTo f z.toNat
theorem sumI_0 (f : Int → Int) : sumI f 0 = 0 := rfl
theorem sumI_s {f : Int → Int} {z : Int} (h : 0 ≤ z) : sumI f (z + 1) = sumI f z + f z := by
  unfold sumI
  rw [show (z + 1).toNat = z.toNat + 1 by omega]
  show sumTo f z.toNat + f ((z.toNat : Nat) : Int) = _
  rw [Int.toNat_of_nonneg h]
theorem sumTo_bd {f : Int → Int} {a b : Int} : ∀ (k : Nat), (∀ i : Int, 0 ≤ i → i < (k : Int) → a ≤ f i ∧ f i ≤ b) → a * (k : Int) ≤ sumTo f k ∧ sumTo f k ≤ b * (k : Int)
  | 0, _ => by simp [sumTo]
  | k + 1, h => by
    have h1 := sumTo_bd k (fun i h0 h2 => h i h0 (by omega))
    have h2 := h (k : Int) (by omega) (by omega)
    have e1 : a * ((k + 1 : Nat) : Int) = a * (k : Int) + a := by rw [Int.natCast_succ, Int.mul_add, Int.mul_one]
    have e2 : b * ((k + 1 : Nat) : Int) = b * (k : Int) + b := by rw [Int.natCast_succ, Int.mul_add, Int.mul_one]
    show a * ((k + 1 : Nat) : Int) ≤ sumTo f k + f (k : Int) ∧ sumTo f k + f (k : Int) ≤ b * ((k + 1 : Nat) : Int)
    omega
theorem sumI_bd {f : Int → Int} (a b : Int) {z : Int} (hz : 0 ≤ z) (h : ∀ i : Int, 0 ≤ i → i < z → a ≤ f i ∧ f i ≤ b) : a * z ≤ sumI f z ∧ sumI f z ≤ b * z := by
  have := sumTo_bd (f := f) (a := a) (b := b) z.toNat (fun i h0 h1 => h i h0 (by omega))
  rw [Int.toNat_of_nonneg hz] at this
  exact this
theorem sumTo_cg {f g : Int → Int} : ∀ (k : Nat), (∀ i : Int, 0 ≤ i → i < (k : Int) → f i = g i) → sumTo f k = sumTo g k
  | 0, _ => rfl
  | k + 1, h => by
    show sumTo f k + f (k : Int) = sumTo g k + g (k : Int)
    rw [sumTo_cg k (fun i h0 h1 => h i h0 (by omega)), h (k : Int) (by omega) (by omega)]
theorem sumI_cg {f g : Int → Int} {z : Int} (h : ∀ i : Int, 0 ≤ i → i < z → f i = g i) : sumI f z = sumI g z := by
  unfold sumI
  by_cases hz : 0 ≤ z
  · exact sumTo_cg _ (fun i h0 h1 => h i h0 (by omega))
  · rw [show z.toNat = 0 by omega]; rfl
/-- all of k places from f on are 0 -/
def allF (o : Int → Int) (f k : Int) : Prop := ∀ s : Int, f ≤ s → s < f + k → o s = 0
/-- a seat's value -/
def vS (sc w s : Int) : Int := sc - (if 0 ≤ 2 * s - (w - 1) then 2 * s - (w - 1) else 0 - (2 * s - (w - 1)))
/-- a block's value -/
def vB (sc w f k : Int) : Int := sumI (fun i => vS sc w (f + i)) k
/-- the seat s of a row of w seats is free -/
abbrev fr (w : Int) (o : Int → Int) (s : Int) : Prop := 0 ≤ s ∧ s < w ∧ o s = 0
/-- a block leaves an orphan -/
abbrev hasO (w : Int) (o : Int → Int) (f k : Int) : Prop := (fr w o (f - 1) ∧ ¬ fr w o (f - 2)) ∨ (fr w o (f + k) ∧ ¬ fr w o (f + k + 1))
theorem vS_bd {sc w s : Int} (h0 : 0 ≤ sc) (h1 : sc ≤ 1000) (hw : 0 ≤ w ∧ w ≤ 20) (hs : 0 ≤ s ∧ s < w) : -20 ≤ vS sc w s ∧ vS sc w s ≤ 1000 := by
  unfold vS
  omega
theorem vB_bd {sc w f k : Int} (h0 : 0 ≤ sc) (h1 : sc ≤ 1000) (hw : 0 ≤ w ∧ w ≤ 20) (hf : 0 ≤ f) (hk : 0 ≤ k) (hfk : f + k ≤ w) : -400 ≤ vB sc w f k ∧ vB sc w f k ≤ 20000 := by
  have := sumI_bd (f := fun i => vS sc w (f + i)) (-20) 1000 hk (fun i a b => vS_bd h0 h1 hw ⟨by omega, by omega⟩)
  unfold vB
  omega
/-- the best of some places by a value: the greatest, of several the first; -1 if there is none -/
def isBest (c : Int → Prop) (v : Int → Int) (z : Int) : Prop := (z = -1 ∧ ∀ f : Int, 0 ≤ f → ¬ c f) ∨ (0 ≤ z ∧ c z ∧ ∀ f : Int, 0 ≤ f → c f → v f ≤ v z ∧ (v f = v z → z ≤ f))
theorem isBest_u {c c' : Int → Prop} {v v' : Int → Int} {y z : Int} (hc : ∀ f : Int, 0 ≤ f → (c f ↔ c' f)) (hv : ∀ f : Int, 0 ≤ f → c f → v f = v' f) (h1 : isBest c v y) (h2 : isBest c' v' z) : y = z := by
  rcases h1 with ⟨a1, a2⟩ | ⟨a0, a1, a2⟩ <;> rcases h2 with ⟨b1, b2⟩ | ⟨b0, b1, b2⟩
  · omega
  · exact absurd ((hc z b0).mpr b1) (a2 z b0)
  · exact absurd ((hc y a0).mp a1) (b2 y a0)
  · have p := a2 z b0 ((hc z b0).mpr b1)
    have q := b2 y a0 ((hc y a0).mp a1)
    have e1 := hv z b0 ((hc z b0).mpr b1)
    have e2 := hv y a0 a1
    rw [← e1, ← e2] at q
    have := p.2
    have := q.2
    omega
/-- a step of the search: all places below f are looked at, now f -/
theorem isBest_none {c : Int → Prop} {v : Int → Int} : isBest (fun g => g < 0 ∧ c g) v (-1) := Or.inl ⟨rfl, fun f h0 h => by omega⟩
theorem isBest_skip {c : Int → Prop} {v : Int → Int} {f z : Int} (h : isBest (fun g => g < f ∧ c g) v z) (hc : ¬ c f) : isBest (fun g => g < f + 1 ∧ c g) v z := by
  rcases h with ⟨a1, a2⟩ | ⟨a0, a1, a2⟩
  · refine Or.inl ⟨a1, fun g h0 h => ?_⟩
    by_cases e : g = f
    · exact hc (e ▸ h.2)
    · exact a2 g h0 ⟨by omega, h.2⟩
  · refine Or.inr ⟨a0, ⟨by have := a1.1; omega, a1.2⟩, fun g h0 h => ?_⟩
    by_cases e : g = f
    · exact absurd (e ▸ h.2) hc
    · exact a2 g h0 ⟨by omega, h.2⟩
theorem isBest_take {c : Int → Prop} {v : Int → Int} {f z : Int} (h : isBest (fun g => g < f ∧ c g) v z) (h0 : 0 ≤ f) (hc : c f) (hb : z = -1 ∨ v z < v f) : isBest (fun g => g < f + 1 ∧ c g) v f := by
  refine Or.inr ⟨h0, ⟨by omega, hc⟩, fun g g0 hg => ?_⟩
  by_cases e : g = f
  · subst e; exact ⟨Int.le_refl _, fun _ => Int.le_refl _⟩
  · rcases h with ⟨a1, a2⟩ | ⟨a0, a1, a2⟩
    · exact absurd ⟨by omega, hg.2⟩ (a2 g g0)
    · have := a2 g g0 ⟨by omega, hg.2⟩
      rcases hb with hb | hb
      · omega
      · exact ⟨by omega, fun q => by omega⟩
theorem isBest_keep {c : Int → Prop} {v : Int → Int} {f z : Int} (h : isBest (fun g => g < f ∧ c g) v z) (hz : z ≠ -1) (hb : v f ≤ v z) : isBest (fun g => g < f + 1 ∧ c g) v z := by
  rcases h with ⟨a1, a2⟩ | ⟨a0, a1, a2⟩
  · exact absurd a1 hz
  · refine Or.inr ⟨a0, ⟨by have := a1.1; omega, a1.2⟩, fun g h0 h => ?_⟩
    by_cases e : g = f
    · subst e; exact ⟨hb, fun _ => by have := a1.1; omega⟩
    · exact a2 g h0 ⟨by omega, h.2⟩
/-- the longest run of 0 among the first k places -/
def isLong (o : Int → Int) (k z : Int) : Prop := 0 ≤ z ∧ (∀ f j : Int, 0 ≤ f → 0 ≤ j → f + j ≤ k → allF o f j → j ≤ z) ∧ ∃ f : Int, 0 ≤ f ∧ f + z ≤ k ∧ allF o f z
/-- the run of 0 that ends before the place k -/
def isRun (o : Int → Int) (k r : Int) : Prop := 0 ≤ r ∧ r ≤ k ∧ allF o (k - r) r ∧ (r = k ∨ o (k - r - 1) ≠ 0)
theorem isLong_u {o o' : Int → Int} {k y z : Int} (ho : ∀ s : Int, 0 ≤ s → s < k → (o s = 0 ↔ o' s = 0)) (h1 : isLong o k y) (h2 : isLong o' k z) : y = z := by
  obtain ⟨a0, a1, f, a2, a3, a4⟩ := h1
  obtain ⟨b0, b1, g, b2, b3, b4⟩ := h2
  have p := b1 f y a2 a0 a3 (fun s h3 h4 => (ho s (by omega) (by omega)).mp (a4 s h3 h4))
  have q := a1 g z b2 b0 b3 (fun s h3 h4 => (ho s (by omega) (by omega)).mpr (b4 s h3 h4))
  omega
theorem isLong_0 (o : Int → Int) : isLong o 0 0 := ⟨Int.le_refl 0, fun f j h0 h1 h2 _ => by omega, 0, Int.le_refl 0, by omega, fun s h1 h2 => by omega⟩
theorem isRun_0 (o : Int → Int) : isRun o 0 0 := ⟨Int.le_refl 0, Int.le_refl 0, fun s h1 h2 => by omega, Or.inl rfl⟩
theorem isRun_t {o : Int → Int} {k r : Int} (h : isRun o k r) (hk : o k = 0) : isRun o (k + 1) (r + 1) := by
  obtain ⟨a0, a1, a2, a3⟩ := h
  refine ⟨by omega, by omega, fun s h1 h2 => ?_, ?_⟩
  · by_cases e : s = k
    · rw [e]; exact hk
    · exact a2 s (by omega) (by omega)
  · rcases a3 with a3 | a3
    · left; omega
    · right; rw [show k + 1 - (r + 1) - 1 = k - r - 1 by omega]; exact a3
theorem isRun_f {o : Int → Int} {k r : Int} (h : isRun o k r) (hk : o k ≠ 0) : isRun o (k + 1) 0 := by
  refine ⟨by omega, by have := h.1; have := h.2.1; omega, fun s h1 h2 => by omega, Or.inr ?_⟩
  rw [show k + 1 - 0 - 1 = k by omega]; exact hk
/-- with the run that ends at k + 1 the longest is known -/
theorem isLong_s {o : Int → Int} {k z r : Int} (hk : 0 ≤ k) (h : isLong o k z) (hr : isRun o (k + 1) r) : isLong o (k + 1) (max z r) := by
  obtain ⟨a0, a1, f, a2, a3, a4⟩ := h
  obtain ⟨b0, b1, b2, b3⟩ := hr
  refine ⟨by omega, fun g j h0 h1 h2 h3 => ?_, ?_⟩
  · by_cases e : g + j ≤ k
    · have := a1 g j h0 h1 e h3; omega
    · -- the run ends at k + 1
      by_cases q : j ≤ r
      · omega
      · rcases b3 with b3 | b3
        · omega
        · exact absurd (h3 (k + 1 - r - 1) (by omega) (by omega)) b3
  · by_cases e : z ≤ r
    · refine ⟨k + 1 - r, by omega, by omega, ?_⟩
      rw [Int.max_eq_right e]; exact b2
    · refine ⟨f, a2, by omega, ?_⟩
      rw [Int.max_eq_left (by omega)]; exact a4
/-- what the hall's own numbers keep to -/
def HW (M : Mem) : Prop := 0 ≤ M 1 0 4 ∧ M 1 0 4 ≤ 12 ∧ ∀ r : Int, 0 ≤ r → r < M 1 0 4 → 1 ≤ M 2 0 r ∧ M 2 0 r ≤ 20 ∧ 0 ≤ M 3 0 r ∧ M 3 0 r ≤ 1000 ∧ 0 ≤ M 4 0 r ∧ M 4 0 r ≤ 10000
