/-! the reference's own picture -/
abbrev oMd (M : Mem) (r s : Int) : Int := M 34 0 (20 * r + s)
def HWm (M : Mem) : Prop := 0 ≤ M 30 0 3 ∧ M 30 0 3 ≤ 12 ∧ ∀ r : Int, 0 ≤ r → r < M 30 0 3 → 1 ≤ M 31 0 r ∧ M 31 0 r ≤ 20 ∧ 0 ≤ M 32 0 r ∧ M 32 0 r ≤ 1000 ∧ 0 ≤ M 33 0 r ∧ M 33 0 r ≤ 10000
def BWm (M : Mem) : Prop := 0 ≤ M 30 0 8 ∧ M 30 0 8 ≤ 100
theorem HWm_g {M M' : Mem} (h : HWm M) (h1 : M' 30 0 3 = M 30 0 3) (h2 : M' 31 = M 31) (h3 : M' 32 = M 32) (h4 : M' 33 = M 33) : HWm M' := by
  unfold HWm
  rw [h1, h2, h3, h4]
  exact h
theorem BWm_g {M M' : Mem} (h : BWm M) (h1 : M' 30 0 8 = M 30 0 8) : BWm M' := by
  unfold BWm
  rw [h1]
  exact h
/-- the reference's note of what was thrown -/
abbrev thr (M : Mem) (k : Int) : Mem := updM M 30 0 0 k
theorem thr_g {M : Mem} {k : Int} {g : Nat} (h : g ≠ 30) : thr M k g = M g := updM_g h
theorem thr_j {M : Mem} {k j : Int} (h : j ≠ 0) : thr M k 30 0 j = M 30 0 j := updM_j h
theorem HWm_t {M : Mem} (h : HWm M) (k : Int) : HWm (thr M k) := HWm_g h (thr_j (by decide)) (thr_g (by decide)) (thr_g (by decide)) (thr_g (by decide))
theorem BWm_t {M : Mem} (h : BWm M) (k : Int) : BWm (thr M k) := BWm_g h (thr_j (by decide))
/-- how many places from f on are free -/
def runR (w : Int) (o : Int → Int) (f z : Int) : Prop := 0 ≤ z ∧ f + z ≤ w ∧ allF o f z ∧ (f + z = w ∨ o (f + z) ≠ 0)
theorem runR_le {w : Int} {o : Int → Int} {f z k : Int} (h : runR w o f z) (hk : 0 ≤ k) : k ≤ z ↔ f + k ≤ w ∧ allF o f k := by
  obtain ⟨a, b, c, d⟩ := h
  constructor
  · intro q
    exact ⟨by omega, fun s s1 s2 => c s s1 (by omega)⟩
  · intro ⟨q1, q2⟩
    by_cases e : k ≤ z
    · exact e
    · rcases d with d | d
      · omega
      · exact absurd (q2 (f + z) (by omega) (by omega)) d
theorem allF_snoc {o : Int → Int} {f k : Int} (h : allF o f k) (hs : o (f + k) = 0) : allF o f (k + 1) := fun s s1 s2 => by
  by_cases e : s = f + k
  · rw [e]; exact hs
  · exact h s s1 (by omega)
/-- the longest block so far: the rows below row, of it the blocks that begin below seat -/
def lonP (w : Int → Int) (o : Int → Int → Int) (row seat z : Int) : Prop := 0 ≤ z ∧ (∀ r f j : Int, 0 ≤ r → (r < row ∨ (r = row ∧ f < seat)) → 0 ≤ f → 0 ≤ j → f + j ≤ w r → allF (o r) f j → j ≤ z) ∧ (z = 0 ∨ ∃ r f : Int, 0 ≤ r ∧ (r < row ∨ (r = row ∧ f < seat)) ∧ 0 ≤ f ∧ f + z ≤ w r ∧ allF (o r) f z)
theorem lonP_0 (w : Int → Int) (o : Int → Int → Int) : lonP w o 0 0 0 := ⟨Int.le_refl 0, fun r f j r0 h f0 => by omega, Or.inl rfl⟩
theorem lonP_s {w : Int → Int} {o : Int → Int → Int} {row seat z y : Int} (h0 : 0 ≤ row) (h1 : 0 ≤ seat) (h : lonP w o row seat z) (hr : runR (w row) (o row) seat y) : lonP w o row (seat + 1) (if z < y then y else z) := by
  obtain ⟨a0, a1, a2⟩ := h
  have b := hr
  obtain ⟨b0, b1, b2, b3⟩ := hr
  refine ⟨by split <;> omega, fun r f j r0 hrf f0 j0 hj hfree => ?_, ?_⟩
  · by_cases e : r = row ∧ f = seat
    · obtain ⟨rfl, rfl⟩ := e
      have := (runR_le b j0).mpr ⟨hj, hfree⟩
      split <;> omega
    · have := a1 r f j r0 (by omega) f0 j0 hj hfree
      split <;> omega
  · by_cases e : z < y
    · rw [if_pos e]
      exact Or.inr ⟨row, seat, h0, Or.inr ⟨rfl, by omega⟩, h1, b1, b2⟩
    · rw [if_neg e]
      rcases a2 with a2 | ⟨r, f, c1, c2, c3, c4, c5⟩
      · exact Or.inl a2
      · exact Or.inr ⟨r, f, c1, by omega, c3, c4, c5⟩
theorem lonP_r {w : Int → Int} {o : Int → Int → Int} {row seat z : Int} (h : lonP w o row seat z) (hs : w row ≤ seat) : lonP w o (row + 1) 0 z := by
  obtain ⟨a0, a1, a2⟩ := h
  refine ⟨a0, fun r f j r0 hrf f0 j0 hj hfree => ?_, ?_⟩
  · by_cases e : r < row ∨ (r = row ∧ f < seat)
    · exact a1 r f j r0 e f0 j0 hj hfree
    · have : r = row := by omega
      subst this
      omega
  · rcases a2 with a2 | ⟨r, f, c1, c2, c3, c4, c5⟩
    · exact Or.inl a2
    · exact Or.inr ⟨r, f, c1, by omega, c3, c4, c5⟩
theorem lonP_all {n : Int} {w : Int → Int} {o : Int → Int → Int} {z : Int} (h : lonP w o n 0 z) : isLongR n w o z := by
  obtain ⟨a0, a1, a2⟩ := h
  refine ⟨a0, fun r f j r0 r1 f0 j0 hj hfree => a1 r f j r0 (Or.inl r1) f0 j0 hj hfree, ?_⟩
  rcases a2 with a2 | ⟨r, f, c1, c2, c3, c4, c5⟩
  · exact Or.inl a2
  · exact Or.inr ⟨r, f, c1, by omega, c3, c4, c5⟩
/-- some seats get an owner -/
def ownM (M : Mem) (row f k ow : Int) : Mem := fun g i j => if g = 34 ∧ i = 0 ∧ 20 * row + f ≤ j ∧ j < 20 * row + f + k then ow else M g i j
theorem ownM_g {M : Mem} {row f k ow : Int} {g : Nat} (h : g ≠ 34) : ownM M row f k ow g = M g := by
  funext i j
  simp [ownM, h]
theorem ownM_0 (M : Mem) (row f ow : Int) : ownM M row f (f - f) ow = M := by
  funext g i j
  unfold ownM
  rw [if_neg (by omega)]
theorem ownM_s {M : Mem} {row f s ow : Int} (h : f ≤ s) : updM (ownM M row f (s - f) ow) 34 0 (20 * row + s) ow = ownM M row f (s + 1 - f) ow := by
  funext g i j
  unfold updM ownM
  by_cases h1 : g = 34 ∧ i = 0 ∧ j = 20 * row + s
  · rw [if_pos h1, if_pos (by omega)]
  · rw [if_neg h1]
    by_cases h2 : g = 34 ∧ i = 0 ∧ 20 * row + f ≤ j ∧ j < 20 * row + f + (s - f)
    · rw [if_pos h2, if_pos (by omega)]
    · rw [if_neg h2, if_neg (by omega)]
/-- a new ticket of the reference -/
def grtM (M : Mem) (minutes : Int) : Mem := updM (updM (updM (updM M 30 0 8 (M 30 0 8 + 1)) 35 0 (M 30 0 8 + 1) 0) 36 0 (M 30 0 8 + 1) (M 30 0 1 + minutes)) 39 0 (M 30 0 8 + 1) (-1)
theorem grtM_g {M : Mem} {a : Int} {g : Nat} (h0 : g ≠ 30) (h1 : g ≠ 35) (h2 : g ≠ 36) (h3 : g ≠ 39) : grtM M a g = M g := by
  unfold grtM
  rw [updM_g h3, updM_g h2, updM_g h1, updM_g h0]
theorem grtM_j {M : Mem} {a j : Int} (h0 : j ≠ 8) : grtM M a 30 0 j = M 30 0 j := by
  unfold grtM
  rw [updM_g (by decide), updM_g (by decide), updM_g (by decide), updM_j h0]
theorem grtM_T {M : Mem} {a : Int} : grtM M a 30 0 8 = M 30 0 8 + 1 := by
  unfold grtM
  rw [updM_g (by decide), updM_g (by decide), updM_g (by decide), updM_same]
