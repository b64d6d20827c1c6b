/-! plain facts for the tickets -/
def BW (M : Mem) : Prop := 0 ≤ M 7 0 8 ∧ M 7 0 8 ≤ 100
theorem BW_g {M M' : Mem} (h : BW M) (h1 : M' 7 = M 7) : BW M' := by
  unfold BW
  rw [h1]
  exact h
/-- a new ticket -/
def openM (M : Mem) (size fin : Int) : Mem := updM (updM (updM (updM (updM (updM (updM (updM (updM M 7 0 8 (M 7 0 8 + 1)) 8 0 (M 7 0 8 + 1) 0) 9 0 (M 7 0 8 + 1) size) 10 0 (M 7 0 8 + 1) fin) 11 0 (M 7 0 8 + 1) 0) 12 0 (M 7 0 8 + 1) 0) 13 0 (M 7 0 8 + 1) (-1)) 14 0 (M 7 0 8 + 1) (-1)) 15 0 (M 7 0 8 + 1) (-1)
/-- the least end of the holds among the first n tickets; -1 if there is none -/
def isEarl (n : Int) (st en : Int → Int) (z : Int) : Prop := (z = -1 ∧ ∀ t : Int, 1 ≤ t → t ≤ n → st t ≠ 0) ∨ (0 ≤ z ∧ (∃ t : Int, 1 ≤ t ∧ t ≤ n ∧ st t = 0 ∧ en t = z) ∧ ∀ t : Int, 1 ≤ t → t ≤ n → st t = 0 → z ≤ en t)
theorem isEarl_0 (st en : Int → Int) : isEarl (1 - 1) st en (-1) := Or.inl ⟨rfl, fun t h1 h2 => by omega⟩
theorem isEarl_skip {t : Int} {st en : Int → Int} {z : Int} (h : isEarl (t - 1) st en z) (hs : st t ≠ 0) : isEarl (t + 1 - 1) st en z := by
  rcases h with ⟨a, b⟩ | ⟨a, ⟨x, x1, x2, x3, x4⟩, c⟩
  · refine Or.inl ⟨a, fun y h1 h2 => ?_⟩
    by_cases e : y = t
    · rw [e]; exact hs
    · exact b y h1 (by omega)
  · refine Or.inr ⟨a, ⟨x, x1, by omega, x3, x4⟩, fun y h1 h2 h3 => ?_⟩
    by_cases e : y = t
    · rw [e] at h3; exact absurd h3 hs
    · exact c y h1 (by omega) h3
theorem isEarl_take {t : Int} {st en : Int → Int} {z : Int} (h : isEarl (t - 1) st en z) (ht : 1 ≤ t) (hs : st t = 0) (he : 0 ≤ en t) (hz : z = -1 ∨ en t < z) : isEarl (t + 1 - 1) st en (en t) := by
  refine Or.inr ⟨he, ⟨t, ht, by omega, hs, rfl⟩, fun y h1 h2 h3 => ?_⟩
  by_cases e : y = t
  · rw [e]; exact Int.le_refl _
  · rcases h with ⟨a, b⟩ | ⟨a, -, c⟩
    · exact absurd h3 (b y h1 (by omega))
    · have := c y h1 (by omega) h3
      omega
theorem isEarl_keep {t : Int} {st en : Int → Int} {z : Int} (h : isEarl (t - 1) st en z) (hz : z ≠ -1) (he : z ≤ en t) : isEarl (t + 1 - 1) st en z := by
  rcases h with ⟨a, b⟩ | ⟨a, ⟨x, x1, x2, x3, x4⟩, c⟩
  · exact absurd a hz
  · refine Or.inr ⟨a, ⟨x, x1, by omega, x3, x4⟩, fun y h1 h2 h3 => ?_⟩
    by_cases e : y = t
    · rw [e]; exact he
    · exact c y h1 (by omega) h3
theorem isEarl_u {n : Int} {st en st' en' : Int → Int} {y z : Int} (hs : ∀ t, 1 ≤ t → t ≤ n → (st t = 0 ↔ st' t = 0)) (he : ∀ t, 1 ≤ t → t ≤ n → st t = 0 → en t = en' t) (h1 : isEarl n st en y) (h2 : isEarl n st' en' z) : y = z := by
  rcases h1 with ⟨a, b⟩ | ⟨a, ⟨x, x1, x2, x3, x4⟩, c⟩ <;> rcases h2 with ⟨a', b'⟩ | ⟨a', ⟨x', x1', x2', x3', x4'⟩, c'⟩
  · omega
  · exact absurd ((hs x' x1' x2').mpr x3') (b x' x1' x2')
  · exact absurd ((hs x x1 x2).mp x3) (b' x x1 x2)
  · have p := c x' x1' x2' ((hs x' x1' x2').mpr x3')
    have q := c' x x1 x2 ((hs x x1 x2).mp x3)
    have e1 := he x x1 x2 x3
    have e2 := he x' x1' x2' ((hs x' x1' x2').mpr x3')
    omega
