/-! plain facts for the hall -/
theorem isLong_bd {o : Int → Int} {k z : Int} (h : isLong o k z) : 0 ≤ z ∧ z ≤ k := by
  obtain ⟨a0, a1, f, a2, a3, a4⟩ := h
  omega
theorem isLong_st {o : Int → Int} {k z r : Int} (hk : 0 ≤ k) (h : isLong o k z) (hr : isRun o k r) (ho : o k = 0) : isLong o (k + 1) (max z (r + 1)) ∧ isRun o (k + 1) (r + 1) := ⟨isLong_s hk h (isRun_t hr ho), isRun_t hr ho⟩
theorem isLong_sf {o : Int → Int} {k z r : Int} (hk : 0 ≤ k) (h : isLong o k z) (hr : isRun o k r) (ho : o k ≠ 0) : isLong o (k + 1) (max z 0) ∧ isRun o (k + 1) 0 := ⟨isLong_s hk h (isRun_f hr ho), isRun_f hr ho⟩
/-- the longest run of all rows -/
def isLongR (n : Int) (w : Int → Int) (o : Int → Int → Int) (z : Int) : Prop := 0 ≤ z ∧ (∀ r f j : Int, 0 ≤ r → r < n → 0 ≤ f → 0 ≤ j → f + j ≤ w r → allF (o r) f j → j ≤ z) ∧ (z = 0 ∨ ∃ r f : Int, 0 ≤ r ∧ r < n ∧ 0 ≤ f ∧ f + z ≤ w r ∧ allF (o r) f z)
theorem isLongR_0 (w : Int → Int) (o : Int → Int → Int) : isLongR 0 w o 0 := ⟨Int.le_refl 0, fun r f j h0 h1 => by omega, Or.inl rfl⟩
theorem isLongR_s {n : Int} {w : Int → Int} {o : Int → Int → Int} {y z : Int} (hn : 0 ≤ n) (h : isLongR n w o z) (hr : isLong (o n) (w n) y) : isLongR (n + 1) w o (max z y) := by
  obtain ⟨a0, a1, a2⟩ := h
  obtain ⟨b0, b1, g, b2, b3, b4⟩ := hr
  refine ⟨by omega, fun r f j h0 h1 h2 h3 h4 h5 => ?_, ?_⟩
  · by_cases e : r = n
    · subst e
      have := b1 f j h2 h3 h4 h5; omega
    · have := a1 r f j h0 (by omega) h2 h3 h4 h5; omega
  · by_cases e : z ≤ y
    · rw [Int.max_eq_right e]
      exact Or.inr ⟨n, g, hn, by omega, b2, b3, b4⟩
    · rw [Int.max_eq_left (by omega)]
      rcases a2 with a2 | ⟨r, f, c1, c2, c3, c4, c5⟩
      · exact Or.inl a2
      · exact Or.inr ⟨r, f, c1, by omega, c3, c4, c5⟩
theorem isLongR_u {n : Int} {w w' : Int → Int} {o o' : Int → Int → Int} {y z : Int} (hw : ∀ r, 0 ≤ r → r < n → w r = w' r) (ho : ∀ r s : Int, 0 ≤ r → r < n → 0 ≤ s → s < w r → (o r s = 0 ↔ o' r s = 0)) (h1 : isLongR n w o y) (h2 : isLongR n w' o' z) : y = z := by
  obtain ⟨a0, a1, a2⟩ := h1
  obtain ⟨b0, b1, b2⟩ := h2
  have p : y ≤ z := by
    rcases a2 with a2 | ⟨r, f, c1, c2, c3, c4, c5⟩
    · omega
    · exact b1 r f y c1 c2 c3 a0 (by rw [← hw r c1 c2]; exact c4) (fun s h3 h4 => (ho r s c1 c2 (by omega) (by omega)).mp (c5 s h3 h4))
  have q : z ≤ y := by
    rcases b2 with b2 | ⟨r, f, c1, c2, c3, c4, c5⟩
    · omega
    · have e := hw r c1 c2
      exact a1 r f z c1 c2 c3 b0 (by omega) (fun s h3 h4 => (ho r s c1 c2 (by omega) (by omega)).mpr (c5 s h3 h4))
  omega
theorem allF_0 (o : Int → Int) (f : Int) : allF o f (f - f) := fun s h1 h2 => by omega
theorem allF_s {o : Int → Int} {f s : Int} (h : allF o f (s - f)) (hs : o s = 0) : allF o f (s + 1 - f) := fun x h1 h2 => by
  by_cases e : x = s
  · rw [e]; exact hs
  · exact h x h1 (by omega)
theorem vB_0 (sc w f : Int) : vB sc w f (f - f) = 0 := by
  unfold vB
  rw [show f - f = 0 by omega]; rfl
theorem vB_s {sc w f s : Int} (h : f ≤ s) : vB sc w f (s + 1 - f) = vB sc w f (s - f) + vS sc w s := by
  unfold vB
  rw [show s + 1 - f = (s - f) + 1 by omega, sumI_s (by omega), show f + (s - f) = s by omega]
/-- a seat is an orphan -/
def orC (w : Int) (o : Int → Int) (s : Int) : Int := if fr w o s ∧ ¬ fr w o (s - 1) ∧ ¬ fr w o (s + 1) then 1 else 0
/-- the blocks of k seats of a row that may be taken, their values -/
def cB (w : Int → Int) (o : Int → Int → Int) (k : Int) (al : Prop) (r f : Int) : Prop := f + k ≤ w r ∧ allF (o r) f k ∧ (al ∨ ¬ hasO (w r) (o r) f k)
def vBR (sc w : Int → Int) (k r f : Int) : Int := vB (sc r) (w r) f k
theorem isBest_all {c : Int → Prop} {v : Int → Int} {f z : Int} (h : isBest (fun g => g < f ∧ c g) v z) (hc : ∀ g, c g → g < f) : isBest c v z := by
  rcases h with ⟨a1, a2⟩ | ⟨a0, a1, a2⟩
  · exact Or.inl ⟨a1, fun g h0 h => a2 g h0 ⟨hc g h, h⟩⟩
  · exact Or.inr ⟨a0, a1.2, fun g h0 h => a2 g h0 ⟨hc g h, h⟩⟩
/-- the best of all rows: 100 times the row and the first seat; its value -/
def isBestRV (n : Int) (c : Int → Int → Prop) (v : Int → Int → Int) (z bv : Int) : Prop := (z = -1 ∧ ∀ r f : Int, 0 ≤ r → r < n → 0 ≤ f → ¬ c r f) ∨ (∃ r f : Int, z = 100 * r + f ∧ bv = v r f ∧ 0 ≤ r ∧ r < n ∧ 0 ≤ f ∧ c r f ∧ ∀ r' f' : Int, 0 ≤ r' → r' < n → 0 ≤ f' → c r' f' → v r' f' ≤ v r f ∧ (v r' f' = v r f → r < r' ∨ (r = r' ∧ f ≤ f')))
theorem isBestRV_0 (c : Int → Int → Prop) (v : Int → Int → Int) (bv : Int) : isBestRV 0 c v (-1) bv := Or.inl ⟨rfl, fun r f h0 h1 => by omega⟩
theorem isBestRV_none {n : Int} {c : Int → Int → Prop} {v : Int → Int → Int} {z bv : Int} (h : isBestRV n c v z bv) (hr : isBest (c n) (v n) (-1)) : isBestRV (n + 1) c v z bv := by
  have hn : ∀ f : Int, 0 ≤ f → ¬ c n f := by
    rcases hr with ⟨-, h⟩ | ⟨h, -⟩
    · exact h
    · omega
  rcases h with ⟨a1, a2⟩ | ⟨r, f, b1, b2, b3, b4, b5, b6, b7⟩
  · refine Or.inl ⟨a1, fun r f h0 h1 h2 hc => ?_⟩
    by_cases e : r = n
    · exact hn f h2 (e ▸ hc)
    · exact a2 r f h0 (by omega) h2 hc
  · refine Or.inr ⟨r, f, b1, b2, b3, by omega, b5, b6, fun r' f' h0 h1 h2 hc => ?_⟩
    by_cases e : r' = n
    · exact absurd (e ▸ hc) (hn f' h2)
    · exact b7 r' f' h0 (by omega) h2 hc
theorem isBestRV_take {n : Int} {c : Int → Int → Prop} {v : Int → Int → Int} {z bv g : Int} (h : isBestRV n c v z bv) (hn : 0 ≤ n) (hr : isBest (c n) (v n) g) (hg : g ≠ -1) (hb : z = -1 ∨ bv < v n g) : isBestRV (n + 1) c v (100 * n + g) (v n g) := by
  rcases hr with ⟨q, -⟩ | ⟨q0, q1, q2⟩
  · exact absurd q hg
  refine Or.inr ⟨n, g, rfl, rfl, hn, by omega, q0, q1, fun r' f' h0 h1 h2 hc => ?_⟩
  by_cases e : r' = n
  · subst e
    have := q2 f' h2 hc
    exact ⟨this.1, fun x => Or.inr ⟨rfl, this.2 x⟩⟩
  · rcases h with ⟨a1, a2⟩ | ⟨r, f, b1, b2, b3, b4, b5, b6, b7⟩
    · exact absurd hc (a2 r' f' h0 (by omega) h2)
    · have := b7 r' f' h0 (by omega) h2 hc
      rcases hb with hb | hb
      · omega
      · exact ⟨by omega, fun x => by omega⟩
theorem isBestRV_keep {n : Int} {c : Int → Int → Prop} {v : Int → Int → Int} {z bv g : Int} (h : isBestRV n c v z bv) (hr : isBest (c n) (v n) g) (hz : z ≠ -1) (hb : v n g ≤ bv) : isBestRV (n + 1) c v z bv := by
  rcases h with ⟨a1, a2⟩ | ⟨r, f, b1, b2, b3, b4, b5, b6, b7⟩
  · exact absurd a1 hz
  · refine Or.inr ⟨r, f, b1, b2, b3, by omega, b5, b6, fun r' f' h0 h1 h2 hc => ?_⟩
    by_cases e : r' = n
    · subst e
      rcases hr with ⟨q, q2⟩ | ⟨q0, q1, q2⟩
      · exact absurd hc (q2 f' h2)
      · have := q2 f' h2 hc
        exact ⟨by omega, fun x => Or.inl (by omega)⟩
    · exact b7 r' f' h0 (by omega) h2 hc
theorem isBestRV_u {n : Int} {c c' : Int → Int → Prop} {v v' : Int → Int → Int} {y z b b' : Int} (hc : ∀ r f : Int, 0 ≤ r → r < n → 0 ≤ f → (c r f ↔ c' r f)) (hv : ∀ r f : Int, 0 ≤ r → r < n → 0 ≤ f → c r f → v r f = v' r f) (h1 : isBestRV n c v y b) (h2 : isBestRV n c' v' z b') : y = z := by
  rcases h1 with ⟨a1, a2⟩ | ⟨r, f, b1, b2, b3, b4, b5, b6, b7⟩ <;> rcases h2 with ⟨d1, d2⟩ | ⟨r', f', e1, e2, e3, e4, e5, e6, e7⟩
  · omega
  · exact absurd ((hc r' f' e3 e4 e5).mpr e6) (a2 r' f' e3 e4 e5)
  · exact absurd ((hc r f b3 b4 b5).mp b6) (d2 r f b3 b4 b5)
  · have p := b7 r' f' e3 e4 e5 ((hc r' f' e3 e4 e5).mpr e6)
    have q := e7 r f b3 b4 b5 ((hc r f b3 b4 b5).mp b6)
    have x1 := hv r f b3 b4 b5 b6
    have x2 := hv r' f' e3 e4 e5 ((hc r' f' e3 e4 e5).mpr e6)
    rw [← x1, ← x2] at q
    have p2 := p.2
    have q2 := q.2
    omega
/-- some seats of a row get an owner -/
def giveM (M : Mem) (row f k ow : Int) : Mem := fun g i j => if g = 6 ∧ i = row ∧ f ≤ j ∧ j < f + k then ow else M g i j
theorem giveM_g {M : Mem} {row f k ow : Int} {g : Nat} (h : g ≠ 6) : giveM M row f k ow g = M g := by
  funext i j
  simp [giveM, h]
theorem giveM_0 (M : Mem) (row f ow : Int) : giveM M row f (f - f) ow = M := by
  funext g i j
  unfold giveM
  rw [if_neg (by omega)]
theorem giveM_s {M : Mem} {row f s ow : Int} (h : f ≤ s) : updM (giveM M row f (s - f) ow) 6 row s ow = giveM M row f (s + 1 - f) ow := by
  funext g i j
  unfold updM giveM
  by_cases h1 : g = 6 ∧ i = row ∧ j = s
  · rw [if_pos h1, if_pos (by omega)]
  · rw [if_neg h1]
    by_cases h2 : g = 6 ∧ i = row ∧ f ≤ j ∧ j < f + (s - f)
    · rw [if_pos h2, if_pos (by omega)]
    · rw [if_neg h2, if_neg (by omega)]
theorem HW_g {M M' : Mem} (h : HW M) (h1 : M' 1 = M 1) (h2 : M' 2 = M 2) (h3 : M' 3 = M 3) (h4 : M' 4 = M 4) : HW M' := by
  unfold HW
  rw [h1, h2, h3, h4]
  exact h
theorem HW_give {M : Mem} (h : HW M) (row f k ow : Int) : HW (giveM M row f k ow) := HW_g h (giveM_g (by decide)) (giveM_g (by decide)) (giveM_g (by decide)) (giveM_g (by decide))
/-- the seats of a ticket become free, those before the seat S of the row R so far -/
def relM (M : Mem) (t R S : Int) : Mem := fun g i j => if g = 6 ∧ 0 ≤ i ∧ 0 ≤ j ∧ j < M 2 0 i ∧ (i < R ∨ (i = R ∧ j < S)) ∧ M 6 i j = t then 0 else M g i j
theorem relM_g {M : Mem} {t R S : Int} {g : Nat} (h : g ≠ 6) : relM M t R S g = M g := by
  funext i j
  simp [relM, h]
theorem HW_rel {M : Mem} (h : HW M) (t R S : Int) : HW (relM M t R S) := HW_g h (relM_g (by decide)) (relM_g (by decide)) (relM_g (by decide)) (relM_g (by decide))
theorem relM_0 (M : Mem) (t : Int) : relM M t 0 0 = M := by
  funext g i j
  unfold relM
  rw [if_neg (by omega)]
theorem relM_at {M : Mem} {t R S : Int} : relM M t R S 6 R S = M 6 R S := by
  unfold relM
  rw [if_neg (by omega)]
theorem relM_y {M : Mem} {t R S : Int} (h0 : 0 ≤ R) (h1 : 0 ≤ S) (h2 : S < M 2 0 R) (h : M 6 R S = t) : updM (relM M t R S) 6 R S 0 = relM M t R (S + 1) := by
  funext g i j
  unfold updM relM
  by_cases e : g = 6 ∧ i = R ∧ j = S
  · obtain ⟨rfl, rfl, rfl⟩ := e
    rw [if_pos ⟨rfl, rfl, rfl⟩, if_pos ⟨rfl, h0, h1, h2, by omega, h⟩]
  · rw [if_neg e]
    by_cases e2 : g = 6 ∧ 0 ≤ i ∧ 0 ≤ j ∧ j < M 2 0 i ∧ (i < R ∨ (i = R ∧ j < S)) ∧ M 6 i j = t
    · rw [if_pos e2, if_pos ⟨e2.1, e2.2.1, e2.2.2.1, e2.2.2.2.1, by omega, e2.2.2.2.2.2⟩]
    · rw [if_neg e2, if_neg (fun q => e2 ⟨q.1, q.2.1, q.2.2.1, q.2.2.2.1, by omega, q.2.2.2.2.2⟩)]
theorem relM_n {M : Mem} {t R S : Int} (h : M 6 R S ≠ t) : relM M t R S = relM M t R (S + 1) := by
  funext g i j
  unfold relM
  by_cases e2 : g = 6 ∧ 0 ≤ i ∧ 0 ≤ j ∧ j < M 2 0 i ∧ (i < R ∨ (i = R ∧ j < S)) ∧ M 6 i j = t
  · rw [if_pos e2, if_pos ⟨e2.1, e2.2.1, e2.2.2.1, e2.2.2.2.1, by omega, e2.2.2.2.2.2⟩]
  · rw [if_neg e2, if_neg (fun q => e2 ⟨q.1, q.2.1, q.2.2.1, q.2.2.2.1, by
      rcases q.2.2.2.2.1 with a | ⟨a, b⟩
      · exact Or.inl a
      · by_cases c : j = S
        · exact absurd (a ▸ c ▸ q.2.2.2.2.2) h
        · exact Or.inr ⟨a, by omega⟩, q.2.2.2.2.2⟩)]
theorem relM_r {M : Mem} {t R S : Int} (h : M 2 0 R ≤ S) : relM M t R S = relM M t (R + 1) 0 := by
  funext g i j
  unfold relM
  by_cases e2 : g = 6 ∧ 0 ≤ i ∧ 0 ≤ j ∧ j < M 2 0 i ∧ (i < R ∨ (i = R ∧ j < S)) ∧ M 6 i j = t
  · rw [if_pos e2, if_pos ⟨e2.1, e2.2.1, e2.2.2.1, e2.2.2.2.1, by omega, e2.2.2.2.2.2⟩]
  · rw [if_neg e2, if_neg (fun q => e2 ⟨q.1, q.2.1, q.2.2.1, q.2.2.2.1, by
      rcases q.2.2.2.2.1 with a | ⟨a, b⟩
      · by_cases c : i = R
        · subst c; exact Or.inr ⟨rfl, by have := q.2.2.2.1; omega⟩
        · exact Or.inl (by omega)
      · have := q.2.2.1; omega, q.2.2.2.2.2⟩)]
theorem isBest_in {c : Int → Prop} {v : Int → Int} {z : Int} (h : isBest c v z) : z = -1 ∨ (0 ≤ z ∧ c z) := by
  rcases h with ⟨a, -⟩ | ⟨a, b, -⟩
  · exact Or.inl a
  · exact Or.inr ⟨a, b⟩
