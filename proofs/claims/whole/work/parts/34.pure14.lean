/-! the reference's tickets -/
/-- a ticket is closed: its seats before the place k are free -/
def cloM (M : Mem) (t how k : Int) : Mem := fun g i j => if g = 35 ∧ i = 0 ∧ j = t then how else if g = 34 ∧ i = 0 ∧ 0 ≤ j ∧ j < k ∧ M 34 0 j = t then 0 else M g i j
theorem cloM_g {M : Mem} {t how k : Int} {g : Nat} (h1 : g ≠ 34) (h2 : g ≠ 35) : cloM M t how k g = M g := by
  funext i j
  simp [cloM, h1, h2]
theorem cloM_0 (M : Mem) (t how : Int) : updM M 35 0 t how = cloM M t how 0 := by
  funext g i j
  unfold updM cloM
  by_cases e : g = 35 ∧ i = 0 ∧ j = t
  · rw [if_pos e, if_pos e]
  · rw [if_neg e, if_neg e, if_neg (by omega)]
theorem cloM_at {M : Mem} {t how k : Int} : cloM M t how k 34 0 k = M 34 0 k := by
  unfold cloM
  rw [if_neg (by omega), if_neg (by omega)]
theorem cloM_y {M : Mem} {t how k : Int} (hk : 0 ≤ k) (h : cloM M t how k 34 0 k = t) : updM (cloM M t how k) 34 0 k 0 = cloM M t how (k + 1) := by
  rw [cloM_at] at h
  funext g i j
  unfold updM cloM
  by_cases e : g = 34 ∧ i = 0 ∧ j = k
  · obtain ⟨rfl, rfl, rfl⟩ := e
    rw [if_pos ⟨rfl, rfl, rfl⟩, if_neg (by omega), if_pos ⟨rfl, rfl, hk, by omega, h⟩]
  · rw [if_neg e]
    by_cases e2 : g = 35 ∧ i = 0 ∧ j = t
    · rw [if_pos e2, if_pos e2]
    · rw [if_neg e2, if_neg e2]
      by_cases e3 : g = 34 ∧ i = 0 ∧ 0 ≤ j ∧ j < k ∧ M 34 0 j = t
      · rw [if_pos e3, if_pos ⟨e3.1, e3.2.1, e3.2.2.1, by omega, e3.2.2.2.2⟩]
      · rw [if_neg e3, if_neg (fun q => e3 ⟨q.1, q.2.1, q.2.2.1, by omega, q.2.2.2.2⟩)]
theorem cloM_n {M : Mem} {t how k : Int} (h : ¬ cloM M t how k 34 0 k = t) : updM (cloM M t how k) 34 0 k (cloM M t how k 34 0 k) = cloM M t how (k + 1) := by
  have h' := h
  rw [cloM_at] at h' ⊢
  funext g i j
  unfold updM
  by_cases e : g = 34 ∧ i = 0 ∧ j = k
  · obtain ⟨rfl, rfl, rfl⟩ := e
    rw [if_pos ⟨rfl, rfl, rfl⟩]
    unfold cloM
    rw [if_neg (by omega), if_neg (fun q => h' q.2.2.2.2)]
  · rw [if_neg e]
    unfold cloM
    by_cases e2 : g = 35 ∧ i = 0 ∧ j = t
    · rw [if_pos e2, if_pos e2]
    · rw [if_neg e2, if_neg e2]
      by_cases e3 : g = 34 ∧ i = 0 ∧ 0 ≤ j ∧ j < k ∧ M 34 0 j = t
      · rw [if_pos e3, if_pos ⟨e3.1, e3.2.1, e3.2.2.1, by omega, e3.2.2.2.2⟩]
      · rw [if_neg e3, if_neg (fun q => e3 ⟨q.1, q.2.1, q.2.2.1, by
          by_cases c : j = k
          · exact absurd (c ▸ q.2.2.2.2) h'
          · omega, q.2.2.2.2⟩)]
/-- the first place of a ticket; -1 without one -/
def isFst (o : Int → Int) (t n z : Int) : Prop := (z = -1 ∧ ∀ a : Int, 0 ≤ a → a < n → o a ≠ t) ∨ (0 ≤ z ∧ z < n ∧ o z = t ∧ ∀ a : Int, 0 ≤ a → a < z → o a ≠ t)
def isLst (o : Int → Int) (t n z : Int) : Prop := (z = -1 ∧ ∀ a : Int, 0 ≤ a → a < n → o a ≠ t) ∨ (0 ≤ z ∧ z < n ∧ o z = t ∧ ∀ a : Int, z < a → a < n → o a ≠ t)
theorem isFst_u {o : Int → Int} {t n y z : Int} (h : isFst o t n y) (h' : isFst o t n z) : y = z := by
  rcases h with ⟨a, b⟩ | ⟨a, b, c, d⟩ <;> rcases h' with ⟨a', b'⟩ | ⟨a', b', c', d'⟩
  · omega
  · exact absurd c' (b z a' b')
  · exact absurd c (b' y a b)
  · by_cases e : y < z
    · exact absurd c (d' y a e)
    · by_cases e2 : z < y
      · exact absurd c' (d z a' e2)
      · omega
theorem isLst_s {o : Int → Int} {t k z : Int} (hk : 0 ≤ k) (h : isLst o t k z) : isLst o t (k + 1) (if o k = t then k else z) := by
  by_cases e : o k = t
  · rw [if_pos e]
    exact Or.inr ⟨hk, by omega, e, fun a a1 a2 => by omega⟩
  · rw [if_neg e]
    rcases h with ⟨a, b⟩ | ⟨a, b, c, d⟩
    · exact Or.inl ⟨a, fun x x0 x1 => by
        by_cases q : x = k
        · rw [q]; exact e
        · exact b x x0 (by omega)⟩
    · exact Or.inr ⟨a, by omega, c, fun x x0 x1 => by
        by_cases q : x = k
        · rw [q]; exact e
        · exact d x x0 (by omega)⟩
theorem isLst_u {o : Int → Int} {t n y z : Int} (h : isLst o t n y) (h' : isLst o t n z) : y = z := by
  rcases h with ⟨a, b⟩ | ⟨a, b, c, d⟩ <;> rcases h' with ⟨a', b'⟩ | ⟨a', b', c', d'⟩
  · omega
  · exact absurd c' (b z a' b')
  · exact absurd c (b' y a b)
  · by_cases e : y < z
    · exact absurd c' (d z e b')
    · by_cases e2 : z < y
      · exact absurd c (d' y e2 b)
      · omega
/-- time passes: the reference's tickets one by one -/
def pdS (M : Mem) : Nat → Mem
  | 0 => M
  | j + 1 => if pdS M j 35 0 ((j : Int) + 1) = 0 ∧ pdS M j 36 0 ((j : Int) + 1) ≤ M 30 0 1 then cloM (pdS M j) ((j : Int) + 1) 2 240 else pdS M j
def pdC (M : Mem) : Nat → Int
  | 0 => 0
  | j + 1 => if pdS M j 35 0 ((j : Int) + 1) = 0 ∧ pdS M j 36 0 ((j : Int) + 1) ≤ M 30 0 1 then pdC M j + 1 else pdC M j
theorem pdS_g {M : Mem} {g : Nat} (h1 : g ≠ 34) (h2 : g ≠ 35) : ∀ j : Nat, pdS M j g = M g
  | 0 => rfl
  | j + 1 => by
    have ih := pdS_g (M := M) h1 h2 j
    simp only [pdS]
    split
    · rw [cloM_g h1 h2]; exact ih
    · exact ih
theorem pdS_s {M : Mem} {t : Int} (h : 1 ≤ t) : (pdS M (t + 1 - 1).toNat = if pdS M (t - 1).toNat 35 0 t = 0 ∧ M 36 0 t ≤ M 30 0 1 then cloM (pdS M (t - 1).toNat) t 2 240 else pdS M (t - 1).toNat) ∧ pdC M (t + 1 - 1).toNat = if pdS M (t - 1).toNat 35 0 t = 0 ∧ M 36 0 t ≤ M 30 0 1 then pdC M (t - 1).toNat + 1 else pdC M (t - 1).toNat := by
  have e : (t + 1 - 1).toNat = (t - 1).toNat + 1 := by omega
  have e2 : (((t - 1).toNat : Nat) : Int) + 1 = t := by omega
  rw [e]
  simp only [pdS, pdC, e2, pdS_g (M := M) (g := 36) (by decide) (by decide)]
  exact ⟨trivial, trivial⟩
theorem pdC_bd (M : Mem) : ∀ j : Nat, 0 ≤ pdC M j ∧ pdC M j ≤ (j : Int)
  | 0 => by simp [pdC]
  | j + 1 => by
    have := pdC_bd M j
    simp only [pdC]
    split <;> omega
abbrev manyM (M : Mem) (t : Int) : Int := sumI (fun a => if M 34 0 a = t then 1 else 0) 240
abbrev pricM (M : Mem) (t : Int) : Int := sumI (fun a => if M 34 0 a = t then M 33 0 (a / 20) else 0) 240
/-- the reference lays a split's blocks -/
noncomputable def hgS (M B : Mem) (t : Int) : Nat → Mem
  | 0 => B
  | j + 1 => if 0 < M 41 0 (j : Int) then ownM (hgS M B t j) (j : Int) (bFst (M 31 0) (oMd M) (M 32 0) (M 41 0 (j : Int)) (j : Int)) (M 41 0 (j : Int)) t else hgS M B t j
theorem hgS_s {M B : Mem} {t r : Int} (h : 0 ≤ r) : hgS M B t (r + 1).toNat = if 0 < M 41 0 r then ownM (hgS M B t r.toNat) r (bFst (M 31 0) (oMd M) (M 32 0) (M 41 0 r) r) (M 41 0 r) t else hgS M B t r.toNat := by
  rw [show (r + 1).toNat = r.toNat + 1 by omega]
  simp only [hgS, Int.toNat_of_nonneg h]
theorem hgS_g {M B : Mem} {t : Int} {g : Nat} (h : g ≠ 34) : ∀ j : Nat, hgS M B t j g = B g
  | 0 => rfl
  | j + 1 => by
    have ih := hgS_g (M := M) (B := B) (t := t) h j
    simp only [hgS]
    split
    · rw [ownM_g h]; exact ih
    · exact ih
/-- the places from a row on stay, as long as the blocks lie in their rows -/
theorem hgS_row {M B : Mem} {t : Int} : ∀ (j : Nat) (_ : ∀ r : Int, 0 ≤ r → r < (j : Int) → 0 < M 41 0 r → bFst (M 31 0) (oMd M) (M 32 0) (M 41 0 r) r + M 41 0 r ≤ 20) (a : Int), 20 * (j : Int) ≤ a → hgS M B t j 34 0 a = B 34 0 a
  | 0, _, _, _ => rfl
  | j + 1, h, a, ha => by
    have ih := hgS_row (M := M) (B := B) (t := t) j (fun r r0 r1 r2 => h r r0 (by omega) r2) a (by omega)
    simp only [hgS]
    split
    · next q =>
      have := h (j : Int) (by omega) (by omega) q
      unfold ownM
      rw [if_neg (by omega)]
      exact ih
    · exact ih
theorem SPLd_ok {M m : Mem} {people z : Int} (hw : HWm M) (h : SPLd M m people z) : ∀ r : Int, 0 ≤ r → r < M 30 0 3 → (0 ≤ m 41 0 r ∧ m 41 0 r ≤ 20) ∧ (0 < m 41 0 r → 2 ≤ m 41 0 r ∧ okd M r (m 41 0 r) ∧ 0 ≤ bFst (M 31 0) (oMd M) (M 32 0) (m 41 0 r) r ∧ bFst (M 31 0) (oMd M) (M 32 0) (m 41 0 r) r + m 41 0 r ≤ M 31 0 r) := by
  obtain ⟨_, _, g, _, hT, hb⟩ := h
  intro r r0 r1
  refine ⟨hb r r0 r1, fun q => ?_⟩
  rcases TK_ok _ _ _ _ hT r (by omega) r1 with t | ⟨t1, t2⟩
  · omega
  · have sp := bFst_sp (M 31 0) (oMd M) (M 32 0) (m 41 0 r) r
    have b3 : 0 ≤ bFst (M 31 0) (oMd M) (M 32 0) (m 41 0 r) r := t2
    rcases isBest_in sp with c | c
    · omega
    · exact ⟨t1, t2, b3, c.2.1⟩
/-- the search in a row sees only the row -/
theorem bFst_cg {w sc : Int → Int} {o o' : Int → Int → Int} {s r z : Int} (ho : ∀ a : Int, 0 ≤ a → a < w r → o' r a = o r a) (h : isBest (cB w o' s True r) (vBR sc w s r) z) : z = bFst w o sc s r :=
  isBest_u (fun f f0 => by
    unfold cB
    constructor
    · intro ⟨a, b, _⟩
      exact ⟨a, fun x x1 x2 => by rw [← ho x (by omega) (by omega)]; exact b x x1 x2, Or.inl trivial⟩
    · intro ⟨a, b, _⟩
      exact ⟨a, fun x x1 x2 => by rw [ho x (by omega) (by omega)]; exact b x x1 x2, Or.inl trivial⟩) (fun _ _ _ => rfl) h (bFst_sp w o sc s r)
theorem pricM_bd {M : Mem} (h : ∀ r : Int, 0 ≤ r → r < 12 → 0 ≤ M 33 0 r ∧ M 33 0 r ≤ 10000) (t : Int) : 0 ≤ pricM M t ∧ pricM M t ≤ 2400000 := by
  have q := sumI_bd (f := fun a => if M 34 0 a = t then M 33 0 (a / 20) else 0) (z := 240) 0 10000 (by decide) (fun a a0 a1 => by
    have := h (a / 20) (by omega) (by omega)
    by_cases e : M 34 0 a = t
    · rw [if_pos e]; omega
    · rw [if_neg e]; omega)
  unfold pricM
  omega
def pdaM (M : Mem) (minutes : Int) : Mem := pdS (updM (thr M 0) 30 0 1 (M 30 0 1 + minutes)) (M 30 0 8).toNat
def pdaC (M : Mem) (minutes : Int) : Int := pdC (updM (thr M 0) 30 0 1 (M 30 0 1 + minutes)) (M 30 0 8).toNat
theorem isFst_bd {o : Int → Int} {t z : Int} (h : isFst o t 240 z) : -1 ≤ z ∧ z < 240 := by
  rcases h with ⟨a, _⟩ | ⟨a, b, _⟩ <;> omega
theorem isLst_bd {o : Int → Int} {t z : Int} (h : isLst o t 240 z) : -1 ≤ z ∧ z < 240 := by
  rcases h with ⟨a, _⟩ | ⟨a, b, _⟩ <;> omega
theorem isFst_0 {o : Int → Int} {t z : Int} (h : isFst o t 240 z) (hx : ∃ a : Int, 0 ≤ a ∧ a < 240 ∧ o a = t) : 0 ≤ z ∧ z < 240 := by
  rcases h with ⟨_, b⟩ | ⟨a, b, _⟩
  · obtain ⟨a, a0, a1, a2⟩ := hx
    exact absurd a2 (b a a0 a1)
  · omega
theorem isLst_0 {o : Int → Int} {t z : Int} (h : isLst o t 240 z) (hx : ∃ a : Int, 0 ≤ a ∧ a < 240 ∧ o a = t) : 0 ≤ z ∧ z < 240 := by
  rcases h with ⟨_, b⟩ | ⟨a, b, _⟩
  · obtain ⟨a, a0, a1, a2⟩ := hx
    exact absurd a2 (b a a0 a1)
  · omega
