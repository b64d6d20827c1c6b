theorem manyM_bd (M : Mem) (t : Int) : 0 ≤ manyM M t ∧ manyM M t ≤ 240 := by
  have q := sumI_bd (f := fun a => if M 34 0 a = t then 1 else 0) (z := 240) 0 1 (by decide) (fun a a0 a1 => by
    by_cases e : M 34 0 a = t
    · rw [if_pos e]; omega
    · rw [if_neg e]; omega)
  unfold manyM
  omega
theorem LV1_y {M : Mem} {sz fr_ t : Int} (hp : ptm M sz t) (he : enm M sz fr_ (M 39 0 t)) : LVm M sz fr_ 1 1 t :=
  ⟨fun _ => Or.inr ⟨by omega, by omega, he, fun k _ => by omega⟩, fun q => absurd hp q⟩
theorem LV1_n {M : Mem} {sz fr_ t : Int} (he : ¬ enm M sz fr_ (M 39 0 t)) : LVm M sz fr_ 1 0 t :=
  ⟨fun _ => Or.inl ⟨rfl, fun k hk hr => by
    have e : k = 0 := by omega
    subst e
    exact he hr⟩, fun _ => rfl⟩
theorem LV1_p {M : Mem} {sz fr_ t : Int} (hp : ¬ ptm M sz t) : LVm M sz fr_ 1 0 t := ⟨fun q => absurd q hp, fun _ => rfl⟩
def FAi (M m : Mem) (sz fr_ S u v : Int) : Prop := ((m 42 0 u ≠ 0 ∨ ¬ ptm M sz u) ∧ FA1 M m sz fr_ S (u + 1)) ∨ (m 42 0 u = 0 ∧ ptm M sz u ∧ FA2 M m sz fr_ S u v)
theorem FAi_0 {M m : Mem} {sz fr_ S u : Int} (h1 : 1 ≤ u) (h2 : u ≤ M 30 0 8) (h : FA1 M m sz fr_ S u) : FAi M m sz fr_ S u 1 := by
  by_cases e : m 42 0 u ≠ 0 ∨ ¬ ptm M sz u
  · exact Or.inl ⟨e, FA1_skip h (LVt_up ((h.2.2 u h1 h2).2 (Int.le_refl u)) e)⟩
  · have p : ptm M sz u := by
      by_cases q : ptm M sz u
      · exact q
      · exact absurd (Or.inr q) e
    have z : m 42 0 u = 0 := by
      by_cases q : m 42 0 u = 0
      · exact q
      · exact absurd (Or.inl q) e
    exact Or.inr ⟨z, p, h, fun y y1 y2 => by omega⟩
theorem FAi_p {M m : Mem} {sz fr_ S u v : Int} (hx : WIm M) (h1 : 1 ≤ v) (h2 : v ≤ M 30 0 8) (h : FA1 M m sz fr_ S u) : 0 ≤ m 44 0 v ↔ ptm M sz v := by
  rw [h.2.1 v h1 h2]
  by_cases p : ptm M sz v
  · rw [if_pos p]
    have := (hx v h1 h2 p.1).2.2.1
    exact ⟨fun _ => p, fun _ => this⟩
  · rw [if_neg p]
    exact ⟨fun q => by omega, fun q => absurd q p⟩
theorem FAi_all {M m : Mem} {sz fr_ S u v : Int} (hx : WIm M) (hS : 1 ≤ S) (h1 : 1 ≤ u) (h2 : u ≤ M 30 0 8) (h : FAi M m sz fr_ S u v) (hv : M 30 0 8 < v ∨ m 44 0 u < 0 ∨ m 42 0 u ≠ 0) : FA1 M m sz fr_ S (u + 1) := by
  rcases h with ⟨_, h⟩ | ⟨a, b, c, d⟩
  · exact h
  · have p := (FAi_p hx h1 h2 c).mpr b
    have hv2 : M 30 0 8 < v := by omega
    exact FA1_skip c (LVt_no hS b a ((c.2.2 u h1 h2).2 (Int.le_refl u)) (fun y y1 y2 => d y y1 (by omega)))
theorem FAi_far {M m : Mem} {sz fr_ S u v : Int} (hS : 1 ≤ S) (h1 : 1 ≤ v) (h2 : v ≤ M 30 0 8) (h : FA1 M m sz fr_ S u) : m 42 0 v = S ↔ ptm M sz v ∧ Rm M sz fr_ (S - 1).toNat (M 39 0 v) ∧ ∀ k : Nat, Rm M sz fr_ k (M 39 0 v) → S - 1 ≤ (k : Int) := by
  have q := h.2.2 v h1 h2
  by_cases e : v < u
  · exact LVt_at hS (by omega) (q.1 e)
  · exact LVt_at hS (Int.le_refl S) (q.2 (by omega))
theorem FAi_y {M m : Mem} {sz fr_ S u v x : Int} (hx : WIm M) (hS : 1 ≤ S) (u1 : 1 ≤ u) (u2 : u ≤ M 30 0 8) (v1 : 1 ≤ v) (v2 : v ≤ M 30 0 8) (h : FAi M m sz fr_ S u v) (c1 : 0 ≤ m 44 0 u) (c2 : m 42 0 u = 0) (f1 : 0 ≤ m 44 0 v) (f2 : m 44 0 v / 20 = M 39 0 u) (f3 : m 42 0 v = S) (hxx : x = S + 1) : FAi M (updM m 42 0 u x) sz fr_ S u (v + 1) := by
  subst hxx
  rcases h with ⟨a, h⟩ | ⟨a, b, c, d⟩
  · have p := (FAi_p hx u1 u2 h).mp c1
    rcases a with a | a
    · exact absurd c2 a
    · exact absurd p a
  · have pv := (FAi_p hx v1 v2 c).mp f1
    have fv := (FAi_far hS v1 v2 c).mp f3
    have ev := c.2.1 v v1 v2
    rw [if_pos pv] at ev
    refine Or.inl ⟨Or.inl (by rw [updM_same]; omega), FA1_set u1 c (LVt_yes hS b a ((c.2.2 u u1 u2).2 (Int.le_refl u)) ⟨v, v1, v2, ⟨pv, by unfold rwm; rw [← ev]; exact f2⟩, fv⟩)⟩
theorem FAi_n {M m : Mem} {sz fr_ S u v : Int} (hx : WIm M) (hS : 1 ≤ S) (u1 : 1 ≤ u) (u2 : u ≤ M 30 0 8) (v1 : 1 ≤ v) (v2 : v ≤ M 30 0 8) (h : FAi M m sz fr_ S u v) (c1 : 0 ≤ m 44 0 u) (c2 : m 42 0 u = 0) (f : ¬ ((0 ≤ m 44 0 v ∧ m 44 0 v / 20 = M 39 0 u) ∧ m 42 0 v = S)) : FAi M (updM m 42 0 u 0) sz fr_ S u (v + 1) := by
  have e : updM m 42 0 u 0 = m := by
    funext g i j
    unfold updM
    by_cases q : g = 42 ∧ i = 0 ∧ j = u
    · rw [if_pos q, q.1, q.2.1, q.2.2, c2]
    · rw [if_neg q]
  rw [e]
  rcases h with ⟨a, h⟩ | ⟨a, b, c, d⟩
  · have p := (FAi_p hx u1 u2 h).mp c1
    rcases a with a | a
    · exact absurd c2 a
    · exact absurd p a
  · refine Or.inr ⟨a, b, c, fun y y1 y2 q => ?_⟩
    by_cases e : y = v
    · subst e
      have ev := c.2.1 y v1 v2
      rw [if_pos q.2.1] at ev
      refine f ⟨⟨(FAi_p hx v1 v2 c).mpr q.2.1, ?_⟩, (FAi_far hS v1 v2 c).mpr q.2⟩
      rw [ev]; exact q.1.2
    · exact d y y1 (by omega) q
/-- the chain's next one -/
abbrev nxP (M : Mem) (sz fr_ c e x : Int) : Prop := ptm M sz x ∧ rwm M x = M 39 0 c ∧ isD (Rm M sz fr_) (M 39 0 x) e
theorem nx_ex {M : Mem} {sz fr_ c e : Int} (h0 : 0 ≤ e) (h2 : e ≤ 11) (h : isD (Rm M sz fr_) (M 39 0 c) (e + 1)) : ∃ y : Int, 1 ≤ y ∧ y ≤ M 30 0 8 ∧ nxP M sz fr_ c e y := by
  rcases h with ⟨a, _⟩ | ⟨a, b, c1, d⟩
  · omega
  · have r : Rm M sz fr_ (e.toNat + 1) (M 39 0 c) := by rw [show e.toNat + 1 = (e + 1).toNat by omega]; exact c1
    obtain ⟨y, y1, y2, y3, y4, y5, y6⟩ := reach_step r (fun k hk => by have := d k hk; omega)
    exact ⟨y, y1, y2, y3, y4, Or.inr ⟨h0, by omega, y5, fun k hk => by have := y6 k hk; omega⟩⟩
theorem nx_iff {M m : Mem} {sz fr_ c e x : Int} (hx : WIm M) (x1 : 1 ≤ x) (x2 : x ≤ M 30 0 8) (h0 : 0 ≤ e) (he : e ≤ 11) (h : FARd M m sz fr_) : ((0 ≤ m 44 0 x ∧ m 44 0 x / 20 = M 39 0 c) ∧ m 42 0 x = e + 1) ↔ nxP M sz fr_ c e x := by
  have q := h.2 x x1 x2
  constructor
  · intro ⟨⟨a1, a2⟩, a3⟩
    have p : ptm M sz x := by
      by_cases p : ptm M sz x
      · exact p
      · have := q.1; rw [if_neg p] at this; omega
    have e1 := q.1
    rw [if_pos p] at e1
    rcases q.2.2 p with ⟨b, _⟩ | ⟨b1, b2, b3⟩
    · omega
    · exact ⟨p, by unfold rwm; rw [← e1]; exact a2, by rw [show e = m 42 0 x - 1 by omega]; exact b3⟩
  · intro ⟨p, a2, a3⟩
    have e1 := q.1
    rw [if_pos p] at e1
    refine ⟨⟨by rw [e1]; exact (hx x x1 x2 p.1).2.2.1, by rw [e1]; exact a2⟩, ?_⟩
    rcases q.2.2 p with ⟨_, b⟩ | ⟨b1, b2, b3⟩
    · rcases a3 with ⟨c1, _⟩ | ⟨_, _, c1, _⟩
      · omega
      · exact absurd c1 (b _)
    · have := isD_u (fun _ => Iff.rfl) a3 b3
      omega
/-- the chain's changes -/
noncomputable def chgE (M : Mem) (n sz : Int) : Int := if 0 ≤ bFst (M 31 0) (oMd M) (M 32 0) sz (M 39 0 (M 43 0 (n - 1))) then 20 * M 39 0 (M 43 0 (n - 1)) + bFst (M 31 0) (oMd M) (M 32 0) sz (M 39 0 (M 43 0 (n - 1))) else M 44 0 (M 43 0 0)
noncomputable def chgA (M : Mem) (n sz : Int) : Mem := if 0 ≤ bFst (M 31 0) (oMd M) (M 32 0) sz (M 39 0 (M 43 0 (n - 1))) then ownM M (M 44 0 (M 43 0 0) / 20) (M 44 0 (M 43 0 0) % 20) sz 0 else M
/-- where the place k of the chain goes -/
def chgT (M : Mem) (n e k : Int) : Int := if k < n - 1 then M 44 0 (M 43 0 (k + 1)) else e
def chgS (M A : Mem) (n sz e : Int) : Nat → Mem
  | 0 => A
  | j + 1 => updM (ownM (chgS M A n sz e j) (chgT M n e (j : Int) / 20) (chgT M n e (j : Int) % 20) sz (M 43 0 (j : Int))) 39 0 (M 43 0 (j : Int)) (-1)
theorem chgS_s {M A : Mem} {n sz e k : Int} (h : 0 ≤ k) : chgS M A n sz e (k + 1).toNat = updM (ownM (chgS M A n sz e k.toNat) (chgT M n e k / 20) (chgT M n e k % 20) sz (M 43 0 k)) 39 0 (M 43 0 k) (-1) := by
  rw [show (k + 1).toNat = k.toNat + 1 by omega]
  simp only [chgS, Int.toNat_of_nonneg h]
theorem chgS_g {M A : Mem} {n sz e : Int} {g : Nat} (h1 : g ≠ 34) (h2 : g ≠ 39) : ∀ j : Nat, chgS M A n sz e j g = A g
  | 0 => rfl
  | j + 1 => by
    have ih := chgS_g (M := M) (A := A) (n := n) (sz := sz) (e := e) h1 h2 j
    simp only [chgS]
    rw [updM_g h2, ownM_g h1]; exact ih
theorem chgA_g {M : Mem} {n sz : Int} {g : Nat} (h1 : g ≠ 34) : chgA M n sz g = M g := by
  unfold chgA
  split
  · exact ownM_g h1
  · rfl
noncomputable def chgM (M : Mem) (n sz : Int) : Mem := chgS M (chgA M n sz) n sz (chgE M n sz) n.toNat
