/-! the reference's exchange -/
noncomputable def fsM (M : Mem) (t : Int) : Int := Classical.epsilon (isFst (M 34 0) t 240)
theorem fsM_eq {M : Mem} {t z : Int} (h : isFst (M 34 0) t 240 z) : fsM M t = z :=
  isFst_u (Classical.epsilon_spec (p := isFst (M 34 0) t 240) ⟨z, h⟩) h
abbrev hsW (M : Mem) (t : Int) : Prop := M 35 0 t = 1 ∧ 0 ≤ M 39 0 t
abbrev ptm (M : Mem) (sz t : Int) : Prop := hsW M t ∧ manyM M t = sz
noncomputable abbrev rwm (M : Mem) (t : Int) : Int := fsM M t / 20
def enm (M : Mem) (sz fr_ r : Int) : Prop := (0 ≤ r ∧ r < M 30 0 3) ∧ (r = fr_ ∨ okd M r sz)
abbrev Rm (M : Mem) (sz fr_ : Int) : Nat → Int → Prop := reach (M 30 0 8) (ptm M sz) (rwm M) (M 39 0) (enm M sz fr_)
/-- those who wish have their block -/
def WIm (M : Mem) : Prop := ∀ t : Int, 1 ≤ t → t ≤ M 30 0 8 → hsW M t → (M 39 0 t < M 30 0 3) ∧ isFst (M 34 0) t 240 (fsM M t) ∧ 0 ≤ fsM M t ∧ fsM M t < 240 ∧ fsM M t / 20 < M 30 0 3
theorem WIm.pt {M : Mem} (h : WIm M) {sz : Int} : (∀ t, 1 ≤ t → t ≤ M 30 0 8 → ptm M sz t → 0 ≤ rwm M t ∧ rwm M t < M 30 0 3) ∧ ∀ t, 1 ≤ t → t ≤ M 30 0 8 → ptm M sz t → 0 ≤ M 39 0 t ∧ M 39 0 t < M 30 0 3 := by
  constructor
  · intro t t1 t2 t3
    have q := h t t1 t2 t3.1
    exact ⟨by unfold rwm; omega, q.2.2.2.2⟩
  · intro t t1 t2 t3
    exact ⟨t3.1.2, (h t t1 t2 t3.1).1⟩
/-- one ticket's distance, as far as S -/
def LVt (T : Int) (pt : Int → Prop) (R : Nat → Int → Prop) (ws : Int → Int) (S x t : Int) : Prop := (pt t → (x = 0 ∧ ∀ k : Nat, (k : Int) < S → ¬ R k (ws t)) ∨ (1 ≤ x ∧ x ≤ S ∧ R (x - 1).toNat (ws t) ∧ ∀ k : Nat, R k (ws t) → x - 1 ≤ (k : Int))) ∧ (¬ pt t → x = 0)
theorem LVt_at {T : Int} {pt : Int → Prop} {R : Nat → Int → Prop} {ws : Int → Int} {S S' x t : Int} (h1 : 1 ≤ S) (hS : S ≤ S') (h : LVt T pt R ws S' x t) : x = S ↔ pt t ∧ R (S - 1).toNat (ws t) ∧ ∀ k : Nat, R k (ws t) → S - 1 ≤ (k : Int) := by
  constructor
  · intro e
    subst e
    by_cases p : pt t
    · rcases h.1 p with ⟨a, _⟩ | ⟨a, b, c, d⟩
      · omega
      · exact ⟨p, c, d⟩
    · have := h.2 p; omega
  · intro ⟨p, q1, q2⟩
    rcases h.1 p with ⟨_, b⟩ | ⟨a, b, c, d⟩
    · exact absurd q1 (b _ (by omega))
    · have y := d _ q1
      have z := q2 _ c
      omega
/-- what a ticket without a distance asks of the others -/
theorem LVt_fol {T : Int} {pt : Int → Prop} {rw_ ws : Int → Int} {en : Int → Prop} {S : Int} (hS : 1 ≤ S) {t : Int} (hn : ∀ k : Nat, (k : Int) < S → ¬ reach T pt rw_ ws en k (ws t)) : reach T pt rw_ ws en S.toNat (ws t) ↔ ∃ y : Int, 1 ≤ y ∧ y ≤ T ∧ (pt y ∧ rw_ y = ws t) ∧ pt y ∧ reach T pt rw_ ws en (S - 1).toNat (ws y) ∧ ∀ k : Nat, reach T pt rw_ ws en k (ws y) → S - 1 ≤ (k : Int) := by
  rw [show S.toNat = (S - 1).toNat + 1 by omega]
  constructor
  · intro ⟨y, y1, y2, y3, y4, y5⟩
    refine ⟨y, y1, y2, ⟨y3, y4⟩, y3, y5, fun k hk => ?_⟩
    by_cases q : S - 1 ≤ (k : Int)
    · exact q
    · exact absurd ⟨y, y1, y2, y3, y4, hk⟩ (hn (k + 1) (by omega))
  · intro ⟨y, y1, y2, ⟨_, y4⟩, y3, y5, _⟩
    exact ⟨y, y1, y2, y3, y4, y5⟩
/-- a step more: the ticket has its distance -/
theorem LVt_yes {T : Int} {pt : Int → Prop} {rw_ ws : Int → Int} {en : Int → Prop} {S x t : Int} (hS : 1 ≤ S) (hp : pt t) (hx : x = 0) (h : LVt T pt (reach T pt rw_ ws en) ws S x t) (hy : ∃ y : Int, 1 ≤ y ∧ y ≤ T ∧ (pt y ∧ rw_ y = ws t) ∧ pt y ∧ reach T pt rw_ ws en (S - 1).toNat (ws y) ∧ ∀ k : Nat, reach T pt rw_ ws en k (ws y) → S - 1 ≤ (k : Int)) : LVt T pt (reach T pt rw_ ws en) ws (S + 1) (S + 1) t := by
  rcases h.1 hp with ⟨_, hn⟩ | ⟨a, _⟩
  · refine ⟨fun _ => Or.inr ⟨by omega, by omega, ?_, fun k hk => ?_⟩, fun q => absurd hp q⟩
    · rw [show S + 1 - 1 = S by omega]
      exact (LVt_fol hS hn).mpr hy
    · by_cases q : (k : Int) < S
      · exact absurd hk (hn k q)
      · omega
  · omega
theorem LVt_no {T : Int} {pt : Int → Prop} {rw_ ws : Int → Int} {en : Int → Prop} {S x t : Int} (hS : 1 ≤ S) (hp : pt t) (hx : x = 0) (h : LVt T pt (reach T pt rw_ ws en) ws S x t) (hy : ∀ y : Int, 1 ≤ y → y ≤ T → ¬ ((pt y ∧ rw_ y = ws t) ∧ pt y ∧ reach T pt rw_ ws en (S - 1).toNat (ws y) ∧ ∀ k : Nat, reach T pt rw_ ws en k (ws y) → S - 1 ≤ (k : Int))) : LVt T pt (reach T pt rw_ ws en) ws (S + 1) x t := by
  rcases h.1 hp with ⟨_, hn⟩ | ⟨a, _⟩
  · refine ⟨fun _ => Or.inl ⟨hx, fun k hk hr => ?_⟩, fun q => absurd hp q⟩
    by_cases q : (k : Int) < S
    · exact hn k q hr
    · have e : k = S.toNat := by omega
      subst e
      obtain ⟨y, y1, y2, y3⟩ := (LVt_fol hS hn).mp hr
      exact hy y y1 y2 y3
  · omega
theorem LVt_up {T : Int} {pt : Int → Prop} {R : Nat → Int → Prop} {ws : Int → Int} {S x t : Int} (h : LVt T pt R ws S x t) (hx : x ≠ 0 ∨ ¬ pt t) : LVt T pt R ws (S + 1) x t := by
  refine ⟨fun p => ?_, h.2⟩
  rcases h.1 p with ⟨a, _⟩ | ⟨a, b, c, d⟩
  · rcases hx with hx | hx
    · exact absurd a hx
    · exact absurd p hx
  · exact Or.inr ⟨a, by omega, c, d⟩
/-- a shortest way meets as many tickets -/
theorem reachT_all {T : Int} {pt : Int → Prop} {rw_ ws : Int → Int} {en : Int → Prop} : ∀ (d : Nat) (t : Int), (1 ≤ t ∧ t ≤ T) → reach T pt rw_ ws en d (ws t) → (∀ k, reach T pt rw_ ws en k (ws t) → d ≤ k) → ∀ e, e ≤ d → ∃ x : Int, (1 ≤ x ∧ x ≤ T) ∧ reach T pt rw_ ws en e (ws x) ∧ ∀ k, reach T pt rw_ ws en k (ws x) → e ≤ k
  | 0, t, ht, h, hm, e, he => ⟨t, ht, by rw [show e = 0 by omega]; exact h, fun k hk => by omega⟩
  | d + 1, t, ht, h, hm, e, he => by
    by_cases q : e = d + 1
    · subst q
      exact ⟨t, ht, h, hm⟩
    · obtain ⟨y, h1, h2, h3, h4, h5, h6⟩ := reach_step h hm
      exact reachT_all d y ⟨h1, h2⟩ h5 h6 e (by omega)
theorem reachT_lt {T : Int} {pt : Int → Prop} {rw_ ws : Int → Int} {en : Int → Prop} {d : Nat} {t : Int} (ht : 1 ≤ t ∧ t ≤ T) (h : reach T pt rw_ ws en d (ws t)) (hm : ∀ k, reach T pt rw_ ws en k (ws t) → d ≤ k) : (d : Int) < T := by
  have A := reachT_all d t ht h hm
  have := pigeon T.toNat (d + 1) (fun e => if he : e ≤ d then Classical.choose (A e he) - 1 else 0) (fun k hk => by
    rw [dif_pos (show k ≤ d by omega)]
    have := (Classical.choose_spec (A k (by omega))).1
    omega) (fun i j hi hj q => by
    rw [dif_pos (show i ≤ d by omega), dif_pos (show j ≤ d by omega)] at q
    have a := Classical.choose_spec (A i (by omega))
    have b := Classical.choose_spec (A j (by omega))
    have q2 : Classical.choose (A i (by omega)) = Classical.choose (A j (by omega)) := by omega
    rw [q2] at a
    have x := a.2.2 _ b.2.1
    have y := b.2.2 _ a.2.1
    omega)
  omega
/-- after the last step: the distance of the wish, if there is one -/
theorem LVt_all {T : Int} {pt : Int → Prop} {rw_ ws : Int → Int} {en : Int → Prop} {n x t : Int} (hn : n ≤ 12) (hen : ∀ r, en r → 0 ≤ r ∧ r < n) (hpt : ∀ t, 1 ≤ t → t ≤ T → pt t → 0 ≤ rw_ t ∧ rw_ t < n) (ht : 1 ≤ t ∧ t ≤ T) (hp : pt t) (h : LVt T pt (reach T pt rw_ ws en) ws T x t) : (x = 0 ∧ ∀ k : Nat, ¬ reach T pt rw_ ws en k (ws t)) ∨ (1 ≤ x ∧ x ≤ 12 ∧ isD (reach T pt rw_ ws en) (ws t) (x - 1)) := by
  rcases h.1 hp with ⟨a, b⟩ | ⟨a, b, c, d⟩
  · refine Or.inl ⟨a, fun k hk => ?_⟩
    obtain ⟨m, m1, m2⟩ := leastN (P := fun j => reach T pt rw_ ws en j (ws t)) k k (Nat.le_refl k) hk
    have := reachT_lt ht m1 m2
    exact b m this m1
  · have l := reach_lt hen hpt c (fun k hk => by have := d k hk; omega)
    exact Or.inr ⟨a, by omega, Or.inr ⟨by omega, by omega, c, d⟩⟩
theorem Rm_en {M : Mem} {sz fr_ : Int} : ∀ r, enm M sz fr_ r → 0 ≤ r ∧ r < M 30 0 3 := fun _ h => h.1
abbrev LVm (M : Mem) (sz fr_ S x t : Int) : Prop := LVt (M 30 0 8) (ptm M sz) (Rm M sz fr_) (M 39 0) S x t
/-- the reference's first round: the tickets below u -/
def FA0 (M m : Mem) (sz fr_ u : Int) : Prop := (∀ g : Nat, g ≠ 42 → g ≠ 44 → m g = M g) ∧ ∀ t : Int, 1 ≤ t → t < u → m 44 0 t = (if ptm M sz t then fsM M t else -1) ∧ LVm M sz fr_ 1 (m 42 0 t) t
theorem FA0_s {M m : Mem} {sz fr_ u a b : Int} (h : FA0 M m sz fr_ u) (ha : LVm M sz fr_ 1 a u) (hb : b = if ptm M sz u then fsM M u else -1) : FA0 M (updM (updM m 42 0 u a) 44 0 u b) sz fr_ (u + 1) := by
  refine ⟨fun g g1 g2 => by rw [updM_g g2, updM_g g1]; exact h.1 g g1 g2, fun t t1 t2 => ?_⟩
  by_cases e : t = u
  · subst e
    exact ⟨by rw [updM_same, hb], by rw [updM_g (by decide), updM_same]; exact ha⟩
  · have q := h.2 t t1 (by omega)
    exact ⟨by rw [updM_j e, updM_g (by decide)]; exact q.1, by rw [updM_g (by decide), updM_j e]; exact q.2⟩
/-- the steps: those below u have done the step S -/
def FA1 (M m : Mem) (sz fr_ S u : Int) : Prop := (∀ g : Nat, g ≠ 42 → g ≠ 44 → m g = M g) ∧ (∀ t : Int, 1 ≤ t → t ≤ M 30 0 8 → m 44 0 t = (if ptm M sz t then fsM M t else -1)) ∧ ∀ t : Int, 1 ≤ t → t ≤ M 30 0 8 → (t < u → LVm M sz fr_ (S + 1) (m 42 0 t) t) ∧ (u ≤ t → LVm M sz fr_ S (m 42 0 t) t)
theorem FA1_0 {M m : Mem} {sz fr_ u : Int} (hu : M 30 0 8 < u) (h : FA0 M m sz fr_ u) : FA1 M m sz fr_ 1 1 := ⟨h.1, fun t t1 t2 => (h.2 t t1 (by omega)).1, fun t t1 t2 => ⟨fun q => by omega, fun _ => (h.2 t t1 (by omega)).2⟩⟩
theorem FA1_up {M m : Mem} {sz fr_ S u : Int} (hu : M 30 0 8 < u) (h : FA1 M m sz fr_ S u) : FA1 M m sz fr_ (S + 1) 1 := ⟨h.1, h.2.1, fun t t1 t2 => ⟨fun q => by omega, fun _ => (h.2.2 t t1 t2).1 (by omega)⟩⟩
theorem FA1_skip {M m : Mem} {sz fr_ S u : Int} (h : FA1 M m sz fr_ S u) (hu : LVm M sz fr_ (S + 1) (m 42 0 u) u) : FA1 M m sz fr_ S (u + 1) := ⟨h.1, h.2.1, fun t t1 t2 => ⟨fun q => by
  by_cases e : t = u
  · subst e; exact hu
  · exact (h.2.2 t t1 t2).1 (by omega), fun q => (h.2.2 t t1 t2).2 (by omega)⟩⟩
/-- a place of the step: the ticket u looks at the tickets below v -/
def FA2 (M m : Mem) (sz fr_ S u v : Int) : Prop := FA1 M m sz fr_ S u ∧ ∀ y : Int, 1 ≤ y → y < v → ¬ ((ptm M sz y ∧ rwm M y = M 39 0 u) ∧ ptm M sz y ∧ Rm M sz fr_ (S - 1).toNat (M 39 0 y) ∧ ∀ k : Nat, Rm M sz fr_ k (M 39 0 y) → S - 1 ≤ (k : Int))
theorem FA1_set {M m : Mem} {sz fr_ S u a : Int} (h1 : 1 ≤ u) (h : FA1 M m sz fr_ S u) (ha : LVm M sz fr_ (S + 1) a u) : FA1 M (updM m 42 0 u a) sz fr_ S (u + 1) := ⟨fun g g1 g2 => by rw [updM_g g1]; exact h.1 g g1 g2, fun t t1 t2 => by rw [updM_g (by decide)]; exact h.2.1 t t1 t2, fun t t1 t2 => by
  by_cases e : t = u
  · subst e
    rw [updM_same]
    exact ⟨fun _ => ha, fun q => by omega⟩
  · rw [updM_j e]
    exact ⟨fun q => (h.2.2 t t1 t2).1 (by omega), fun q => (h.2.2 t t1 t2).2 (by omega)⟩⟩
theorem FA1_same {M m : Mem} {sz fr_ S u : Int} (h : FA1 M m sz fr_ S u) (h0 : m 42 0 u = 0) : FA1 M (updM m 42 0 u 0) sz fr_ S u := by
  have e : updM m 42 0 u 0 = m := by
    funext g i j
    unfold updM
    by_cases q : g = 42 ∧ i = 0 ∧ j = u
    · rw [if_pos q, q.1, q.2.1, q.2.2, h0]
    · rw [if_neg q]
  rw [e]; exact h
/-- the reference's distances are laid -/
def FARd (M m : Mem) (sz fr_ : Int) : Prop := (∀ g : Nat, g ≠ 42 → g ≠ 44 → m g = M g) ∧ ∀ t : Int, 1 ≤ t → t ≤ M 30 0 8 → (m 44 0 t = (if ptm M sz t then fsM M t else -1)) ∧ (¬ ptm M sz t → m 42 0 t = 0) ∧ (ptm M sz t → (m 42 0 t = 0 ∧ ∀ k : Nat, ¬ Rm M sz fr_ k (M 39 0 t)) ∨ (1 ≤ m 42 0 t ∧ m 42 0 t ≤ 12 ∧ isD (Rm M sz fr_) (M 39 0 t) (m 42 0 t - 1)))
theorem FARd_mk {M m : Mem} {sz fr_ S : Int} (hw : HWm M) (hx : WIm M) (hS : M 30 0 8 ≤ S) (hS2 : S = M 30 0 8 ∨ M 30 0 8 ≤ 1) (h1 : 1 ≤ S) (h : FA1 M m sz fr_ S 1) : FARd M m sz fr_ := by
  refine ⟨h.1, fun t t1 t2 => ⟨h.2.1 t t1 t2, fun q => ((h.2.2 t t1 t2).2 t1).2 q, fun q => ?_⟩⟩
  have L := (h.2.2 t t1 t2).2 t1
  have hS3 : LVm M sz fr_ (M 30 0 8) (m 42 0 t) t := by
    refine ⟨fun p => ?_, L.2⟩
    rcases L.1 p with ⟨a, b⟩ | ⟨a, b, c, d⟩
    · exact Or.inl ⟨a, fun k hk => b k (by omega)⟩
    · refine Or.inr ⟨a, ?_, c, d⟩
      have := reachT_lt ⟨t1, t2⟩ c (fun k hk => by have := d k hk; omega)
      omega
  exact LVt_all hw.2.1 Rm_en hx.pt.1 ⟨t1, t2⟩ q hS3
