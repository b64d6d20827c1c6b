/-! the exchange's arrays -/
def XW (M : Mem) : Prop := ∀ t : Int, 1 ≤ t → t ≤ M 7 0 8 → M 15 0 t = -1 ∨ (0 ≤ M 15 0 t ∧ M 15 0 t < M 1 0 4 ∧ 0 ≤ M 13 0 t ∧ M 13 0 t < M 1 0 4)
abbrev ptM (M : Mem) (sz t : Int) : Prop := M 15 0 t ≠ -1 ∧ M 9 0 t = sz
def enM (M : Mem) (sz fr_ r : Int) : Prop := (0 ≤ r ∧ r < M 1 0 4) ∧ (r = fr_ ∨ okM M r sz)
abbrev RM (M : Mem) (sz fr_ : Int) : Nat → Int → Prop := reach (M 7 0 8) (ptM M sz) (M 13 0) (M 15 0) (enM M sz fr_)
theorem XW.pt {M : Mem} (h : XW M) {sz : Int} : (∀ t, 1 ≤ t → t ≤ M 7 0 8 → ptM M sz t → 0 ≤ M 13 0 t ∧ M 13 0 t < M 1 0 4) ∧ ∀ t, 1 ≤ t → t ≤ M 7 0 8 → ptM M sz t → 0 ≤ M 15 0 t ∧ M 15 0 t < M 1 0 4 := by
  constructor
  · intro t t1 t2 t3
    rcases h t t1 t2 with q | q
    · exact absurd q t3.1
    · exact ⟨q.2.2.1, q.2.2.2⟩
  · intro t t1 t2 t3
    rcases h t t1 t2 with q | q
    · exact absurd q t3.1
    · exact ⟨q.1, q.2.1⟩
theorem RM_cg {M m : Mem} (h : ∀ g : Nat, g < 16 → m g = M g) (sz fr_ : Int) : RM m sz fr_ = RM M sz fr_ := by
  have e : enM m sz fr_ = enM M sz fr_ := by
    funext r
    unfold enM okM
    rw [h 1 (by decide), h 2 (by decide), h 3 (by decide), h 6 (by decide)]
  unfold RM ptM
  rw [e, h 7 (by decide), h 9 (by decide), h 13 (by decide), h 15 (by decide)]
theorem XW_cg {M m : Mem} (h : ∀ g : Nat, g < 16 → m g = M g) (q : XW M) : XW m := by
  unfold XW at q ⊢
  rw [h 1 (by decide), h 7 (by decide), h 13 (by decide), h 15 (by decide)]
  exact q
/-- a row's end, by the search in it -/
theorem okM_z {M : Mem} {r sz z : Int} (h : isBest (cB (M 2 0) (M 6) sz ((1 : Int) ≠ 0) r) (vBR (M 3 0) (M 2 0) sz r) z) : bM M sz r = z ∧ (okM M r sz ↔ z ≠ -1) := by
  have hb := isBest_al (Q := True) (by decide) h
  have e := bFst_eq hb
  refine ⟨e, ?_⟩
  show 0 ≤ bFst (M 2 0) (M 6) (M 3 0) sz r ↔ _
  rw [e]
  rcases isBest_in hb with q | q
  · omega
  · omega
def mkR (M m : Mem) (sz fr_ r : Int) : Prop := (m 28 0 r = 0 ∧ enM M sz fr_ r) ∨ (m 28 0 r = 13 ∧ ¬ enM M sz fr_ r)
theorem sndS_0 {M m : Mem} {sz fr_ : Int} (h : ∀ r : Int, 0 ≤ r → r < M 1 0 4 → mkR M m sz fr_ r) : sndS (M 1 0 4) (RM M sz fr_) (m 28 0) ∧ cplS (M 1 0 4) (RM M sz fr_) (m 28 0) 0 := by
  refine ⟨fun r r0 r1 => ?_, fun d r hd r0 r1 hr => ?_⟩
  · rcases h r r0 r1 with ⟨a, b⟩ | ⟨a, b⟩
    · exact Or.inr ⟨by omega, by omega, by rw [a]; exact b⟩
    · exact Or.inl a
  · have e : d = 0 := by omega
    subst e
    rcases h r r0 r1 with ⟨a, b⟩ | ⟨a, b⟩
    · omega
    · exact absurd hr b
/-- what a round does -/
def shR (M m : Mem) (sz fr_ : Int) : Prop := (∀ g : Nat, g ≠ 28 → m g = M g) ∧ sndS (M 1 0 4) (RM M sz fr_) (m 28 0) ∧ (∀ r : Int, 0 ≤ r → r < M 1 0 4 → m 28 0 r ≤ M 28 0 r) ∧ ∀ t : Int, 1 ≤ t → t ≤ M 7 0 8 → ptM M sz t → m 28 0 (M 13 0 t) ≤ M 28 0 (M 15 0 t) + 1
/-- .. as far as the tickets below t are through -/
def shP (M m : Mem) (sz fr_ u : Int) : Prop := (∀ g : Nat, g ≠ 28 → m g = M g) ∧ sndS (M 1 0 4) (RM M sz fr_) (m 28 0) ∧ (∀ r : Int, 0 ≤ r → r < M 1 0 4 → m 28 0 r ≤ M 28 0 r) ∧ ∀ t : Int, 1 ≤ t → t < u → ptM M sz t → m 28 0 (M 13 0 t) ≤ M 28 0 (M 15 0 t) + 1
theorem shP_no {M m : Mem} {sz fr_ t : Int} (h : shP M m sz fr_ t) (hn : ¬ ptM M sz t) : shP M m sz fr_ (t + 1) := ⟨h.1, h.2.1, h.2.2.1, fun x x1 x2 x3 => by
  by_cases e : x = t
  · exact absurd (e ▸ x3) hn
  · exact h.2.2.2 x x1 (by omega) x3⟩
theorem shP_s {M m : Mem} {sz fr_ t : Int} (hx : XW M) (h : shP M m sz fr_ t) (h1 : 1 ≤ t) (h2 : t ≤ M 7 0 8) (hp : ptM M sz t) : shP M (updM m 28 0 (M 13 0 t) (min (m 28 0 (M 13 0 t)) (m 28 0 (M 15 0 t) + 1))) sz fr_ (t + 1) := by
  obtain ⟨a1, a2, a3, a4⟩ := h
  have hr := hx.pt.1 t h1 h2 hp
  have hw := hx.pt.2 t h1 h2 hp
  have rd : ∀ r, updM m 28 0 (M 13 0 t) (min (m 28 0 (M 13 0 t)) (m 28 0 (M 15 0 t) + 1)) 28 0 r = if r = M 13 0 t then min (m 28 0 (M 13 0 t)) (m 28 0 (M 15 0 t) + 1) else m 28 0 r := fun r => by
    by_cases e : r = M 13 0 t
    · rw [if_pos e, e, updM_same]
    · rw [if_neg e, updM_j e]
  refine ⟨fun g hg => by rw [updM_g hg]; exact a1 g hg, fun r r0 r1 => ?_, fun r r0 r1 => ?_, fun x x1 x2 x3 => ?_⟩
  · rw [rd]
    by_cases e : r = M 13 0 t
    · rw [if_pos e]
      subst e
      have A := a2 (M 13 0 t) r0 r1
      have B := a2 (M 15 0 t) hw.1 hw.2
      by_cases q : m 28 0 (M 15 0 t) + 1 < m 28 0 (M 13 0 t)
      · rw [Int.min_eq_right (by omega)]
        rcases B with B | ⟨b1, b2, b3⟩
        · omega
        · refine Or.inr ⟨by omega, by omega, ?_⟩
          rw [show (m 28 0 (M 15 0 t) + 1).toNat = (m 28 0 (M 15 0 t)).toNat + 1 by omega]
          exact ⟨t, h1, h2, hp, rfl, b3⟩
      · rw [Int.min_eq_left (by omega)]
        exact A
    · rw [if_neg e]
      exact a2 r r0 r1
  · rw [rd]
    have := a3 r r0 r1
    by_cases e : r = M 13 0 t
    · rw [if_pos e]; subst e; omega
    · rw [if_neg e]; exact this
  · rw [rd]
    have B := a3 (M 15 0 t) hw.1 hw.2
    by_cases e : x = t
    · subst e
      rw [if_pos rfl]; omega
    · have A := a4 x x1 (by omega) x3
      by_cases e2 : M 13 0 x = M 13 0 t
      · rw [if_pos e2, ← e2]; omega
      · rw [if_neg e2]; exact A
/-- the search's frame -/
def XF (M m : Mem) : Prop := ∀ g : Nat, g ≠ 27 → g ≠ 28 → g ≠ 29 → m g = M g
theorem XF.lo {M m : Mem} (h : XF M m) : ∀ g : Nat, g < 16 → m g = M g := fun g hg => h g (by omega) (by omega) (by omega)
def XFOUND (M m : Mem) (t sz fr_ : Int) : Prop := ∃ d : Int, 0 ≤ d ∧ d ≤ 11 ∧ isD (RM M sz fr_) (M 15 0 t) d ∧ m 27 0 4 = d + 1 ∧ m 27 0 5 = sz ∧ isChain (M 7 0 8) (RM M sz fr_) (ptM M sz) (M 13 0) (M 15 0) t d (m 29 0)
/-- the least ticket in a row that is so far from a way out -/
def lowR (M : Mem) (row stp z : Int) : Prop := (z = -1 ∧ ∀ t : Int, 1 ≤ t → t ≤ M 7 0 8 → ¬ (ptM M (M 27 0 5) t ∧ M 13 0 t = row ∧ M 28 0 (M 15 0 t) = stp)) ∨ isLow (M 7 0 8) (fun t => ptM M (M 27 0 5) t ∧ M 13 0 t = row ∧ M 28 0 (M 15 0 t) = stp) z
/-- the chain as far as it is collected: all but the last e -/
def colP (M m : Mem) (t d e cur sz fr_ : Int) : Prop := (∀ g : Nat, g ≠ 27 → g ≠ 29 → m g = M g) ∧ m 27 0 5 = sz ∧ m 27 0 4 = d - e + 1 ∧ cur = m 29 0 (d - e) ∧ 1 ≤ cur ∧ cur ≤ M 7 0 8 ∧ (0 ≤ M 15 0 cur ∧ M 15 0 cur < M 1 0 4) ∧ isD (RM M sz fr_) (M 15 0 cur) e ∧ m 29 0 0 = t ∧ ∀ k : Int, 1 ≤ k → k ≤ d - e → isLow (M 7 0 8) (fun x => ptM M sz x ∧ M 13 0 x = M 15 0 (m 29 0 (k - 1)) ∧ isD (RM M sz fr_) (M 15 0 x) (d - k)) (m 29 0 k)
theorem col_0 {M : Mem} {t d sz fr_ : Int} (hs : M 27 0 5 = sz) (t1 : 1 ≤ t) (t2 : t ≤ M 7 0 8) (hw : 0 ≤ M 15 0 t ∧ M 15 0 t < M 1 0 4) (hd : isD (RM M sz fr_) (M 15 0 t) d) : colP M (updM (updM M 29 0 0 t) 27 0 4 1) t d d t sz fr_ := by
  refine ⟨fun g g1 g2 => by rw [updM_g g1, updM_g g2], by rw [updM_j (by decide), updM_g (by decide)]; exact hs, by rw [updM_same]; omega, ?_, t1, t2, hw, hd, by rw [updM_g (by decide), updM_same], fun k k1 k2 => by omega⟩
  rw [show d - d = 0 by omega, updM_g (by decide), updM_same]
theorem isD_same {R : Nat → Int → Prop} {r d e : Int} (h : isD R r d) (h2 : isD R r e) : d = e := isD_u (fun _ => Iff.rfl) h h2
theorem col_s {M m : Mem} {t d e cur sz fr_ z : Int} (hx : XW M) (hS : ∀ r : Int, 0 ≤ r → r < M 1 0 4 → isD (RM M sz fr_) r (M 28 0 r)) (h0 : 0 < e) (hd : e ≤ d) (hd2 : d ≤ 12) (h : colP M m t d e cur sz fr_) (hz : (z = -1 ∧ ∀ t : Int, 1 ≤ t → t ≤ M 7 0 8 → ¬ (ptM M sz t ∧ M 13 0 t = M 15 0 cur ∧ M 28 0 (M 15 0 t) = e - 1)) ∨ isLow (M 7 0 8) (fun t => ptM M sz t ∧ M 13 0 t = M 15 0 cur ∧ M 28 0 (M 15 0 t) = e - 1) z) :
    colP M (updM (updM m 29 0 (m 27 0 4) z) 27 0 4 (m 27 0 4 + 1)) t d (e + -1) z sz fr_ ∧ (1 ≤ z ∧ z ≤ M 7 0 8) := by
  obtain ⟨a1, a2, a3, a4, a5, a6, a7, a8, a9, a10⟩ := h
  have hl : isLow (M 7 0 8) (fun t => ptM M sz t ∧ M 13 0 t = M 15 0 cur ∧ M 28 0 (M 15 0 t) = e - 1) z := by
    rcases hz with ⟨_, hn⟩ | hz
    · rcases a8 with ⟨q, _⟩ | ⟨q1, q2, q3, q4⟩
      · omega
      · rw [show e.toNat = (e - 1).toNat + 1 by omega] at q3
        obtain ⟨x, x1, x2, x3, x4, x5, x6⟩ := reach_step q3 (fun k hk => by have := q4 k hk; omega)
        have hw := hx.pt.2 x x1 x2 x3
        have : isD (RM M sz fr_) (M 15 0 x) (e - 1) := Or.inr ⟨by omega, by omega, x5, fun k hk => by have := x6 k hk; omega⟩
        exact absurd ⟨x3, x4, isD_same (hS _ hw.1 hw.2) this⟩ (hn x x1 x2)
    · exact hz
  obtain ⟨z1, z2, ⟨z3, z4, z5⟩, z6⟩ := hl
  have hw := hx.pt.2 z z1 z2 z3
  have hdz : isD (RM M sz fr_) (M 15 0 z) (e - 1) := z5 ▸ hS _ hw.1 hw.2
  have rd : ∀ k, k ≠ m 27 0 4 → updM (updM m 29 0 (m 27 0 4) z) 27 0 4 (m 27 0 4 + 1) 29 0 k = m 29 0 k := fun k hk => by rw [updM_g (by decide), updM_j hk]
  refine ⟨⟨fun g g1 g2 => by rw [updM_g g1, updM_g g2]; exact a1 g g1 g2, by rw [updM_j (by decide), updM_g (by decide)]; exact a2, by rw [updM_same]; omega, ?_, z1, z2, hw, by rw [show e + -1 = e - 1 by omega]; exact hdz, by rw [rd 0 (by omega)]; exact a9, fun k k1 k2 => ?_⟩, z1, z2⟩
  · rw [show d - (e + -1) = m 27 0 4 by omega, updM_g (by decide), updM_same]
  · by_cases q : k = m 27 0 4
    · subst q
      have e2 : updM (updM m 29 0 (m 27 0 4) z) 27 0 4 (m 27 0 4 + 1) 29 0 (m 27 0 4) = z := by rw [updM_g (by decide), updM_same]
      have e3 : m 29 0 (m 27 0 4 - 1) = cur := by rw [a4, show m 27 0 4 - 1 = d - e by omega]
      rw [e2, rd _ (by omega), e3, show d - m 27 0 4 = e - 1 by omega]
      refine ⟨z1, z2, ⟨z3, z4, hdz⟩, fun x x1 x2 hq => z6 x x1 x2 ⟨hq.1, hq.2.1, ?_⟩⟩
      have hwx := hx.pt.2 x x1 (by omega) hq.1
      exact isD_same (hS _ hwx.1 hwx.2) hq.2.2
    · rw [rd k q, rd (k - 1) (by omega)]
      exact a10 k k1 (by omega)
/-- a booking moves -/
def mvM (M : Mem) (t row f k : Int) : Mem := updM (updM (updM (giveM M row f k t) 13 0 t row) 14 0 t f) 15 0 t (-1)
theorem mvM_g {M : Mem} {t row f k : Int} {g : Nat} (h6 : g ≠ 6) (h13 : g ≠ 13) (h14 : g ≠ 14) (h15 : g ≠ 15) : mvM M t row f k g = M g := by
  unfold mvM
  rw [updM_g h15, updM_g h14, updM_g h13, giveM_g h6]
theorem mvM_13 {M : Mem} {t row f k x : Int} : mvM M t row f k 13 0 x = if x = t then row else M 13 0 x := by
  unfold mvM
  rw [updM_g (by decide), updM_g (by decide)]
  by_cases e : x = t
  · rw [if_pos e, e, updM_same]
  · rw [if_neg e, updM_j e, giveM_g (by decide)]
theorem mvM_14 {M : Mem} {t row f k x : Int} : mvM M t row f k 14 0 x = if x = t then f else M 14 0 x := by
  unfold mvM
  rw [updM_g (by decide)]
  by_cases e : x = t
  · rw [if_pos e, e, updM_same]
  · rw [if_neg e, updM_j e, updM_g (by decide), giveM_g (by decide)]
theorem mvM_15 {M : Mem} {t row f k x : Int} : mvM M t row f k 15 0 x = if x = t then -1 else M 15 0 x := by
  unfold mvM
  by_cases e : x = t
  · rw [if_pos e, e, updM_same]
  · rw [if_neg e, updM_j e, updM_g (by decide), updM_g (by decide), giveM_g (by decide)]
def chS (M : Mem) (c : Int → Int) (r0 f0 k : Int) : Nat → Mem
  | 0 => giveM M r0 f0 k 0
  | j + 1 => mvM (chS M c r0 f0 k j) (c (j : Int)) (chS M c r0 f0 k j 13 0 (c ((j : Int) + 1))) (chS M c r0 f0 k j 14 0 (c ((j : Int) + 1))) k
theorem chS_g {M : Mem} {c : Int → Int} {r0 f0 k : Int} {g : Nat} (h6 : g ≠ 6) (h13 : g ≠ 13) (h14 : g ≠ 14) (h15 : g ≠ 15) : ∀ j : Nat, chS M c r0 f0 k j g = M g
  | 0 => giveM_g h6
  | j + 1 => (mvM_g h6 h13 h14 h15).trans (chS_g h6 h13 h14 h15 j)
/-- a block that a booking may have -/
abbrev vpl (M : Mem) (k r f : Int) : Prop := 0 ≤ r ∧ r < M 1 0 4 ∧ 0 ≤ f ∧ f + k ≤ M 2 0 r
theorem chS_vp {M : Mem} {c : Int → Int} {r0 f0 k d : Int} (h : ∀ x : Int, 0 ≤ x → x ≤ d → vpl M k (M 13 0 (c x)) (M 14 0 (c x))) : ∀ j : Nat, (j : Int) ≤ d → ∀ x : Int, 0 ≤ x → x ≤ d → vpl M k (chS M c r0 f0 k j 13 0 (c x)) (chS M c r0 f0 k j 14 0 (c x))
  | 0, _, x, x0, x1 => by
    have e1 : chS M c r0 f0 k 0 13 = M 13 := giveM_g (by decide)
    have e2 : chS M c r0 f0 k 0 14 = M 14 := giveM_g (by decide)
    rw [e1, e2]
    exact h x x0 x1
  | j + 1, hj, x, x0, x1 => by
    have ih := chS_vp (r0 := r0) (f0 := f0) h j (by omega)
    show vpl M k (mvM _ _ _ _ _ 13 0 _) (mvM _ _ _ _ _ 14 0 _)
    rw [mvM_13, mvM_14]
    by_cases e : c x = c (j : Int)
    · rw [if_pos e, if_pos e]
      exact ih _ (by omega) (by omega)
    · rw [if_neg e, if_neg e]
      exact ih x x0 x1
/-- the exchange, carried out -/
noncomputable def exM (M : Mem) : Mem :=
  if bM M (M 27 0 5) (M 15 0 (M 29 0 (M 27 0 4 - 1))) = -1 then mvM (chS M (M 29 0) (M 13 0 (M 29 0 0)) (M 14 0 (M 29 0 0)) (M 27 0 5) (M 27 0 4 - 1).toNat) (M 29 0 (M 27 0 4 - 1)) (M 13 0 (M 29 0 0)) (M 14 0 (M 29 0 0)) (M 27 0 5)
  else mvM (chS M (M 29 0) (M 13 0 (M 29 0 0)) (M 14 0 (M 29 0 0)) (M 27 0 5) (M 27 0 4 - 1).toNat) (M 29 0 (M 27 0 4 - 1)) (M 15 0 (M 29 0 (M 27 0 4 - 1))) (bM M (M 27 0 5) (M 15 0 (M 29 0 (M 27 0 4 - 1)))) (M 27 0 5)
theorem chS_s {M : Mem} {c : Int → Int} {r0 f0 k pl : Int} (h : 0 ≤ pl) : chS M c r0 f0 k (pl + 1).toNat = mvM (chS M c r0 f0 k pl.toNat) (c pl) (chS M c r0 f0 k pl.toNat 13 0 (c (pl + 1))) (chS M c r0 f0 k pl.toNat 14 0 (c (pl + 1))) k := by
  rw [show (pl + 1).toNat = pl.toNat + 1 by omega]
  show mvM (chS M c r0 f0 k pl.toNat) (c ((pl.toNat : Nat) : Int)) (chS M c r0 f0 k pl.toNat 13 0 (c (((pl.toNat : Nat) : Int) + 1))) (chS M c r0 f0 k pl.toNat 14 0 (c (((pl.toNat : Nat) : Int) + 1))) k = _
  rw [Int.toNat_of_nonneg h]
theorem mkR_cg {M m x : Mem} {sz fr_ r : Int} (h : ∀ g : Nat, g < 16 → m g = M g) (q : mkR m x sz fr_ r) : mkR M x sz fr_ r := by
  unfold mkR enM okM at q ⊢
  rw [h 1 (by decide), h 2 (by decide), h 3 (by decide), h 6 (by decide)] at q
  exact q
theorem shR_cg {M m x : Mem} {sz fr_ : Int} (h : ∀ g : Nat, g < 16 → m g = M g) (q : shR m x sz fr_) : (∀ g : Nat, g ≠ 28 → x g = m g) ∧ sndS (M 1 0 4) (RM M sz fr_) (x 28 0) ∧ (∀ r : Int, 0 ≤ r → r < M 1 0 4 → x 28 0 r ≤ m 28 0 r) ∧ ∀ t : Int, 1 ≤ t → t ≤ M 7 0 8 → ptM M sz t → x 28 0 (M 13 0 t) ≤ m 28 0 (M 15 0 t) + 1 := by
  unfold shR at q
  rw [RM_cg h] at q
  unfold ptM at q ⊢
  rw [h 1 (by decide), h 7 (by decide), h 9 (by decide), h 13 (by decide), h 15 (by decide)] at q
  exact q
