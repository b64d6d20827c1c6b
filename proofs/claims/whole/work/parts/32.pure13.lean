/-! the reference's split: how its calls go on -/
theorem GF_bd {M m : Mem} (hw : HWm M) {r b p : Int} (h0 : 0 ≤ r) (h1 : r ≤ M 30 0 3) (hb : 0 ≤ b ∧ b ≤ 12) (hp : 0 ≤ p ∧ p ≤ 100) (h : GF M m r) : sp m r b p = -1000000 ∨ (-4800 ≤ sp m r b p ∧ sp m r b p ≤ 240000) := by
  rcases h b p hb.1 hb.2 hp.1 hp.2 with ⟨a, _⟩ | ⟨a, _⟩
  · exact Or.inl a
  · have := canI_bd (Vd_bd hw) h0 h1 hw.2.1 a
    exact Or.inr this.2.2.2
theorem GF_nv {M m : Mem} (hw : HWm M) {r b p : Int} (h0 : 0 ≤ r) (h1 : r ≤ M 30 0 3) (hb : 0 ≤ b ∧ b ≤ 12) (hp : 0 ≤ p ∧ p ≤ 100) (h : GF M m r) (e : sp m r b p = -1000000) : ∀ v : Int, ¬ cD M r b p v := by
  rcases h b p hb.1 hb.2 hp.1 hp.2 with ⟨_, a⟩ | ⟨a, _⟩
  · exact a
  · have := canI_bd (Vd_bd hw) h0 h1 hw.2.1 a
    omega
theorem GP_keep {M m : Mem} (hw : HWm M) {r s B P : Int} (h0 : 0 ≤ r) (h1 : r < M 30 0 3) (hB : 1 ≤ B ∧ B ≤ 12) (hP : s ≤ P ∧ P ≤ 100) (hs : 2 ≤ s) (hok : okd M r s) (hF : GF M m (r + 1)) (h : GP M m r s B P)
    (hx : sp m (r + 1) (B - 1) (P - s) = -1000000 ∨ sp m (r + 1) (B - 1) (P - s) + Vd M r s ≤ sp m r B P) : GP M m r s B (P + 1) := by
  refine GP_s (x := sp m r B P) hw h0 h1 hB hP hs hok hF h ?_ (fun b p b0 b1 p0 p1 => ?_)
  · by_cases e : sp m (r + 1) (B - 1) (P - s) = -1000000
    · rw [if_pos e]
    · rw [if_neg e, if_neg (by omega)]
  · by_cases e : b = B ∧ p = P
    · rw [if_pos e, e.1, e.2]
    · rw [if_neg e]
theorem GP_put {M m : Mem} (hw : HWm M) {r s B P x : Int} (h0 : 0 ≤ r) (h1 : r < M 30 0 3) (hB : 1 ≤ B ∧ B ≤ 12) (hP : s ≤ P ∧ P ≤ 100) (hs : 2 ≤ s) (hok : okd M r s) (hfr : rowFr M m r) (hF : GF M m (r + 1)) (h : GP M m r s B P)
    (hr : sp m (r + 1) (B - 1) (P - s) ≠ -1000000) (hx : x = sp m (r + 1) (B - 1) (P - s) + Vd M r s) (hlt : sp m r B P < x) : GP M (updM m 40 0 (idx r B P) x) r s B (P + 1) ∧ rowFr M (updM m 40 0 (idx r B P) x) r := by
  have F := rowFr_s (v := x) hfr (b := B) (p := P) (by omega) (by omega)
  refine ⟨GP_s (x := x) hw h0 h1 hB hP hs hok hF h ?_ F.2, F.1⟩
  rw [if_neg hr, if_pos (by omega)]
  exact hx
/-- the block that firstIn finds -/
theorem okd_z {M : Mem} {r s z : Int} (h : isBest (cB (M 31 0) (oMd M) s ((0 : Int) = 0) r) (vBR (M 32 0) (M 31 0) s r) z) : (okd M r s ↔ 0 ≤ z) ∧ Vd M r s = vB (M 32 0 r) (M 31 0 r) z s := by
  have hb := isBest_al (Q := True) (by decide) h
  have e := bFst_eq hb
  refine ⟨?_, ?_⟩
  · show 0 ≤ bFst (M 31 0) (oMd M) (M 32 0) s r ↔ _
    rw [e]
  · show vBR (M 32 0) (M 31 0) s r (bFst (M 31 0) (oMd M) (M 32 0) s r) = _
    rw [e]; rfl
theorem LRS_s {M m m2 : Mem} {R s : Int} (h : LRS M m R s) (q : rowFr m m2 R ∧ GA m m2 R (s + 1)) : LRS M m2 R (s + 1) := by
  obtain ⟨a1, a2, a3, a4⟩ := h
  have hm : ∀ g : Nat, g ≠ 40 → g ≠ 41 → m g = M g := fun g g1 _ => a1 g g1
  refine ⟨fun g hg => (q.1.1 g hg).trans (a1 g hg), fun r r0 r1 => GF_fr (by omega) q.1 (a2 r r0 r1), fun r b p r0 r1 b0 b1 p0 p1 => (q.1.2 r b p (by omega) b0 b1 p0 p1).trans (a3 r b p r0 r1 b0 b1 p0 p1), (GA_m hm).mp q.2⟩
theorem HWm_f {M m : Mem} (h : HWm M) (q : ∀ g : Nat, g ≠ 40 → g ≠ 41 → m g = M g) : HWm m := HWm_g h (by rw [q 30 (by decide) (by decide)]) (q 31 (by decide) (by decide)) (q 32 (by decide) (by decide)) (q 33 (by decide) (by decide))
abbrev wkd (M : Mem) (r p f g s : Int) : Prop := works (M 30 0 3) (okd M) (Vd M) r p f g s
theorem GF_due {M m : Mem} (hw : HWm M) {r p f g : Int} (h0 : 0 ≤ r) (h1 : r ≤ M 30 0 3) (hp : 0 ≤ p ∧ p ≤ 100) (hf : f ≠ 13) (h : GF M m r) (hF : isFG (fun b v => cD M r b p v) f g) : sp m r f p = g ∧ 0 ≤ f ∧ f ≤ 12 := by
  rcases hF with ⟨a, _⟩ | ⟨a, b, c, d⟩
  · exact absurd a hf
  rcases h f p a b hp.1 hp.2 with ⟨_, q⟩ | ⟨q1, q2⟩
  · exact absurd c (q g)
  · have x := q2 g c
    have y := d f _ q1
    exact ⟨by omega, a, b⟩
/-- what the reference's test of a block says -/
theorem given_iff {M m : Mem} (hw : HWm M) {r p f g s : Int} (h0 : 0 ≤ r) (h1 : r < M 30 0 3) (hp : 0 ≤ p ∧ p ≤ 100) (hf : 1 ≤ f ∧ f ≤ 12) (hs : 2 ≤ s ∧ s ≤ p) (h : GF M m (r + 1)) (hF : isFG (fun b v => cD M r b p v) f g) : wkd M r p f g s ↔ sp m (r + 1) (f - 1) (p - s) ≠ -1000000 ∧ okd M r s ∧ sp m (r + 1) (f - 1) (p - s) + Vd M r s = g := by
  rcases hF with ⟨a, _⟩ | ⟨a, b, c, d⟩
  · omega
  have G := h (f - 1) (p - s) (by omega) (by omega) (by omega) (by omega)
  constructor
  · intro ⟨q1, q2⟩
    rcases G with ⟨_, x⟩ | ⟨x1, x2⟩
    · exact absurd q2 (x _)
    · have y := x2 _ q2
      have z := d f (sp m (r + 1) (f - 1) (p - s) + Vd M r s) ((canI_s h1).mpr (Or.inr ⟨s, hs.1, q1, by
        rw [show sp m (r + 1) (f - 1) (p - s) + Vd M r s - Vd M r s = sp m (r + 1) (f - 1) (p - s) by omega]; exact x1⟩))
      have bd := canI_bd (Vd_bd hw) (by omega) (by omega) hw.2.1 x1
      exact ⟨by omega, q1, by omega⟩
  · intro ⟨q1, q2, q3⟩
    rcases G with ⟨x, _⟩ | ⟨x1, _⟩
    · exact absurd x q1
    · refine ⟨q2, ?_⟩
      rw [show g - Vd M r s = sp m (r + 1) (f - 1) (p - s) by omega]
      exact x1
theorem can_b0 {n : Int} {ok : Int → Int → Prop} {V : Int → Int → Int} : ∀ (j : Nat) (b p v : Int), can n ok V j b p v → 0 ≤ b ∧ (b = 0 → p = 0)
  | 0, b, p, v, h => ⟨by have := h.1; omega, fun _ => h.2.1⟩
  | j + 1, b, p, v, h => by
    rcases h with h | ⟨s, _, _, h⟩
    · exact can_b0 j b p v h
    · have := (can_b0 j _ _ _ h).1
      omega
/-- the blocks below blocks are not enough; so many are -/
theorem SPm_fg {M m : Mem} (hw : HWm M) {people blocks : Int} (hp : 0 ≤ people ∧ people ≤ 100) (hb : 1 ≤ blocks ∧ blocks ≤ 12) (h : GF M m 0) (hn : ∀ b : Int, b < blocks → ∀ v : Int, ¬ cD M 0 b people v) (hx : sp m 0 blocks people ≠ -1000000) : isFG (fun b v => cD M 0 b people v) blocks (sp m 0 blocks people) := by
  rcases h blocks people (by omega) hb.2 hp.1 hp.2 with ⟨a, _⟩ | ⟨a1, a2⟩
  · exact absurd a hx
  · refine Or.inr ⟨by omega, hb.2, a1, fun b v q => ?_⟩
    by_cases e : b < blocks
    · exact absurd q (hn b e v)
    · by_cases e2 : b = blocks
      · subst e2
        exact Or.inr ⟨rfl, a2 v q⟩
      · exact Or.inl (by omega)
abbrev TKd (M : Mem) (r p f g : Int) (tk : Int → Int) : Prop := TKI (M 30 0 3) (okd M) (Vd M) r p f g tk
/-- how far the rows are through -/
def SPm (M m : Mem) (row rest lef blocks people : Int) : Prop := ∃ g0 g : Int, isFG (fun b v => cD M 0 b people v) blocks g0 ∧ (lef ≠ 13 ∧ isFG (fun b v => cD M row b rest v) lef g) ∧ ∀ tk : Int → Int, (∀ r : Int, 0 ≤ r → r < row → tk r = m 41 0 r) → TKd M row rest lef g tk → TKd M 0 people blocks g0 tk
theorem SPm_0 {M m : Mem} {blocks people g : Int} (hb : blocks ≤ 12) (h : isFG (fun b v => cD M 0 b people v) blocks g) : SPm M m 0 people blocks blocks people := ⟨g, g, h, ⟨by omega, h⟩, fun _ _ x => x⟩
theorem SPm_due {M m x : Mem} (hw : HWm M) {row rest lef blocks people : Int} (h0 : 0 ≤ row) (h1 : row ≤ M 30 0 3) (hp : 0 ≤ rest ∧ rest ≤ 100) (hF : GF M x row) (h : SPm M m row rest lef blocks people) : isFG (fun b v => cD M row b rest v) lef (sp x row lef rest) ∧ 0 ≤ lef ∧ lef ≤ 12 := by
  obtain ⟨g0, g, _, ⟨h3, h4⟩, _⟩ := h
  have q := GF_due hw h0 h1 hp h3 hF h4
  rw [q.1]
  exact ⟨h4, q.2⟩
theorem SPm_skip {M m x : Mem} (hw : HWm M) {row rest lef blocks people s : Int} (h0 : 0 ≤ row) (h1 : row < M 30 0 3) (hp : 0 ≤ rest ∧ rest ≤ 100) (hF : GF M x row) (h : SPm M m row rest lef blocks people) (hs : s = 0) (hn : ∀ s : Int, 2 ≤ s → ¬ wkd M row rest lef (sp x row lef rest) s) : SPm M (updM m 41 0 row s) (row + 1) (rest - s) (lef - 0) blocks people := by
  subst hs
  obtain ⟨g0, g, h2, ⟨h3, h4⟩, h5⟩ := h
  have q := GF_due hw h0 (by omega) hp h3 hF h4
  rw [q.1] at hn
  rw [show rest - 0 = rest by omega, show lef - 0 = lef by omega]
  have hg : isFG (fun b v => cD M (row + 1) b rest v) lef g := by
    rcases h4 with ⟨a, _⟩ | ⟨a, b, c, d⟩
    · exact absurd a h3
    · refine Or.inr ⟨a, b, ?_, fun x y z => d x y ((canI_s h1).mpr (Or.inl z))⟩
      rcases (canI_s h1).mp c with c | ⟨s, s1, s2, s3⟩
      · exact c
      · exact absurd ⟨s2, s3⟩ (hn s s1)
  refine ⟨g0, g, h2, ⟨h3, hg⟩, fun tk ht htk => h5 tk (fun r r0 r1 => by rw [ht r r0 (by omega), updM_j (by omega)]) ((TKI_s h1).mpr (Or.inl ⟨⟨by rw [ht row h0 (by omega), updM_same], hn⟩, htk⟩))⟩
theorem SPm_take {M m x : Mem} (hw : HWm M) {row rest lef blocks people s : Int} (h0 : 0 ≤ row) (h1 : row < M 30 0 3) (hp : 0 ≤ rest ∧ rest ≤ 100) (hF : GF M x row) (h : SPm M m row rest lef blocks people) (hs : 2 ≤ s) (hk : wkd M row rest lef (sp x row lef rest) s) (hm : ∀ y : Int, 2 ≤ y → wkd M row rest lef (sp x row lef rest) y → y ≤ s) : SPm M (updM m 41 0 row s) (row + 1) (rest - s) (lef - 1) blocks people := by
  obtain ⟨g0, g, h2, ⟨h3, h4⟩, h5⟩ := h
  have q := GF_due hw h0 (by omega) hp h3 hF h4
  rw [q.1] at hk hm
  have hg : isFG (fun b v => cD M (row + 1) b (rest - s) v) (lef - 1) (g - Vd M row s) := by
    have bd := canI_bd (Vd_bd hw) (by omega) (by omega) hw.2.1 hk.2
    refine Or.inr ⟨by omega, by omega, hk.2, fun b v z => ?_⟩
    rcases h4 with ⟨a, _⟩ | ⟨a, b', c, d⟩
    · exact absurd a h3
    · have t := d (b + 1) (v + Vd M row s) ((canI_s h1).mpr (Or.inr ⟨s, hs, hk.1, by
        rw [show b + 1 - 1 = b by omega, show v + Vd M row s - Vd M row s = v by omega]; exact z⟩))
      omega
  refine ⟨g0, g - Vd M row s, h2, ⟨by have := q.2; omega, hg⟩, fun tk ht htk => ?_⟩
  have e : tk row = s := by rw [ht row h0 (by omega), updM_same]
  refine h5 tk (fun r r0 r1 => by rw [ht r r0 (by omega), updM_j (by omega)]) ((TKI_s h1).mpr (Or.inr ⟨by rw [e]; exact ⟨hs, hk, hm⟩, by rw [e]; exact htk⟩))
/-- the reference's split of a group: so many rows, so many seats of each -/
def SPLd (M m : Mem) (people z : Int) : Prop := 1 ≤ z ∧ z ≤ 12 ∧ ∃ g : Int, isFG (fun b v => cD M 0 b people v) z g ∧ TKd M 0 people z g (m 41 0) ∧ ∀ r : Int, 0 ≤ r → r < M 30 0 3 → 0 ≤ m 41 0 r ∧ m 41 0 r ≤ 20
theorem SPm_all {M m : Mem} {row rest lef blocks people : Int} (hr : row = M 30 0 3) (hb : 1 ≤ blocks ∧ blocks ≤ 12) (h : SPm M m row rest lef blocks people) (h7 : ∀ r : Int, 0 ≤ r → r < row → 0 ≤ m 41 0 r ∧ m 41 0 r ≤ 20) : SPLd M m people blocks := by
  subst hr
  obtain ⟨g0, g, h2, _, h5⟩ := h
  exact ⟨hb.1, hb.2, g0, h2, h5 _ (fun _ _ _ => rfl) TKI_n, h7⟩
