theorem INV_bal {M M' : Mem} {c d : Int} (h : INV M c) (hg : ∀ g : Nat, g ≠ 0 → (g < 16 ∨ (31 ≤ g ∧ g ≤ 39)) → M' g = M g) (k4 : M' 0 0 4 = M 0 0 4) (k5 : M' 0 0 5 = M 0 0 5 + d) (m1 : M' 30 0 1 = M 30 0 1) (m2 : M' 30 0 2 = M 30 0 2 + d) (m3 : M' 30 0 3 = M 30 0 3) (m8 : M' 30 0 8 = M 30 0 8) (hd : -2400000 ≤ d ∧ d ≤ 2400000) : INV M' (c + 1) := by
  have s : SAME M (fun g => if g = 0 then M 0 else if g = 30 then M 30 else M' g) := SAME_g (fun g g1 => by
    show (if g = 0 then M 0 else if g = 30 then M 30 else M' g) = M g
    by_cases e : g = 0
    · rw [if_pos e, e]
    · rw [if_neg e]
      by_cases e2 : g = 30
      · rw [if_pos e2, e2]
      · rw [if_neg e2]; exact hg g e (by omega))
  have h' := INV_same s h
  obtain ⟨h1, ⟨b1, b2, b3⟩, h3, h4, i1, i2, i3, i4⟩ := h'
  have j1 : M 0 0 4 = M 30 0 1 := i1
  have j2 : 0 ≤ M 0 0 4 ∧ M 0 0 4 ≤ 1000 * c := i2
  have j3 : M 0 0 5 = M 30 0 2 := i3
  have j4 : -(2400000 * c) ≤ M 0 0 5 ∧ M 0 0 5 ≤ 2400000 * c := i4
  refine ⟨⟨h1.1, m3.trans h1.2.1, h1.2.2⟩, ⟨b1, m8.trans b2, b3⟩, h3, h4, ?_⟩
  unfold I5
  rw [k4, k5, m1, m2]
  omega
theorem INV_now {M M' : Mem} {c d : Int} (h : INV M c) (hg : ∀ g : Nat, g ≠ 0 → (g < 16 ∨ (31 ≤ g ∧ g ≤ 39)) → M' g = M g) (k4 : M' 0 0 4 = M 0 0 4 + d) (k5 : M' 0 0 5 = M 0 0 5) (m1 : M' 30 0 1 = M 30 0 1 + d) (m2 : M' 30 0 2 = M 30 0 2) (m3 : M' 30 0 3 = M 30 0 3) (m8 : M' 30 0 8 = M 30 0 8) (hd : 0 ≤ d ∧ d ≤ 1000) : INV M' (c + 1) := by
  have s : SAME M (fun g => if g = 0 then M 0 else if g = 30 then M 30 else M' g) := SAME_g (fun g g1 => by
    show (if g = 0 then M 0 else if g = 30 then M 30 else M' g) = M g
    by_cases e : g = 0
    · rw [if_pos e, e]
    · rw [if_neg e]
      by_cases e2 : g = 30
      · rw [if_pos e2, e2]
      · rw [if_neg e2]; exact hg g e (by omega))
  have h' := INV_same s h
  obtain ⟨h1, ⟨b1, b2, b3⟩, h3, h4, i1, i2, i3, i4⟩ := h'
  have j1 : M 0 0 4 = M 30 0 1 := i1
  have j2 : 0 ≤ M 0 0 4 ∧ M 0 0 4 ≤ 1000 * c := i2
  have j3 : M 0 0 5 = M 30 0 2 := i3
  have j4 : -(2400000 * c) ≤ M 0 0 5 ∧ M 0 0 5 ≤ 2400000 * c := i4
  refine ⟨⟨h1.1, m3.trans h1.2.1, h1.2.2⟩, ⟨b1, m8.trans b2, b3⟩, h3, h4, ?_⟩
  unfold I5
  rw [k4, k5, m1, m2]
  omega
/-- one ticket's own numbers change, its seats stay -/
theorem INV_tk {M M' : Mem} {c n : Int} (h : INV M c) (hn : 1 ≤ n ∧ n ≤ M 7 0 8) (hg : ∀ g : Nat, (g < 8 ∨ (31 ≤ g ∧ g ≤ 34)) → M' g = M g) (k1 : M' 30 0 1 = M 30 0 1) (k2 : M' 30 0 2 = M 30 0 2) (k3 : M' 30 0 3 = M 30 0 3) (k8 : M' 30 0 8 = M 30 0 8) (kt : ∀ t : Int, t ≠ n → keepT M M' t)
    (n8 : M' 8 0 n ≤ 1) (o8 : M 8 0 n ≤ 1) (n9 : M' 9 0 n = M 9 0 n) (n13 : M' 13 0 n = M 13 0 n) (n14 : M' 14 0 n = M 14 0 n) (ti : TI M' n) (ws : WS M' n) : INV M' c := by
  have e1 := hg 1 (by decide); have e2 := hg 2 (by decide); have e6 := hg 6 (by decide); have e7 := hg 7 (by decide); have e34 := hg 34 (by decide)
  obtain ⟨h1, ⟨b1, b2, b3, b4⟩, h3, h4, h5⟩ := h
  have kh : keepH M M' := ⟨e1, e2, hg 3 (by decide), hg 4 (by decide), hg 31 (by decide), hg 32 (by decide), hg 33 (by decide), k3⟩
  refine ⟨kh.i1 h1, ⟨by unfold BW at b1 ⊢; rw [e7]; exact b1, by rw [k8, e7]; exact b2, fun t t1 t2 => ?_, fun t t1 t2 => ?_⟩, fun a a0 a1 => ?_, fun t t1 t2 => ?_, ?_⟩
  · rw [e7] at t2
    by_cases e : t = n
    · rw [e]; exact ti
    · exact (kt t e).ti (b3 t t1 t2)
  · rw [e7] at t1
    have k := (kt t (by omega)).2
    rw [k.2.2.1, k.2.2.2.1]
    exact b4 t t1 t2
  · obtain ⟨c1, c2, c3⟩ := h3 a a0 a1
    unfold CI vld
    rw [e34, e6, e1, e2, e7]
    refine ⟨c1, c2, ?_⟩
    rcases c3 with c3 | c3 | ⟨d1, d2, d3⟩
    · exact Or.inl c3
    · exact Or.inr (Or.inl c3)
    · refine Or.inr (Or.inr ⟨d1, d2, ?_⟩)
      by_cases e : M 34 0 a = n
      · rw [e]; exact n8
      · rw [(kt _ e).1.1]; exact d3
  · rw [e7] at t2
    have d := h4 t t1 t2
    by_cases e : t = n
    · subst e
      refine ⟨fun _ => ?_, ws⟩
      rcases d.1 o8 with ⟨x1, x2, x3⟩ | ⟨x1, x2, x3⟩
      · refine Or.inl ⟨?_, ?_, fun a a0 a1 => ?_⟩
        · rw [n13, e1]; exact x1
        · rw [n13, n14, n9, e2]; exact x2
        · rw [n13, n14, n9, e34]; exact x3 a a0 a1
      · refine Or.inr ⟨by rw [n13]; exact x1, ?_, ?_⟩
        · rw [n9, ← x2]; unfold manyM; rw [e34]
        · rw [e34]; exact x3
    · have k := kt t e
      exact ⟨fun q => k.bs e1 e2 (fun a a0 a1 => by rw [e34]) (d.1 (by rw [← k.1.1]; exact q)), k.ws e1 d.2⟩
  · unfold I5 at h5 ⊢
    rw [hg 0 (by decide), k1, k2]
    exact h5
theorem keepT_o {M M' : Mem} {n t : Int} (h : t ≠ n) (hx : ∀ g : Nat, ((8 ≤ g ∧ g ≤ 15) ∨ (35 ≤ g ∧ g ≤ 39)) → ∀ t : Int, t ≠ n → M' g 0 t = M g 0 t) : keepT M M' t :=
  ⟨⟨hx 8 (by decide) t h, hx 9 (by decide) t h, hx 10 (by decide) t h, hx 11 (by decide) t h, hx 12 (by decide) t h, hx 13 (by decide) t h, hx 14 (by decide) t h, hx 15 (by decide) t h⟩, hx 35 (by decide) t h, hx 36 (by decide) t h, hx 37 (by decide) t h, hx 38 (by decide) t h, hx 39 (by decide) t h⟩
/-- both close a ticket -/
theorem clM_n {M : Mem} {t how : Int} : clM M t how 8 0 t = how ∧ clM M t how 15 0 t = -1 := by
  simp [clM, updM]
theorem clM_t {M : Mem} {t how x : Int} (hx : x ≠ t) {g : Nat} (h6 : g ≠ 6) : clM M t how g 0 x = M g 0 x := by
  unfold clM
  rw [updM_x hx, updM_x hx, relM_g h6]
theorem cloM_t {M : Mem} {t how k x : Int} (hx : x ≠ t) {g : Nat} (h : g ≠ 34) : cloM M t how k g 0 x = M g 0 x := by
  unfold cloM
  rw [if_neg (fun q => hx q.2.2), if_neg (fun q => h q.1)]
theorem cloM_n8 {M : Mem} {t how k : Int} : cloM M t how k 35 0 t = how := by simp [cloM]
theorem clo_both {M M' : Mem} {c t how : Int} (h : INV M c) (ht : 1 ≤ t ∧ t ≤ M 7 0 8) (hh : how = 2 ∨ how = 3) (lo : ∀ g : Nat, g < 16 → M' g = clM M t how g) (hi : ∀ g : Nat, 30 ≤ g → g < 40 → M' g = cloM M t how 240 g) : INV M' c := by
  have L : ∀ g : Nat, g < 16 → g ≠ 6 → g ≠ 8 → g ≠ 15 → M' g = M g := fun g h1 h2 h3 h4 => by rw [lo g h1, clM_g h2 h3 h4]
  have H : ∀ g : Nat, 30 ≤ g → g < 40 → g ≠ 34 → g ≠ 35 → M' g = M g := fun g h1 h2 h3 h4 => by rw [hi g h1 h2, cloM_g h3 h4]
  refine INV_clo (n := t) (how := how) h ht hh ⟨L 1 (by decide) (by decide) (by decide) (by decide), L 2 (by decide) (by decide) (by decide) (by decide), L 3 (by decide) (by decide) (by decide) (by decide), L 4 (by decide) (by decide) (by decide) (by decide), H 31 (by decide) (by decide) (by decide) (by decide), H 32 (by decide) (by decide) (by decide) (by decide), H 33 (by decide) (by decide) (by decide) (by decide), by rw [H 30 (by decide) (by decide) (by decide) (by decide)]⟩ (L 0 (by decide) (by decide) (by decide) (by decide)) (L 7 (by decide) (by decide) (by decide) (by decide)) (H 30 (by decide) (by decide) (by decide) (by decide)) (fun x hx => keepT_o hx (fun g hg x hx => ?_)) (H 37 (by decide) (by decide) (by decide) (by decide)) (H 38 (by decide) (by decide) (by decide) (by decide)) ?_ ?_ ⟨?_, ?_⟩ ?_ ?_ ?_ (fun a a0 a1 => ?_) (fun a a0 a1 => ?_)
  · rcases hg with hg | hg
    · rw [lo g (by omega), clM_t hx (by omega)]
    · rw [hi g (by omega) (by omega), cloM_t hx (by omega)]
  · rw [lo 8 (by decide)]; exact clM_n.1
  · rw [hi 35 (by decide) (by decide)]; exact cloM_n8
  · rw [L 10 (by decide) (by decide) (by decide) (by decide)]
  · rw [H 36 (by decide) (by decide) (by decide) (by decide)]
  · rw [L 11 (by decide) (by decide) (by decide) (by decide)]
  · rw [L 12 (by decide) (by decide) (by decide) (by decide)]
  · rw [lo 15 (by decide)]; exact clM_n.2
  · have ce := h.2.2.1 a a0 a1
    rw [hi 34 (by decide) (by decide), lo 6 (by decide)]
    have e1 : clM M t how 6 (a / 20) (a % 20) = relM M t (M 1 0 4) 0 6 (a / 20) (a % 20) := by
      unfold clM
      rw [updM_g (by decide), updM_g (by decide)]
    rw [e1]
    unfold cloM relM
    rw [if_neg (by omega), ce.1]
    by_cases q : M 6 (a / 20) (a % 20) = t
    · have v : vld M a := by
        by_cases v : vld M a
        · exact v
        · have := ce.2.1 v
          rw [ce.1, q] at this
          omega
      rw [if_pos ⟨rfl, rfl, a0, a1, q⟩, if_pos ⟨rfl, by omega, by omega, v.2, Or.inl v.1, q⟩]
    · rw [if_neg (fun x => q x.2.2.2.2), if_neg (fun x => q x.2.2.2.2.2)]
  · rw [hi 34 (by decide) (by decide)]
    unfold cloM
    rw [if_neg (by omega)]
    by_cases q : M 34 0 a = t
    · rw [if_pos ⟨rfl, rfl, a0, a1, q⟩, if_pos q]
    · rw [if_neg (fun x => q x.2.2.2.2), if_neg q]
theorem clM_lo {A B : Mem} {t how : Int} (h : ∀ g : Nat, g < 30 → A g = B g) : ∀ g : Nat, g < 30 → clM A t how g = clM B t how g := fun g hg => by
  funext i j
  unfold clM updM relM
  rw [h 1 (by decide), h 2 (by decide), h 6 (by decide), h g hg]
theorem cloM_hi {A B : Mem} {t how k : Int} (h : ∀ g : Nat, 30 ≤ g → A g = B g) : ∀ g : Nat, 30 ≤ g → cloM A t how k g = cloM B t how k g := fun g hg => by
  funext i j
  unfold cloM
  rw [h 34 (by decide), h g hg]
def jn (X : Mem) : Nat → Mem
  | 0 => X
  | j + 1 => if jn X j 8 0 ((j : Int) + 1) = 0 ∧ jn X j 10 0 ((j : Int) + 1) ≤ X 0 0 4 then cloM (clM (jn X j) ((j : Int) + 1) 2) ((j : Int) + 1) 2 240 else jn X j
theorem jn_all {X A B : Mem} {c : Int} (h : INV X c) (ha : ∀ g : Nat, g < 30 → A g = X g) (hb : ∀ g : Nat, 30 ≤ g → B g = X g) : ∀ j : Nat, (j : Int) ≤ X 7 0 8 → INV (jn X j) c ∧ (∀ g : Nat, g < 30 → psS A j g = jn X j g) ∧ (∀ g : Nat, 30 ≤ g → pdS B j g = jn X j g) ∧ psC A j = pdC B j ∧ jn X j 7 = X 7 ∧ jn X j 0 = X 0 ∧ jn X j 30 = X 30
  | 0, _ => ⟨h, ha, hb, rfl, rfl, rfl, rfl⟩
  | j + 1, hj => by
    obtain ⟨i1, i2, i3, i4, i5, i6, i7⟩ := jn_all h ha hb j (by omega)
    have ti := (i1.2.1.2.2.1 ((j : Int) + 1) (by omega) (by rw [i5]; omega)).1
    have now : X 0 0 4 = X 30 0 1 := h.2.2.2.2.1
    have c1 : (psS A j 8 0 ((j : Int) + 1) = 0 ∧ psS A j 10 0 ((j : Int) + 1) ≤ A 0 0 4) ↔ (jn X j 8 0 ((j : Int) + 1) = 0 ∧ jn X j 10 0 ((j : Int) + 1) ≤ X 0 0 4) := by
      rw [i2 8 (by decide), i2 10 (by decide), ha 0 (by decide)]
    have c2 : (pdS B j 35 0 ((j : Int) + 1) = 0 ∧ pdS B j 36 0 ((j : Int) + 1) ≤ B 30 0 1) ↔ (jn X j 8 0 ((j : Int) + 1) = 0 ∧ jn X j 10 0 ((j : Int) + 1) ≤ X 0 0 4) := by
      rw [i3 35 (by decide), i3 36 (by decide), hb 30 (by decide), ti.1, ti.2.1, now]
    by_cases q : jn X j 8 0 ((j : Int) + 1) = 0 ∧ jn X j 10 0 ((j : Int) + 1) ≤ X 0 0 4
    · have e1 : psS A (j + 1) = clM (psS A j) ((j : Int) + 1) 2 := by simp only [psS]; rw [if_pos (c1.mpr q)]
      have e2 : pdS B (j + 1) = cloM (pdS B j) ((j : Int) + 1) 2 240 := by simp only [pdS]; rw [if_pos (c2.mpr q)]
      have e3 : psC A (j + 1) = psC A j + 1 := by simp only [psC]; rw [if_pos (c1.mpr q)]
      have e4 : pdC B (j + 1) = pdC B j + 1 := by simp only [pdC]; rw [if_pos (c2.mpr q)]
      have e5 : jn X (j + 1) = cloM (clM (jn X j) ((j : Int) + 1) 2) ((j : Int) + 1) 2 240 := by simp only [jn]; rw [if_pos q]
      have hL : ∀ g : Nat, g < 30 → jn X (j + 1) g = clM (jn X j) ((j : Int) + 1) 2 g := fun g hg => by rw [e5, cloM_g (by omega) (by omega)]
      have hH : ∀ g : Nat, 30 ≤ g → jn X (j + 1) g = cloM (jn X j) ((j : Int) + 1) 2 240 g := fun g hg => by
        rw [e5]
        exact cloM_hi (fun x hx => clM_g (by omega) (by omega) (by omega)) g hg
      refine ⟨clo_both i1 ⟨by omega, by rw [i5]; omega⟩ (Or.inl rfl) (fun g hg => hL g (by omega)) (fun g g1 _ => hH g g1), fun g hg => ?_, fun g hg => ?_, by rw [e3, e4, i4], ?_, ?_, ?_⟩
      · rw [e1, hL g hg]
        exact clM_lo i2 g hg
      · rw [e2, hH g hg]
        exact cloM_hi i3 g hg
      · rw [hL 7 (by decide), clM_g (by decide) (by decide) (by decide)]; exact i5
      · rw [hL 0 (by decide), clM_g (by decide) (by decide) (by decide)]; exact i6
      · rw [hH 30 (by decide), cloM_g (by decide) (by decide)]; exact i7
    · have e1 : psS A (j + 1) = psS A j := by simp only [psS]; rw [if_neg (fun x => q (c1.mp x))]
      have e2 : pdS B (j + 1) = pdS B j := by simp only [pdS]; rw [if_neg (fun x => q (c2.mp x))]
      have e3 : psC A (j + 1) = psC A j := by simp only [psC]; rw [if_neg (fun x => q (c1.mp x))]
      have e4 : pdC B (j + 1) = pdC B j := by simp only [pdC]; rw [if_neg (fun x => q (c2.mp x))]
      have e5 : jn X (j + 1) = jn X j := by simp only [jn]; rw [if_neg q]
      rw [e1, e2, e3, e4, e5]
      exact ⟨i1, i2, i3, i4, i5, i6, i7⟩
/-- a booking with seats in one row only -/
theorem INV.mayW {M : Mem} {c t row : Int} (h : INV M c) (t1 : 1 ≤ t) (t2 : t ≤ M 7 0 8) : (M 35 0 t = 1 ∧ ∃ f g : Int, isFst (M 34 0) t 240 f ∧ isLst (M 34 0) t 240 g ∧ f / 20 = g / 20 ∧ f / 20 ≠ row) ↔ (M 8 0 t = 1 ∧ M 13 0 t ≠ -1 ∧ M 13 0 t ≠ row) := by
  have ti := (h.2.1.2.2.1 t t1 t2).1.1
  rw [ti]
  have key : M 8 0 t = 1 → ∀ {f g : Int}, isFst (M 34 0) t 240 f → isLst (M 34 0) t 240 g → (M 13 0 t ≠ -1 ∧ f / 20 = M 13 0 t ∧ g / 20 = M 13 0 t) ∨ (M 13 0 t = -1 ∧ f / 20 ≠ g / 20) := fun o {f g} hf hg => by
    rcases (h.2.2.2.1 t t1 t2).1 (by omega) with ⟨b1, b2, b3⟩ | ⟨b1, b2, a, b, a0, a1, b0, b1', ea, eb, ne⟩
    · have w := h.hw.2.2 _ b1.1 b1.2
      have n := h.hw.2.1
      refine Or.inl ⟨by omega, ?_, ?_⟩
      · rcases hf with ⟨_, q⟩ | ⟨q1, q2, q3, q4⟩
        · exact absurd ((b3 (20 * M 13 0 t + M 14 0 t) (by omega) (by omega)).mpr ⟨by omega, by omega⟩) (q _ (by omega) (by omega))
        · have := (b3 f q1 q2).mp q3; omega
      · rcases hg with ⟨_, q⟩ | ⟨q1, q2, q3, q4⟩
        · exact absurd ((b3 (20 * M 13 0 t + M 14 0 t) (by omega) (by omega)).mpr ⟨by omega, by omega⟩) (q _ (by omega) (by omega))
        · have := (b3 g q1 q2).mp q3; omega
    · refine Or.inr ⟨b1, fun e => ne ?_⟩
      have fa : ∀ x : Int, 0 ≤ x → x < 240 → M 34 0 x = t → f ≤ x := fun x x0 x1 x2 => by
        rcases hf with ⟨_, q⟩ | ⟨q1, q2, q3, q4⟩
        · exact absurd x2 (q x x0 x1)
        · by_cases q : f ≤ x
          · exact q
          · exact absurd x2 (q4 x x0 (by omega))
      have ga : ∀ x : Int, 0 ≤ x → x < 240 → M 34 0 x = t → x ≤ g := fun x x0 x1 x2 => by
        rcases hg with ⟨_, q⟩ | ⟨q1, q2, q3, q4⟩
        · exact absurd x2 (q x x0 x1)
        · by_cases q : x ≤ g
          · exact q
          · exact absurd x2 (q4 x (by omega) x1)
      have := fa a a0 a1 ea
      have := fa b b0 b1' eb
      have := ga a a0 a1 ea
      have := ga b b0 b1' eb
      omega
  constructor
  · intro ⟨o, f, g, hf, hg, e1, e2⟩
    rcases key o hf hg with ⟨a, b, d⟩ | ⟨a, b⟩
    · exact ⟨o, a, by omega⟩
    · exact absurd e1 b
  · intro ⟨o, a, b⟩
    rcases (h.2.2.2.1 t t1 t2).1 (by omega) with ⟨b1, b2, b3⟩ | ⟨x, _⟩
    · have w := h.hw.2.2 _ b1.1 b1.2
      have n := h.hw.2.1
      refine ⟨o, 20 * M 13 0 t + M 14 0 t, 20 * M 13 0 t + M 14 0 t + M 9 0 t - 1, Or.inr ⟨by omega, by omega, (b3 _ (by omega) (by omega)).mpr ⟨by omega, by omega⟩, fun x x0 x1 q => ?_⟩, Or.inr ⟨by omega, by omega, (b3 _ (by omega) (by omega)).mpr ⟨by omega, by omega⟩, fun x x0 x1 q => ?_⟩, by omega, by omega⟩
      · have := (b3 x x0 (by omega)).mp q; omega
      · have := (b3 x (by omega) x1).mp q; omega
    · exact absurd x a
