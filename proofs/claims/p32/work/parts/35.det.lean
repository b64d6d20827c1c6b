/-! two objects that agree go on alike -/
section DET
variable {M M' : Mem}
theorem S16.u (s : S16 M M') {g : Nat} {i j v : Int} : S16 (updM M g i j v) (updM M' g i j v) := fun h hh => by
  funext i' j'
  show (if h = g ∧ i' = i ∧ j' = j then v else M' h i' j') = (if h = g ∧ i' = i ∧ j' = j then v else M h i' j')
  rw [s h hh]
theorem S16.uu (s : S16 M M') {g : Nat} {i j v v' : Int} (e : v = v') : S16 (updM M g i j v) (updM M' g i j v') := e ▸ s.u
theorem S16.give (s : S16 M M') {r f k ow : Int} : S16 (giveM M r f k ow) (giveM M' r f k ow) := fun h hh => by
  funext i' j'
  unfold giveM
  rw [s h hh]
theorem S16.rel (s : S16 M M') {t R S : Int} : S16 (relM M t R S) (relM M' t R S) := fun h hh => by
  funext i' j'
  unfold relM
  rw [s h hh, s 2 (by decide), s 6 (by decide)]
theorem S16.opn (s : S16 M M') {a b : Int} : S16 (openM M a b) (openM M' a b) := by
  unfold openM
  rw [s 7 (by decide)]
  exact s.u.u.u.u.u.u.u.u.u
theorem S16.gr (s : S16 M M') {row f k a : Int} : S16 (grM M row f k a) (grM M' row f k a) := by
  unfold grM
  rw [s 7 (by decide), s 0 (by decide)]
  exact s.opn.u.u.give
theorem S16.cl (s : S16 M M') {t how : Int} : S16 (clM M t how) (clM M' t how) := by
  unfold clM
  rw [s 1 (by decide)]
  exact s.rel.u.u
theorem S16.ps (s : S16 M M') : ∀ j : Nat, S16 (psS M j) (psS M' j) ∧ psC M j = psC M' j
  | 0 => ⟨s, rfl⟩
  | j + 1 => by
    obtain ⟨i1, i2⟩ := S16.ps s j
    simp only [psS, psC]
    rw [i1 8 (by decide), i1 10 (by decide), s 0 (by decide), i2]
    by_cases q : psS M j 8 0 ((j : Int) + 1) = 0 ∧ psS M j 10 0 ((j : Int) + 1) ≤ M 0 0 4
    · rw [if_pos q, if_pos q, if_pos q]; exact ⟨i1.cl, rfl⟩
    · rw [if_neg q, if_neg q, if_neg q]; exact ⟨i1, rfl⟩
theorem S16.pass (s : S16 M M') {a : Int} : S16 (passM M a) (passM M' a) ∧ passC M a = passC M' a := by
  unfold passM passC
  rw [s 7 (by decide), s 0 (by decide)]
  exact (s.u).ps _
theorem S16.mv (s : S16 M M') {t row f k : Int} : S16 (mvM M t row f k) (mvM M' t row f k) := by
  unfold mvM
  exact s.give.u.u.u
theorem S16.cm (s : S16 M M') {r b p v : Int} : cM M' r b p v ↔ cM M r b p v := by
  unfold cM okM VM
  rw [s 1 (by decide), s 2 (by decide), s 3 (by decide), s 6 (by decide)]
theorem S16.found (s : S16 M M') {m : Mem} {people : Int} (h : FOUND M' m people) : FOUND M m people := by
  unfold FOUND cM TKM okM VM bM at h ⊢
  rw [s 1 (by decide), s 2 (by decide), s 3 (by decide), s 6 (by decide)] at h
  exact h
theorem S16.xfound (s : S16 M M') {m : Mem} {t sz fr_ : Int} (h : XFOUND M' m t sz fr_) : XFOUND M m t sz fr_ := by
  have e : ptM M' sz = ptM M sz := by funext x; unfold ptM; rw [s 15 (by decide), s 9 (by decide)]
  unfold XFOUND at h ⊢
  rw [RM_cg s, e, s 15 (by decide), s 7 (by decide), s 13 (by decide)] at h
  exact h
end DET
/-- one split -/
theorem FOUND_u {M m m' : Mem} {people : Int} (h0 : 0 ≤ M 1 0 4) (h : FOUND M m people) (h' : FOUND M m' people) : m 16 0 7 = m' 16 0 7 ∧ ∀ r : Int, 0 ≤ r → r < M 1 0 4 → m 26 0 r = m' 26 0 r := by
  obtain ⟨f, g, f13, hF, h7, hT, _⟩ := h
  obtain ⟨f', g', f13', hF', h7', hT', _⟩ := h'
  have u := isFG_u (fun b v => Iff.rfl) hF hF'
  have eg := u.2 f13
  have ef := u.1
  subst eg ef
  exact ⟨h7.trans h7'.symm, fun r r0 r1 => TK_u _ _ _ _ hT hT' r (by omega) r1⟩
theorem FOUND_19 {M m m' : Mem} {people : Int} (h0 : 0 ≤ M 1 0 4) (h : FOUND M m people) (h' : FOUND M m' people) : ∀ r : Int, 0 ≤ r → r < M 1 0 4 → 0 < m 26 0 r → m 19 r (m 26 0 r) = m' 19 r (m' 26 0 r) := fun r r0 r1 p => by
  have u := (FOUND_u h0 h h').2 r r0 r1
  rcases (FOUND_row h r0 r1).2 with q | q
  · omega
  · rcases (FOUND_row h' r0 r1).2 with q' | q'
    · omega
    · rw [q.2.1, q'.2.1, u]
theorem gsS_s16 {m m' B B' : Mem} {t n : Int} (s : S16 B B') (e7 : m 16 0 7 = m' 16 0 7) (e26 : ∀ r : Int, 0 ≤ r → r < n → m 26 0 r = m' 26 0 r) (e19 : ∀ r : Int, 0 ≤ r → r < n → 0 < m 26 0 r → m 19 r (m 26 0 r) = m' 19 r (m' 26 0 r)) : ∀ j : Nat, (j : Int) ≤ n → S16 (gsS m B t j) (gsS m' B' t j)
  | 0, _ => s
  | j + 1, hj => by
    have ih := gsS_s16 (t := t) s e7 e26 e19 j (by omega)
    have a := e26 (j : Int) (by omega) (by omega)
    have b := e19 (j : Int) (by omega) (by omega)
    simp only [gsS]
    by_cases p : 0 < m 26 0 (j : Int)
    · rw [← b p, ← a, ← e7, if_pos p, if_pos p]
      by_cases q : m 16 0 7 = 1
      · rw [if_pos q, if_pos q]; exact ih.give.u.u
      · rw [if_neg q, if_neg q]; exact ih.give
    · rw [← a, if_neg p, if_neg p]
      exact ih
theorem chS_s16 {M M' : Mem} {c c' : Int → Int} {r0 f0 k d : Int} (s : S16 M M') (e : ∀ i : Int, 0 ≤ i → i ≤ d → c i = c' i) : ∀ j : Nat, (j : Int) ≤ d → S16 (chS M c r0 f0 k j) (chS M' c' r0 f0 k j)
  | 0, _ => s.give
  | j + 1, hj => by
    have ih := chS_s16 (r0 := r0) (f0 := f0) (k := k) s e j (by omega)
    show S16 (mvM (chS M c r0 f0 k j) (c (j : Int)) (chS M c r0 f0 k j 13 0 (c ((j : Int) + 1))) (chS M c r0 f0 k j 14 0 (c ((j : Int) + 1))) k) (mvM (chS M' c' r0 f0 k j) (c' (j : Int)) (chS M' c' r0 f0 k j 13 0 (c' ((j : Int) + 1))) (chS M' c' r0 f0 k j 14 0 (c' ((j : Int) + 1))) k)
    rw [ih 13 (by decide), ih 14 (by decide), ← e (j : Int) (by omega) (by omega), ← e ((j : Int) + 1) (by omega) (by omega)]
    exact ih.mv
theorem exM_s16 {m m' : Mem} {d : Int} (s : S16 m m') (d0 : 0 ≤ d) (l4 : m 27 0 4 = d + 1) (l4' : m' 27 0 4 = d + 1) (l5 : m 27 0 5 = m' 27 0 5) (e : ∀ i : Int, 0 ≤ i → i ≤ d → m 29 0 i = m' 29 0 i) : S16 (exM m) (exM m') := by
  have eb : bM m' = bM m := by funext a r; unfold bM; rw [s 2 (by decide), s 3 (by decide), s 6 (by decide)]
  have C : S16 (chS m (m 29 0) (m 13 0 (m 29 0 0)) (m 14 0 (m 29 0 0)) (m 27 0 5) d.toNat) (chS m' (m' 29 0) (m 13 0 (m 29 0 0)) (m 14 0 (m 29 0 0)) (m 27 0 5) d.toNat) := chS_s16 s e d.toNat (by omega)
  have e0 := e 0 (Int.le_refl 0) d0
  have ed := e d d0 (Int.le_refl d)
  unfold exM
  rw [eb, l4, l4', ← l5, show d + 1 - 1 = d by omega, s 13 (by decide), s 14 (by decide), s 15 (by decide), ← ed, ← e0]
  by_cases q : bM m (m 27 0 5) (m 15 0 (m 29 0 d)) = -1
  · rw [if_pos q, if_pos q]; exact C.mv
  · rw [if_neg q, if_neg q]; exact C.mv
/-- alike: the same end, memories that agree -/
def SAM (o o' : OutT) (m m' : Mem) : Prop := o = o' ∧ S16 m m'
section DETC
variable {M M' m m' : Mem} {o o' : OutT}
theorem sam_x {E : String} (s : S16 M M') (e : m = M) (e' : m' = M') : SAM (.inr E) (.inr E) m m' := by
  subst e e'
  exact ⟨rfl, s⟩
theorem d_addRow {seats score price : Int} (s : S16 M M') (q : Q_addRow M seats score price o m) (q' : Q_addRow M' seats score price o' m') : SAM o o' m m' := by
  unfold Q_addRow at q'
  rw [s 1 (by decide)] at q'
  rcases q with ⟨rfl, q1, q2⟩ | ⟨rfl, q1, q2⟩ | ⟨z, rfl, q1, q2, q3, rfl⟩ <;> rcases q' with ⟨rfl, p1, p2⟩ | ⟨rfl, p1, p2⟩ | ⟨z', rfl, p1, p2, p3, rfl⟩
  · exact sam_x s q2 p2
  · exact absurd p1.1 q1
  · exact absurd p1 q1
  · exact absurd q1.1 p1
  · exact sam_x s q2 p2
  · exact absurd p2 q1.2
  · exact absurd q1 p1
  · exact absurd q2 p1.2
  · exact ⟨by rw [q3, p3], s.u.u.u.u⟩
theorem d_toggleBlocked {row seat : Int} (s : S16 M M') (q : Q_toggleBlocked M row seat o m) (q' : Q_toggleBlocked M' row seat o' m') : SAM o o' m m' := by
  unfold Q_toggleBlocked at q'
  rw [s 1 (by decide), s 2 (by decide), s 6 (by decide)] at q'
  rcases q with ⟨rfl, q1, q2⟩ | ⟨rfl, q1, q2⟩ | ⟨z, rfl, q1, q2, q3, rfl⟩ <;> rcases q' with ⟨rfl, p1, p2⟩ | ⟨rfl, p1, p2⟩ | ⟨z', rfl, p1, p2, p3, rfl⟩
  · exact sam_x s q2 p2
  · exact absurd p1.1 q1
  · exact absurd p1 q1
  · exact absurd q1.1 p1
  · exact sam_x s q2 p2
  · exfalso; omega
  · exact absurd q1 p1
  · exfalso; omega
  · exact ⟨by rw [q3, p3], s.give⟩
theorem bestM_u {k y z : Int} (h : bestM M k y) (h' : bestM M k z) : y = z := by
  have U : ∀ {al : Prop} {y z b b' : Int}, isBestRV (M 1 0 4) (cB (M 2 0) (M 6) k al) (vBR (M 3 0) (M 2 0) k) y b → isBestRV (M 1 0 4) (cB (M 2 0) (M 6) k al) (vBR (M 3 0) (M 2 0) k) z b' → y = z := fun h1 h2 => isBestRV_u (fun _ _ _ _ _ => Iff.rfl) (fun _ _ _ _ _ _ => rfl) h1 h2
  rcases h with ⟨a, b, d⟩ | ⟨⟨b, d⟩, b2, d2⟩ <;> rcases h' with ⟨a', b', d'⟩ | ⟨⟨b', d'⟩, b2', d2'⟩
  · exact U d d'
  · exact absurd (U d d') a
  · exact absurd (U d' d) a'
  · exact U d2 d2'
theorem d_bestBlock {seats : Int} (s : S16 M M') (q : Q_bestBlock M seats o m) (q' : Q_bestBlock M' seats o' m') : SAM o o' m m' := by
  unfold Q_bestBlock bestM at q'
  rw [s 1 (by decide), s 2 (by decide), s 3 (by decide), s 6 (by decide)] at q'
  rcases q with ⟨rfl, q1, q2⟩ | ⟨rfl, q1, q2⟩ | ⟨z, rfl, q1, q2, q3⟩ <;> rcases q' with ⟨rfl, p1, p2⟩ | ⟨rfl, p1, p2⟩ | ⟨z', rfl, p1, p2, p3⟩
  · exact sam_x s q2 p2
  · exact absurd p1.1 q1
  · exact absurd p1 q1
  · exact absurd q1.1 p1
  · exact sam_x s q2 p2
  · exact absurd (bestM_u p2.1 q1.2) p2.2
  · exact absurd q1 p1
  · exact absurd (bestM_u q2.1 p1.2) q2.2
  · subst q3 p3
    exact ⟨by rw [bestM_u q2.1 p2.1], s⟩
theorem d_hold {seats minutes : Int} (s : S16 M M') (q : Q_hold M seats minutes o m) (q' : Q_hold M' seats minutes o' m') : SAM o o' m m' := by
  unfold Q_hold bestM at q'
  rw [s 1 (by decide), s 2 (by decide), s 3 (by decide), s 6 (by decide), s 7 (by decide)] at q'
  rcases q with ⟨rfl, q1, q2⟩ | ⟨rfl, q1, q2⟩ | ⟨z, rfl, q1, q2, b, q3, q4, rfl⟩ <;> rcases q' with ⟨rfl, p1, p2⟩ | ⟨rfl, p1, p2⟩ | ⟨z', rfl, p1, p2, b', p3, p4, rfl⟩
  · exact sam_x s q2 p2
  · exact absurd p1.1 q1
  · exact absurd p1 q1
  · exact absurd q1.1 p1
  · exact sam_x s q2 p2
  · rcases q1.2 with x | x
    · exact absurd (bestM_u p3.1 x) p3.2
    · exact absurd p2 x
  · exact absurd q1 p1
  · rcases p1.2 with x | x
    · exact absurd (bestM_u q3.1 x) q3.2
    · exact absurd q2 x
  · have e := bestM_u q3.1 p3.1
    subst e
    exact ⟨by rw [q4, p4], s.gr⟩
theorem d_holdAt {row first seats minutes : Int} (s : S16 M M') (q : Q_holdAt M row first seats minutes o m) (q' : Q_holdAt M' row first seats minutes o' m') : SAM o o' m m' := by
  unfold Q_holdAt at q'
  rw [s 1 (by decide), s 2 (by decide), s 6 (by decide), s 7 (by decide)] at q'
  rcases q with ⟨rfl, q1, q2⟩ | ⟨rfl, q1, q2⟩ | ⟨rfl, q1, q2⟩ | ⟨z, rfl, q1, q2, q3, q4, rfl⟩ <;> rcases q' with ⟨rfl, p1, p2⟩ | ⟨rfl, p1, p2⟩ | ⟨rfl, p1, p2⟩ | ⟨z', rfl, p1, p2, p3, p4, rfl⟩
  · exact sam_x s q2 p2
  · exact absurd p1.1 q1
  · exact absurd p1.1.1 q1
  · exact absurd p1.1 q1
  · exact absurd q1.1 p1
  · exact sam_x s q2 p2
  · exact absurd p1.1.2 q1.2
  · exact absurd p1.2 q1.2
  · exact absurd q1.1.1 p1
  · exact absurd q1.1.2 p1.2
  · exact sam_x s q2 p2
  · rcases q1.2 with x | x
    · exact absurd p2 x
    · exact absurd p3 x
  · exact absurd q1.1 p1
  · exact absurd q1.2 p1.2
  · rcases p1.2 with x | x
    · exact absurd q2 x
    · exact absurd q3 x
  · exact ⟨by rw [q4, p4], s.gr⟩
theorem d_rowsForGroup {people : Int} (h0 : 0 ≤ M 1 0 4) (s : S16 M M') (q : Q_rowsForGroup M people o m) (q' : Q_rowsForGroup M' people o' m') : SAM o o' m m' := by
  rcases q with ⟨rfl, q1, q2⟩ | ⟨rfl, q1, q2⟩ | ⟨z, rfl, q1, q2, q3, q4⟩ <;> rcases q' with ⟨rfl, p1, p2⟩ | ⟨rfl, p1, p2⟩ | ⟨z', rfl, p1, p2, p3, p4⟩
  · exact sam_x s q2 p2
  · exact absurd p1.1 q1
  · exact absurd p1 q1
  · exact absurd q1.1 p1
  · exact ⟨rfl, q2.s16.sy.tr (s.tr p2.s16)⟩
  · obtain ⟨b, v, x⟩ := FOUND_can p3
    exact absurd (s.cm.mp x) (q1.2 b v)
  · exact absurd q1 p1
  · obtain ⟨b, v, x⟩ := FOUND_can q3
    exact absurd (s.cm.mpr x) (p1.2 b v)
  · exact ⟨by rw [q4, p4, (FOUND_u h0 q3 (s.found p3)).1], q2.s16.sy.tr (s.tr p2.s16)⟩
theorem d_holdGroup {people minutes : Int} (h0 : 0 ≤ M 1 0 4) (s : S16 M M') (q : Q_holdGroup M people minutes o m) (q' : Q_holdGroup M' people minutes o' m') : SAM o o' m m' := by
  rcases q with ⟨rfl, q1, q2⟩ | ⟨rfl, q1, q2⟩ | ⟨z, rfl, q1, q2, m1, q3, q4, q5, rfl⟩ <;> rcases q' with ⟨rfl, p1, p2⟩ | ⟨rfl, p1, p2⟩ | ⟨z', rfl, p1, p2, m1', p3, p4, p5, rfl⟩
  · exact sam_x s q2 p2
  · exact absurd p1.1 q1
  · exact absurd p1 q1
  · exact absurd q1.1 p1
  · exact ⟨rfl, q2.s16.sy.tr (s.tr p2.s16)⟩
  · rcases q1.2 with x | x
    · obtain ⟨b, v, y⟩ := FOUND_can p4
      exact absurd (s.cm.mp y) (x b v)
    · rw [s 7 (by decide)] at p2
      exact absurd p2 x.2
  · exact absurd q1 p1
  · rcases p1.2 with x | x
    · obtain ⟨b, v, y⟩ := FOUND_can q4
      exact absurd (s.cm.mpr y) (x b v)
    · have x2 := x.2
      rw [s 7 (by decide)] at x2
      exact absurd q2 x2
  · have f := s.found p4
    have u := FOUND_u h0 q4 f
    have u2 := FOUND_19 h0 q4 f
    have sm : S16 m1 m1' := q3.s16.sy.tr (s.tr p3.s16)
    have e1 : m1 1 0 4 = M 1 0 4 := by rw [q3.s16 1 (by decide)]
    refine ⟨by rw [q5, p5, s 7 (by decide)], ?_⟩
    unfold gsM
    rw [sm 7 (by decide), sm 0 (by decide), sm 1 (by decide)]
    exact gsS_s16 (n := M 1 0 4) sm.opn u.1 u.2 u2 _ (by omega)
theorem d_extend {ticket minutes : Int} (s : S16 M M') (q : Q_extend M ticket minutes o m) (q' : Q_extend M' ticket minutes o' m') : SAM o o' m m' := by
  unfold Q_extend at q'
  rw [s 7 (by decide), s 8 (by decide), s 11 (by decide), s 0 (by decide)] at q'
  rcases q with ⟨rfl, q1, q2⟩ | ⟨rfl, q1, q2⟩ | ⟨rfl, q1, q2⟩ | ⟨z, rfl, q1, q2, q3, rfl⟩ <;> rcases q' with ⟨rfl, p1, p2⟩ | ⟨rfl, p1, p2⟩ | ⟨rfl, p1, p2⟩ | ⟨z', rfl, p1, p2, p3, rfl⟩
  · exact sam_x s q2 p2
  · exact absurd p1.1 q1
  · exact absurd p1.1.1 q1
  · exact absurd p1.1 q1
  · exact absurd q1.1 p1
  · exact sam_x s q2 p2
  · exact absurd p1.1.2 q1.2
  · exact absurd p1.2 q1.2
  · exact absurd q1.1.1 p1
  · exact absurd q1.1.2 p1.2
  · exact sam_x s q2 p2
  · exact absurd p2 q1.2
  · exact absurd q1.1 p1
  · exact absurd q1.2 p1.2
  · exact absurd q2 p1.2
  · exact ⟨by rw [q3, p3], s.u.u⟩
theorem d_pay {ticket : Int} (s : S16 M M') (q : Q_pay M ticket o m) (q' : Q_pay M' ticket o' m') : SAM o o' m m' := by
  unfold Q_pay priceM at q'
  rw [s 7 (by decide), s 8 (by decide), s 0 (by decide), s 6 (by decide), s 4 (by decide), s 2 (by decide), s 1 (by decide)] at q'
  rcases q with ⟨rfl, q1, q2⟩ | ⟨rfl, q1, q2⟩ | ⟨z, rfl, q1, q2, q3, rfl⟩ <;> rcases q' with ⟨rfl, p1, p2⟩ | ⟨rfl, p1, p2⟩ | ⟨z', rfl, p1, p2, p3, rfl⟩
  · exact sam_x s q2 p2
  · exact absurd p1.1 q1
  · exact absurd p1 q1
  · exact absurd q1.1 p1
  · exact sam_x s q2 p2
  · exact absurd p2 q1.2
  · exact absurd q1 p1
  · exact absurd q2 p1.2
  · exact ⟨by rw [q3, p3], s.u.u.u⟩
theorem d_cancel {ticket : Int} (s : S16 M M') (q : Q_cancel M ticket o m) (q' : Q_cancel M' ticket o' m') : SAM o o' m m' := by
  unfold Q_cancel at q'
  rw [s 7 (by decide), s 8 (by decide), s 0 (by decide), s 12 (by decide)] at q'
  rcases q with ⟨rfl, q1, q2⟩ | ⟨rfl, q1, q2⟩ | ⟨z, rfl, q1, q2, q3, rfl⟩ <;> rcases q' with ⟨rfl, p1, p2⟩ | ⟨rfl, p1, p2⟩ | ⟨z', rfl, p1, p2, p3, rfl⟩
  · exact sam_x s q2 p2
  · exact absurd p1.1 q1
  · exact absurd p1 q1
  · exact absurd q1.1 p1
  · exact sam_x s q2 p2
  · exact absurd p2 q1.2
  · exact absurd q1 p1
  · exact absurd q2 p1.2
  · exact ⟨by rw [q3, p3], s.cl.u⟩
theorem d_pass {minutes : Int} (s : S16 M M') (q : Q_pass M minutes o m) (q' : Q_pass M' minutes o' m') : SAM o o' m m' := by
  rcases q with ⟨rfl, q1, q2⟩ | ⟨z, rfl, q1, q2, rfl⟩ <;> rcases q' with ⟨rfl, p1, p2⟩ | ⟨z', rfl, p1, p2, rfl⟩
  · exact sam_x s q2 p2
  · exact absurd p1 q1
  · exact absurd q1 p1
  · exact ⟨by rw [q2, p2, s.pass.2], s.pass.1⟩
theorem isEarl_u2 {n : Int} {st en : Int → Int} {y z : Int} (h1 : isEarl n st en y) (h2 : isEarl n st en z) : y = z := isEarl_u (fun _ _ _ => Iff.rfl) (fun _ _ _ _ => rfl) h1 h2
theorem d_nextExpiry (s : S16 M M') (q : Q_nextExpiry M o m) (q' : Q_nextExpiry M' o' m') : SAM o o' m m' := by
  unfold Q_nextExpiry at q'
  rw [s 7 (by decide), s 8 (by decide), s 10 (by decide)] at q'
  rcases q with ⟨rfl, q1, q2⟩ | ⟨z, rfl, q1, q2, q3⟩ <;> rcases q' with ⟨rfl, p1, p2⟩ | ⟨z', rfl, p1, p2, p3⟩
  · exact sam_x s q2 p2
  · exact absurd (isEarl_u2 p1 q1) p2
  · exact absurd (isEarl_u2 q1 p1) q2
  · subst q3 p3
    exact ⟨by rw [isEarl_u2 q1 p1], s⟩
theorem d_wish {ticket row : Int} (s : S16 M M') (q : Q_wish M ticket row o m) (q' : Q_wish M' ticket row o' m') : SAM o o' m m' := by
  unfold Q_wish at q'
  rw [s 7 (by decide), s 1 (by decide), s 8 (by decide), s 13 (by decide), s 15 (by decide)] at q'
  rcases q with ⟨rfl, q1, q2⟩ | ⟨rfl, q1, q2⟩ | ⟨z, rfl, q1, q2, q3, rfl⟩ <;> rcases q' with ⟨rfl, p1, p2⟩ | ⟨rfl, p1, p2⟩ | ⟨z', rfl, p1, p2, p3, rfl⟩
  · exact sam_x s q2 p2
  · exact absurd p1.1 q1
  · exact absurd p1 q1
  · exact absurd q1.1 p1
  · exact sam_x s q2 p2
  · exact absurd p2 q1.2
  · exact absurd q1 p1
  · exact absurd q2 p1.2
  · exact ⟨by rw [q3, p3], s.u⟩
theorem d_exchange {c ticket : Int} (h : INV M c) (s : S16 M M') (q : Q_exchange M ticket o m) (q' : Q_exchange M' ticket o' m') : SAM o o' m m' := by
  unfold Q_exchange at q'
  rw [RM_cg s, s 7 (by decide), s 15 (by decide), s 9 (by decide), s 13 (by decide)] at q'
  have nox : ∀ {x : Mem}, XFOUND M x ticket (M 9 0 ticket) (M 13 0 ticket) → ∃ k : Nat, RM M (M 9 0 ticket) (M 13 0 ticket) k (M 15 0 ticket) := fun {x} ⟨d, d0, d1, hD, _⟩ => by
    rcases hD with ⟨a, _⟩ | ⟨_, _, b, _⟩
    · omega
    · exact ⟨_, b⟩
  rcases q with ⟨rfl, q1, q2⟩ | ⟨rfl, q1, q2⟩ | ⟨z, rfl, q1, q2, m1, q3, q4, q5, rfl⟩ <;> rcases q' with ⟨rfl, p1, p2⟩ | ⟨rfl, p1, p2⟩ | ⟨z', rfl, p1, p2, m1', p3, p4, p5, rfl⟩
  · exact sam_x s q2 p2
  · exact absurd p1.1 q1
  · exact absurd p1 q1
  · exact absurd q1.1 p1
  · exact ⟨rfl, q2.s16.sy.tr (s.tr p2.s16)⟩
  · rcases q1.2 with x | x
    · exact absurd x p2
    · obtain ⟨k, y⟩ := nox (s.xfound p4)
      exact absurd y (x.2 k)
  · exact absurd q1 p1
  · rcases p1.2 with x | x
    · exact absurd x q2
    · obtain ⟨k, y⟩ := nox q4
      exact absurd y (x.2 k)
  · obtain ⟨d, d0, d1, l4, l5, hD, hC, CK, CI⟩ := XF_chain h q1.1 q1.2 q2 q4
    obtain ⟨d', d0', d1', l4', l5', hD', hC', CK', CI'⟩ := XF_chain h q1.1 q1.2 q2 (s.xfound p4)
    have ed := isD_same hD hD'
    subst ed
    have sm : S16 m1 m1' := q3.s16.sy.tr (s.tr p3.s16)
    have cu := chain_u ⟨q1.1, q1.2, q2, rfl⟩ (fun _ _ _ => Iff.rfl) (fun _ _ _ _ => ⟨rfl, rfl⟩) (fun _ _ => Iff.rfl) hC hC'
    refine ⟨by rw [q5, p5, l4, l4'], exM_s16 (d := d) sm d0 l4 l4' (l5.trans l5'.symm) (fun i i0 i1 => ?_)⟩
    have := (cu i.toNat (by omega)).1
    rw [Int.toNat_of_nonneg i0] at this
    exact this
end DETC
