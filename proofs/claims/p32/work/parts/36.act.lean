/-! what the law does by a number; what it asks -/
def WR (P : OutT → Mem → Prop) (z : Int) (m : Mem) : Prop := ∃ o : OutT, P o m ∧ ((∃ a : Int, o = .inl (some a) ∧ z = a) ∨ ((∃ E, o = .inr E) ∧ z = -99999))
def DO (M : Mem) (k a b c d : Int) : Int → Mem → Prop :=
  if k = 0 then WR (Q_addRow M a b c)
  else if k = 1 then WR (Q_hold M a b)
  else if k = 2 then WR (Q_holdGroup M a b)
  else if k = 3 then WR (Q_holdAt M a b c d)
  else if k = 4 then WR (Q_toggleBlocked M a b)
  else if k = 5 then WR (Q_pass M a)
  else if k = 6 then WR (Q_pay M a)
  else if k = 7 then WR (Q_cancel M a)
  else if k = 8 then WR (Q_extend M a b)
  else if k = 9 then WR (Q_wish M a b)
  else WR (Q_exchange M a)
def odI (v : Int) : Int := if lowI (shI v 24) 8 = 0 then 1 else 0
def pk (o a b : Int) : Int := if o = 1 then a else b
def opI (o T n v : Int) : Int × Int × Int × Int × Int :=
  if lowI v 24 < 2 ∨ n < 2 then (0, lowI (shI v 5) (pk o 23 10) + pk o 0 1, lowI (shI v 9) (pk o 1100 20), lowI (shI v 3) (pk o 11000 200), 0)
  else if lowI v 24 < 8 then (1, 1 + lowI (shI v 7) (pk o 24 3), lowI (shI v 10) (pk o 220 40) + pk o 0 1, 0, 0)
  else if lowI v 24 = 8 then (3, lowI (shI v 4) (pk o 14 (n + 1)), lowI (shI v 6) 10, 1 + lowI (shI v 7) (pk o 24 3), 20)
  else if lowI v 24 = 9 then (2, lowI (shI v 5) (pk o 120 14), 15, 0, 0)
  else if lowI v 24 = 10 then (4, lowI (shI v 4) (pk o 14 (n + 1)), lowI (shI v 7) 10, 0, 0)
  else if lowI v 24 = 11 then (5, lowI (shI v 5) (pk o 1100 10), 0, 0, 0)
  else if lowI v 24 < 16 then (6, lowI (shI v 5) (T + 1) + pk o 0 1, 0, 0, 0)
  else if lowI v 24 = 16 then (7, lowI (shI v 5) (T + 1) + pk o 0 1, 0, 0, 0)
  else if lowI v 24 = 17 then (8, lowI (shI v 5) (T + 1) + pk o 0 1, lowI (shI v 8) (pk o 220 30), 0, 0)
  else if lowI v 24 < 21 then (9, lowI (shI v 5) (T + 1) + pk o 0 1, lowI (shI v 4) (pk o 14 (n + 1)), 0, 0)
  else (10, lowI (shI v 5) (T + 1) + pk o 0 1, 0, 0, 0)
def opF (M : Mem) (v : Int) : Int × Int × Int × Int × Int := opI (odI v) (M 7 0 8) (M 1 0 4) v
def ACT (M : Mem) (v : Int) : Int → Mem → Prop := DO M (opF M v).1 (opF M v).2.1 (opF M v).2.2.1 (opF M v).2.2.2.1 (opF M v).2.2.2.2
def LEFT (M : Mem) (c z : Int) (m : Mem) : Prop := INV m (c + 1) ∧ ENDS m ∧ FR M m ∧ (z = -99999 → S16 M m) ∧ (z = -99999 ∨ (-1 ≤ z ∧ z ≤ 2500000 + 1000 * c))
theorem wr_ok {M m : Mem} {c z : Int} {P : OutT → Mem → Prop} (h : ∀ o, P o m → GOOD M c o m) (q : WR P z m) : LEFT M c z m := by
  obtain ⟨o, q1, q2⟩ := q
  obtain ⟨g1, g2, g3, g4⟩ := h o q1
  refine ⟨g1, g2, g3, fun e => ?_, ?_⟩
  rotate_left
  · rcases g4 with ⟨E, e1, _⟩ | ⟨a, e1, e2⟩
    · rcases q2 with ⟨b, e3, e4⟩ | ⟨_, e4⟩
      · rw [e1] at e3; cases e3
      · exact Or.inl e4
    · rcases q2 with ⟨b, e3, e4⟩ | ⟨⟨E, e3⟩, _⟩
      · rw [e1] at e3
        have : a = b := by simpa using e3
        exact Or.inr (by omega)
      · rw [e1] at e3; cases e3
  rcases g4 with ⟨E, _, s⟩ | ⟨a, e1, e2⟩
  · exact s
  · rcases q2 with ⟨b, e3, e4⟩ | ⟨⟨E, e3⟩, _⟩
    · rw [e1] at e3
      have : a = b := by simpa using e3
      omega
    · rw [e1] at e3; cases e3
theorem wr_det {m m' : Mem} {z z' : Int} {P P' : OutT → Mem → Prop} (h : ∀ o o', P o m → P' o' m' → SAM o o' m m') (q : WR P z m) (q' : WR P' z' m') : z = z' ∧ S16 m m' := by
  obtain ⟨o, q1, q2⟩ := q
  obtain ⟨o', p1, p2⟩ := q'
  obtain ⟨e, s⟩ := h o o' q1 p1
  subst e
  refine ⟨?_, s⟩
  rcases q2 with ⟨a, e1, e2⟩ | ⟨⟨E, e1⟩, e2⟩ <;> rcases p2 with ⟨b, e3, e4⟩ | ⟨⟨F, e3⟩, e4⟩
  · rw [e1] at e3
    have : a = b := by simpa using e3
    omega
  · rw [e1] at e3; cases e3
  · rw [e1] at e3; cases e3
  · omega
theorem do_ok {M m : Mem} {c z k x1 x2 x3 x4 : Int} (h : INV M c) (he : ENDS M) (q : DO M k x1 x2 x3 x4 z m) : LEFT M c z m := by
  unfold DO at q
  by_cases e0 : k = 0
  · rw [if_pos e0] at q; exact wr_ok (fun o => k_addRow h he) q
  rw [if_neg e0] at q
  by_cases e1 : k = 1
  · rw [if_pos e1] at q; exact wr_ok (fun o => k_hold h he) q
  rw [if_neg e1] at q
  by_cases e2 : k = 2
  · rw [if_pos e2] at q; exact wr_ok (fun o => k_holdGroup h he) q
  rw [if_neg e2] at q
  by_cases e3 : k = 3
  · rw [if_pos e3] at q; exact wr_ok (fun o => k_holdAt h he) q
  rw [if_neg e3] at q
  by_cases e4 : k = 4
  · rw [if_pos e4] at q; exact wr_ok (fun o => k_toggleBlocked h he) q
  rw [if_neg e4] at q
  by_cases e5 : k = 5
  · rw [if_pos e5] at q; exact wr_ok (fun o => k_pass h he) q
  rw [if_neg e5] at q
  by_cases e6 : k = 6
  · rw [if_pos e6] at q; exact wr_ok (fun o => k_pay h he) q
  rw [if_neg e6] at q
  by_cases e7 : k = 7
  · rw [if_pos e7] at q; exact wr_ok (fun o => k_cancel h he) q
  rw [if_neg e7] at q
  by_cases e8 : k = 8
  · rw [if_pos e8] at q; exact wr_ok (fun o => k_extend h he) q
  rw [if_neg e8] at q
  by_cases e9 : k = 9
  · rw [if_pos e9] at q; exact wr_ok (fun o => k_wish h he) q
  rw [if_neg e9] at q
  exact wr_ok (fun o => k_exchange h he) q
theorem do_det {M M' m m' : Mem} {c z z' k x1 x2 x3 x4 : Int} (h : INV M c) (s : S16 M M') (q : DO M k x1 x2 x3 x4 z m) (q' : DO M' k x1 x2 x3 x4 z' m') : z = z' ∧ S16 m m' := by
  unfold DO at q q'
  by_cases e0 : k = 0
  · rw [if_pos e0] at q q'; exact wr_det (fun o o' => d_addRow s) q q'
  rw [if_neg e0] at q q'
  by_cases e1 : k = 1
  · rw [if_pos e1] at q q'; exact wr_det (fun o o' => d_hold s) q q'
  rw [if_neg e1] at q q'
  by_cases e2 : k = 2
  · rw [if_pos e2] at q q'; exact wr_det (fun o o' => d_holdGroup h.hw.1 s) q q'
  rw [if_neg e2] at q q'
  by_cases e3 : k = 3
  · rw [if_pos e3] at q q'; exact wr_det (fun o o' => d_holdAt s) q q'
  rw [if_neg e3] at q q'
  by_cases e4 : k = 4
  · rw [if_pos e4] at q q'; exact wr_det (fun o o' => d_toggleBlocked s) q q'
  rw [if_neg e4] at q q'
  by_cases e5 : k = 5
  · rw [if_pos e5] at q q'; exact wr_det (fun o o' => d_pass s) q q'
  rw [if_neg e5] at q q'
  by_cases e6 : k = 6
  · rw [if_pos e6] at q q'; exact wr_det (fun o o' => d_pay s) q q'
  rw [if_neg e6] at q q'
  by_cases e7 : k = 7
  · rw [if_pos e7] at q q'; exact wr_det (fun o o' => d_cancel s) q q'
  rw [if_neg e7] at q q'
  by_cases e8 : k = 8
  · rw [if_pos e8] at q q'; exact wr_det (fun o o' => d_extend s) q q'
  rw [if_neg e8] at q q'
  by_cases e9 : k = 9
  · rw [if_pos e9] at q q'; exact wr_det (fun o o' => d_wish s) q q'
  rw [if_neg e9] at q q'
  exact wr_det (fun o o' => d_exchange h s) q q'
theorem act_ok {M m : Mem} {c v z : Int} (h : INV M c) (he : ENDS M) (q : ACT M v z m) : LEFT M c z m := do_ok h he q
theorem act_det {M M' m m' : Mem} {c v z z' : Int} (h : INV M c) (s : S16 M M') (q : ACT M v z m) (q' : ACT M' v z' m') : z = z' ∧ S16 m m' := by
  have e : opF M' v = opF M v := by unfold opF; rw [s 7 (by decide), s 1 (by decide)]
  unfold ACT at q'
  rw [e] at q'
  exact do_det h s q q'
/-! seats and tickets -/
def soM (M : Mem) (t : Int) : Int := if M 8 0 t = 0 ∨ M 8 0 t = 1 then M 9 0 t else 0
def ownC (M : Mem) (r : Int) : Int := sumI (fun s => if 0 < M 6 r s then 1 else 0) (M 2 0 r)
theorem sumTo_plus (f g : Int → Int) : ∀ k : Nat, sumTo (fun i => f i + g i) k = sumTo f k + sumTo g k
  | 0 => rfl
  | k + 1 => by
    have ih := sumTo_plus f g k
    show sumTo (fun i => f i + g i) k + (f (k : Int) + g (k : Int)) = (sumTo f k + f (k : Int)) + (sumTo g k + g (k : Int))
    omega
/-- two sums, the one within the other, change places -/
theorem sumTo_swap (f : Int → Int → Int) (n : Int) : ∀ k : Nat, sumTo (fun t => sumI (f t) n) k = sumI (fun a => sumTo (fun t => f t a) k) n
  | 0 => by
    show 0 = sumI (fun _ => 0) n
    exact (sumI_zero (fun _ _ _ => rfl)).symm
  | k + 1 => by
    have ih := sumTo_swap f n k
    show sumTo (fun t => sumI (f t) n) k + sumI (f (k : Int)) n = sumI (fun a => sumTo (fun t => f t a) k + f (k : Int) a) n
    rw [ih]
    unfold sumI
    exact (sumTo_plus _ _ _).symm
/-- a number from 1 on is met just once -/
theorem sumTo_hit (o : Int) : ∀ k : Nat, sumTo (fun t => if o = t + 1 then (1 : Int) else 0) k = if 1 ≤ o ∧ o ≤ (k : Int) then 1 else 0
  | 0 => by rw [if_neg (by omega)]; rfl
  | k + 1 => by
    have ih := sumTo_hit o k
    show sumTo (fun t => if o = t + 1 then (1 : Int) else 0) k + (if o = (k : Int) + 1 then 1 else 0) = _
    rw [ih]
    by_cases e : o = (k : Int) + 1
    · rw [if_pos e, if_neg (by omega), if_pos (by omega)]; rfl
    · rw [if_neg e]
      by_cases e2 : 1 ≤ o ∧ o ≤ (k : Int)
      · rw [if_pos e2, if_pos (by omega)]; rfl
      · rw [if_neg e2, if_neg (by omega)]; rfl
theorem own_tot {M : Mem} {c : Int} (h : INV M c) : sumI (ownC M) (M 1 0 4) = sumI (fun t => soM M (t + 1)) (M 7 0 8) := by
  have b0 := h.bw.1
  have e1 : sumI (fun t => soM M (t + 1)) (M 7 0 8) = sumI (fun t => many M (t + 1)) (M 7 0 8) := sumI_cg (fun t t0 t1 => (h.many (by omega) (by omega)).symm)
  have e2 : sumI (fun t => many M (t + 1)) (M 7 0 8) = sumI (fun a => if 0 < fo M a then 1 else 0) 240 := by
    show sumTo (fun t => sumI (fun a => if fo M a = t + 1 then 1 else 0) 240) (M 7 0 8).toNat = _
    rw [sumTo_swap (fun t a => if fo M a = t + 1 then 1 else 0) 240]
    refine sumI_cg (fun a a0 a1 => ?_)
    show sumTo (fun t => if fo M a = t + 1 then (1 : Int) else 0) (M 7 0 8).toNat = _
    rw [sumTo_hit]
    have k := (h.2.2.1 a a0 a1).2
    by_cases p : 0 < fo M a
    · rw [if_pos p, if_pos (by omega)]
    · rw [if_neg p, if_neg (by omega)]
  rw [e1, e2]
  refine (sumI_rows h.hw (g := fun r s => if 0 < M 6 r s then 1 else 0) (fun r s r0 r1 s0 s1 => ?_) (fun r s r0 r1 s0 s1 q => if_neg ?_)).symm
  · rw [fo_at s0 s1]
  · have k := (h.2.2.1 (20 * r + s) (by omega) (by omega)).1 (by
      unfold vld
      rw [show (20 * r + s) / 20 = r by omega, show (20 * r + s) % 20 = s by omega]
      exact q)
    rw [fo_at s0 s1] at k
    omega
/-- a closed ticket has no seats -/
theorem INV.closed {M : Mem} {c t : Int} (h : INV M c) (t1 : 1 ≤ t) (o : 1 < M 8 0 t) : priceM M t = 0 := by
  refine sumI_zero (fun r r0 r1 => sumI_zero (fun s s0 s1 => if_neg (fun e => ?_)))
  rcases h.seat r0 r1 s0 s1 with q | q | q
  · omega
  · omega
  · rw [e] at q; omega
/-! the longest block, and the best -/
theorem long_none {M : Mem} {c n z : Int} (h : INV M c) (hn : 1 ≤ n) (hl : isLongR (M 1 0 4) (M 2 0) (M 6) z) (hb : bestM M n (-1)) : z < n := by
  by_cases q : z < n
  · exact q
  · exfalso
    rcases hl.2.2 with e | ⟨r, f, r0, r1, f0, f1, a⟩
    · omega
    · have cB' : cB (M 2 0) (M 6) n True r f := ⟨by omega, fun s s0 s1 => a s s0 (by omega), Or.inl trivial⟩
      rcases hb with ⟨x, _⟩ | ⟨_, bv, hb⟩
      · exact absurd rfl x
      · rcases hb with ⟨_, hb⟩ | ⟨r', f', e, _, r0', _, f0', _⟩
        · exact hb r f r0 r1 f0 cB'
        · omega
theorem long_some {M : Mem} {c n z b : Int} (h : INV M c) (hn : 1 ≤ n) (hl : isLongR (M 1 0 4) (M 2 0) (M 6) z) (hb : bestM M n b) (hb1 : b ≠ -1) : n ≤ z := by
  have ba := bestG_at hn (fun r r0 r1 => (h.hw.2.2 r r0 r1).2.1) hb hb1
  exact hl.2.1 _ _ n ba.1 ba.2.1 ba.2.2.1 (by omega) ba.2.2.2.1 ba.2.2.2.2.1
theorem best_val {M : Mem} {n b r f : Int} (hn : 1 ≤ n) (hw : HW M) (hb : bestM M n b) (hb1 : b ≠ -1) (ho : hasO (M 2 0 (b / 100)) (M 6 (b / 100)) (b % 100) n) (r0 : 0 ≤ r) (r1 : r < M 1 0 4) (f0 : 0 ≤ f) (f1 : f + n ≤ M 2 0 r) (a : allF (M 6 r) f n) : vB (M 3 0 r) (M 2 0 r) f n ≤ vB (M 3 0 (b / 100)) (M 2 0 (b / 100)) (b % 100) n := by
  have key : ∀ {P : Prop} {bv : Int}, isBestRV (M 1 0 4) (cB (M 2 0) (M 6) n P) (vBR (M 3 0) (M 2 0) n) b bv → (P ∨ ¬ hasO (M 2 0 (b / 100)) (M 6 (b / 100)) (b % 100) n) ∧ (P → vB (M 3 0 r) (M 2 0 r) f n ≤ vB (M 3 0 (b / 100)) (M 2 0 (b / 100)) (b % 100) n) := by
    intro P bv hx
    rcases hx with ⟨x, _⟩ | ⟨r', f', e, _, r0', r1', f0', hc, hm⟩
    · exact absurd x hb1
    · have c1 := hc.1
      have c2 := (hw.2.2 r' r0' r1').2.1
      have e1 : b / 100 = r' := by omega
      have e2 : b % 100 = f' := by omega
      rw [e1, e2]
      exact ⟨hc.2.2, fun p => (hm r f r0 r1 f0 ⟨f1, a, Or.inl p⟩).1⟩
  rcases hb with ⟨_, bv, hx⟩ | ⟨_, bv, hx⟩
  · rcases (key hx).1 with p | p
    · exact p.elim
    · exact absurd ho p
  · exact (key hx).2 trivial
/-! a group -/
theorem can_0 {n : Int} {ok : Int → Int → Prop} {V : Int → Int → Int} (hV : ∀ r s : Int, 0 ≤ r → r < n → 2 ≤ s → ok r s → -400 ≤ V r s ∧ V r s ≤ 20000) : ∀ (j : Nat) (p v : Int), (j : Int) ≤ n → can n ok V j 0 p v → p = 0
  | 0, p, v, _, h => h.2.1
  | j + 1, p, v, hj, h => by
    rcases h with h | ⟨s, h1, h2, h3⟩
    · exact can_0 hV j p v (by omega) h
    · have := (can_bd hV j _ _ _ (by omega) h3).1
      omega
theorem can_1 {n : Int} {ok : Int → Int → Prop} {V : Int → Int → Int} (hV : ∀ r s : Int, 0 ≤ r → r < n → 2 ≤ s → ok r s → -400 ≤ V r s ∧ V r s ≤ 20000) : ∀ (j : Nat) (p v : Int), (j : Int) ≤ n → can n ok V j 1 p v → ∃ r : Int, 0 ≤ r ∧ r < n ∧ ok r p
  | 0, p, v, _, h => by have := h.1; omega
  | j + 1, p, v, hj, h => by
    rcases h with h | ⟨s, h1, h2, h3⟩
    · exact can_1 hV j p v (by omega) h
    · have q := can_0 hV j _ _ (by omega) h3
      have e : s = p := by omega
      exact ⟨n - 1 - (j : Int), by omega, by omega, e ▸ h2⟩
theorem can_e {n : Int} {ok : Int → Int → Prop} {V : Int → Int → Int} : ∀ j : Nat, can n ok V j 0 0 0
  | 0 => ⟨rfl, rfl, rfl⟩
  | j + 1 => Or.inl (can_e j)
theorem can_r {n : Int} {ok : Int → Int → Prop} {V : Int → Int → Int} {r p : Int} (hp : 2 ≤ p) (ho : ok r p) : ∀ j : Nat, n - (j : Int) ≤ r → r < n → can n ok V j 1 p (V r p)
  | 0, h1, h2 => by omega
  | j + 1, h1, h2 => by
    by_cases e : r = n - 1 - (j : Int)
    · refine Or.inr ⟨p, hp, e ▸ ho, ?_⟩
      rw [← e, show (1 : Int) - 1 = 0 by omega, show p - p = 0 by omega, show V r p - V r p = 0 by omega]
      exact can_e j
    · exact Or.inl (can_r hp ho j (by omega) h2)
theorem okM_iff {M : Mem} {r s : Int} : okM M r s ↔ ∃ f : Int, 0 ≤ f ∧ f + s ≤ M 2 0 r ∧ allF (M 6 r) f s := by
  have sp := bFst_sp (M 2 0) (M 6) (M 3 0) s r
  show 0 ≤ bFst (M 2 0) (M 6) (M 3 0) s r ↔ _
  constructor
  · intro q
    rcases isBest_in sp with c | c
    · omega
    · exact ⟨_, q, c.2.1, c.2.2.1⟩
  · rintro ⟨f, f0, f1, a⟩
    rcases sp with ⟨_, q⟩ | ⟨q, _⟩
    · exact absurd ⟨f1, a, Or.inl trivial⟩ (q f f0)
    · exact q
theorem grp_none {M : Mem} {c people z : Int} (h : INV M c) (hp : 2 ≤ people) (hl : isLongR (M 1 0 4) (M 2 0) (M 6) z) (hn : ∀ b v : Int, ¬ cM M 0 b people v) : z < people := by
  by_cases q : z < people
  · exact q
  · exfalso
    have n0 := h.hw.1
    rcases hl.2.2 with e | ⟨r, f, r0, r1, f0, f1, a⟩
    · omega
    · have ok : okM M r people := okM_iff.mpr ⟨f, f0, by omega, fun s s0 s1 => a s s0 (by omega)⟩
      exact hn 1 (VM M r people) (can_r hp ok _ (by omega) r1)
theorem grp_some {M m : Mem} {c people z : Int} (h : INV M c) (hp : 2 ≤ people) (hl : isLongR (M 1 0 4) (M 2 0) (M 6) z) (hf : FOUND M m people) : 1 ≤ m 16 0 7 ∧ (1 < m 16 0 7 ↔ z < people) := by
  have n0 := h.hw.1
  obtain ⟨f, g, f13, hF, h7, _⟩ := hf
  have hV := VM_bd h.hw
  rcases hF with ⟨a, _⟩ | ⟨f0, _, hc, hm⟩
  · exact absurd a f13
  · have hc' : can (M 1 0 4) (okM M) (VM M) (M 1 0 4 - 0).toNat f people g := hc
    have f1 : f ≠ 0 := fun e => by
      subst e
      have := can_0 hV _ _ _ (by omega) hc'
      omega
    rw [h7]
    refine ⟨by omega, fun q => ?_, fun q => ?_⟩
    · by_cases w : z < people
      · exact w
      · exfalso
        rcases hl.2.2 with e | ⟨r, x, r0, r1, x0, x1, a⟩
        · omega
        · have ok : okM M r people := okM_iff.mpr ⟨x, x0, by omega, fun s s0 s1 => a s s0 (by omega)⟩
          have := hm 1 (VM M r people) (can_r hp ok _ (by omega) r1)
          omega
    · by_cases w : 1 < f
      · exact w
      · exfalso
        have e : f = 1 := by omega
        subst e
        obtain ⟨r, r0, r1, ok⟩ := can_1 hV _ _ _ (by omega) hc'
        obtain ⟨x, x0, x1, a⟩ := okM_iff.mp ok
        have := hl.2.1 r x people r0 r1 x0 (by omega) x1 a
        omega
