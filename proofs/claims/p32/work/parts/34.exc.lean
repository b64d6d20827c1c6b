/-! the exchange -/
theorem reach_cg {T : Int} {pt pt' : Int → Prop} {rw_ rw' ws ws' : Int → Int} {en en' : Int → Prop} (hp : ∀ t : Int, 1 ≤ t → t ≤ T → (pt t ↔ pt' t)) (hr : ∀ t : Int, 1 ≤ t → t ≤ T → pt t → rw_ t = rw' t ∧ ws t = ws' t) (he : ∀ r, en r ↔ en' r) : ∀ (k : Nat) (r : Int), reach T pt rw_ ws en k r ↔ reach T pt' rw' ws' en' k r
  | 0, r => he r
  | k + 1, r => by
    have ih := reach_cg hp hr he k
    constructor
    · intro ⟨t, t1, t2, t3, t4, t5⟩
      have q := hr t t1 t2 t3
      exact ⟨t, t1, t2, (hp t t1 t2).mp t3, q.1.symm.trans t4, (ih _).mp (q.2 ▸ t5)⟩
    · intro ⟨t, t1, t2, t3, t4, t5⟩
      have p := (hp t t1 t2).mpr t3
      have q := hr t t1 t2 p
      exact ⟨t, t1, t2, p, q.1.trans t4, (ih _).mpr (q.2.symm ▸ t5)⟩
theorem isD_cg {R R' : Nat → Int → Prop} {r r' d : Int} (hr : r = r') (h : ∀ k, R k r ↔ R' k r) : isD R r d ↔ isD R' r' d := by
  subst hr
  unfold isD
  constructor
  · rintro (⟨a, b⟩ | ⟨a, b, c, e⟩)
    · exact Or.inl ⟨a, fun k q => b k ((h k).mpr q)⟩
    · exact Or.inr ⟨a, b, (h _).mp c, fun k q => e k ((h k).mpr q)⟩
  · rintro (⟨a, b⟩ | ⟨a, b, c, e⟩)
    · exact Or.inl ⟨a, fun k q => b k ((h k).mp q)⟩
    · exact Or.inr ⟨a, b, (h _).mpr c, fun k q => e k ((h k).mp q)⟩
theorem chain_u {T : Int} {R R' : Nat → Int → Prop} {pt pt' : Int → Prop} {rw_ rw' ws ws' : Int → Int} {t d : Int} {c c' : Int → Int} (ht : 1 ≤ t ∧ t ≤ T ∧ pt t) (hp : ∀ t : Int, 1 ≤ t → t ≤ T → (pt t ↔ pt' t)) (hr : ∀ t : Int, 1 ≤ t → t ≤ T → pt t → rw_ t = rw' t ∧ ws t = ws' t) (hR : ∀ k r, R k r ↔ R' k r) (h : isChain T R pt rw_ ws t d c) (h' : isChain T R' pt' rw' ws' t d c') : ∀ k : Nat, (k : Int) ≤ d → c (k : Int) = c' (k : Int) ∧ 1 ≤ c (k : Int) ∧ c (k : Int) ≤ T ∧ pt (c (k : Int))
  | 0, _ => ⟨h.1.trans h'.1.symm, by have e := h.1; show 1 ≤ c 0 ∧ c 0 ≤ T ∧ pt (c 0); rw [e]; exact ht⟩
  | k + 1, hk => by
    have ih := chain_u ht hp hr hR h h' k (by omega)
    have a := h.2 ((k + 1 : Nat) : Int) (by omega) hk
    have b := h'.2 ((k + 1 : Nat) : Int) (by omega) hk
    have e : ((k + 1 : Nat) : Int) - 1 = (k : Int) := by omega
    rw [e] at a b
    refine ⟨isLow_u (fun x x1 x2 => ?_) a b, a.1, a.2.1, a.2.2.1.1⟩
    have wc := (hr _ ih.2.1 ih.2.2.1 ih.2.2.2).2
    rw [← ih.1, ← wc]
    constructor
    · intro ⟨q1, q2, q3⟩
      have q := hr x x1 x2 q1
      exact ⟨(hp x x1 x2).mp q1, q.1.symm.trans q2, (isD_cg q.2 (fun k => hR k _)).mp q3⟩
    · intro ⟨q1, q2, q3⟩
      have p := (hp x x1 x2).mpr q1
      have q := hr x x1 x2 p
      exact ⟨p, q.1.trans q2, (isD_cg q.2 (fun k => hR k _)).mpr q3⟩
theorem chain_i {T : Int} {R : Nat → Int → Prop} {pt : Int → Prop} {rw_ ws : Int → Int} {t d : Int} {c : Int → Int} (hd : isD R (ws t) d) (h : isChain T R pt rw_ ws t d c) : ∀ i j : Int, 0 ≤ i → i ≤ d → 0 ≤ j → j ≤ d → c i = c j → i = j := by
  have D : ∀ i : Int, 0 ≤ i → i ≤ d → isD R (ws (c i)) (d - i) := fun i i0 i1 => by
    by_cases e : i = 0
    · subst e
      rw [h.1, show d - 0 = d by omega]
      exact hd
    · exact (h.2 i (by omega) i1).2.2.1.2.2
  intro i j i0 i1 j0 j1 e
  have a := D i i0 i1
  have b := D j j0 j1
  rw [e] at a
  have := isD_same a b
  omega
def owF (c Dr Df : Int → Int) (k : Int) (base : Int → Int) : Nat → Int → Int
  | 0, a => base a
  | j + 1, a => if 20 * Dr (j : Int) + Df (j : Int) ≤ a ∧ a < 20 * Dr (j : Int) + Df (j : Int) + k then c (j : Int) else owF c Dr Df k base j a
abbrev inD (Dr Df : Int → Int) (k j a : Int) : Prop := 20 * Dr j + Df j ≤ a ∧ a < 20 * Dr j + Df j + k
theorem owF_out {c Dr Df : Int → Int} {k : Int} {base : Int → Int} {a : Int} : ∀ n : Nat, (∀ i : Int, 0 ≤ i → i < (n : Int) → ¬ inD Dr Df k i a) → owF c Dr Df k base n a = base a
  | 0, _ => rfl
  | n + 1, h => by
    show (if inD Dr Df k (n : Int) a then c (n : Int) else owF c Dr Df k base n a) = _
    rw [if_neg (h (n : Int) (by omega) (by omega))]
    exact owF_out n (fun i i0 i1 => h i i0 (by omega))
theorem owF_in {c Dr Df : Int → Int} {k : Int} {base : Int → Int} {a j : Int} (j0 : 0 ≤ j) (hj : inD Dr Df k j a) : ∀ n : Nat, j < (n : Int) → (∀ i : Int, j < i → i < (n : Int) → ¬ inD Dr Df k i a) → owF c Dr Df k base n a = c j
  | 0, h, _ => by omega
  | n + 1, h, hi => by
    show (if inD Dr Df k (n : Int) a then c (n : Int) else owF c Dr Df k base n a) = _
    by_cases e : j = (n : Int)
    · rw [← e, if_pos hj]
    · rw [if_neg (hi (n : Int) (by omega) (by omega))]
      exact owF_in j0 hj n (by omega) (fun i i0 i1 => hi i i0 (by omega))
theorem giveM_6 {M : Mem} {row f k ow a : Int} (a0 : 0 ≤ a) (h0 : 0 ≤ f) (h1 : f + k ≤ 20) : giveM M row f k ow 6 (a / 20) (a % 20) = if 20 * row + f ≤ a ∧ a < 20 * row + f + k then ow else M 6 (a / 20) (a % 20) := by
  unfold giveM
  by_cases q : 20 * row + f ≤ a ∧ a < 20 * row + f + k
  · rw [if_pos q, if_pos ⟨rfl, by omega, by omega, by omega⟩]
  · rw [if_neg q, if_neg (fun x => q (by omega))]
theorem chS_all {A : Mem} {c : Int → Int} {d k er ef : Int} (hinj : ∀ i j : Int, 0 ≤ i → i ≤ d → 0 ≤ j → j ≤ d → c i = c j → i = j) (hv : ∀ i : Int, 0 ≤ i → i ≤ d → 0 ≤ A 14 0 (c i) ∧ A 14 0 (c i) + k ≤ 20) : ∀ j : Nat, (j : Int) ≤ d →
    (∀ i : Int, (j : Int) ≤ i → i ≤ d → chS A c (A 13 0 (c 0)) (A 14 0 (c 0)) k j 13 0 (c i) = A 13 0 (c i) ∧ chS A c (A 13 0 (c 0)) (A 14 0 (c 0)) k j 14 0 (c i) = A 14 0 (c i)) ∧
    (∀ i : Int, 0 ≤ i → i < (j : Int) → chS A c (A 13 0 (c 0)) (A 14 0 (c 0)) k j 13 0 (c i) = (if i < d then A 13 0 (c (i + 1)) else er) ∧ chS A c (A 13 0 (c 0)) (A 14 0 (c 0)) k j 14 0 (c i) = (if i < d then A 14 0 (c (i + 1)) else ef) ∧ chS A c (A 13 0 (c 0)) (A 14 0 (c 0)) k j 15 0 (c i) = -1) ∧
    (∀ x : Int, (∀ i : Int, 0 ≤ i → i < (j : Int) → x ≠ c i) → chS A c (A 13 0 (c 0)) (A 14 0 (c 0)) k j 13 0 x = A 13 0 x ∧ chS A c (A 13 0 (c 0)) (A 14 0 (c 0)) k j 14 0 x = A 14 0 x ∧ chS A c (A 13 0 (c 0)) (A 14 0 (c 0)) k j 15 0 x = A 15 0 x) ∧
    ∀ a : Int, 0 ≤ a → chS A c (A 13 0 (c 0)) (A 14 0 (c 0)) k j 6 (a / 20) (a % 20) = owF c (fun i => if i < d then A 13 0 (c (i + 1)) else er) (fun i => if i < d then A 14 0 (c (i + 1)) else ef) k (fun a => if 20 * A 13 0 (c 0) + A 14 0 (c 0) ≤ a ∧ a < 20 * A 13 0 (c 0) + A 14 0 (c 0) + k then 0 else A 6 (a / 20) (a % 20)) j a
  | 0, h0 => by
    have e13 : chS A c (A 13 0 (c 0)) (A 14 0 (c 0)) k 0 13 = A 13 := giveM_g (by decide)
    have e14 : chS A c (A 13 0 (c 0)) (A 14 0 (c 0)) k 0 14 = A 14 := giveM_g (by decide)
    have e15 : chS A c (A 13 0 (c 0)) (A 14 0 (c 0)) k 0 15 = A 15 := giveM_g (by decide)
    have v := hv 0 (Int.le_refl 0) h0
    refine ⟨fun i _ _ => by rw [e13, e14]; exact ⟨rfl, rfl⟩, fun i i0 i1 => by omega, fun x _ => by rw [e13, e14, e15]; exact ⟨rfl, rfl, rfl⟩, fun a a0 => ?_⟩
    exact giveM_6 a0 v.1 v.2
  | j + 1, hj => by
    obtain ⟨i1, i2, i3, i4⟩ := chS_all (er := er) (ef := ef) hinj hv j (by omega)
    have nx := i1 ((j : Int) + 1) (by omega) (by omega)
    have st : chS A c (A 13 0 (c 0)) (A 14 0 (c 0)) k (j + 1) = mvM (chS A c (A 13 0 (c 0)) (A 14 0 (c 0)) k j) (c (j : Int)) (A 13 0 (c ((j : Int) + 1))) (A 14 0 (c ((j : Int) + 1))) k := by
      show mvM _ (c (j : Int)) (chS A c (A 13 0 (c 0)) (A 14 0 (c 0)) k j 13 0 (c ((j : Int) + 1))) (chS A c (A 13 0 (c 0)) (A 14 0 (c 0)) k j 14 0 (c ((j : Int) + 1))) k = _
      rw [nx.1, nx.2]
    rw [st]
    refine ⟨fun i a b => ?_, fun i a b => ?_, fun x hx => ?_, fun a a0 => ?_⟩
    · have ne : c i ≠ c (j : Int) := fun q => by have := hinj i (j : Int) (by omega) b (by omega) (by omega) q; omega
      rw [mvM_13, mvM_14, if_neg ne, if_neg ne]
      exact i1 i (by omega) b
    · rw [mvM_13, mvM_14, mvM_15]
      by_cases e : i = (j : Int)
      · subst e
        rw [if_pos rfl, if_pos rfl, if_pos rfl, if_pos (by omega), if_pos (by omega)]
        exact ⟨rfl, rfl, rfl⟩
      · have ne : c i ≠ c (j : Int) := fun q => e (hinj i (j : Int) a (by omega) (by omega) (by omega) q)
        rw [if_neg ne, if_neg ne, if_neg ne]
        exact i2 i a (by omega)
    · have ne := hx (j : Int) (by omega) (by omega)
      rw [mvM_13, mvM_14, mvM_15, if_neg ne, if_neg ne, if_neg ne]
      exact i3 x (fun i a b => hx i a (by omega))
    · have v := hv ((j : Int) + 1) (by omega) (by omega)
      have e6 : mvM (chS A c (A 13 0 (c 0)) (A 14 0 (c 0)) k j) (c (j : Int)) (A 13 0 (c ((j : Int) + 1))) (A 14 0 (c ((j : Int) + 1))) k 6 (a / 20) (a % 20) = giveM (chS A c (A 13 0 (c 0)) (A 14 0 (c 0)) k j) (A 13 0 (c ((j : Int) + 1))) (A 14 0 (c ((j : Int) + 1))) k (c (j : Int)) 6 (a / 20) (a % 20) := by
        unfold mvM
        rw [updM_g (by decide), updM_g (by decide), updM_g (by decide)]
      rw [e6, giveM_6 a0 v.1 v.2, i4 a a0]
      have e1 : (if (j : Int) < d then A 13 0 (c ((j : Int) + 1)) else er) = A 13 0 (c ((j : Int) + 1)) := if_pos (by omega)
      have e2 : (if (j : Int) < d then A 14 0 (c ((j : Int) + 1)) else ef) = A 14 0 (c ((j : Int) + 1)) := if_pos (by omega)
      simp only [owF]
      by_cases q : 20 * A 13 0 (c ((j : Int) + 1)) + A 14 0 (c ((j : Int) + 1)) ≤ a ∧ a < 20 * A 13 0 (c ((j : Int) + 1)) + A 14 0 (c ((j : Int) + 1)) + k
      · rw [if_pos q, if_pos (by omega)]
      · rw [if_neg q, if_neg (by omega)]
theorem owF_b {c Dr Df : Int → Int} {k : Int} {base base' : Int → Int} {a : Int} (h : base a = base' a) : ∀ n : Nat, owF c Dr Df k base n a = owF c Dr Df k base' n a
  | 0 => h
  | n + 1 => by simp only [owF]; rw [owF_b h n]
theorem exM_all {M m1 : Mem} {d sz er ef : Int} {ch : Int → Int} (d0 : 0 ≤ d) (lo : ∀ g : Nat, g < 16 → m1 g = M g) (hc : m1 29 0 = ch) (h4 : m1 27 0 4 = d + 1) (h5 : m1 27 0 5 = sz) (hinj : ∀ i j : Int, 0 ≤ i → i ≤ d → 0 ≤ j → j ≤ d → ch i = ch j → i = j) (hv : ∀ i : Int, 0 ≤ i → i ≤ d → 0 ≤ M 14 0 (ch i) ∧ M 14 0 (ch i) + sz ≤ 20) (he : (bM M sz (M 15 0 (ch d)) = -1 ∧ er = M 13 0 (ch 0) ∧ ef = M 14 0 (ch 0)) ∨ (bM M sz (M 15 0 (ch d)) ≠ -1 ∧ er = M 15 0 (ch d) ∧ ef = bM M sz (M 15 0 (ch d)))) (hef : 0 ≤ ef ∧ ef + sz ≤ 20) :
    (∀ i : Int, 0 ≤ i → i ≤ d → exM m1 13 0 (ch i) = (if i < d then M 13 0 (ch (i + 1)) else er) ∧ exM m1 14 0 (ch i) = (if i < d then M 14 0 (ch (i + 1)) else ef) ∧ exM m1 15 0 (ch i) = -1) ∧
    (∀ x : Int, (∀ i : Int, 0 ≤ i → i ≤ d → x ≠ ch i) → exM m1 13 0 x = M 13 0 x ∧ exM m1 14 0 x = M 14 0 x ∧ exM m1 15 0 x = M 15 0 x) ∧
    (∀ g : Nat, g ≠ 6 → g ≠ 13 → g ≠ 14 → g ≠ 15 → exM m1 g = m1 g) ∧
    ∀ a : Int, 0 ≤ a → exM m1 6 (a / 20) (a % 20) = owF ch (fun i => if i < d then M 13 0 (ch (i + 1)) else er) (fun i => if i < d then M 14 0 (ch (i + 1)) else ef) sz (fun a => if 20 * M 13 0 (ch 0) + M 14 0 (ch 0) ≤ a ∧ a < 20 * M 13 0 (ch 0) + M 14 0 (ch 0) + sz then 0 else M 6 (a / 20) (a % 20)) (d + 1).toNat a := by
  have b1 : bM m1 sz = bM M sz := by funext r; unfold bM; rw [lo 2 (by decide), lo 3 (by decide), lo 6 (by decide)]
  have ex : exM m1 = mvM (chS m1 ch (m1 13 0 (ch 0)) (m1 14 0 (ch 0)) sz d.toNat) (ch d) er ef sz := by
    unfold exM
    rw [h5, h4, hc, b1, show d + 1 - 1 = d by omega, lo 15 (by decide), lo 13 (by decide), lo 14 (by decide)]
    rcases he with ⟨a, rfl, rfl⟩ | ⟨a, rfl, rfl⟩
    · rw [if_pos a]
    · rw [if_neg a]
  have e13 := lo 13 (by decide)
  have e14 := lo 14 (by decide)
  have e15 := lo 15 (by decide)
  have e6 := lo 6 (by decide)
  obtain ⟨i1, i2, i3, i4⟩ := chS_all (A := m1) (c := ch) (d := d) (k := sz) (er := er) (ef := ef) hinj (by rw [e14]; exact hv) d.toNat (by omega)
  have dn : ((d.toNat : Nat) : Int) = d := by omega
  rw [dn] at i1 i2 i3
  rw [e13, e14] at i2
  rw [ex]
  refine ⟨fun i a b => ?_, fun x hx => ?_, fun g g1 g2 g3 g4 => ?_, fun a a0 => ?_⟩
  · rw [mvM_13, mvM_14, mvM_15]
    by_cases e : i = d
    · subst e
      rw [if_pos rfl, if_pos rfl, if_pos rfl, if_neg (by omega), if_neg (by omega)]
      exact ⟨rfl, rfl, rfl⟩
    · have ne : ch i ≠ ch d := fun q => e (hinj i d a b d0 (Int.le_refl d) q)
      rw [if_neg ne, if_neg ne, if_neg ne, e13, e14]
      exact i2 i a (by omega)
  · have ne := hx d d0 (Int.le_refl d)
    rw [mvM_13, mvM_14, mvM_15, if_neg ne, if_neg ne, if_neg ne]
    have q := i3 x (fun i a b => hx i a (by omega))
    rw [q.1, q.2.1, q.2.2, e13, e14, e15]
    exact ⟨rfl, rfl, rfl⟩
  · rw [mvM_g g1 g2 g3 g4, chS_g g1 g2 g3 g4]
  · have e6' : mvM (chS m1 ch (m1 13 0 (ch 0)) (m1 14 0 (ch 0)) sz d.toNat) (ch d) er ef sz 6 (a / 20) (a % 20) = giveM (chS m1 ch (m1 13 0 (ch 0)) (m1 14 0 (ch 0)) sz d.toNat) er ef sz (ch d) 6 (a / 20) (a % 20) := by
      unfold mvM
      rw [updM_g (by decide), updM_g (by decide), updM_g (by decide)]
    rw [e6', giveM_6 a0 hef.1 hef.2, i4 a a0, e13, e14, e6, show (d + 1).toNat = d.toNat + 1 by omega]
    have x1 : (if ((d.toNat : Nat) : Int) < d then M 13 0 (ch (((d.toNat : Nat) : Int) + 1)) else er) = er := if_neg (by omega)
    have x2 : (if ((d.toNat : Nat) : Int) < d then M 14 0 (ch (((d.toNat : Nat) : Int) + 1)) else ef) = ef := if_neg (by omega)
    have x3 : ch ((d.toNat : Nat) : Int) = ch d := by rw [dn]
    simp only [owF]
    by_cases q : 20 * er + ef ≤ a ∧ a < 20 * er + ef + sz
    · rw [if_pos q, if_pos (by omega), x3]
    · rw [if_neg q, if_neg (by omega)]
theorem INV_mov {M m2 : Mem} {c d sz : Int} {ch Dr Df : Int → Int} (h : INV M c) (d0 : 0 ≤ d) (hch : ∀ i : Int, 0 ≤ i → i ≤ d → 1 ≤ ch i ∧ ch i ≤ M 7 0 8 ∧ M 8 0 (ch i) = 1 ∧ M 13 0 (ch i) ≠ -1 ∧ M 9 0 (ch i) = sz) (hinj : ∀ i j : Int, 0 ≤ i → i ≤ d → 0 ≤ j → j ≤ d → ch i = ch j → i = j) (hD : ∀ i : Int, 0 ≤ i → i < d → Dr i = M 13 0 (ch (i + 1)) ∧ Df i = M 14 0 (ch (i + 1)))
    (hl : (Dr d = M 13 0 (ch 0) ∧ Df d = M 14 0 (ch 0)) ∨ ((0 ≤ Dr d ∧ Dr d < M 1 0 4) ∧ (0 ≤ Df d ∧ Df d + sz ≤ M 2 0 (Dr d)) ∧ ∀ a : Int, 0 ≤ a → a < 240 → inD Dr Df sz d a → fo M a = 0))
    (hc : ∀ a : Int, 0 ≤ a → a < 240 → fo m2 a = owF ch Dr Df sz (fun a => if fo M a = ch 0 then 0 else fo M a) (d + 1).toNat a)
    (kh : keepH M m2) (k0 : m2 0 = M 0) (k7 : m2 7 = M 7) (kt : ∀ t : Int, (∀ i : Int, 0 ≤ i → i ≤ d → t ≠ ch i) → keepT M m2 t)
    (kc : ∀ i : Int, 0 ≤ i → i ≤ d → (m2 8 0 (ch i) = M 8 0 (ch i) ∧ m2 9 0 (ch i) = M 9 0 (ch i) ∧ m2 10 0 (ch i) = M 10 0 (ch i) ∧ m2 11 0 (ch i) = M 11 0 (ch i) ∧ m2 12 0 (ch i) = M 12 0 (ch i)) ∧ m2 13 0 (ch i) = Dr i ∧ m2 14 0 (ch i) = Df i ∧ m2 15 0 (ch i) = -1) : INV m2 c := by
  have hb := h.bw
  have n1 := h.hw.2.1
  have dn : (((d + 1).toNat : Nat) : Int) = d + 1 := by omega
  have B : ∀ i : Int, 0 ≤ i → i ≤ d → blk M (ch i) := fun i i0 i1 => by
    have q := hch i i0 i1
    rcases (h.2.2.2.1 (ch i) q.1 q.2.1).1 (by omega) with x | x
    · exact x
    · exact absurd x.1 q.2.2.2.1
  have W : ∀ r : Int, 0 ≤ r → r < M 1 0 4 → M 2 0 r ≤ 20 := fun r r0 r1 => (h.hw.2.2 r r0 r1).2.1
  have DO : ∀ j : Int, 0 ≤ j → j < d → ∀ a : Int, 0 ≤ a → a < 240 → (inD Dr Df sz j a ↔ fo M a = ch (j + 1)) := fun j j0 j1 a a0 a1 => by
    have b := B (j + 1) (by omega) (by omega)
    have q := hch (j + 1) (by omega) (by omega)
    rw [b.2.2 a a0 a1, q.2.2.2.2]
    unfold inD
    rw [(hD j j0 j1).1, (hD j j0 j1).2]
  have DL : ∀ a : Int, 0 ≤ a → a < 240 → inD Dr Df sz d a → fo M a = ch 0 ∨ fo M a = 0 := fun a a0 a1 q => by
    rcases hl with ⟨x, y⟩ | ⟨_, _, x⟩
    · left
      have b := B 0 (by omega) d0
      rw [b.2.2 a a0 a1, (hch 0 (by omega) d0).2.2.2.2, ← x, ← y]
      exact q
    · exact Or.inr (x a a0 a1 q)
  have DV : ∀ j : Int, 0 ≤ j → j ≤ d → (0 ≤ Dr j ∧ Dr j < M 1 0 4) ∧ 0 ≤ Df j ∧ Df j + sz ≤ M 2 0 (Dr j) := fun j j0 j1 => by
    by_cases e : j < d
    · have b := B (j + 1) (by omega) (by omega)
      have q := hch (j + 1) (by omega) (by omega)
      have b2 := b.2.1
      rw [q.2.2.2.2] at b2
      rw [(hD j j0 e).1, (hD j j0 e).2]
      exact ⟨b.1, b2.1, b2.2.2⟩
    · have e2 : j = d := by omega
      subst e2
      rcases hl with ⟨x, y⟩ | ⟨x, y, _⟩
      · have b := B 0 (by omega) d0
        have b2 := b.2.1
        rw [(hch 0 (by omega) d0).2.2.2.2] at b2
        rw [x, y]
        exact ⟨b.1, b2.1, b2.2.2⟩
      · exact ⟨x, y⟩
  have DJ : ∀ a : Int, 0 ≤ a → a < 240 → ∀ i j : Int, 0 ≤ i → i < j → j ≤ d → inD Dr Df sz i a → ¬ inD Dr Df sz j a := fun a a0 a1 i j i0 ij jd qi qj => by
    have ei := (DO i i0 (by omega) a a0 a1).mp qi
    by_cases e : j < d
    · have ej := (DO j (by omega) e a a0 a1).mp qj
      have := hinj (i + 1) (j + 1) (by omega) (by omega) (by omega) (by omega) (ei.symm.trans ej)
      omega
    · have e2 : j = d := by omega
      subst e2
      have p := (hch (i + 1) (by omega) (by omega)).1
      rcases DL a a0 a1 qj with x | x
      · have := hinj (i + 1) 0 (by omega) (by omega) (by omega) (by omega) (ei.symm.trans x)
        omega
      · omega
  have P1 : ∀ a : Int, 0 ≤ a → a < 240 → ∀ j : Int, 0 ≤ j → j ≤ d → inD Dr Df sz j a → fo m2 a = ch j := fun a a0 a1 j j0 j1 q => by
    rw [hc a a0 a1]
    exact owF_in j0 q _ (by omega) (fun i i0 i1 => DJ a a0 a1 j i j0 i0 (by omega) q)
  have P2 : ∀ a : Int, 0 ≤ a → a < 240 → (∀ j : Int, 0 ≤ j → j ≤ d → ¬ inD Dr Df sz j a) → fo m2 a = if fo M a = ch 0 then 0 else fo M a := fun a a0 a1 q => by
    rw [hc a a0 a1]
    exact owF_out _ (fun i i0 i1 => q i i0 (by omega))
  obtain ⟨h1, ⟨b1, b3⟩, h3, h4, h5⟩ := h
  refine ⟨keep_hw kh h1, ⟨BW_g b1 k7, fun t t1 t2 => ?_⟩, fun a a0 a1 => ?_, fun t t1 t2 => ?_, ?_⟩
  · rw [k7] at t2
    have ti := b3 t t1 t2
    by_cases e : ∃ i : Int, 0 ≤ i ∧ i ≤ d ∧ t = ch i
    · obtain ⟨i, i0, i1, rfl⟩ := e
      have k := kc i i0 i1
      unfold TI at ti ⊢
      rw [k.1.1, k.1.2.2.1, k.1.2.2.2.1, k.1.2.2.2.2, k.2.2.2]
      exact ⟨ti.1, ti.2.1, ti.2.2.1, ti.2.2.2.1, fun _ => rfl⟩
    · exact keep_ti (kt t (fun i i0 i1 q => e ⟨i, i0, i1, q⟩)) ti
  · obtain ⟨c2, c3⟩ := h3 a a0 a1
    unfold CI vld
    rw [kh.1, kh.2.1, k7]
    by_cases e : ∃ j : Int, 0 ≤ j ∧ j ≤ d ∧ inD Dr Df sz j a
    · obtain ⟨j, j0, j1, q⟩ := e
      have v := DV j j0 j1
      have w := W (Dr j) v.1.1 v.1.2
      have k := hch j j0 j1
      have er : a / 20 = Dr j := by unfold inD at q; omega
      rw [P1 a a0 a1 j j0 j1 q, (kc j j0 j1).1.1, k.2.2.1]
      refine ⟨fun x => absurd ⟨by rw [er]; exact v.1.2, ?_⟩ x, Or.inr (Or.inr ⟨k.1, k.2.1, by decide⟩)⟩
      rw [er]
      unfold inD at q
      omega
    · rw [P2 a a0 a1 (fun j j0 j1 q => e ⟨j, j0, j1, q⟩)]
      by_cases e0 : fo M a = ch 0
      · rw [if_pos e0]
        exact ⟨fun _ => rfl, Or.inl rfl⟩
      · rw [if_neg e0]
        refine ⟨c2, ?_⟩
        rcases c3 with c3 | c3 | ⟨x1, x2, x3⟩
        · exact Or.inl c3
        · exact Or.inr (Or.inl c3)
        · refine Or.inr (Or.inr ⟨x1, x2, ?_⟩)
          by_cases e2 : ∃ i : Int, 0 ≤ i ∧ i ≤ d ∧ fo M a = ch i
          · obtain ⟨i, i0, i1, q⟩ := e2
            rw [q, (kc i i0 i1).1.1, ← q]; exact x3
          · rw [(kt _ (fun i i0 i1 q => e2 ⟨i, i0, i1, q⟩)).1]; exact x3
  · rw [k7] at t2
    have k4 := h4 t t1 t2
    by_cases e : ∃ i : Int, 0 ≤ i ∧ i ≤ d ∧ t = ch i
    · obtain ⟨i, i0, i1, rfl⟩ := e
      have k := kc i i0 i1
      have q := hch i i0 i1
      have v := DV i i0 i1
      refine ⟨fun _ => Or.inl ⟨by rw [k.2.1, kh.1]; exact v.1, ?_, fun a a0 a1 => ?_⟩, fun x => absurd k.2.2.2 x⟩
      · rw [k.2.1, k.2.2.1, k.1.2.1, kh.2.1, q.2.2.2.2]
        have b := (B i i0 i1).2.1
        rw [q.2.2.2.2] at b
        exact ⟨v.2.1, b.2.1, v.2.2⟩
      · rw [k.2.1, k.2.2.1, k.1.2.1, q.2.2.2.2]
        constructor
        · intro x
          by_cases ej : ∃ j : Int, 0 ≤ j ∧ j ≤ d ∧ inD Dr Df sz j a
          · obtain ⟨j, j0, j1, y⟩ := ej
            have z := P1 a a0 a1 j j0 j1 y
            have := hinj j i j0 j1 i0 i1 (z.symm.trans x)
            subst this
            exact y
          · have z := P2 a a0 a1 (fun j j0 j1 y => ej ⟨j, j0, j1, y⟩)
            rw [x] at z
            by_cases e0 : fo M a = ch 0
            · rw [if_pos e0] at z; omega
            · rw [if_neg e0] at z
              by_cases ei : i = 0
              · subst ei; exact absurd z.symm e0
              · have y := (DO (i - 1) (by omega) (by omega) a a0 a1).mpr (by rw [show i - 1 + 1 = i by omega]; exact z.symm)
                exact absurd ⟨i - 1, by omega, by omega, y⟩ ej
        · intro x
          exact P1 a a0 a1 i i0 i1 x
    · have ne : ∀ i : Int, 0 ≤ i → i ≤ d → t ≠ ch i := fun i i0 i1 q => e ⟨i, i0, i1, q⟩
      have k := kt t ne
      refine ⟨fun o => keep_bs k kh.1 kh.2.1 (fun a a0 a1 => ?_) (k4.1 (by rw [← k.1]; exact o)), keep_ws k kh.1 k4.2⟩
      by_cases ej : ∃ j : Int, 0 ≤ j ∧ j ≤ d ∧ inD Dr Df sz j a
      · obtain ⟨j, j0, j1, y⟩ := ej
        rw [P1 a a0 a1 j j0 j1 y]
        refine ⟨fun x => absurd x.symm (ne j j0 j1), fun x => ?_⟩
        exfalso
        by_cases ed : j < d
        · have z := (DO j j0 ed a a0 a1).mp y
          exact ne (j + 1) (by omega) (by omega) (x.symm.trans z)
        · have e2 : j = d := by omega
          subst e2
          rcases DL a a0 a1 y with z | z
          · exact ne 0 (by omega) d0 (x.symm.trans z)
          · omega
      · rw [P2 a a0 a1 (fun j j0 j1 y => ej ⟨j, j0, j1, y⟩)]
        by_cases e0 : fo M a = ch 0
        · rw [if_pos e0]
          exact ⟨fun x => by omega, fun x => absurd (x.symm.trans e0) (ne 0 (by omega) d0)⟩
        · rw [if_neg e0]
  · unfold I5 at h5 ⊢
    rw [k0]
    exact h5
theorem XF.s16 {M m : Mem} (h : XF M m) : S16 M m := h.lo
theorem XF.fr {M m : Mem} (h : XF M m) : FR M m := fun g hg => h g (by omega) (by omega) (by omega)
/-- the chain that was found: its bookings -/
theorem XF_chain {M m1 : Mem} {c ticket : Int} (h : INV M c) (t1 : 1 ≤ ticket) (t2 : ticket ≤ M 7 0 8) (hw : M 15 0 ticket ≠ -1) (hf : XFOUND M m1 ticket (M 9 0 ticket) (M 13 0 ticket)) : ∃ d : Int, 0 ≤ d ∧ d ≤ 11 ∧ m1 27 0 4 = d + 1 ∧ m1 27 0 5 = M 9 0 ticket ∧ isD (RM M (M 9 0 ticket) (M 13 0 ticket)) (M 15 0 ticket) d ∧ isChain (M 7 0 8) (RM M (M 9 0 ticket) (M 13 0 ticket)) (ptM M (M 9 0 ticket)) (M 13 0) (M 15 0) ticket d (m1 29 0) ∧ (∀ i : Int, 0 ≤ i → i ≤ d → 1 ≤ m1 29 0 i ∧ m1 29 0 i ≤ M 7 0 8 ∧ M 15 0 (m1 29 0 i) ≠ -1 ∧ M 9 0 (m1 29 0 i) = M 9 0 ticket) ∧ ∀ i j : Int, 0 ≤ i → i ≤ d → 0 ≤ j → j ≤ d → m1 29 0 i = m1 29 0 j → i = j := by
  obtain ⟨d, d0, d1, hD, l4, l5, hC⟩ := hf
  refine ⟨d, d0, d1, l4, l5, hD, hC, fun i i0 i1 => ?_, chain_i hD hC⟩
  by_cases e : i = 0
  · subst e
    rw [hC.1]
    exact ⟨t1, t2, hw, rfl⟩
  · have q := hC.2 i (by omega) i1
    exact ⟨q.1, q.2.1, q.2.2.1.1.1, q.2.2.1.1.2⟩
theorem k_exchange {M m : Mem} {c ticket : Int} {o : OutT} (h : INV M c) (he : ENDS M) (q : Q_exchange M ticket o m) : GOOD M c o m := by
  rcases q with ⟨rfl, q1, q2⟩ | ⟨rfl, q1, q2⟩ | ⟨z, rfl, q1, q2, m1, q3, q4, q5, rfl⟩
  · exact good_xM h he q2
  · exact good_x h he q2.s16 q2.fr
  · obtain ⟨d, d0, d1, l4, l5, hD, hC, CK, CI⟩ := XF_chain h q1.1 q1.2 q2 q4
    have CX : ∀ i : Int, 0 ≤ i → i ≤ d → blk M (m1 29 0 i) ∧ M 8 0 (m1 29 0 i) = 1 ∧ (0 ≤ M 15 0 (m1 29 0 i) ∧ M 15 0 (m1 29 0 i) < M 1 0 4) ∧ M 14 0 (m1 29 0 i) + M 9 0 ticket ≤ 20 := fun i i0 i1 => by
      have k := CK i i0 i1
      have x := h.wb k.1 k.2.1 k.2.2.1
      have l := x.2.2.2.2
      rw [k.2.2.2] at l
      exact ⟨x.1, x.2.1, x.2.2.1, l⟩
    generalize hch : m1 29 0 = ch at hC CI CK CX
    generalize hsz : M 9 0 ticket = sz at *
    have wd := (CX d d0 (Int.le_refl d)).2.2.1
    have wl := h.hw.2.2 _ wd.1 wd.2
    have n12 := h.hw.2.1
    have i50 := h.2.2.2.2.1
    have b0 := (CX 0 (Int.le_refl 0) d0).1
    have x0 := CX 0 (Int.le_refl 0) d0
    have sz0 : M 9 0 (ch 0) = sz := (CK 0 (Int.le_refl 0) d0).2.2.2
    have fin : ∃ er ef : Int, ((bM M sz (M 15 0 (ch d)) = -1 ∧ er = M 13 0 (ch 0) ∧ ef = M 14 0 (ch 0)) ∨ (bM M sz (M 15 0 (ch d)) ≠ -1 ∧ er = M 15 0 (ch d) ∧ ef = bM M sz (M 15 0 (ch d)))) ∧ (0 ≤ ef ∧ ef + sz ≤ 20) ∧ ((er = M 13 0 (ch 0) ∧ ef = M 14 0 (ch 0)) ∨ (er = M 15 0 (ch d) ∧ ef + sz ≤ M 2 0 er ∧ allF (M 6 er) ef sz)) := by
      rcases isBest_in (bFst_sp (M 2 0) (M 6) (M 3 0) sz (M 15 0 (ch d))) with q | ⟨q, q1, q2, _⟩
      · exact ⟨M 13 0 (ch 0), M 14 0 (ch 0), Or.inl ⟨q, rfl, rfl⟩, ⟨b0.2.1.1, x0.2.2.2⟩, Or.inl ⟨rfl, rfl⟩⟩
      · have q' : 0 ≤ bM M sz (M 15 0 (ch d)) := q
        exact ⟨M 15 0 (ch d), bM M sz (M 15 0 (ch d)), Or.inr ⟨by omega, rfl, rfl⟩, ⟨q', by have : bM M sz (M 15 0 (ch d)) + sz ≤ M 2 0 (M 15 0 (ch d)) := q1; omega⟩, Or.inr ⟨rfl, q1, q2⟩⟩
    obtain ⟨er, ef, hx, hef, hl⟩ := fin
    obtain ⟨E1, E2, E3, E4⟩ := exM_all (M := M) (m1 := m1) (d := d) (sz := sz) (ch := ch) d0 q3.lo hch l4 l5 CI (fun i i0 i1 => ⟨(CX i i0 i1).1.2.1.1, (CX i i0 i1).2.2.2⟩) hx hef
    have flat0 : ∀ a : Int, 0 ≤ a → a < 240 → (fo M a = ch 0 ↔ 20 * M 13 0 (ch 0) + M 14 0 (ch 0) ≤ a ∧ a < 20 * M 13 0 (ch 0) + M 14 0 (ch 0) + sz) := fun a a0 a1 => by
      rw [b0.2.2 a a0 a1, sz0]
    have L : ∀ g : Nat, g < 16 → g ≠ 6 → g ≠ 13 → g ≠ 14 → g ≠ 15 → exM m1 g = M g := fun g g1 g2 g3 g4 g5 => by rw [E3 g g2 g3 g4 g5, q3.lo g g1]
    have e8 := L 8 (by decide) (by decide) (by decide) (by decide) (by decide)
    have e9 := L 9 (by decide) (by decide) (by decide) (by decide) (by decide)
    have e10 := L 10 (by decide) (by decide) (by decide) (by decide) (by decide)
    have e11 := L 11 (by decide) (by decide) (by decide) (by decide) (by decide)
    have e12 := L 12 (by decide) (by decide) (by decide) (by decide) (by decide)
    have e0 := L 0 (by decide) (by decide) (by decide) (by decide) (by decide)
    have e7 := L 7 (by decide) (by decide) (by decide) (by decide) (by decide)
    refine ⟨INV_up (INV_mov (ch := ch) (d := d) (sz := sz) (Dr := fun i => if i < d then M 13 0 (ch (i + 1)) else er) (Df := fun i => if i < d then M 14 0 (ch (i + 1)) else ef) h d0 (fun i i0 i1 => ?_) CI (fun i i0 i1 => ?_) ?_ (fun a a0 a1 => ?_) ⟨L 1 (by decide) (by decide) (by decide) (by decide) (by decide), L 2 (by decide) (by decide) (by decide) (by decide) (by decide), L 3 (by decide) (by decide) (by decide) (by decide) (by decide), L 4 (by decide) (by decide) (by decide) (by decide) (by decide)⟩ e0 e7 (fun t hx => ?_) (fun i i0 i1 => ?_)), ?_, fun g hg => ?_, Or.inr ⟨z, rfl, by omega⟩⟩
    · have k := CK i i0 i1
      have x := CX i i0 i1
      exact ⟨k.1, k.2.1, x.2.1, by have := x.1.1; omega, k.2.2.2⟩
    · show (if i < d then M 13 0 (ch (i + 1)) else er) = _ ∧ (if i < d then M 14 0 (ch (i + 1)) else ef) = _
      rw [if_pos i1, if_pos i1]
      exact ⟨rfl, rfl⟩
    · show ((if d < d then M 13 0 (ch (d + 1)) else er) = _ ∧ (if d < d then M 14 0 (ch (d + 1)) else ef) = _) ∨ ((0 ≤ (if d < d then M 13 0 (ch (d + 1)) else er) ∧ (if d < d then M 13 0 (ch (d + 1)) else er) < _) ∧ (0 ≤ (if d < d then M 14 0 (ch (d + 1)) else ef) ∧ (if d < d then M 14 0 (ch (d + 1)) else ef) + sz ≤ M 2 0 (if d < d then M 13 0 (ch (d + 1)) else er)) ∧ ∀ a : Int, 0 ≤ a → a < 240 → (20 * (if d < d then M 13 0 (ch (d + 1)) else er) + (if d < d then M 14 0 (ch (d + 1)) else ef) ≤ a ∧ a < 20 * (if d < d then M 13 0 (ch (d + 1)) else er) + (if d < d then M 14 0 (ch (d + 1)) else ef) + sz) → fo M a = 0)
      rw [if_neg (Int.lt_irrefl d), if_neg (Int.lt_irrefl d)]
      rcases hl with ⟨b, b'⟩ | ⟨b, y1, y2⟩
      · exact Or.inl ⟨b, b'⟩
      · refine Or.inr ⟨by rw [b]; exact wd, ⟨hef.1, y1⟩, fun x x1 x2 q => ?_⟩
        have r : x / 20 = er := by omega
        unfold fo
        rw [r]
        exact y2 (x % 20) (by omega) (by omega)
    · unfold fo
      rw [E4 a a0]
      refine owF_b ?_ _
      have f := flat0 a a0 a1
      by_cases q : fo M a = ch 0
      · rw [if_pos (f.mp q)]
        exact (if_pos q).symm
      · rw [if_neg (fun x => q (f.mpr x))]
        exact (if_neg q).symm
    · have e2 := E2 t hx
      exact ⟨by rw [e8], by rw [e9], by rw [e10], by rw [e11], by rw [e12], e2.1, e2.2.1, e2.2.2⟩
    · have e1 := E1 i i0 i1
      exact ⟨⟨by rw [e8], by rw [e9], by rw [e10], by rw [e11], by rw [e12]⟩, e1⟩
    · unfold ENDS at he ⊢
      rw [e0, e7, e8, e10]
      exact he
    · rw [E3 g (by omega) (by omega) (by omega) (by omega)]
      exact q3.fr g hg
