/-! the exchange, by both -/
theorem reach_cg {T : Int} {pt pt' : Int → Prop} {rw_ rw' ws ws' : Int → Int} {en en' : Int → Prop} (hp : ∀ t : Int, 1 ≤ t → t ≤ T → (pt t ↔ pt' t)) (hr : ∀ t : Int, 1 ≤ t → t ≤ T → pt t → rw_ t = rw' t ∧ ws t = ws' t) (he : ∀ r, en r ↔ en' r) : ∀ (k : Nat) (r : Int), reach T pt rw_ ws en k r ↔ reach T pt' rw' ws' en' k r
  | 0, r => he r
  | k + 1, r => by
    have ih := reach_cg hp hr he k
    constructor
    · intro ⟨t, t1, t2, t3, t4, t5⟩
      have q := hr t t1 t2 t3
      exact ⟨t, t1, t2, (hp t t1 t2).mp t3, q.1.symm.trans t4, (ih _).mp (q.2 ▸ t5)⟩
    · intro ⟨t, t1, t2, t3, t4, t5⟩
      have p := (hp t t1 t2).mpr t3
      have q := hr t t1 t2 p
      exact ⟨t, t1, t2, p, q.1.trans t4, (ih _).mpr (q.2.symm ▸ t5)⟩
theorem isD_cg {R R' : Nat → Int → Prop} {r r' d : Int} (hr : r = r') (h : ∀ k, R k r ↔ R' k r) : isD R r d ↔ isD R' r' d := by
  subst hr
  unfold isD
  constructor
  · rintro (⟨a, b⟩ | ⟨a, b, c, e⟩)
    · exact Or.inl ⟨a, fun k q => b k ((h k).mpr q)⟩
    · exact Or.inr ⟨a, b, (h _).mp c, fun k q => e k ((h k).mpr q)⟩
  · rintro (⟨a, b⟩ | ⟨a, b, c, e⟩)
    · exact Or.inl ⟨a, fun k q => b k ((h k).mp q)⟩
    · exact Or.inr ⟨a, b, (h _).mpr c, fun k q => e k ((h k).mp q)⟩
/-- two chains are one -/
theorem chain_u {T : Int} {R R' : Nat → Int → Prop} {pt pt' : Int → Prop} {rw_ rw' ws ws' : Int → Int} {t d : Int} {c c' : Int → Int} (ht : 1 ≤ t ∧ t ≤ T ∧ pt t) (hp : ∀ t : Int, 1 ≤ t → t ≤ T → (pt t ↔ pt' t)) (hr : ∀ t : Int, 1 ≤ t → t ≤ T → pt t → rw_ t = rw' t ∧ ws t = ws' t) (hR : ∀ k r, R k r ↔ R' k r) (h : isChain T R pt rw_ ws t d c) (h' : isChain T R' pt' rw' ws' t d c') : ∀ k : Nat, (k : Int) ≤ d → c (k : Int) = c' (k : Int) ∧ 1 ≤ c (k : Int) ∧ c (k : Int) ≤ T ∧ pt (c (k : Int))
  | 0, _ => ⟨h.1.trans h'.1.symm, by have e := h.1; show 1 ≤ c 0 ∧ c 0 ≤ T ∧ pt (c 0); rw [e]; exact ht⟩
  | k + 1, hk => by
    have ih := chain_u ht hp hr hR h h' k (by omega)
    have a := h.2 ((k + 1 : Nat) : Int) (by omega) hk
    have b := h'.2 ((k + 1 : Nat) : Int) (by omega) hk
    have e : ((k + 1 : Nat) : Int) - 1 = (k : Int) := by omega
    rw [e] at a b
    refine ⟨isLow_u (fun x x1 x2 => ?_) a b, a.1, a.2.1, a.2.2.1.1⟩
    have wc := (hr _ ih.2.1 ih.2.2.1 ih.2.2.2).2
    rw [← ih.1, ← wc]
    constructor
    · intro ⟨q1, q2, q3⟩
      have q := hr x x1 x2 q1
      exact ⟨(hp x x1 x2).mp q1, q.1.symm.trans q2, (isD_cg q.2 (fun k => hR k _)).mp q3⟩
    · intro ⟨q1, q2, q3⟩
      have p := (hp x x1 x2).mpr q1
      have q := hr x x1 x2 p
      exact ⟨p, q.1.trans q2, (isD_cg q.2 (fun k => hR k _)).mpr q3⟩
/-- no two of a chain are alike -/
theorem chain_i {T : Int} {R : Nat → Int → Prop} {pt : Int → Prop} {rw_ ws : Int → Int} {t d : Int} {c : Int → Int} (hd : isD R (ws t) d) (h : isChain T R pt rw_ ws t d c) : ∀ i j : Int, 0 ≤ i → i ≤ d → 0 ≤ j → j ≤ d → c i = c j → i = j := by
  have D : ∀ i : Int, 0 ≤ i → i ≤ d → isD R (ws (c i)) (d - i) := fun i i0 i1 => by
    by_cases e : i = 0
    · subst e
      rw [h.1, show d - 0 = d by omega]
      exact hd
    · exact (h.2 i (by omega) i1).2.2.1.2.2
  intro i j i0 i1 j0 j1 e
  have a := D i i0 i1
  have b := D j j0 j1
  rw [e] at a
  have := isD_same a b
  omega
/-- the owners, move by move -/
def owF (c Dr Df : Int → Int) (k : Int) (base : Int → Int) : Nat → Int → Int
  | 0, a => base a
  | j + 1, a => if 20 * Dr (j : Int) + Df (j : Int) ≤ a ∧ a < 20 * Dr (j : Int) + Df (j : Int) + k then c (j : Int) else owF c Dr Df k base j a
abbrev inD (Dr Df : Int → Int) (k j a : Int) : Prop := 20 * Dr j + Df j ≤ a ∧ a < 20 * Dr j + Df j + k
theorem owF_out {c Dr Df : Int → Int} {k : Int} {base : Int → Int} {a : Int} : ∀ n : Nat, (∀ i : Int, 0 ≤ i → i < (n : Int) → ¬ inD Dr Df k i a) → owF c Dr Df k base n a = base a
  | 0, _ => rfl
  | n + 1, h => by
    show (if inD Dr Df k (n : Int) a then c (n : Int) else owF c Dr Df k base n a) = _
    rw [if_neg (h (n : Int) (by omega) (by omega))]
    exact owF_out n (fun i i0 i1 => h i i0 (by omega))
theorem owF_in {c Dr Df : Int → Int} {k : Int} {base : Int → Int} {a j : Int} (j0 : 0 ≤ j) (hj : inD Dr Df k j a) : ∀ n : Nat, j < (n : Int) → (∀ i : Int, j < i → i < (n : Int) → ¬ inD Dr Df k i a) → owF c Dr Df k base n a = c j
  | 0, h, _ => by omega
  | n + 1, h, hi => by
    show (if inD Dr Df k (n : Int) a then c (n : Int) else owF c Dr Df k base n a) = _
    by_cases e : j = (n : Int)
    · rw [← e, if_pos hj]
    · rw [if_neg (hi (n : Int) (by omega) (by omega))]
      exact owF_in j0 hj n (by omega) (fun i i0 i1 => hi i i0 (by omega))
theorem giveM_6 {M : Mem} {row f k ow a : Int} (a0 : 0 ≤ a) (h0 : 0 ≤ f) (h1 : f + k ≤ 20) : giveM M row f k ow 6 (a / 20) (a % 20) = if 20 * row + f ≤ a ∧ a < 20 * row + f + k then ow else M 6 (a / 20) (a % 20) := by
  unfold giveM
  by_cases q : 20 * row + f ≤ a ∧ a < 20 * row + f + k
  · rw [if_pos q, if_pos ⟨rfl, by omega, by omega, by omega⟩]
  · rw [if_neg q, if_neg (fun x => q (by omega))]
/-- the class's moves -/
theorem chS_all {A : Mem} {c : Int → Int} {d k er ef : Int} (hinj : ∀ i j : Int, 0 ≤ i → i ≤ d → 0 ≤ j → j ≤ d → c i = c j → i = j) (hv : ∀ i : Int, 0 ≤ i → i ≤ d → 0 ≤ A 14 0 (c i) ∧ A 14 0 (c i) + k ≤ 20) : ∀ j : Nat, (j : Int) ≤ d →
    (∀ i : Int, (j : Int) ≤ i → i ≤ d → chS A c (A 13 0 (c 0)) (A 14 0 (c 0)) k j 13 0 (c i) = A 13 0 (c i) ∧ chS A c (A 13 0 (c 0)) (A 14 0 (c 0)) k j 14 0 (c i) = A 14 0 (c i)) ∧
    (∀ i : Int, 0 ≤ i → i < (j : Int) → chS A c (A 13 0 (c 0)) (A 14 0 (c 0)) k j 13 0 (c i) = (if i < d then A 13 0 (c (i + 1)) else er) ∧ chS A c (A 13 0 (c 0)) (A 14 0 (c 0)) k j 14 0 (c i) = (if i < d then A 14 0 (c (i + 1)) else ef) ∧ chS A c (A 13 0 (c 0)) (A 14 0 (c 0)) k j 15 0 (c i) = -1) ∧
    (∀ x : Int, (∀ i : Int, 0 ≤ i → i < (j : Int) → x ≠ c i) → chS A c (A 13 0 (c 0)) (A 14 0 (c 0)) k j 13 0 x = A 13 0 x ∧ chS A c (A 13 0 (c 0)) (A 14 0 (c 0)) k j 14 0 x = A 14 0 x ∧ chS A c (A 13 0 (c 0)) (A 14 0 (c 0)) k j 15 0 x = A 15 0 x) ∧
    ∀ a : Int, 0 ≤ a → chS A c (A 13 0 (c 0)) (A 14 0 (c 0)) k j 6 (a / 20) (a % 20) = owF c (fun i => if i < d then A 13 0 (c (i + 1)) else er) (fun i => if i < d then A 14 0 (c (i + 1)) else ef) k (fun a => if 20 * A 13 0 (c 0) + A 14 0 (c 0) ≤ a ∧ a < 20 * A 13 0 (c 0) + A 14 0 (c 0) + k then 0 else A 6 (a / 20) (a % 20)) j a
  | 0, h0 => by
    have e13 : chS A c (A 13 0 (c 0)) (A 14 0 (c 0)) k 0 13 = A 13 := giveM_g (by decide)
    have e14 : chS A c (A 13 0 (c 0)) (A 14 0 (c 0)) k 0 14 = A 14 := giveM_g (by decide)
    have e15 : chS A c (A 13 0 (c 0)) (A 14 0 (c 0)) k 0 15 = A 15 := giveM_g (by decide)
    have v := hv 0 (Int.le_refl 0) h0
    refine ⟨fun i _ _ => by rw [e13, e14]; exact ⟨rfl, rfl⟩, fun i i0 i1 => by omega, fun x _ => by rw [e13, e14, e15]; exact ⟨rfl, rfl, rfl⟩, fun a a0 => ?_⟩
    exact giveM_6 a0 v.1 v.2
  | j + 1, hj => by
    obtain ⟨i1, i2, i3, i4⟩ := chS_all (er := er) (ef := ef) hinj hv j (by omega)
    have nx := i1 ((j : Int) + 1) (by omega) (by omega)
    have st : chS A c (A 13 0 (c 0)) (A 14 0 (c 0)) k (j + 1) = mvM (chS A c (A 13 0 (c 0)) (A 14 0 (c 0)) k j) (c (j : Int)) (A 13 0 (c ((j : Int) + 1))) (A 14 0 (c ((j : Int) + 1))) k := by
      show mvM _ (c (j : Int)) (chS A c (A 13 0 (c 0)) (A 14 0 (c 0)) k j 13 0 (c ((j : Int) + 1))) (chS A c (A 13 0 (c 0)) (A 14 0 (c 0)) k j 14 0 (c ((j : Int) + 1))) k = _
      rw [nx.1, nx.2]
    rw [st]
    refine ⟨fun i a b => ?_, fun i a b => ?_, fun x hx => ?_, fun a a0 => ?_⟩
    · have ne : c i ≠ c (j : Int) := fun q => by have := hinj i (j : Int) (by omega) b (by omega) (by omega) q; omega
      rw [mvM_13, mvM_14, if_neg ne, if_neg ne]
      exact i1 i (by omega) b
    · rw [mvM_13, mvM_14, mvM_15]
      by_cases e : i = (j : Int)
      · subst e
        rw [if_pos rfl, if_pos rfl, if_pos rfl, if_pos (by omega), if_pos (by omega)]
        exact ⟨rfl, rfl, rfl⟩
      · have ne : c i ≠ c (j : Int) := fun q => e (hinj i (j : Int) a (by omega) (by omega) (by omega) q)
        rw [if_neg ne, if_neg ne, if_neg ne]
        exact i2 i a (by omega)
    · have ne := hx (j : Int) (by omega) (by omega)
      rw [mvM_13, mvM_14, mvM_15, if_neg ne, if_neg ne, if_neg ne]
      exact i3 x (fun i a b => hx i a (by omega))
    · have v := hv ((j : Int) + 1) (by omega) (by omega)
      have e6 : mvM (chS A c (A 13 0 (c 0)) (A 14 0 (c 0)) k j) (c (j : Int)) (A 13 0 (c ((j : Int) + 1))) (A 14 0 (c ((j : Int) + 1))) k 6 (a / 20) (a % 20) = giveM (chS A c (A 13 0 (c 0)) (A 14 0 (c 0)) k j) (A 13 0 (c ((j : Int) + 1))) (A 14 0 (c ((j : Int) + 1))) k (c (j : Int)) 6 (a / 20) (a % 20) := by
        unfold mvM
        rw [updM_g (by decide), updM_g (by decide), updM_g (by decide)]
      rw [e6, giveM_6 a0 v.1 v.2, i4 a a0]
      have e1 : (if (j : Int) < d then A 13 0 (c ((j : Int) + 1)) else er) = A 13 0 (c ((j : Int) + 1)) := if_pos (by omega)
      have e2 : (if (j : Int) < d then A 14 0 (c ((j : Int) + 1)) else ef) = A 14 0 (c ((j : Int) + 1)) := if_pos (by omega)
      simp only [owF]
      by_cases q : 20 * A 13 0 (c ((j : Int) + 1)) + A 14 0 (c ((j : Int) + 1)) ≤ a ∧ a < 20 * A 13 0 (c ((j : Int) + 1)) + A 14 0 (c ((j : Int) + 1)) + k
      · rw [if_pos q, if_pos (by omega)]
      · rw [if_neg q, if_neg (by omega)]
/-- the reference's moves -/
theorem chgS_all {m A : Mem} {n k e : Int} {Dr Df : Int → Int} (hinj : ∀ i j : Int, 0 ≤ i → i < n → 0 ≤ j → j < n → m 43 0 i = m 43 0 j → i = j) (hD : ∀ i : Int, 0 ≤ i → i < n → chgT m n e i = 20 * Dr i + Df i ∧ 0 ≤ Df i ∧ Df i < 20) : ∀ j : Nat, (j : Int) ≤ n →
    (∀ i : Int, 0 ≤ i → i < (j : Int) → chgS m A n k e j 39 0 (m 43 0 i) = -1) ∧ (∀ x : Int, (∀ i : Int, 0 ≤ i → i < (j : Int) → x ≠ m 43 0 i) → chgS m A n k e j 39 0 x = A 39 0 x) ∧ ∀ a : Int, chgS m A n k e j 34 0 a = owF (m 43 0) Dr Df k (A 34 0) j a
  | 0, _ => ⟨fun i i0 i1 => by omega, fun x _ => rfl, fun a => rfl⟩
  | j + 1, hj => by
    obtain ⟨i1, i2, i3⟩ := chgS_all hinj hD j (by omega)
    have D := hD (j : Int) (by omega) (by omega)
    have o39 : ∀ x : Int, ownM (chgS m A n k e j) (chgT m n e (j : Int) / 20) (chgT m n e (j : Int) % 20) k (m 43 0 (j : Int)) 39 0 x = chgS m A n k e j 39 0 x := fun x => by rw [ownM_g (by decide)]
    refine ⟨fun i a b => ?_, fun x hx => ?_, fun a => ?_⟩
    · simp only [chgS]
      by_cases q : i = (j : Int)
      · rw [q, updM_same]
      · rw [updM_j (fun z => q (hinj i (j : Int) a (by omega) (by omega) (by omega) z)), o39]
        exact i1 i a (by omega)
    · simp only [chgS]
      rw [updM_j (hx (j : Int) (by omega) (by omega)), o39]
      exact i2 x (fun i a b => hx i a (by omega))
    · simp only [chgS, owF]
      rw [updM_g (by decide), ← i3 a]
      show (if (34 : Nat) = 34 ∧ (0 : Int) = 0 ∧ 20 * (chgT m n e (j : Int) / 20) + chgT m n e (j : Int) % 20 ≤ a ∧ a < 20 * (chgT m n e (j : Int) / 20) + chgT m n e (j : Int) % 20 + k then m 43 0 (j : Int) else chgS m A n k e j 34 0 a) = _
      by_cases q : 20 * Dr (j : Int) + Df (j : Int) ≤ a ∧ a < 20 * Dr (j : Int) + Df (j : Int) + k
      · rw [if_pos q, if_pos ⟨rfl, rfl, by omega, by omega⟩]
      · rw [if_neg q, if_neg (fun x => q (by omega))]
