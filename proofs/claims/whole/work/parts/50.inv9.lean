/-- a booking with a wish: where it lies, to both -/
theorem INV.exf {M : Mem} {c t : Int} (h : INV M c) (t1 : 1 ≤ t) (t2 : t ≤ M 7 0 8) (hw : M 15 0 t ≠ -1) : blk M t ∧ isFst (M 34 0) t 240 (fsM M t) ∧ fsM M t = 20 * M 13 0 t + M 14 0 t ∧ rwm M t = M 13 0 t ∧ manyM M t = M 9 0 t ∧ M 39 0 t = M 15 0 t ∧ M 8 0 t = 1 ∧ M 9 0 t ≤ 20 ∧ M 14 0 t + M 9 0 t ≤ 20 := by
  have ws := (h.2.2.2.1 t t1 t2).2 hw
  have ti := h.2.1.2.2.1 t t1 t2
  have b : blk M t := by
    rcases (h.2.2.2.1 t t1 t2).1 (by omega) with x | x
    · exact x
    · exact absurd x.1 ws.2.1
  obtain ⟨b1, b2, b3⟩ := b
  have w := h.hw.2.2 _ b1.1 b1.2
  have n := h.hw.2.1
  have hf : isFst (M 34 0) t 240 (20 * M 13 0 t + M 14 0 t) := Or.inr ⟨by omega, by omega, (b3 _ (by omega) (by omega)).mpr ⟨by omega, by omega⟩, fun x x0 x1 q => by
    have := (b3 x x0 (by omega)).mp q
    omega⟩
  have fe := fsM_eq hf
  refine ⟨⟨b1, b2, b3⟩, by rw [fe]; exact hf, fe, by unfold rwm; rw [fe]; omega, ?_, ti.2.2.2.2.2.1 (by omega), ws.1, by omega, by omega⟩
  rw [h.many t1 t2, if_pos (by omega)]
theorem INV.hs {M : Mem} {c t : Int} (h : INV M c) (t1 : 1 ≤ t) (t2 : t ≤ M 7 0 8) : hsW M t ↔ M 15 0 t ≠ -1 := by
  have ti := h.2.1.2.2.1 t t1 t2
  constructor
  · intro ⟨a, b⟩
    have e := ti.2.2.2.2.2.1 (by have := ti.1.1; omega)
    omega
  · intro q
    have x := h.exf t1 t2 q
    have ws := (h.2.2.2.1 t t1 t2).2 q
    exact ⟨by have := ti.1.1; omega, by have := x.2.2.2.2.2.1; omega⟩
theorem INV.wim {M : Mem} {c : Int} (h : INV M c) : WIm M := fun t t1 t2 q => by
  have e8 := h.2.1.2.1
  have e3 := h.row.1
  have hq := (h.hs t1 (by omega)).mp q
  have x := h.exf t1 (by omega) hq
  have ws := (h.2.2.2.1 t t1 (by omega)).2 hq
  have b := x.1.1
  have w := h.hw.2.2 _ b.1 b.2
  have n := h.hw.2.1
  have b2 := x.1.2.1
  have r := x.2.2.2.1
  unfold rwm at r
  have fe := x.2.2.1
  exact ⟨by have := x.2.2.2.2.2.1; omega, x.2.1, by omega, by omega, by omega⟩
theorem INV.mz {M : Mem} {c : Int} (h : INV M c) : ∀ t : Int, 1 ≤ t → t ≤ M 30 0 8 → hsW M t → 1 ≤ manyM M t ∧ manyM M t ≤ 20 ∧ fsM M t % 20 + manyM M t ≤ 20 := fun t t1 t2 q => by
  have e8 := h.2.1.2.1
  have x := h.exf t1 (by omega) ((h.hs t1 (by omega)).mp q)
  have b2 := x.1.2.1
  have fe := x.2.2.1
  have me := x.2.2.2.2.1
  have l1 := x.2.2.2.2.2.2.2.1
  have l2 := x.2.2.2.2.2.2.2.2
  rw [me, fe]
  omega
theorem INV.xw {M : Mem} {c : Int} (h : INV M c) : XW M := fun t t1 t2 => by
  by_cases q : M 15 0 t = -1
  · exact Or.inl q
  · have x := h.exf t1 t2 q
    have ws := (h.2.2.2.1 t t1 t2).2 q
    exact Or.inr ⟨ws.2.2.1, ws.2.2.2.1, x.1.1.1, x.1.1.2⟩
theorem INV.vpl {M : Mem} {c : Int} (h : INV M c) : ∀ t : Int, 1 ≤ t → t ≤ M 7 0 8 → M 15 0 t ≠ -1 → vpl M (M 9 0 t) (M 13 0 t) (M 14 0 t) ∧ 1 ≤ M 9 0 t ∧ M 9 0 t ≤ 20 := fun t t1 t2 q => by
  have x := h.exf t1 t2 q
  have b := x.1
  exact ⟨⟨b.1.1, b.1.2, b.2.1.1, b.2.1.2.2⟩, b.2.1.2.1, x.2.2.2.2.2.2.2.1⟩
theorem INV.ptx {M : Mem} {c sz : Int} (h : INV M c) : ∀ t : Int, 1 ≤ t → t ≤ M 7 0 8 → (ptM M sz t ↔ ptm M sz t) := fun t t1 t2 => by
  constructor
  · intro ⟨a, b⟩
    exact ⟨(h.hs t1 t2).mpr a, by rw [(h.exf t1 t2 a).2.2.2.2.1]; exact b⟩
  · intro ⟨a, b⟩
    have a' := (h.hs t1 t2).mp a
    exact ⟨a', by rw [← (h.exf t1 t2 a').2.2.2.2.1]; exact b⟩
theorem INV.rwx {M : Mem} {c sz : Int} (h : INV M c) : ∀ t : Int, 1 ≤ t → t ≤ M 7 0 8 → ptM M sz t → M 13 0 t = rwm M t ∧ M 15 0 t = M 39 0 t := fun t t1 t2 p => by
  have x := h.exf t1 t2 p.1
  exact ⟨x.2.2.2.1.symm, x.2.2.2.2.2.1.symm⟩
theorem INV.R {M : Mem} {c sz fr_ : Int} (h : INV M c) (s0 : 0 ≤ sz) : ∀ (k : Nat) (r : Int), RM M sz fr_ k r ↔ Rm M sz fr_ k r := by
  unfold RM Rm
  rw [h.2.1.2.1]
  refine reach_cg h.ptx h.rwx (fun r => ?_)
  unfold enM enm
  rw [h.row.1]
  constructor
  · intro ⟨a, b⟩
    exact ⟨a, b.elim Or.inl (fun q => Or.inr ((h.ok s0 a.1 a.2).mp q))⟩
  · intro ⟨a, b⟩
    exact ⟨a, b.elim Or.inl (fun q => Or.inr ((h.ok s0 a.1 a.2).mpr q))⟩
theorem mod_eq {M m : Mem} (hi : ∀ g : Nat, 30 ≤ g → g < 40 → m g = M g) : ptm m = ptm M ∧ Rm m = Rm M ∧ fsM m = fsM M ∧ rwm m = rwm M ∧ manyM m = manyM M ∧ hsW m = hsW M := by
  have e1 : fsM m = fsM M := by funext t; unfold fsM; rw [hi 34 (by decide) (by decide)]
  have e2 : manyM m = manyM M := by funext t; unfold manyM; rw [hi 34 (by decide) (by decide)]
  have e3 : hsW m = hsW M := by funext t; unfold hsW; rw [hi 35 (by decide) (by decide), hi 39 (by decide) (by decide)]
  have e4 : ptm m = ptm M := by funext a t; unfold ptm; rw [e2, e3]
  have e5 : rwm m = rwm M := by funext t; unfold rwm; rw [e1]
  have eo : oMd m = oMd M := by funext r s; unfold oMd; rw [hi 34 (by decide) (by decide)]
  have e6 : enm m = enm M := by
    funext a b r
    unfold enm okd
    rw [eo, hi 30 (by decide) (by decide), hi 31 (by decide) (by decide), hi 32 (by decide) (by decide)]
  refine ⟨e4, ?_, e1, e5, e2, e3⟩
  funext a b
  unfold Rm
  rw [e4, e5, e6, hi 30 (by decide) (by decide), hi 39 (by decide) (by decide)]
theorem owF_b {c Dr Df : Int → Int} {k : Int} {base base' : Int → Int} {a : Int} (h : base a = base' a) : ∀ n : Nat, owF c Dr Df k base n a = owF c Dr Df k base' n a
  | 0 => h
  | n + 1 => by simp only [owF]; rw [owF_b h n]
theorem owF_c {c c' Dr Df Dr' Df' : Int → Int} {k : Int} {base : Int → Int} {a : Int} : ∀ n : Nat, (∀ i : Int, 0 ≤ i → i < (n : Int) → c i = c' i ∧ Dr i = Dr' i ∧ Df i = Df' i) → owF c Dr Df k base n a = owF c' Dr' Df' k base n a
  | 0, _ => rfl
  | n + 1, h => by
    have q := h (n : Int) (by omega) (by omega)
    simp only [owF]
    rw [q.1, q.2.1, q.2.2, owF_c n (fun i i0 i1 => h i i0 (by omega))]
/-- the class's end, place by place -/
theorem exM_all {M m1 : Mem} {d sz er ef : Int} {ch : Int → Int} (d0 : 0 ≤ d) (lo : ∀ g : Nat, g < 16 → m1 g = M g) (hc : m1 29 0 = ch) (h4 : m1 27 0 4 = d + 1) (h5 : m1 27 0 5 = sz) (hinj : ∀ i j : Int, 0 ≤ i → i ≤ d → 0 ≤ j → j ≤ d → ch i = ch j → i = j) (hv : ∀ i : Int, 0 ≤ i → i ≤ d → 0 ≤ M 14 0 (ch i) ∧ M 14 0 (ch i) + sz ≤ 20) (he : (bM M sz (M 15 0 (ch d)) = -1 ∧ er = M 13 0 (ch 0) ∧ ef = M 14 0 (ch 0)) ∨ (bM M sz (M 15 0 (ch d)) ≠ -1 ∧ er = M 15 0 (ch d) ∧ ef = bM M sz (M 15 0 (ch d)))) (hef : 0 ≤ ef ∧ ef + sz ≤ 20) :
    (∀ i : Int, 0 ≤ i → i ≤ d → exM m1 13 0 (ch i) = (if i < d then M 13 0 (ch (i + 1)) else er) ∧ exM m1 14 0 (ch i) = (if i < d then M 14 0 (ch (i + 1)) else ef) ∧ exM m1 15 0 (ch i) = -1) ∧
    (∀ x : Int, (∀ i : Int, 0 ≤ i → i ≤ d → x ≠ ch i) → exM m1 13 0 x = M 13 0 x ∧ exM m1 14 0 x = M 14 0 x ∧ exM m1 15 0 x = M 15 0 x) ∧
    (∀ g : Nat, g ≠ 6 → g ≠ 13 → g ≠ 14 → g ≠ 15 → exM m1 g = m1 g) ∧
    ∀ a : Int, 0 ≤ a → exM m1 6 (a / 20) (a % 20) = owF ch (fun i => if i < d then M 13 0 (ch (i + 1)) else er) (fun i => if i < d then M 14 0 (ch (i + 1)) else ef) sz (fun a => if 20 * M 13 0 (ch 0) + M 14 0 (ch 0) ≤ a ∧ a < 20 * M 13 0 (ch 0) + M 14 0 (ch 0) + sz then 0 else M 6 (a / 20) (a % 20)) (d + 1).toNat a := by
  have b1 : bM m1 sz = bM M sz := by funext r; unfold bM; rw [lo 2 (by decide), lo 3 (by decide), lo 6 (by decide)]
  have ex : exM m1 = mvM (chS m1 ch (m1 13 0 (ch 0)) (m1 14 0 (ch 0)) sz d.toNat) (ch d) er ef sz := by
    unfold exM
    rw [h5, h4, hc, b1, show d + 1 - 1 = d by omega, lo 15 (by decide), lo 13 (by decide), lo 14 (by decide)]
    rcases he with ⟨a, rfl, rfl⟩ | ⟨a, rfl, rfl⟩
    · rw [if_pos a]
    · rw [if_neg a]
  have e13 := lo 13 (by decide)
  have e14 := lo 14 (by decide)
  have e15 := lo 15 (by decide)
  have e6 := lo 6 (by decide)
  obtain ⟨i1, i2, i3, i4⟩ := chS_all (A := m1) (c := ch) (d := d) (k := sz) (er := er) (ef := ef) hinj (by rw [e14]; exact hv) d.toNat (by omega)
  have dn : ((d.toNat : Nat) : Int) = d := by omega
  rw [dn] at i1 i2 i3
  rw [e13, e14] at i2
  rw [ex]
  refine ⟨fun i a b => ?_, fun x hx => ?_, fun g g1 g2 g3 g4 => ?_, fun a a0 => ?_⟩
  · rw [mvM_13, mvM_14, mvM_15]
    by_cases e : i = d
    · subst e
      rw [if_pos rfl, if_pos rfl, if_pos rfl, if_neg (by omega), if_neg (by omega)]
      exact ⟨rfl, rfl, rfl⟩
    · have ne : ch i ≠ ch d := fun q => e (hinj i d a b d0 (Int.le_refl d) q)
      rw [if_neg ne, if_neg ne, if_neg ne, e13, e14]
      exact i2 i a (by omega)
  · have ne := hx d d0 (Int.le_refl d)
    rw [mvM_13, mvM_14, mvM_15, if_neg ne, if_neg ne, if_neg ne]
    have q := i3 x (fun i a b => hx i a (by omega))
    rw [q.1, q.2.1, q.2.2, e13, e14, e15]
    exact ⟨rfl, rfl, rfl⟩
  · rw [mvM_g g1 g2 g3 g4, chS_g g1 g2 g3 g4]
  · have e6' : mvM (chS m1 ch (m1 13 0 (ch 0)) (m1 14 0 (ch 0)) sz d.toNat) (ch d) er ef sz 6 (a / 20) (a % 20) = giveM (chS m1 ch (m1 13 0 (ch 0)) (m1 14 0 (ch 0)) sz d.toNat) er ef sz (ch d) 6 (a / 20) (a % 20) := by
      unfold mvM
      rw [updM_g (by decide), updM_g (by decide), updM_g (by decide)]
    rw [e6', giveM_6 a0 hef.1 hef.2, i4 a a0, e13, e14, e6, show (d + 1).toNat = d.toNat + 1 by omega]
    have x1 : (if ((d.toNat : Nat) : Int) < d then M 13 0 (ch (((d.toNat : Nat) : Int) + 1)) else er) = er := if_neg (by omega)
    have x2 : (if ((d.toNat : Nat) : Int) < d then M 14 0 (ch (((d.toNat : Nat) : Int) + 1)) else ef) = ef := if_neg (by omega)
    have x3 : ch ((d.toNat : Nat) : Int) = ch d := by rw [dn]
    simp only [owF]
    by_cases q : 20 * er + ef ≤ a ∧ a < 20 * er + ef + sz
    · rw [if_pos q, if_pos (by omega), x3]
    · rw [if_neg q, if_neg (by omega)]
