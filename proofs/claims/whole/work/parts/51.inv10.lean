theorem new_exc {M m m1 m1' m2 : Mem} {c ticket d' : Int} (h : INV M c) (ht : 1 ≤ ticket ∧ ticket ≤ M 7 0 8) (hw : M 15 0 ticket ≠ -1) (xf : XF M m1) (hf : XFOUND M m1 ticket (M 9 0 ticket) (M 13 0 ticket)) (hm : m = updM (exM m1) 45 0 0 (m1 27 0 4)) (xf' : ∀ g : Nat, g ≠ 42 → g ≠ 43 → g ≠ 44 → m1' g = thr m 0 g) (hD' : isD (Rm M (M 9 0 ticket) (M 13 0 ticket)) (M 39 0 ticket) d') (hC' : isChain (M 30 0 8) (Rm M (M 9 0 ticket) (M 13 0 ticket)) (ptm M (M 9 0 ticket)) (rwm M) (M 39 0) ticket d' (m1' 43 0)) (f44 : ∀ t : Int, 1 ≤ t → t ≤ M 30 0 8 → ptm M (M 9 0 ticket) t → m1' 44 0 t = fsM M t) (e : m2 = chgM m1' (d' + 1) (M 9 0 ticket)) : INV m2 c ∧ m2 30 0 0 = 0 ∧ m2 45 0 0 = d' + 1 := by
  have e8 := h.2.1.2.1
  have X := h.exf ht.1 ht.2 hw
  have s1 := X.1.2.1.2.1
  have s2 := X.2.2.2.2.2.2.2.1
  have s3 := X.2.2.2.2.2.2.2.2
  obtain ⟨d, d0, d1, hd, l4, l5, hC⟩ := hf
  have R := h.R (sz := M 9 0 ticket) (fr_ := M 13 0 ticket) (by omega)
  have dd : d = d' := isD_u (fun _ => Iff.rfl) ((isD_cg X.2.2.2.2.2.1.symm (fun k => R k _)).mp hd) hD'
  subst dd
  rw [e8] at hC'
  have CU := chain_u (T := M 7 0 8) ⟨ht.1, ht.2, hw, rfl⟩ h.ptx h.rwx R hC hC'
  have CI := chain_i hd hC
  have CK : ∀ i : Int, 0 ≤ i → i ≤ d → m1' 43 0 i = m1 29 0 i ∧ 1 ≤ m1 29 0 i ∧ m1 29 0 i ≤ M 7 0 8 ∧ ptM M (M 9 0 ticket) (m1 29 0 i) := fun i i0 i1 => by
    have q := CU i.toNat (by omega)
    rw [Int.toNat_of_nonneg i0] at q
    exact ⟨q.1.symm, q.2.1, q.2.2.1, q.2.2.2⟩
  have CX : ∀ i : Int, 0 ≤ i → i ≤ d → blk M (m1 29 0 i) ∧ fsM M (m1 29 0 i) = 20 * M 13 0 (m1 29 0 i) + M 14 0 (m1 29 0 i) ∧ M 39 0 (m1 29 0 i) = M 15 0 (m1 29 0 i) ∧ M 8 0 (m1 29 0 i) = 1 ∧ M 14 0 (m1 29 0 i) + M 9 0 ticket ≤ 20 ∧ m1' 44 0 (m1 29 0 i) = 20 * M 13 0 (m1 29 0 i) + M 14 0 (m1 29 0 i) := fun i i0 i1 => by
    have k := CK i i0 i1
    have x := h.exf k.2.1 k.2.2.1 k.2.2.2.1
    have p := (h.ptx _ k.2.1 k.2.2.1).mp k.2.2.2
    have l := x.2.2.2.2.2.2.2.2
    rw [k.2.2.2.2] at l
    exact ⟨x.1, x.2.2.1, x.2.2.2.2.2.1, x.2.2.2.2.2.2.1, l, by rw [f44 _ k.2.1 (by rw [e8]; exact k.2.2.1) p]; exact x.2.2.1⟩
  generalize hch : m1 29 0 = ch at hC CU CI CK CX
  generalize hsz : M 9 0 ticket = sz at *
  have kd := CK d d0 (Int.le_refl d)
  have wsd := (h.2.2.2.1 _ kd.2.1 kd.2.2.1).2 kd.2.2.2.1
  have wl := h.hw.2.2 _ wsd.2.2.1 wsd.2.2.2.1
  have n12 := h.hw.2.1
  have b0 := (CX 0 (Int.le_refl 0) d0).1
  have x0 := CX 0 (Int.le_refl 0) d0
  have sz0 : M 9 0 (ch 0) = sz := (CK 0 (Int.le_refl 0) d0).2.2.2.2
  -- the end of the chain
  have fin : ∃ er ef : Int, ((bM M sz (M 15 0 (ch d)) = -1 ∧ er = M 13 0 (ch 0) ∧ ef = M 14 0 (ch 0)) ∨ (bM M sz (M 15 0 (ch d)) ≠ -1 ∧ er = M 15 0 (ch d) ∧ ef = bM M sz (M 15 0 (ch d)))) ∧ (0 ≤ ef ∧ ef + sz ≤ 20) ∧ ((bM M sz (M 15 0 (ch d)) = -1 ∧ er = M 13 0 (ch 0) ∧ ef = M 14 0 (ch 0)) ∨ (0 ≤ bM M sz (M 15 0 (ch d)) ∧ er = M 15 0 (ch d) ∧ ef = bM M sz (M 15 0 (ch d)) ∧ ef + sz ≤ M 2 0 er ∧ allF (M 6 er) ef sz)) := by
    rcases isBest_in (bFst_sp (M 2 0) (M 6) (M 3 0) sz (M 15 0 (ch d))) with q | ⟨q, q1, q2, _⟩
    · exact ⟨M 13 0 (ch 0), M 14 0 (ch 0), Or.inl ⟨q, rfl, rfl⟩, ⟨b0.2.1.1, x0.2.2.2.2.1⟩, Or.inl ⟨q, rfl, rfl⟩⟩
    · have q' : 0 ≤ bM M sz (M 15 0 (ch d)) := q
      exact ⟨M 15 0 (ch d), bM M sz (M 15 0 (ch d)), Or.inr ⟨by omega, rfl, rfl⟩, ⟨q', by have : bM M sz (M 15 0 (ch d)) + sz ≤ M 2 0 (M 15 0 (ch d)) := q1; omega⟩, Or.inr ⟨q', rfl, rfl, q1, q2⟩⟩
  obtain ⟨er, ef, he, hef, hl⟩ := fin
  obtain ⟨E1, E2, E3, E4⟩ := exM_all (M := M) (m1 := m1) (d := d) (sz := sz) (ch := ch) d0 xf.lo hch l4 l5 CI (fun i i0 i1 => ⟨(CX i i0 i1).1.2.1.1, (CX i i0 i1).2.2.2.2.1⟩) he hef
  have flat0 : ∀ a : Int, 0 ≤ a → a < 240 → (M 34 0 a = ch 0 ↔ 20 * M 13 0 (ch 0) + M 14 0 (ch 0) ≤ a ∧ a < 20 * M 13 0 (ch 0) + M 14 0 (ch 0) + sz) := fun a a0 a1 => by
    rw [b0.2.2 a a0 a1, sz0]
  -- memories
  have mE : ∀ g : Nat, g ≠ 45 → m g = exM m1 g := fun g hg => by rw [hm, updM_g hg]
  have mhi : ∀ g : Nat, 30 ≤ g → g < 40 → m g = M g := fun g g1 g2 => by rw [mE g (by omega), E3 g (by omega) (by omega) (by omega) (by omega), xf g (by omega) (by omega) (by omega)]
  have ghi : ∀ g : Nat, 31 ≤ g → g < 40 → m1' g = M g := fun g g1 g2 => by rw [xf' g (by omega) (by omega) (by omega), thr_g (by omega), mhi g (by omega) g2]
  have glo : ∀ g : Nat, g < 16 → m1' g = exM m1 g := fun g hg => by rw [xf' g (by omega) (by omega) (by omega), thr_g (by omega), mE g (by omega)]
  have g30 : ∀ j : Int, j ≠ 0 → m1' 30 0 j = M 30 0 j := fun j j0 => by rw [xf' 30 (by decide) (by decide) (by decide), thr_j j0, mhi 30 (by decide) (by decide)]
  have c0' : m1' 43 0 0 = ch 0 := (CK 0 (Int.le_refl 0) d0).1
  have cd' : m1' 43 0 (d + 1 - 1) = ch d := by rw [show d + 1 - 1 = d by omega]; exact kd.1
  have bE : bFst (m1' 31 0) (oMd m1') (m1' 32 0) sz (m1' 39 0 (m1' 43 0 (d + 1 - 1))) = bM M sz (M 15 0 (ch d)) := by
    have mo : oMd m1' = oMd M := by funext r s; unfold oMd; rw [ghi 34 (by decide) (by decide)]
    rw [cd', ghi 31 (by decide) (by decide), ghi 32 (by decide) (by decide), ghi 39 (by decide) (by decide), mo, (CX d d0 (Int.le_refl d)).2.2.1]
    exact (h.bF (by omega) wsd.2.2.1 wsd.2.2.2.1).symm
  have gE : chgE m1' (d + 1) sz = 20 * er + ef := by
    unfold chgE
    rw [bE]
    rcases hl with ⟨a, b, b'⟩ | ⟨a, b, b', _⟩
    · rw [if_neg (by omega), c0', x0.2.2.2.2.2, b, b']
    · rw [if_pos a, cd', ghi 39 (by decide) (by decide), (CX d d0 (Int.le_refl d)).2.2.1, b, b']
  have gT : ∀ i : Int, 0 ≤ i → i < d + 1 → chgT m1' (d + 1) (chgE m1' (d + 1) sz) i = 20 * (if i < d then M 13 0 (ch (i + 1)) else er) + (if i < d then M 14 0 (ch (i + 1)) else ef) ∧ 0 ≤ (if i < d then M 14 0 (ch (i + 1)) else ef) ∧ (if i < d then M 14 0 (ch (i + 1)) else ef) < 20 := fun i i0 i1 => by
    unfold chgT
    by_cases q : i < d
    · have k := CX (i + 1) (by omega) (by omega)
      rw [if_pos (by omega), if_pos q, if_pos q, (CK (i + 1) (by omega) (by omega)).1, k.2.2.2.2.2]
      exact ⟨rfl, k.1.2.1.1, by have := k.2.2.2.2.1; omega⟩
    · rw [if_neg (by omega), if_neg q, if_neg q, gE]
      exact ⟨rfl, hef.1, by omega⟩
  have dn : (((d + 1).toNat : Nat) : Int) = d + 1 := by omega
  obtain ⟨C1, C2, C3⟩ := chgS_all (m := m1') (A := chgA m1' (d + 1) sz) (n := d + 1) (k := sz) (e := chgE m1' (d + 1) sz) (fun i j i0 i1 j0 j1 q => CI i j i0 (by omega) j0 (by omega) (by rw [← (CK i i0 (by omega)).1, ← (CK j j0 (by omega)).1]; exact q)) gT (d + 1).toNat (by omega)
  rw [dn] at C1 C2
  have M2 : ∀ g : Nat, g ≠ 34 → g ≠ 39 → m2 g = m1' g := fun g g1 g2 => by
    rw [e]
    unfold chgM
    rw [chgS_g g1 g2, chgA_g g1]
  have V39 : ∀ x : Int, m2 39 0 x = chgS m1' (chgA m1' (d + 1) sz) (d + 1) sz (chgE m1' (d + 1) sz) (d + 1).toNat 39 0 x := fun x => by rw [e]; rfl
  have A39 : chgA m1' (d + 1) sz 39 = M 39 := by rw [chgA_g (by decide), ghi 39 (by decide) (by decide)]
  have L : ∀ g : Nat, g < 16 → g ≠ 6 → g ≠ 13 → g ≠ 14 → g ≠ 15 → m2 g = M g := fun g g1 g2 g3 g4 g5 => by rw [M2 g (by omega) (by omega), glo g g1, E3 g g2 g3 g4 g5, xf.lo g g1]
  have Hh : ∀ g : Nat, 31 ≤ g → g < 39 → g ≠ 34 → m2 g = M g := fun g g1 g2 g3 => by rw [M2 g g3 (by omega), ghi g g1 (by omega)]
  have H30 : ∀ j : Int, j ≠ 0 → m2 30 0 j = M 30 0 j := fun j j0 => by rw [M2 30 (by decide) (by decide), g30 j j0]
  have z0 : m2 30 0 0 = 0 := by rw [M2 30 (by decide) (by decide), xf' 30 (by decide) (by decide) (by decide)]; exact updM_same
  have z45 : m2 45 0 0 = d + 1 := by rw [M2 45 (by decide) (by decide), xf' 45 (by decide) (by decide) (by decide), thr_g (by decide), hm, updM_same, l4]
  refine ⟨INV_mov (ch := ch) (d := d) (sz := sz) (Dr := fun i => if i < d then M 13 0 (ch (i + 1)) else er) (Df := fun i => if i < d then M 14 0 (ch (i + 1)) else ef) h d0 (fun i i0 i1 => ?_) CI (fun i i0 i1 => ?_) ?_ (fun a a0 a1 => ⟨?_, ?_⟩) ⟨L 1 (by decide) (by decide) (by decide) (by decide) (by decide), L 2 (by decide) (by decide) (by decide) (by decide) (by decide), L 3 (by decide) (by decide) (by decide) (by decide) (by decide), L 4 (by decide) (by decide) (by decide) (by decide) (by decide), Hh 31 (by decide) (by decide) (by decide), Hh 32 (by decide) (by decide) (by decide), Hh 33 (by decide) (by decide) (by decide), H30 3 (by decide)⟩ (L 0 (by decide) (by decide) (by decide) (by decide) (by decide)) (L 7 (by decide) (by decide) (by decide) (by decide) (by decide)) (H30 1 (by decide)) (H30 2 (by decide)) (H30 8 (by decide)) (fun t hx => ?_) (fun i i0 i1 => ?_), z0, z45⟩
  · have k := CK i i0 i1
    have x := CX i i0 i1
    exact ⟨k.2.1, k.2.2.1, x.2.2.2.1, by have := x.1.1.1; omega, k.2.2.2.2⟩
  · show (if i < d then M 13 0 (ch (i + 1)) else er) = _ ∧ (if i < d then M 14 0 (ch (i + 1)) else ef) = _
    rw [if_pos i1, if_pos i1]
    exact ⟨rfl, rfl⟩
  · show ((if d < d then M 13 0 (ch (d + 1)) else er) = _ ∧ (if d < d then M 14 0 (ch (d + 1)) else ef) = _) ∨ ((0 ≤ (if d < d then M 13 0 (ch (d + 1)) else er) ∧ (if d < d then M 13 0 (ch (d + 1)) else er) < _) ∧ (0 ≤ (if d < d then M 14 0 (ch (d + 1)) else ef) ∧ (if d < d then M 14 0 (ch (d + 1)) else ef) + sz ≤ M 2 0 (if d < d then M 13 0 (ch (d + 1)) else er)) ∧ ∀ a : Int, 0 ≤ a → a < 240 → (20 * (if d < d then M 13 0 (ch (d + 1)) else er) + (if d < d then M 14 0 (ch (d + 1)) else ef) ≤ a ∧ a < 20 * (if d < d then M 13 0 (ch (d + 1)) else er) + (if d < d then M 14 0 (ch (d + 1)) else ef) + sz) → M 34 0 a = 0)
    rw [if_neg (Int.lt_irrefl d), if_neg (Int.lt_irrefl d)]
    rcases hl with ⟨a, b, b'⟩ | ⟨a, b, b', q1, q2⟩
    · exact Or.inl ⟨b, b'⟩
    · refine Or.inr ⟨by rw [b]; exact ⟨wsd.2.2.1, wsd.2.2.2.1⟩, ⟨hef.1, q1⟩, fun x x1 x2 q => ?_⟩
      have r : x / 20 = er := by omega
      have q3 := (h.2.2.1 x x1 x2).1
      rw [r, q2 (x % 20) (by omega) (by omega)] at q3
      exact q3
  · have v : m2 34 0 a = chgS m1' (chgA m1' (d + 1) sz) (d + 1) sz (chgE m1' (d + 1) sz) (d + 1).toNat 34 0 a := by rw [e]; rfl
    rw [v, C3 a, owF_c (c' := ch) (Dr' := fun i => if i < d then M 13 0 (ch (i + 1)) else er) (Df' := fun i => if i < d then M 14 0 (ch (i + 1)) else ef) _ (fun i i0 i1 => ⟨(CK i i0 (by omega)).1, rfl, rfl⟩)]
    have bx : 0 ≤ bM M sz (M 15 0 (ch d)) ∨ M 34 0 a ≠ ch 0 → chgA m1' (d + 1) sz 34 0 a = if M 34 0 a = ch 0 then 0 else M 34 0 a := fun hq => by
      unfold chgA
      rw [bE]
      by_cases q : 0 ≤ bM M sz (M 15 0 (ch d))
      · rw [if_pos q, c0', x0.2.2.2.2.2]
        have f := flat0 a a0 a1
        have b1 := b0.2.1.1
        have b2 := x0.2.2.2.2.1
        unfold ownM
        by_cases y : M 34 0 a = ch 0
        · have f' := f.mp y
          rw [if_pos y, if_pos ⟨rfl, rfl, by omega, by omega⟩]
        · rw [if_neg y, if_neg (fun x => y (f.mpr ⟨by omega, by omega⟩)), ghi 34 (by decide) (by decide)]
      · rw [if_neg q]
        rcases hq with hq | hq
        · exact absurd hq q
        · rw [if_neg hq, ghi 34 (by decide) (by decide)]
    by_cases q : 0 ≤ bM M sz (M 15 0 (ch d)) ∨ M 34 0 a ≠ ch 0
    · exact owF_b (bx q) _
    · have q1 : M 34 0 a = ch 0 := by
        by_cases y : M 34 0 a = ch 0
        · exact y
        · exact absurd (Or.inr y) q
      have q2 : ¬ 0 ≤ bM M sz (M 15 0 (ch d)) := fun y => q (Or.inl y)
      have f := (flat0 a a0 a1).mp q1
      rcases hl with ⟨_, b, b'⟩ | ⟨y, _⟩
      · have inl : inD (fun i => if i < d then M 13 0 (ch (i + 1)) else er) (fun i => if i < d then M 14 0 (ch (i + 1)) else ef) sz d a := by
          show 20 * (if d < d then M 13 0 (ch (d + 1)) else er) + (if d < d then M 14 0 (ch (d + 1)) else ef) ≤ a ∧ a < 20 * (if d < d then M 13 0 (ch (d + 1)) else er) + (if d < d then M 14 0 (ch (d + 1)) else ef) + sz
          rw [if_neg (Int.lt_irrefl d), if_neg (Int.lt_irrefl d), b, b']
          exact f
        rw [owF_in d0 inl _ (by omega) (fun i i0 i1 => by omega), owF_in d0 inl _ (by omega) (fun i i0 i1 => by omega)]
      · exact absurd y q2
  · rw [M2 6 (by decide) (by decide), glo 6 (by decide), E4 a a0]
    refine owF_b ?_ _
    have f := flat0 a a0 a1
    have k := (h.2.2.1 a a0 a1).1
    by_cases q : M 34 0 a = ch 0
    · rw [if_pos q, if_pos (f.mp q)]
    · rw [if_neg q, if_neg (fun x => q (f.mpr x)), k]
  · have e2 := E2 t hx
    have k := CK
    refine ⟨⟨by rw [L 8 (by decide) (by decide) (by decide) (by decide) (by decide)], by rw [L 9 (by decide) (by decide) (by decide) (by decide) (by decide)], by rw [L 10 (by decide) (by decide) (by decide) (by decide) (by decide)], by rw [L 11 (by decide) (by decide) (by decide) (by decide) (by decide)], by rw [L 12 (by decide) (by decide) (by decide) (by decide) (by decide)], ?_, ?_, ?_⟩, by rw [Hh 35 (by decide) (by decide) (by decide)], by rw [Hh 36 (by decide) (by decide) (by decide)], by rw [Hh 37 (by decide) (by decide) (by decide)], by rw [Hh 38 (by decide) (by decide) (by decide)], ?_⟩
    · rw [M2 13 (by decide) (by decide), glo 13 (by decide)]; exact e2.1
    · rw [M2 14 (by decide) (by decide), glo 14 (by decide)]; exact e2.2.1
    · rw [M2 15 (by decide) (by decide), glo 15 (by decide)]; exact e2.2.2
    · rw [V39, C2 t (fun i i0 i1 => by rw [(CK i i0 (by omega)).1]; exact hx i i0 (by omega)), A39]
  · have e1 := E1 i i0 i1
    refine ⟨⟨by rw [L 8 (by decide) (by decide) (by decide) (by decide) (by decide)], by rw [L 9 (by decide) (by decide) (by decide) (by decide) (by decide)], by rw [L 10 (by decide) (by decide) (by decide) (by decide) (by decide)], by rw [L 11 (by decide) (by decide) (by decide) (by decide) (by decide)], by rw [L 12 (by decide) (by decide) (by decide) (by decide) (by decide)]⟩, ⟨by rw [Hh 35 (by decide) (by decide) (by decide)], by rw [Hh 36 (by decide) (by decide) (by decide)], by rw [Hh 37 (by decide) (by decide) (by decide)], by rw [Hh 38 (by decide) (by decide) (by decide)]⟩, ?_, ?_, ?_, ?_⟩
    · rw [M2 13 (by decide) (by decide), glo 13 (by decide)]; exact e1.1
    · rw [M2 14 (by decide) (by decide), glo 14 (by decide)]; exact e1.2.1
    · rw [M2 15 (by decide) (by decide), glo 15 (by decide)]; exact e1.2.2
    · have q := C1 i i0 (by omega)
      rw [(CK i i0 i1).1] at q
      rw [V39]; exact q
