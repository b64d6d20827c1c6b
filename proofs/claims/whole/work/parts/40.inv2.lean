/-! how the invariant goes on -/
theorem many_cg {M M' : Mem} {t : Int} (h : ∀ a : Int, 0 ≤ a → a < 240 → (M' 34 0 a = t ↔ M 34 0 a = t)) : manyM M' t = manyM M t :=
  sumI_cg (fun a a0 a1 => by
    by_cases e : M 34 0 a = t
    · rw [if_pos e, if_pos ((h a a0 a1).mpr e)]
    · rw [if_neg e, if_neg (fun q => e ((h a a0 a1).mp q))])
theorem sumTo_add (f : Int → Int) (j : Nat) : ∀ k : Nat, sumTo f (j + k) = sumTo f j + sumTo (fun i => f ((j : Int) + i)) k
  | 0 => by simp [sumTo]
  | k + 1 => by
    have ih := sumTo_add f j k
    show sumTo f (j + k) + f ((j + k : Nat) : Int) = sumTo f j + (sumTo (fun i => f ((j : Int) + i)) k + f ((j : Int) + (k : Int)))
    rw [ih, Int.natCast_add]
    omega
theorem sumI_add (f : Int → Int) {j k : Int} (j0 : 0 ≤ j) (k0 : 0 ≤ k) : sumI f (j + k) = sumI f j + sumI (fun i => f (j + i)) k := by
  unfold sumI
  rw [show (j + k).toNat = j.toNat + k.toNat by omega, sumTo_add, Int.toNat_of_nonneg j0]
theorem sumI_zero {f : Int → Int} {k : Int} (h : ∀ i : Int, 0 ≤ i → i < k → f i = 0) : sumI f k = 0 := by
  rw [sumI_cg (g := fun _ => 0) h]
  unfold sumI
  generalize k.toNat = n
  induction n with
  | zero => rfl
  | succ n ih => show sumTo (fun _ => 0) n + 0 = 0; rw [ih]; rfl
theorem sumI_one {k : Int} (k0 : 0 ≤ k) : sumI (fun _ => 1) k = k := by
  have h : ∀ n : Nat, sumTo (fun _ => 1) n = (n : Int) := fun n => by
    induction n with
    | zero => rfl
    | succ n ih => show sumTo (fun _ => 1) n + 1 = _; rw [ih]; omega
  unfold sumI
  rw [h]; omega
/-- a sum over a stretch -/
theorem sumI_part {f : Int → Int} {lo k n : Int} (l0 : 0 ≤ lo) (k0 : 0 ≤ k) (hn : lo + k ≤ n) (h : ∀ i : Int, 0 ≤ i → i < n → ¬ (lo ≤ i ∧ i < lo + k) → f i = 0) : sumI f n = sumI (fun i => f (lo + i)) k := by
  have e1 : sumI f n = sumI f (lo + k) + sumI (fun i => f (lo + k + i)) (n - (lo + k)) := by
    rw [← sumI_add f (by omega) (by omega), show lo + k + (n - (lo + k)) = n by omega]
  rw [e1, sumI_add f l0 k0, sumI_zero (f := f) (k := lo) (fun i i0 i1 => h i i0 (by omega) (by omega)), sumI_zero (f := fun i => f (lo + k + i)) (k := n - (lo + k)) (fun i i0 i1 => h (lo + k + i) (by omega) (by omega) (by omega))]
  omega
theorem many_blk {M : Mem} {t lo k : Int} (l0 : 0 ≤ lo) (k0 : 0 ≤ k) (hn : lo + k ≤ 240) (h : ∀ a : Int, 0 ≤ a → a < 240 → (M 34 0 a = t ↔ lo ≤ a ∧ a < lo + k)) : manyM M t = k := by
  unfold manyM
  rw [sumI_part (lo := lo) (k := k) l0 k0 hn (fun i i0 i1 q => if_neg (fun e => q ((h i i0 i1).mp e))), sumI_cg (g := fun _ => 1) (fun i i0 i1 => if_pos ((h (lo + i) (by omega) (by omega)).mpr ⟨by omega, by omega⟩)), sumI_one k0]
/-- 240 places as 12 rows of 20 -/
theorem sumI_240 (f : Int → Int) : ∀ k : Nat, sumI f (20 * (k : Int)) = sumI (fun r => sumI (fun s => f (20 * r + s)) 20) (k : Int)
  | 0 => rfl
  | k + 1 => by
    have ih := sumI_240 f k
    rw [show (20 * ((k + 1 : Nat) : Int)) = 20 * (k : Int) + 20 by omega, sumI_add f (by omega) (by decide), ih, show ((k + 1 : Nat) : Int) = (k : Int) + 1 by omega, sumI_s (by omega)]
/-- the price of a ticket is the same to both -/
theorem INV.price {M : Mem} {c : Int} (h : INV M c) {t : Int} (ht : 1 ≤ t) : priceM M t = pricM M t := by
  have hw := h.hw
  have n0 := hw.1
  have n1 := hw.2.1
  unfold pricM
  have e := sumI_240 (fun a => if M 34 0 a = t then M 33 0 (a / 20) else 0) 12
  rw [show (20 * ((12 : Nat) : Int)) = 240 by decide] at e
  rw [e]
  have z : ∀ r s : Int, 0 ≤ r → r < 12 → 0 ≤ s → s < 20 → ¬ (r < M 1 0 4 ∧ s < M 2 0 r) → M 34 0 (20 * r + s) ≠ t := fun r s r0 r1 s0 s1 q => by
    have q2 := (h.2.2.1 (20 * r + s) (by omega) (by omega)).2.1 (by
      unfold vld
      rw [show (20 * r + s) / 20 = r by omega, show (20 * r + s) % 20 = s by omega]
      exact q)
    omega
  have e2 : sumI (fun r => sumI (fun s => if M 34 0 (20 * r + s) = t then M 33 0 ((20 * r + s) / 20) else 0) 20) ((12 : Nat) : Int) = sumI (fun r => sumI (fun s => if M 34 0 (0 + r |> fun q => 20 * q + s) = t then M 33 0 ((20 * (0 + r) + s) / 20) else 0) 20) (M 1 0 4) :=
    sumI_part (lo := 0) (k := M 1 0 4) (Int.le_refl 0) n0 (by show 0 + M 1 0 4 ≤ 12; omega) (fun r r0 r1 q => sumI_zero (fun s s0 s1 => if_neg (z r s r0 (by have : r < 12 := r1; omega) s0 s1 (by omega))))
  rw [e2]
  refine sumI_cg (fun r r0 r1 => ?_)
  have w := hw.2.2 r r0 r1
  rw [show (0 : Int) + r = r by omega]
  rw [sumI_part (f := fun s => if M 34 0 (20 * r + s) = t then M 33 0 ((20 * r + s) / 20) else 0) (lo := 0) (k := M 2 0 r) (n := 20) (Int.le_refl 0) (by omega) (by omega) (fun s s0 s1 q => if_neg (z r s r0 (by omega) s0 s1 (by omega)))]
  refine sumI_cg (fun s s0 s1 => ?_)
  rw [show (0 : Int) + s = s by omega, show (20 * r + s) / 20 = r by omega]
  have o := h.own r0 r1 s0 s1
  unfold oMd at o
  rw [o, (h.row.2 r r0 r1).2.2]
/-- what a ticket has and owns stays -/
def keepT (M M' : Mem) (t : Int) : Prop := (M' 8 0 t = M 8 0 t ∧ M' 9 0 t = M 9 0 t ∧ M' 10 0 t = M 10 0 t ∧ M' 11 0 t = M 11 0 t ∧ M' 12 0 t = M 12 0 t ∧ M' 13 0 t = M 13 0 t ∧ M' 14 0 t = M 14 0 t ∧ M' 15 0 t = M 15 0 t) ∧ M' 35 0 t = M 35 0 t ∧ M' 36 0 t = M 36 0 t ∧ M' 37 0 t = M 37 0 t ∧ M' 38 0 t = M 38 0 t ∧ M' 39 0 t = M 39 0 t
def keepH (M M' : Mem) : Prop := M' 1 = M 1 ∧ M' 2 = M 2 ∧ M' 3 = M 3 ∧ M' 4 = M 4 ∧ M' 31 = M 31 ∧ M' 32 = M 32 ∧ M' 33 = M 33 ∧ M' 30 0 3 = M 30 0 3
theorem keepT.ti {M M' : Mem} {t : Int} (k : keepT M M' t) (h : TI M t) : TI M' t := by
  obtain ⟨⟨a1, a2, a3, a4, a5, a6, a7, a8⟩, b1, b2, b3, b4, b5⟩ := k
  unfold TI at h ⊢
  rw [a1, a3, a4, a5, a8, b1, b2, b3, b4, b5]
  exact h
theorem keepT.ws {M M' : Mem} {t : Int} (k : keepT M M' t) (k1 : M' 1 = M 1) (h : WS M t) : WS M' t := by
  obtain ⟨⟨a1, a2, a3, a4, a5, a6, a7, a8⟩, b1, b2, b3, b4, b5⟩ := k
  unfold WS at h ⊢
  rw [a1, a6, a8, k1]
  exact h
theorem keepT.bs {M M' : Mem} {t : Int} (k : keepT M M' t) (k1 : M' 1 = M 1) (k2 : M' 2 = M 2) (hc : ∀ a : Int, 0 ≤ a → a < 240 → (M' 34 0 a = t ↔ M 34 0 a = t)) (h : blk M t ∨ spl M t) : blk M' t ∨ spl M' t := by
  obtain ⟨⟨a1, a2, a3, a4, a5, a6, a7, a8⟩, _⟩ := k
  rcases h with ⟨h1, h2, h3⟩ | ⟨h1, h2, a, b, a0, a1', b0, b1, e1, e2, e3⟩
  · refine Or.inl ⟨?_, ?_, fun a a0 a1 => ?_⟩
    · rw [a6, k1]; exact h1
    · rw [a6, a7, a2, k2]; exact h2
    · rw [hc a a0 a1, a6, a7, a2]; exact h3 a a0 a1
  · refine Or.inr ⟨?_, ?_, a, b, a0, a1', b0, b1, (hc a a0 a1').mpr e1, (hc b b0 b1).mpr e2, e3⟩
    · rw [a6]; exact h1
    · rw [a2, many_cg hc]; exact h2
theorem keepH.i1 {M M' : Mem} (k : keepH M M') (h : I1 M) : I1 M' := by
  obtain ⟨k1, k2, k3, k4, k5, k6, k7, k8⟩ := k
  unfold I1 HW at h ⊢
  rw [k8, k1, k2, k3, k4, k5, k6, k7]
  exact h
/-- a new ticket -/
theorem INV_new {M M' : Mem} {c n : Int} (h : INV M c) (hT : M 7 0 8 < 100) (hn : n = M 7 0 8 + 1) (kh : keepH M M') (k0 : M' 0 = M 0) (k301 : M' 30 0 1 = M 30 0 1) (k302 : M' 30 0 2 = M 30 0 2) (t7 : M' 7 0 8 = n) (t30 : M' 30 0 8 = n) (kt : ∀ t : Int, t ≠ n → keepT M M' t)
    (n8 : M' 8 0 n = 0) (n35 : M' 35 0 n = 0) (n10 : 0 ≤ M' 10 0 n ∧ M' 36 0 n = M' 10 0 n) (n11 : M' 11 0 n = 0) (n12 : M' 12 0 n = 0) (n15 : M' 15 0 n = -1) (n37 : M' 37 0 n = M 37 0 n) (n38 : M' 38 0 n = M 38 0 n) (n39 : M' 39 0 n = -1)
    (ce : ∀ a : Int, 0 ≤ a → a < 240 → M' 34 0 a = M' 6 (a / 20) (a % 20)) (cn : ∀ a : Int, 0 ≤ a → a < 240 → M' 34 0 a = M 34 0 a ∨ (M 34 0 a = 0 ∧ vld M a ∧ M' 34 0 a = n)) (nb : blk M' n ∨ spl M' n) : INV M' c := by
  have hb := h.bw
  obtain ⟨h1, ⟨_, b2, b3, b4⟩, h3, h4, h5⟩ := h
  have q1 := kh.1
  have q2 := kh.2.1
  refine ⟨kh.i1 h1, ⟨⟨by rw [t7]; have := hb.1; omega, by rw [t7]; omega⟩, by rw [t30, t7], fun t t1 t2 => ?_, fun t t1 t2 => ?_⟩, fun a a0 a1 => ?_, fun t t1 t2 => ?_, ?_⟩
  · by_cases e : t = n
    · subst e
      have d := b4 t (by omega) (by omega)
      unfold TI
      rw [n8, n35, n11, n12, n15, n37, n38, n39, d.1, d.2, n10.2]
      exact ⟨⟨rfl, rfl, rfl, rfl⟩, ⟨by omega, by omega⟩, n10.1, ⟨by omega, by omega⟩, ⟨by omega, by omega⟩, fun _ => rfl, fun _ => rfl⟩
    · exact (kt t e).ti (b3 t t1 (by omega))
  · have k := (kt t (by omega)).2
    have d := b4 t (by omega) t2
    rw [k.2.2.1, k.2.2.2.1]
    exact d
  · obtain ⟨c1, c2, c3⟩ := h3 a a0 a1
    refine ⟨ce a a0 a1, fun q => ?_, ?_⟩
    · unfold vld at q c2
      rw [q1, q2] at q
      rcases cn a a0 a1 with e | ⟨_, e, _⟩
      · rw [e]; exact c2 q
      · exact absurd e q
    · rcases cn a a0 a1 with e | ⟨_, _, e⟩
      · rw [e]
        rcases c3 with c3 | c3 | ⟨d1, d2, d3⟩
        · exact Or.inl c3
        · exact Or.inr (Or.inl c3)
        · refine Or.inr (Or.inr ⟨d1, by omega, ?_⟩)
          rw [(kt _ (by omega)).1.1]; exact d3
      · rw [e]
        exact Or.inr (Or.inr ⟨by have := hb.1; omega, by omega, by omega⟩)
  · by_cases e : t = n
    · subst e
      exact ⟨fun _ => nb, fun q => absurd n15 q⟩
    · have k := kt t e
      have d := h4 t t1 (by omega)
      refine ⟨fun q => k.bs q1 q2 (fun a a0 a1 => ?_) (d.1 (by rw [← k.1.1]; exact q)), k.ws q1 d.2⟩
      rcases cn a a0 a1 with e2 | ⟨e3, _, e2⟩
      · rw [e2]
      · rw [e2, e3]; omega
  · unfold I5 at h5 ⊢
    rw [k0, k301, k302]
    exact h5
/-- a ticket is closed -/
theorem INV_clo {M M' : Mem} {c n how : Int} (h : INV M c) (hn : 1 ≤ n ∧ n ≤ M 7 0 8) (hh : how = 2 ∨ how = 3) (kh : keepH M M') (k0 : M' 0 = M 0) (k7 : M' 7 = M 7) (k30 : M' 30 = M 30) (kt : ∀ t : Int, t ≠ n → keepT M M' t) (k37 : M' 37 = M 37) (k38 : M' 38 = M 38)
    (n8 : M' 8 0 n = how) (n35 : M' 35 0 n = how) (n10 : M' 10 0 n = M 10 0 n ∧ M' 36 0 n = M 36 0 n) (n11 : M' 11 0 n = M 11 0 n) (n12 : M' 12 0 n = M 12 0 n) (n15 : M' 15 0 n = -1)
    (ce : ∀ a : Int, 0 ≤ a → a < 240 → M' 34 0 a = M' 6 (a / 20) (a % 20)) (cn : ∀ a : Int, 0 ≤ a → a < 240 → M' 34 0 a = if M 34 0 a = n then 0 else M 34 0 a) : INV M' c := by
  obtain ⟨h1, ⟨b1, b2, b3, b4⟩, h3, h4, h5⟩ := h
  have q1 := kh.1
  have q2 := kh.2.1
  refine ⟨kh.i1 h1, ⟨by unfold BW at b1 ⊢; rw [k7]; exact b1, by rw [k30, k7]; exact b2, fun t t1 t2 => ?_, fun t t1 t2 => ?_⟩, fun a a0 a1 => ?_, fun t t1 t2 => ?_, ?_⟩
  · rw [k7] at t2
    by_cases e : t = n
    · subst e
      have d := b3 t t1 t2
      unfold TI at d ⊢
      rw [n8, n35, n10.1, n10.2, n11, n12, n15, k37, k38]
      exact ⟨⟨rfl, d.1.2⟩, ⟨by omega, by omega⟩, d.2.2.1, d.2.2.2.1, d.2.2.2.2.1, fun q => by omega, fun _ => rfl⟩
    · exact (kt t e).ti (b3 t t1 t2)
  · rw [k7] at t1
    rw [k37, k38]
    exact b4 t t1 t2
  · obtain ⟨c1, c2, c3⟩ := h3 a a0 a1
    refine ⟨ce a a0 a1, fun q => ?_, ?_⟩
    · rw [cn a a0 a1]
      unfold vld at q c2
      rw [q1, q2] at q
      rw [c2 q]
      split <;> rfl
    · rw [cn a a0 a1]
      by_cases e : M 34 0 a = n
      · rw [if_pos e]; exact Or.inl rfl
      · rw [if_neg e, k7]
        rcases c3 with c3 | c3 | ⟨d1, d2, d3⟩
        · exact Or.inl c3
        · exact Or.inr (Or.inl c3)
        · refine Or.inr (Or.inr ⟨d1, d2, ?_⟩)
          rw [(kt _ e).1.1]; exact d3
  · rw [k7] at t2
    by_cases e : t = n
    · subst e
      exact ⟨fun q => by omega, fun q => absurd n15 q⟩
    · have k := kt t e
      have d := h4 t t1 t2
      refine ⟨fun q => k.bs q1 q2 (fun a a0 a1 => ?_) (d.1 (by rw [← k.1.1]; exact q)), k.ws q1 d.2⟩
      rw [cn a a0 a1]
      by_cases e2 : M 34 0 a = n
      · rw [if_pos e2, e2]; omega
      · rw [if_neg e2]
  · unfold I5 at h5 ⊢
    rw [k0, k30]
    exact h5
