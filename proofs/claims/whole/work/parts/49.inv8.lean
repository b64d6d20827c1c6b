theorem INV_mov {M m2 : Mem} {c d sz : Int} {ch Dr Df : Int → Int} (h : INV M c) (d0 : 0 ≤ d) (hch : ∀ i : Int, 0 ≤ i → i ≤ d → 1 ≤ ch i ∧ ch i ≤ M 7 0 8 ∧ M 8 0 (ch i) = 1 ∧ M 13 0 (ch i) ≠ -1 ∧ M 9 0 (ch i) = sz) (hinj : ∀ i j : Int, 0 ≤ i → i ≤ d → 0 ≤ j → j ≤ d → ch i = ch j → i = j) (hD : ∀ i : Int, 0 ≤ i → i < d → Dr i = M 13 0 (ch (i + 1)) ∧ Df i = M 14 0 (ch (i + 1)))
    (hl : (Dr d = M 13 0 (ch 0) ∧ Df d = M 14 0 (ch 0)) ∨ ((0 ≤ Dr d ∧ Dr d < M 1 0 4) ∧ (0 ≤ Df d ∧ Df d + sz ≤ M 2 0 (Dr d)) ∧ ∀ a : Int, 0 ≤ a → a < 240 → inD Dr Df sz d a → M 34 0 a = 0))
    (hc : ∀ a : Int, 0 ≤ a → a < 240 → m2 34 0 a = owF ch Dr Df sz (fun a => if M 34 0 a = ch 0 then 0 else M 34 0 a) (d + 1).toNat a ∧ m2 6 (a / 20) (a % 20) = owF ch Dr Df sz (fun a => if M 34 0 a = ch 0 then 0 else M 34 0 a) (d + 1).toNat a)
    (kh : keepH M m2) (k0 : m2 0 = M 0) (k7 : m2 7 = M 7) (k1 : m2 30 0 1 = M 30 0 1) (k2 : m2 30 0 2 = M 30 0 2) (k8 : m2 30 0 8 = M 30 0 8) (kt : ∀ t : Int, (∀ i : Int, 0 ≤ i → i ≤ d → t ≠ ch i) → keepT M m2 t)
    (kc : ∀ i : Int, 0 ≤ i → i ≤ d → (m2 8 0 (ch i) = M 8 0 (ch i) ∧ m2 9 0 (ch i) = M 9 0 (ch i) ∧ m2 10 0 (ch i) = M 10 0 (ch i) ∧ m2 11 0 (ch i) = M 11 0 (ch i) ∧ m2 12 0 (ch i) = M 12 0 (ch i)) ∧ (m2 35 0 (ch i) = M 35 0 (ch i) ∧ m2 36 0 (ch i) = M 36 0 (ch i) ∧ m2 37 0 (ch i) = M 37 0 (ch i) ∧ m2 38 0 (ch i) = M 38 0 (ch i)) ∧ m2 13 0 (ch i) = Dr i ∧ m2 14 0 (ch i) = Df i ∧ m2 15 0 (ch i) = -1 ∧ m2 39 0 (ch i) = -1) : INV m2 c := by
  have hb := h.bw
  have n1 := h.hw.2.1
  have dn : (((d + 1).toNat : Nat) : Int) = d + 1 := by omega
  have B : ∀ i : Int, 0 ≤ i → i ≤ d → blk M (ch i) := fun i i0 i1 => by
    have q := hch i i0 i1
    rcases (h.2.2.2.1 (ch i) q.1 q.2.1).1 (by omega) with x | x
    · exact x
    · exact absurd x.1 q.2.2.2.1
  have W : ∀ r : Int, 0 ≤ r → r < M 1 0 4 → M 2 0 r ≤ 20 := fun r r0 r1 => (h.hw.2.2 r r0 r1).2.1
  have DO : ∀ j : Int, 0 ≤ j → j < d → ∀ a : Int, 0 ≤ a → a < 240 → (inD Dr Df sz j a ↔ M 34 0 a = ch (j + 1)) := fun j j0 j1 a a0 a1 => by
    have b := B (j + 1) (by omega) (by omega)
    have q := hch (j + 1) (by omega) (by omega)
    rw [b.2.2 a a0 a1, q.2.2.2.2]
    unfold inD
    rw [(hD j j0 j1).1, (hD j j0 j1).2]
  have DL : ∀ a : Int, 0 ≤ a → a < 240 → inD Dr Df sz d a → M 34 0 a = ch 0 ∨ M 34 0 a = 0 := fun a a0 a1 q => by
    rcases hl with ⟨x, y⟩ | ⟨_, _, x⟩
    · left
      have b := B 0 (by omega) d0
      rw [b.2.2 a a0 a1, (hch 0 (by omega) d0).2.2.2.2, ← x, ← y]
      exact q
    · exact Or.inr (x a a0 a1 q)
  have DV : ∀ j : Int, 0 ≤ j → j ≤ d → (0 ≤ Dr j ∧ Dr j < M 1 0 4) ∧ 0 ≤ Df j ∧ Df j + sz ≤ M 2 0 (Dr j) := fun j j0 j1 => by
    by_cases e : j < d
    · have b := B (j + 1) (by omega) (by omega)
      have q := hch (j + 1) (by omega) (by omega)
      have b2 := b.2.1
      rw [q.2.2.2.2] at b2
      rw [(hD j j0 e).1, (hD j j0 e).2]
      exact ⟨b.1, b2.1, b2.2.2⟩
    · have e2 : j = d := by omega
      subst e2
      rcases hl with ⟨x, y⟩ | ⟨x, y, _⟩
      · have b := B 0 (by omega) d0
        have b2 := b.2.1
        rw [(hch 0 (by omega) d0).2.2.2.2] at b2
        rw [x, y]
        exact ⟨b.1, b2.1, b2.2.2⟩
      · exact ⟨x, y⟩
  have DJ : ∀ a : Int, 0 ≤ a → a < 240 → ∀ i j : Int, 0 ≤ i → i < j → j ≤ d → inD Dr Df sz i a → ¬ inD Dr Df sz j a := fun a a0 a1 i j i0 ij jd qi qj => by
    have ei := (DO i i0 (by omega) a a0 a1).mp qi
    by_cases e : j < d
    · have ej := (DO j (by omega) e a a0 a1).mp qj
      have := hinj (i + 1) (j + 1) (by omega) (by omega) (by omega) (by omega) (ei.symm.trans ej)
      omega
    · have e2 : j = d := by omega
      subst e2
      have p := (hch (i + 1) (by omega) (by omega)).1
      rcases DL a a0 a1 qj with x | x
      · have := hinj (i + 1) 0 (by omega) (by omega) (by omega) (by omega) (ei.symm.trans x)
        omega
      · omega
  have P1 : ∀ a : Int, 0 ≤ a → a < 240 → ∀ j : Int, 0 ≤ j → j ≤ d → inD Dr Df sz j a → m2 34 0 a = ch j := fun a a0 a1 j j0 j1 q => by
    rw [(hc a a0 a1).1]
    exact owF_in j0 q _ (by omega) (fun i i0 i1 => DJ a a0 a1 j i j0 i0 (by omega) q)
  have P2 : ∀ a : Int, 0 ≤ a → a < 240 → (∀ j : Int, 0 ≤ j → j ≤ d → ¬ inD Dr Df sz j a) → m2 34 0 a = if M 34 0 a = ch 0 then 0 else M 34 0 a := fun a a0 a1 q => by
    rw [(hc a a0 a1).1]
    exact owF_out _ (fun i i0 i1 => q i i0 (by omega))
  obtain ⟨h1, ⟨b1, b2, b3, b4⟩, h3, h4, h5⟩ := h
  refine ⟨kh.i1 h1, ⟨by unfold BW at b1 ⊢; rw [k7]; exact b1, by rw [k8, k7]; exact b2, fun t t1 t2 => ?_, fun t t1 t2 => ?_⟩, fun a a0 a1 => ?_, fun t t1 t2 => ?_, ?_⟩
  · rw [k7] at t2
    have ti := b3 t t1 t2
    by_cases e : ∃ i : Int, 0 ≤ i ∧ i ≤ d ∧ t = ch i
    · obtain ⟨i, i0, i1, rfl⟩ := e
      have k := kc i i0 i1
      have q := hch i i0 i1
      unfold TI at ti ⊢
      rw [k.1.1, k.1.2.2.1, k.1.2.2.2.1, k.1.2.2.2.2, k.2.1.1, k.2.1.2.1, k.2.1.2.2.1, k.2.1.2.2.2, k.2.2.2.2.1, k.2.2.2.2.2]
      exact ⟨ti.1, ti.2.1, ti.2.2.1, ti.2.2.2.1, ti.2.2.2.2.1, fun _ => rfl, fun _ => rfl⟩
    · exact (kt t (fun i i0 i1 q => e ⟨i, i0, i1, q⟩)).ti ti
  · rw [k7] at t1
    have k := (kt t (fun i i0 i1 q => by have := (hch i i0 i1).2.1; omega)).2
    rw [k.2.2.1, k.2.2.2.1]
    exact b4 t t1 t2
  · obtain ⟨c1, c2, c3⟩ := h3 a a0 a1
    have E : m2 34 0 a = m2 6 (a / 20) (a % 20) := (hc a a0 a1).1.trans (hc a a0 a1).2.symm
    unfold CI vld
    rw [kh.1, kh.2.1, k7]
    refine ⟨E, ?_⟩
    by_cases e : ∃ j : Int, 0 ≤ j ∧ j ≤ d ∧ inD Dr Df sz j a
    · obtain ⟨j, j0, j1, q⟩ := e
      have v := DV j j0 j1
      have w := W (Dr j) v.1.1 v.1.2
      have k := hch j j0 j1
      have er : a / 20 = Dr j := by unfold inD at q; omega
      rw [P1 a a0 a1 j j0 j1 q, (kc j j0 j1).1.1, k.2.2.1]
      refine ⟨fun x => absurd ⟨by rw [er]; exact v.1.2, ?_⟩ x, Or.inr (Or.inr ⟨k.1, k.2.1, by decide⟩)⟩
      rw [er]
      unfold inD at q
      omega
    · rw [P2 a a0 a1 (fun j j0 j1 q => e ⟨j, j0, j1, q⟩)]
      by_cases e0 : M 34 0 a = ch 0
      · rw [if_pos e0]
        exact ⟨fun _ => rfl, Or.inl rfl⟩
      · rw [if_neg e0]
        refine ⟨c2, ?_⟩
        rcases c3 with c3 | c3 | ⟨x1, x2, x3⟩
        · exact Or.inl c3
        · exact Or.inr (Or.inl c3)
        · refine Or.inr (Or.inr ⟨x1, x2, ?_⟩)
          by_cases e2 : ∃ i : Int, 0 ≤ i ∧ i ≤ d ∧ M 34 0 a = ch i
          · obtain ⟨i, i0, i1, q⟩ := e2
            rw [q, (kc i i0 i1).1.1, ← q]; exact x3
          · rw [(kt _ (fun i i0 i1 q => e2 ⟨i, i0, i1, q⟩)).1.1]; exact x3
  · rw [k7] at t2
    have k4 := h4 t t1 t2
    by_cases e : ∃ i : Int, 0 ≤ i ∧ i ≤ d ∧ t = ch i
    · obtain ⟨i, i0, i1, rfl⟩ := e
      have k := kc i i0 i1
      have q := hch i i0 i1
      have v := DV i i0 i1
      refine ⟨fun _ => Or.inl ⟨by rw [k.2.2.1, kh.1]; exact v.1, ?_, fun a a0 a1 => ?_⟩, fun x => absurd k.2.2.2.2.1 x⟩
      · rw [k.2.2.1, k.2.2.2.1, k.1.2.1, kh.2.1, q.2.2.2.2]
        have b := (B i i0 i1).2.1
        rw [q.2.2.2.2] at b
        exact ⟨v.2.1, b.2.1, v.2.2⟩
      · rw [k.2.2.1, k.2.2.2.1, k.1.2.1, q.2.2.2.2]
        constructor
        · intro x
          by_cases ej : ∃ j : Int, 0 ≤ j ∧ j ≤ d ∧ inD Dr Df sz j a
          · obtain ⟨j, j0, j1, y⟩ := ej
            have z := P1 a a0 a1 j j0 j1 y
            have := hinj j i j0 j1 i0 i1 (z.symm.trans x)
            subst this
            exact y
          · have z := P2 a a0 a1 (fun j j0 j1 y => ej ⟨j, j0, j1, y⟩)
            rw [x] at z
            by_cases e0 : M 34 0 a = ch 0
            · rw [if_pos e0] at z; omega
            · rw [if_neg e0] at z
              by_cases ei : i = 0
              · subst ei; exact absurd z.symm e0
              · have y := (DO (i - 1) (by omega) (by omega) a a0 a1).mpr (by rw [show i - 1 + 1 = i by omega]; exact z.symm)
                exact absurd ⟨i - 1, by omega, by omega, y⟩ ej
        · intro x
          exact P1 a a0 a1 i i0 i1 x
    · have ne : ∀ i : Int, 0 ≤ i → i ≤ d → t ≠ ch i := fun i i0 i1 q => e ⟨i, i0, i1, q⟩
      have k := kt t ne
      refine ⟨fun o => k.bs kh.1 kh.2.1 (fun a a0 a1 => ?_) (k4.1 (by rw [← k.1.1]; exact o)), k.ws kh.1 k4.2⟩
      by_cases ej : ∃ j : Int, 0 ≤ j ∧ j ≤ d ∧ inD Dr Df sz j a
      · obtain ⟨j, j0, j1, y⟩ := ej
        rw [P1 a a0 a1 j j0 j1 y]
        refine ⟨fun x => absurd x.symm (ne j j0 j1), fun x => ?_⟩
        exfalso
        by_cases ed : j < d
        · have z := (DO j j0 ed a a0 a1).mp y
          exact ne (j + 1) (by omega) (by omega) (x.symm.trans z)
        · have e2 : j = d := by omega
          subst e2
          rcases DL a a0 a1 y with z | z
          · exact ne 0 (by omega) d0 (x.symm.trans z)
          · omega
      · rw [P2 a a0 a1 (fun j j0 j1 y => ej ⟨j, j0, j1, y⟩)]
        by_cases e0 : M 34 0 a = ch 0
        · rw [if_pos e0]
          exact ⟨fun x => by omega, fun x => absurd (x.symm.trans e0) (ne 0 (by omega) d0)⟩
        · rw [if_neg e0]
  · unfold I5 at h5 ⊢
    rw [k0, k1, k2]
    exact h5
