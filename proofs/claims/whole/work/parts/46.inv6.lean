theorem SPLd_cg {M m x : Mem} {people z : Int} (h3 : m 30 0 3 = M 30 0 3) (h31 : m 31 = M 31) (h32 : m 32 = M 32) (h34 : m 34 = M 34) (h : SPLd m x people z) : SPLd M x people z := by
  have eo : oMd m = oMd M := by funext r s; unfold oMd; rw [h34]
  unfold SPLd cD TKd okd Vd at h ⊢
  rw [h3, h31, h32, eo] at h
  exact h
theorem new_grp {M m m1 m1' m2 : Mem} {c people minutes v z : Int} (h : INV M c) (hT : M 7 0 8 < 100) (hp : 2 ≤ people) (hmi : 1 ≤ minutes) (sf : SF M m1) (hf : FOUND M m1 people) (hm : m = updM (gsM m1 people minutes) 45 0 0 v) (sd : SFd m m1') (hs : SPLd m m1' people z) (e : m2 = hgS m1' (grtM (thr m1' 0) minutes) (m 30 0 8 + 1) (m 30 0 3).toNat) : INV m2 c ∧ m2 30 0 0 = 0 ∧ m2 45 0 0 = v := by
  have n0 := h.hw.1
  have n1 := h.hw.2.1
  have i5 := h.2.2.2.2
  have e8 := h.2.1.2.1
  have e3 := h.row.1
  have s7 : m1 7 0 8 = M 7 0 8 := by rw [sf 7 (by decide)]
  have s1 : m1 1 0 4 = M 1 0 4 := by rw [sf 1 (by decide)]
  have s0 : m1 0 0 4 = M 0 0 4 := by rw [sf 0 (by decide)]
  have gsm : gsM m1 people minutes = gsS m1 (openM m1 people (M 0 0 4 + minutes)) (M 7 0 8 + 1) (M 1 0 4).toNat := by
    unfold gsM
    rw [s7, s1, s0]
  have mhi : ∀ g : Nat, 26 < g → g ≠ 45 → m g = M g := fun g hg h5 => by rw [hm, updM_g h5, gsm, gsS_g (by omega) (by omega) (by omega), openM_g (by omega), sf g (by omega)]
  have mlo : ∀ g : Nat, g ≤ 15 → m g = gsS m1 (openM m1 people (M 0 0 4 + minutes)) (M 7 0 8 + 1) (M 1 0 4).toNat g := fun g hg => by rw [hm, updM_g (by omega), gsm]
  have x30 := mhi 30 (by decide) (by decide)
  have x31 := mhi 31 (by decide) (by decide)
  have x32 := mhi 32 (by decide) (by decide)
  have x34 := mhi 34 (by decide) (by decide)
  have hsM := SPLd_cg (by rw [x30]) x31 x32 x34 hs
  obtain ⟨hz, htk⟩ := h.split hf hsM
  have sk := SPLd_ok h.hwm hsM
  rw [x30, e8, e3] at e
  have y30 : m1' 30 = M 30 := (sd 30 (by decide) (by decide)).trans x30
  obtain ⟨b1, b2, b3, b4, b5, b6, b7, b8⟩ := grt_all (m := m1') (a := minutes) (n := M 7 0 8 + 1) (by rw [y30, e8])
  have F : ∀ g : Nat, g ≠ 34 → m2 g = grtM (thr m1' 0) minutes g := fun g hg => by rw [e, hgS_g hg]
  have lo : ∀ g : Nat, g ≤ 15 → m2 g = gsS m1 (openM m1 people (M 0 0 4 + minutes)) (M 7 0 8 + 1) (M 1 0 4).toNat g := fun g hg => by rw [F g (by omega), b1 g (by omega) (by omega) (by omega) (by omega), sd g (by omega) (by omega), mlo g hg]
  have hi : ∀ g : Nat, 31 ≤ g → g ≤ 38 → g ≠ 34 → g ≠ 35 → g ≠ 36 → m2 g = M g := fun g g1 g2 g3 g4 g5 => by rw [F g g3, b1 g (by omega) g4 g5 (by omega), sd g (by omega) (by omega), mhi g (by omega) (by omega)]
  have lg : ∀ g : Nat, g < 6 → m2 g = M g := fun g hg => by rw [lo g (by omega), gsS_g (by omega) (by omega) (by omega), openM_g (by omega), sf g (by omega)]
  have lt : ∀ (g : Nat) (t : Int), g ≤ 15 → g ≠ 6 → g ≠ 7 → t ≠ M 7 0 8 + 1 → m2 g 0 t = M g 0 t := fun g t g1 g6 g7 ht => by
    rw [lo g g1, gsS_o g6 ht, openM_t (by rw [s7]; exact ht) g7, sf g (by omega)]
  have O := openM_n (M := m1) (a := people) (b := M 0 0 4 + minutes)
  rw [s7] at O
  have ln : ∀ g : Nat, g ≤ 15 → g ≠ 6 → g ≠ 13 → g ≠ 14 → m2 g 0 (M 7 0 8 + 1) = openM m1 people (M 0 0 4 + minutes) g 0 (M 7 0 8 + 1) := fun g g1 g2 g3 g4 => by rw [lo g g1, gsS_g g2 g3 g4]
  -- the seats
  have bF : ∀ r : Int, 0 ≤ r → r < M 1 0 4 → 0 < m1 26 0 r → m1 19 r (m1 26 0 r) = bM M (m1 26 0 r) r ∧ 2 ≤ m1 26 0 r ∧ 0 ≤ bM M (m1 26 0 r) r ∧ bM M (m1 26 0 r) r + m1 26 0 r ≤ M 2 0 r ∧ allF (M 6 r) (bM M (m1 26 0 r) r) (m1 26 0 r) := fun r r0 r1 p => by
    obtain ⟨f, g, f13, hF, h7, hT2, hr⟩ := hf
    have k := (hr r r0 r1).2
    have q := sk r r0 (by omega)
    rw [← htk r r0 r1] at q
    have k2 := k (q.2 p).1
    refine ⟨k2.1, (q.2 p).1, k2.2, ?_⟩
    have sp := bFst_sp (M 2 0) (M 6) (M 3 0) (m1 26 0 r) r
    have b0 : 0 ≤ bFst (M 2 0) (M 6) (M 3 0) (m1 26 0 r) r := k2.2
    rcases isBest_in sp with c | c
    · omega
    · exact ⟨c.2.1, c.2.2.1⟩
  have tk0 : ∀ r : Int, 0 ≤ r → r < M 1 0 4 → 0 ≤ m1 26 0 r ∧ m1 26 0 r ≤ 20 := fun r r0 r1 => by
    have q := (sk r r0 (by omega)).1
    rw [← htk r r0 r1] at q
    exact q
  have m31 : m1' 31 = M 31 := (sd 31 (by decide) (by decide)).trans x31
  have m32 : m1' 32 = M 32 := (sd 32 (by decide) (by decide)).trans x32
  have m34 : m1' 34 = M 34 := (sd 34 (by decide) (by decide)).trans x34
  have mo : oMd m1' = oMd M := by funext r s; unfold oMd; rw [m34]
  have bE : ∀ r : Int, 0 ≤ r → r < M 1 0 4 → bFst (m1' 31 0) (oMd m1') (m1' 32 0) (m1' 41 0 r) r = bM M (m1 26 0 r) r := fun r r0 r1 => by
    rw [m31, m32, mo, ← htk r r0 r1]
    exact (h.bF (tk0 r r0 r1).1 r0 r1).symm
  have nt : (((M 1 0 4).toNat : Nat) : Int) = M 1 0 4 := by omega
  have w20 : ∀ r : Int, 0 ≤ r → r < M 1 0 4 → M 2 0 r ≤ 20 := fun r r0 r1 => (h.hw.2.2 r r0 r1).2.1
  have cell : ∀ a : Int, 0 ≤ a → a < 240 → m2 34 0 a = if a / 20 < M 1 0 4 ∧ 0 < m1 26 0 (a / 20) ∧ bM M (m1 26 0 (a / 20)) (a / 20) ≤ a % 20 ∧ a % 20 < bM M (m1 26 0 (a / 20)) (a / 20) + m1 26 0 (a / 20) then M 7 0 8 + 1 else M 34 0 a := fun a a0 a1 => by
    rw [e, hgS_34 _ (fun r r0 r1 r2 => by
      rw [nt] at r1
      rw [bE r r0 r1]
      rw [← htk r r0 r1] at r2 ⊢
      have q := bF r r0 r1 r2
      have := w20 r r0 r1
      exact ⟨q.2.2.1, by omega⟩) a a0, nt, b1 34 (by decide) (by decide) (by decide) (by decide), m34]
    by_cases q : a / 20 < M 1 0 4
    · rw [bE (a / 20) (by omega) q, ← htk (a / 20) (by omega) q]
    · rw [if_neg (fun x => q x.1), if_neg (fun x => q x.1)]
  have free : ∀ a : Int, 0 ≤ a → a < 240 → (a / 20 < M 1 0 4 ∧ 0 < m1 26 0 (a / 20) ∧ bM M (m1 26 0 (a / 20)) (a / 20) ≤ a % 20 ∧ a % 20 < bM M (m1 26 0 (a / 20)) (a / 20) + m1 26 0 (a / 20)) → M 34 0 a = 0 ∧ vld M a := fun a a0 a1 q => by
    have k := bF (a / 20) (by omega) q.1 q.2.1
    have q1 := (h.2.2.1 a a0 a1).1
    rw [k.2.2.2.2 (a % 20) q.2.2.1 q.2.2.2] at q1
    exact ⟨q1, q.1, by omega⟩
  have own : ∀ a : Int, 0 ≤ a → a < 240 → (m2 34 0 a = M 7 0 8 + 1 ↔ a / 20 < M 1 0 4 ∧ 0 < m1 26 0 (a / 20) ∧ bM M (m1 26 0 (a / 20)) (a / 20) ≤ a % 20 ∧ a % 20 < bM M (m1 26 0 (a / 20)) (a / 20) + m1 26 0 (a / 20)) := fun a a0 a1 => by
    rw [cell a a0 a1]
    by_cases q : a / 20 < M 1 0 4 ∧ 0 < m1 26 0 (a / 20) ∧ bM M (m1 26 0 (a / 20)) (a / 20) ≤ a % 20 ∧ a % 20 < bM M (m1 26 0 (a / 20)) (a / 20) + m1 26 0 (a / 20)
    · rw [if_pos q]; exact ⟨fun _ => q, fun _ => rfl⟩
    · rw [if_neg q]
      have := (h.2.2.1 a a0 a1).2.2
      have := h.bw.1
      exact ⟨fun x => by omega, fun x => absurd x q⟩
  have mg := many_grp (M := m2) (t := M 7 0 8 + 1) (n := M 1 0 4) (tk := m1 26 0) (b := fun r => bM M (m1 26 0 r) r) ⟨n0, n1⟩ (fun r r0 r1 p => by
    have q := bF r r0 r1 p
    have := w20 r r0 r1
    exact ⟨q.2.2.1, by show bM M (m1 26 0 r) r + m1 26 0 r ≤ 20; omega⟩) (fun r r0 r1 => (tk0 r r0 r1).1) own
  have tot : sumI (m1 26 0) (M 1 0 4) = people ∧ sumI (fun r => if m1 26 0 r = 0 then 0 else 1) (M 1 0 4) = m1 16 0 7 := by
    obtain ⟨f, g, f13, hF, h7, hT2, _⟩ := hf
    rcases hF with ⟨a, _⟩ | ⟨_, _, hc, _⟩
    · exact absurd a f13
    · have q := TK_tot _ _ _ _ (by omega) hc hT2
      rw [show M 1 0 4 - (((M 1 0 4 - 0).toNat : Nat) : Int) = 0 by omega, sumI_0, sumI_0] at q
      rw [h7]
      omega
  have hu : ∀ r : Int, (fun r => if m1 26 0 r = 0 then (0 : Int) else 1) r = 0 ∨ (fun r => if m1 26 0 r = 0 then (0 : Int) else 1) r = 1 := fun r => by
    show (if m1 26 0 r = 0 then (0 : Int) else 1) = 0 ∨ (if m1 26 0 r = 0 then (0 : Int) else 1) = 1
    split
    · exact Or.inl rfl
    · exact Or.inr rfl
  have pos : ∀ r : Int, 0 ≤ r → r < M 1 0 4 → (if m1 26 0 r = 0 then (0 : Int) else 1) = 1 → 0 < m1 26 0 r := fun r r0 r1 q => by
    have := (tk0 r r0 r1).1
    by_cases e0 : m1 26 0 r = 0
    · rw [if_pos e0] at q; omega
    · omega
  have cnt : sumTo (fun r => if m1 26 0 r = 0 then (0 : Int) else 1) (M 1 0 4).toNat = m1 16 0 7 := tot.2
  have nb : blk m2 (M 7 0 8 + 1) ∨ spl m2 (M 7 0 8 + 1) := by
    by_cases f1 : m1 16 0 7 = 1
    · obtain ⟨r, r0, r1, r2, r3⟩ := cnt_1 hu _ (cnt.trans f1)
      rw [nt] at r1 r3
      have p := pos r r0 r1 r2
      have zr : ∀ x : Int, 0 ≤ x → x < M 1 0 4 → x ≠ r → m1 26 0 x = 0 := fun x x0 x1 x2 => by
        have q := r3 x x0 x1 x2
        by_cases e0 : m1 26 0 x = 0
        · exact e0
        · have q2 : (if m1 26 0 x = 0 then (0 : Int) else 1) = 0 := q
          rw [if_neg e0] at q2; omega
      have g1 := gsS_1 (B := openM m1 people (M 0 0 4 + minutes)) (t := M 7 0 8 + 1) f1 r0 p (M 1 0 4).toNat (fun x x0 x1 x2 => zr x x0 (by omega) x2) (by omega)
      have tp : m1 26 0 r = people := by
        have q := sumI_part (f := m1 26 0) (lo := r) (k := 1) (n := M 1 0 4) r0 (by decide) (by omega) (fun i i0 i1 i2 => zr i i0 i1 (by omega))
        have q2 : sumI (fun i => m1 26 0 (r + i)) 1 = m1 26 0 r := by
          rw [show (1 : Int) = 0 + 1 by rfl, sumI_s (Int.le_refl 0), sumI_0, show r + 0 = r by omega]
          omega
        omega
      have k := bF r r0 r1 p
      have v13 : m2 13 0 (M 7 0 8 + 1) = r := by rw [lo 13 (by decide)]; exact g1.1
      have v14 : m2 14 0 (M 7 0 8 + 1) = bM M (m1 26 0 r) r := by rw [lo 14 (by decide), g1.2]; exact k.1
      have v9 : m2 9 0 (M 7 0 8 + 1) = m1 26 0 r := by rw [ln 9 (by decide) (by decide) (by decide) (by decide), O.2.1, tp]
      have w := w20 r r0 r1
      refine Or.inl ⟨by rw [v13, lg 1 (by decide)]; exact ⟨r0, r1⟩, by rw [v13, v14, v9, lg 2 (by decide)]; exact ⟨k.2.2.1, by omega, k.2.2.2.1⟩, fun a a0 a1 => ?_⟩
      rw [own a a0 a1, v13, v14, v9]
      constructor
      · intro q
        by_cases er : a / 20 = r
        · rw [er] at q; omega
        · have := zr (a / 20) (by omega) q.1 er
          omega
      · intro q
        have er : a / 20 = r := by omega
        rw [er]
        exact ⟨r1, p, by omega, by omega⟩
    · have f2 : 2 ≤ m1 16 0 7 := by
        have q0 := (cnt_0 hu (M 1 0 4).toNat)
        rw [cnt] at q0
        have : m1 16 0 7 ≠ 0 := fun q => by
          have zz : sumI (m1 26 0) (M 1 0 4) = 0 := sumI_zero (fun x x0 x1 => by
            have k := q0.2 q x x0 (by omega)
            by_cases e0 : m1 26 0 x = 0
            · exact e0
            · have k2 : (if m1 26 0 x = 0 then (0 : Int) else 1) = 0 := k
              rw [if_neg e0] at k2; omega)
          omega
        omega
      obtain ⟨r, q, ⟨r0, r1, r2⟩, ⟨q0, q1, q2⟩, ne⟩ := cnt_2 hu (M 1 0 4).toNat (by rw [cnt]; exact f2)
      rw [nt] at r1 q1
      have pr := pos r r0 r1 r2
      have pq := pos q q0 q1 q2
      have kr := bF r r0 r1 pr
      have kq := bF q q0 q1 pq
      have wr := w20 r r0 r1
      have wq := w20 q q0 q1
      have or_ := own (20 * r + bM M (m1 26 0 r) r) (by omega) (by omega)
      have oq_ := own (20 * q + bM M (m1 26 0 q) q) (by omega) (by omega)
      rw [show (20 * r + bM M (m1 26 0 r) r) / 20 = r by omega, show (20 * r + bM M (m1 26 0 r) r) % 20 = bM M (m1 26 0 r) r by omega] at or_
      rw [show (20 * q + bM M (m1 26 0 q) q) / 20 = q by omega, show (20 * q + bM M (m1 26 0 q) q) % 20 = bM M (m1 26 0 q) q by omega] at oq_
      refine Or.inr ⟨?_, ?_, 20 * r + bM M (m1 26 0 r) r, 20 * q + bM M (m1 26 0 q) q, by omega, by omega, by omega, by omega, or_.mpr ⟨r1, pr, by omega, by omega⟩, oq_.mpr ⟨q1, pq, by omega, by omega⟩, by omega⟩
      · rw [lo 13 (by decide), gsS_n f1 (by decide)]; exact O.2.2.2.2.2.1
      · rw [mg, tot.1, ln 9 (by decide) (by decide) (by decide) (by decide)]; exact O.2.1.symm
  refine ⟨INV_new (n := M 7 0 8 + 1) h hT rfl ⟨lg 1 (by decide), lg 2 (by decide), lg 3 (by decide), lg 4 (by decide), hi 31 (by decide) (by decide) (by decide) (by decide) (by decide), hi 32 (by decide) (by decide) (by decide) (by decide) (by decide), hi 33 (by decide) (by decide) (by decide) (by decide) (by decide), ?_⟩ (lg 0 (by decide)) ?_ ?_ ?_ ?_ (fun t ht => keepT_o ht (fun g hg x hx => ?_)) ?_ ?_ ⟨?_, ?_⟩ ?_ ?_ ?_ ?_ ?_ ?_ (fun a a0 a1 => ?_) (fun a a0 a1 => ?_) nb, ?_, ?_⟩
  · rw [F 30 (by decide), b4 3 (by decide) (by decide), y30]
  · rw [F 30 (by decide), b4 1 (by decide) (by decide), y30]
  · rw [F 30 (by decide), b4 2 (by decide) (by decide), y30]
  · rw [lo 7 (by decide), gsS_g (by decide) (by decide) (by decide), openM_T, s7]
  · rw [F 30 (by decide), b2]
  · rcases hg with hg | hg
    · exact lt g x (by omega) (by omega) (by omega) hx
    · rw [F g (by omega), b5 g x (by omega) hx, sd g (by omega) (by omega), mhi g (by omega) (by omega)]
  · rw [ln 8 (by decide) (by decide) (by decide) (by decide)]; exact O.1
  · rw [F 35 (by decide)]; exact b6
  · rw [ln 10 (by decide) (by decide) (by decide) (by decide), O.2.2.1]
    have := i5.2.1.1
    omega
  · rw [F 36 (by decide), b7, ln 10 (by decide) (by decide) (by decide) (by decide), O.2.2.1, y30, i5.1]
  · rw [ln 11 (by decide) (by decide) (by decide) (by decide)]; exact O.2.2.2.1
  · rw [ln 12 (by decide) (by decide) (by decide) (by decide)]; exact O.2.2.2.2.1
  · rw [ln 15 (by decide) (by decide) (by decide) (by decide)]; exact O.2.2.2.2.2.2.2
  · rw [hi 37 (by decide) (by decide) (by decide) (by decide) (by decide)]
  · rw [hi 38 (by decide) (by decide) (by decide) (by decide) (by decide)]
  · rw [F 39 (by decide)]; exact b8
  · rw [cell a a0 a1, lo 6 (by decide), gsS_6, nt, openM_g (by decide), sf 6 (by decide)]
    by_cases q : a / 20 < M 1 0 4 ∧ 0 < m1 26 0 (a / 20) ∧ bM M (m1 26 0 (a / 20)) (a / 20) ≤ a % 20 ∧ a % 20 < bM M (m1 26 0 (a / 20)) (a / 20) + m1 26 0 (a / 20)
    · have k := (bF (a / 20) (by omega) q.1 q.2.1).1
      rw [if_pos q, if_pos (by rw [k]; exact ⟨by omega, q.1, q.2⟩)]
    · rw [if_neg q, if_neg (fun x => by
        have k := (bF (a / 20) x.1 x.2.1 x.2.2.1).1
        rw [k] at x
        exact q x.2)]
      exact (h.2.2.1 a a0 a1).1
  · rw [cell a a0 a1]
    by_cases q : a / 20 < M 1 0 4 ∧ 0 < m1 26 0 (a / 20) ∧ bM M (m1 26 0 (a / 20)) (a / 20) ≤ a % 20 ∧ a % 20 < bM M (m1 26 0 (a / 20)) (a / 20) + m1 26 0 (a / 20)
    · rw [if_pos q]
      have := free a a0 a1 q
      exact Or.inr ⟨this.1, this.2, rfl⟩
    · rw [if_neg q]; exact Or.inl rfl
  · rw [F 30 (by decide)]; exact b3
  · rw [F 45 (by decide), b1 45 (by decide) (by decide) (by decide) (by decide), sd 45 (by decide) (by decide), hm, updM_same]
