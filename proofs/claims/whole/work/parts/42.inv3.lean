/-! what the calls that change leave, place by place -/
theorem updM_x {M : Mem} {g : Nat} {i j v : Int} {g' : Nat} {i' j' : Int} (h : j' ≠ j) : updM M g i j v g' i' j' = M g' i' j' := by simp [updM, h]
theorem openM_t {M : Mem} {a b t : Int} (ht : t ≠ M 7 0 8 + 1) {g : Nat} (hg : g ≠ 7) : openM M a b g 0 t = M g 0 t := by
  unfold openM
  rw [updM_x ht, updM_x ht, updM_x ht, updM_x ht, updM_x ht, updM_x ht, updM_x ht, updM_x ht, updM_g hg]
theorem openM_n {M : Mem} {a b : Int} : openM M a b 8 0 (M 7 0 8 + 1) = 0 ∧ openM M a b 9 0 (M 7 0 8 + 1) = a ∧ openM M a b 10 0 (M 7 0 8 + 1) = b ∧ openM M a b 11 0 (M 7 0 8 + 1) = 0 ∧ openM M a b 12 0 (M 7 0 8 + 1) = 0 ∧ openM M a b 13 0 (M 7 0 8 + 1) = -1 ∧ openM M a b 14 0 (M 7 0 8 + 1) = -1 ∧ openM M a b 15 0 (M 7 0 8 + 1) = -1 := by
  simp [openM, updM]
theorem grtM_t {M : Mem} {a t : Int} (ht : t ≠ M 30 0 8 + 1) {g : Nat} (hg : g ≠ 30) : grtM M a g 0 t = M g 0 t := by
  unfold grtM
  rw [updM_x ht, updM_x ht, updM_x ht, updM_g hg]
theorem grtM_n {M : Mem} {a : Int} : grtM M a 35 0 (M 30 0 8 + 1) = 0 ∧ grtM M a 36 0 (M 30 0 8 + 1) = M 30 0 1 + a ∧ grtM M a 39 0 (M 30 0 8 + 1) = -1 := by
  simp [grtM, updM]
theorem grM_t {M : Mem} {row f k a t : Int} (ht : t ≠ M 7 0 8 + 1) {g : Nat} (hg : g ≠ 7) (h6 : g ≠ 6) : grM M row f k a g 0 t = M g 0 t := by
  unfold grM
  rw [giveM_g h6, updM_x ht, updM_x ht, openM_t ht hg]
theorem grM_g {M : Mem} {row f k a : Int} {g : Nat} (h : g < 6 ∨ 15 < g) : grM M row f k a g = M g := by
  unfold grM
  rw [giveM_g (by omega), updM_g (by omega), updM_g (by omega), openM_g (by omega)]
theorem grM_T {M : Mem} {row f k a : Int} : grM M row f k a 7 0 8 = M 7 0 8 + 1 := by
  unfold grM
  rw [giveM_g (by decide), updM_g (by decide), updM_g (by decide), openM_T]
theorem grM_n {M : Mem} {row f k a : Int} : grM M row f k a 8 0 (M 7 0 8 + 1) = 0 ∧ grM M row f k a 9 0 (M 7 0 8 + 1) = k ∧ grM M row f k a 10 0 (M 7 0 8 + 1) = M 0 0 4 + a ∧ grM M row f k a 11 0 (M 7 0 8 + 1) = 0 ∧ grM M row f k a 12 0 (M 7 0 8 + 1) = 0 ∧ grM M row f k a 13 0 (M 7 0 8 + 1) = row ∧ grM M row f k a 14 0 (M 7 0 8 + 1) = f ∧ grM M row f k a 15 0 (M 7 0 8 + 1) = -1 := by
  have o := openM_n (M := M) (a := k) (b := M 0 0 4 + a)
  unfold grM
  rw [giveM_g (by decide), giveM_g (by decide), giveM_g (by decide), giveM_g (by decide), giveM_g (by decide), giveM_g (by decide), giveM_g (by decide), giveM_g (by decide)]
  rw [updM_same, updM_g (show (8 : Nat) ≠ 14 by decide), updM_g (show (8 : Nat) ≠ 13 by decide), updM_g (show (9 : Nat) ≠ 14 by decide), updM_g (show (9 : Nat) ≠ 13 by decide), updM_g (show (10 : Nat) ≠ 14 by decide), updM_g (show (10 : Nat) ≠ 13 by decide), updM_g (show (11 : Nat) ≠ 14 by decide), updM_g (show (11 : Nat) ≠ 13 by decide), updM_g (show (12 : Nat) ≠ 14 by decide), updM_g (show (12 : Nat) ≠ 13 by decide), updM_g (show (13 : Nat) ≠ 14 by decide), updM_same, updM_g (show (15 : Nat) ≠ 14 by decide), updM_g (show (15 : Nat) ≠ 13 by decide)]
  exact ⟨o.1, o.2.1, o.2.2.1, o.2.2.2.1, o.2.2.2.2.1, rfl, rfl, o.2.2.2.2.2.2.2⟩
theorem grM_6 {M : Mem} {row f k a r s : Int} : grM M row f k a 6 r s = if r = row ∧ f ≤ s ∧ s < f + k then M 7 0 8 + 1 else M 6 r s := by
  unfold grM
  have e : updM (updM (openM M k (M 0 0 4 + a)) 13 0 (M 7 0 8 + 1) row) 14 0 (M 7 0 8 + 1) f 6 r s = M 6 r s := by
    rw [updM_g (by decide), updM_g (by decide), openM_g (by decide)]
  show (if (6 : Nat) = 6 ∧ r = row ∧ f ≤ s ∧ s < f + k then M 7 0 8 + 1 else _) = _
  by_cases q : r = row ∧ f ≤ s ∧ s < f + k
  · rw [if_pos ⟨rfl, q⟩, if_pos q]
  · rw [if_neg (fun x => q x.2), if_neg q, e]
/-- the reference's memory after a new ticket, but the seats -/
theorem grt_all {m : Mem} {a n : Int} (hn : n = m 30 0 8 + 1) : (∀ g : Nat, g ≠ 30 → g ≠ 35 → g ≠ 36 → g ≠ 39 → grtM (thr m 0) a g = m g) ∧ grtM (thr m 0) a 30 0 8 = n ∧ grtM (thr m 0) a 30 0 0 = 0 ∧ (∀ j : Int, j ≠ 0 → j ≠ 8 → grtM (thr m 0) a 30 0 j = m 30 0 j) ∧ (∀ (g : Nat) (t : Int), g ≠ 30 → t ≠ n → grtM (thr m 0) a g 0 t = m g 0 t) ∧ grtM (thr m 0) a 35 0 n = 0 ∧ grtM (thr m 0) a 36 0 n = m 30 0 1 + a ∧ grtM (thr m 0) a 39 0 n = -1 := by
  subst hn
  have e : thr m 0 30 0 8 = m 30 0 8 := thr_j (by decide)
  have e1 : thr m 0 30 0 1 = m 30 0 1 := thr_j (by decide)
  have q := grtM_n (M := thr m 0) (a := a)
  rw [e, e1] at q
  refine ⟨fun g g1 g2 g3 g4 => by rw [grtM_g g1 g2 g3 g4, thr_g g1], by rw [grtM_T, e], by rw [grtM_j (by decide)]; exact updM_same, fun j j0 j8 => by rw [grtM_j j8, thr_j j0], fun g t g1 ht => ?_, q⟩
  rw [grtM_t (by rw [e]; exact ht) g1, thr_g g1]
/-- a hold's block -/
theorem new_blk {M m m2 : Mem} {c row first seats minutes v : Int} (h : INV M c) (hT : M 7 0 8 < 100) (hr : 0 ≤ row ∧ row < M 1 0 4) (hb : 0 ≤ first ∧ 1 ≤ seats ∧ first + seats ≤ M 2 0 row) (ha : allF (M 6 row) first seats) (hmi : 1 ≤ minutes) (hm : m = updM (grM M row first seats minutes) 45 0 0 v) (e : m2 = ownM (grtM (thr m 0) minutes) row first seats (m 30 0 8 + 1)) : INV m2 c ∧ m2 30 0 0 = 0 ∧ m2 45 0 0 = v := by
  have w := h.hw.2.2 row hr.1 hr.2
  have n1 := h.hw.2.1
  have i5 := h.2.2.2.2
  have e8 := h.2.1.2.1
  have mhi : ∀ g : Nat, 15 < g → g ≠ 45 → m g = M g := fun g hg h5 => by rw [hm, updM_g h5, grM_g (by omega)]
  have mlo : ∀ g : Nat, g ≤ 15 → m g = grM M row first seats minutes g := fun g hg => by rw [hm, updM_g (by omega)]
  have m8 : m 30 0 8 = M 7 0 8 := by rw [mhi 30 (by decide) (by decide)]; exact e8
  rw [m8] at e
  obtain ⟨b1, b2, b3, b4, b5, b6, b7, b8⟩ := grt_all (m := m) (a := minutes) (n := M 7 0 8 + 1) (by rw [m8])
  have F : ∀ g : Nat, g ≠ 34 → m2 g = grtM (thr m 0) minutes g := fun g hg => by rw [e, ownM_g hg]
  have G := grM_n (M := M) (row := row) (f := first) (k := seats) (a := minutes)
  have lo : ∀ g : Nat, g ≤ 15 → m2 g = grM M row first seats minutes g := fun g hg => by rw [F g (by omega), b1 g (by omega) (by omega) (by omega) (by omega), mlo g hg]
  have hi : ∀ g : Nat, 31 ≤ g → g ≤ 38 → g ≠ 34 → g ≠ 35 → g ≠ 36 → m2 g = M g := fun g g1 g2 g3 g4 g5 => by rw [F g g3, b1 g (by omega) g4 g5 (by omega), mhi g (by omega) (by omega)]
  have cell : ∀ a : Int, 0 ≤ a → a < 240 → m2 34 0 a = if a / 20 = row ∧ first ≤ a % 20 ∧ a % 20 < first + seats then M 7 0 8 + 1 else M 34 0 a := fun a a0 a1 => by
    rw [e]
    show (if (34 : Nat) = 34 ∧ (0 : Int) = 0 ∧ 20 * row + first ≤ a ∧ a < 20 * row + first + seats then M 7 0 8 + 1 else grtM (thr m 0) minutes 34 0 a) = _
    by_cases q : a / 20 = row ∧ first ≤ a % 20 ∧ a % 20 < first + seats
    · rw [if_pos q, if_pos ⟨rfl, rfl, by omega, by omega⟩]
    · rw [if_neg q, if_neg (fun x => q ⟨by omega, by omega, by omega⟩), b1 34 (by decide) (by decide) (by decide) (by decide), mhi 34 (by decide) (by decide)]
  have free : ∀ a : Int, 0 ≤ a → a < 240 → a / 20 = row ∧ first ≤ a % 20 ∧ a % 20 < first + seats → M 34 0 a = 0 ∧ vld M a := fun a a0 a1 q => by
    have q1 := (h.2.2.1 a a0 a1).1
    rw [q.1, ha (a % 20) q.2.1 q.2.2] at q1
    exact ⟨q1, by unfold vld; rw [q.1]; exact ⟨hr.2, by omega⟩⟩
  refine ⟨INV_new (n := M 7 0 8 + 1) h hT rfl ⟨?_, ?_, ?_, ?_, ?_, ?_, ?_, ?_⟩ ?_ ?_ ?_ ?_ ?_ (fun t ht => ⟨⟨?_, ?_, ?_, ?_, ?_, ?_, ?_, ?_⟩, ?_, ?_, ?_, ?_, ?_⟩) ?_ ?_ ⟨?_, ?_⟩ ?_ ?_ ?_ ?_ ?_ ?_ (fun a a0 a1 => ?_) (fun a a0 a1 => ?_) (Or.inl ⟨?_, ?_, fun a a0 a1 => ?_⟩), ?_, ?_⟩
  · rw [lo 1 (by decide), grM_g (by decide)]
  · rw [lo 2 (by decide), grM_g (by decide)]
  · rw [lo 3 (by decide), grM_g (by decide)]
  · rw [lo 4 (by decide), grM_g (by decide)]
  · exact hi 31 (by decide) (by decide) (by decide) (by decide) (by decide)
  · exact hi 32 (by decide) (by decide) (by decide) (by decide) (by decide)
  · exact hi 33 (by decide) (by decide) (by decide) (by decide) (by decide)
  · rw [F 30 (by decide), b4 3 (by decide) (by decide), mhi 30 (by decide) (by decide)]
  · rw [lo 0 (by decide), grM_g (by decide)]
  · rw [F 30 (by decide), b4 1 (by decide) (by decide), mhi 30 (by decide) (by decide)]
  · rw [F 30 (by decide), b4 2 (by decide) (by decide), mhi 30 (by decide) (by decide)]
  · rw [lo 7 (by decide), grM_T]
  · rw [F 30 (by decide), b2]
  · rw [lo 8 (by decide), grM_t ht (by decide) (by decide)]
  · rw [lo 9 (by decide), grM_t ht (by decide) (by decide)]
  · rw [lo 10 (by decide), grM_t ht (by decide) (by decide)]
  · rw [lo 11 (by decide), grM_t ht (by decide) (by decide)]
  · rw [lo 12 (by decide), grM_t ht (by decide) (by decide)]
  · rw [lo 13 (by decide), grM_t ht (by decide) (by decide)]
  · rw [lo 14 (by decide), grM_t ht (by decide) (by decide)]
  · rw [lo 15 (by decide), grM_t ht (by decide) (by decide)]
  · rw [F 35 (by decide), b5 35 t (by decide) ht, mhi 35 (by decide) (by decide)]
  · rw [F 36 (by decide), b5 36 t (by decide) ht, mhi 36 (by decide) (by decide)]
  · rw [F 37 (by decide), b5 37 t (by decide) ht, mhi 37 (by decide) (by decide)]
  · rw [F 38 (by decide), b5 38 t (by decide) ht, mhi 38 (by decide) (by decide)]
  · rw [F 39 (by decide), b5 39 t (by decide) ht, mhi 39 (by decide) (by decide)]
  · rw [lo 8 (by decide)]; exact G.1
  · rw [F 35 (by decide)]; exact b6
  · rw [lo 10 (by decide), G.2.2.1]
    have := i5.2.1.1
    omega
  · rw [F 36 (by decide), b7, lo 10 (by decide), G.2.2.1, mhi 30 (by decide) (by decide), i5.1]
  · rw [lo 11 (by decide)]; exact G.2.2.2.1
  · rw [lo 12 (by decide)]; exact G.2.2.2.2.1
  · rw [lo 15 (by decide)]; exact G.2.2.2.2.2.2.2
  · rw [hi 37 (by decide) (by decide) (by decide) (by decide) (by decide)]
  · rw [hi 38 (by decide) (by decide) (by decide) (by decide) (by decide)]
  · rw [F 39 (by decide)]; exact b8
  · rw [cell a a0 a1, lo 6 (by decide), grM_6]
    by_cases q : a / 20 = row ∧ first ≤ a % 20 ∧ a % 20 < first + seats
    · rw [if_pos q, if_pos q]
    · rw [if_neg q, if_neg q]
      exact (h.2.2.1 a a0 a1).1
  · rw [cell a a0 a1]
    by_cases q : a / 20 = row ∧ first ≤ a % 20 ∧ a % 20 < first + seats
    · rw [if_pos q]
      have := free a a0 a1 q
      exact Or.inr ⟨this.1, this.2, rfl⟩
    · rw [if_neg q]; exact Or.inl rfl
  · rw [lo 13 (by decide), G.2.2.2.2.2.1, lo 1 (by decide), grM_g (by decide)]; exact hr
  · rw [lo 14 (by decide), G.2.2.2.2.2.2.1, lo 9 (by decide), G.2.1, lo 13 (by decide), G.2.2.2.2.2.1, lo 2 (by decide), grM_g (by decide)]; exact hb
  · rw [cell a a0 a1, lo 14 (by decide), G.2.2.2.2.2.2.1, lo 9 (by decide), G.2.1, lo 13 (by decide), G.2.2.2.2.2.1]
    by_cases q : a / 20 = row ∧ first ≤ a % 20 ∧ a % 20 < first + seats
    · rw [if_pos q]
      exact ⟨fun _ => by omega, fun _ => rfl⟩
    · rw [if_neg q]
      have := (h.2.2.1 a a0 a1).2.2
      exact ⟨fun x => by have := h.bw.1; omega, fun x => absurd ⟨by omega, by omega, by omega⟩ q⟩
  · rw [F 30 (by decide)]; exact b3
  · rw [F 45 (by decide), b1 45 (by decide) (by decide) (by decide) (by decide), hm, updM_same]
