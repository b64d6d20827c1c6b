set_option maxHeartbeats 2000000 in
theorem sm_exchange {M m m2 : Mem} {c ticket z ans : Int} (h : INV M c) (w : (z = 1 ∧ ¬ (1 ≤ ticket ∧ ticket ≤ M 7 0 8) ∧ m = M) ∨ (z = 2 ∧ ((1 ≤ ticket ∧ ticket ≤ M 7 0 8) ∧ (M 15 0 ticket = -1 ∨ (M 15 0 ticket ≠ -1 ∧ ∀ k : Nat, ¬ RM M (M 9 0 ticket) (M 13 0 ticket) k (M 15 0 ticket)))) ∧ XF M m) ∨ (z = 0 ∧ ((1 ≤ ticket ∧ ticket ≤ M 7 0 8) ∧ M 15 0 ticket ≠ -1) ∧ ∃ m1, XF M m1 ∧ XFOUND M m1 ticket (M 9 0 ticket) (M 13 0 ticket) ∧ m = updM (exM m1) 45 0 0 (m1 27 0 4))) (q : ((¬ (1 ≤ ticket ∧ ticket ≤ m 30 0 8)) ∧ ans = 0 ∧ m2 = thr m 1) ∨ (((1 ≤ ticket ∧ ticket ≤ m 30 0 8) ∧ ¬ hsW m ticket) ∧ ans = 0 ∧ m2 = thr m 2) ∨ ((((1 ≤ ticket ∧ ticket ≤ m 30 0 8) ∧ hsW m ticket) ∧ ∀ k : Nat, ¬ Rm m (manyM m ticket) (fsM m ticket / 20) k (m 39 0 ticket)) ∧ ans = 0 ∧ ∃ m1 : Mem, (∀ g : Nat, g ≠ 42 → g ≠ 43 → g ≠ 44 → m1 g = m g) ∧ m2 = thr m1 2) ∨ (((1 ≤ ticket ∧ ticket ≤ m 30 0 8) ∧ hsW m ticket) ∧ ∃ (m1 : Mem) (d : Int), (0 ≤ d ∧ d ≤ 11) ∧ (∀ g : Nat, g ≠ 42 → g ≠ 43 → g ≠ 44 → m1 g = thr m 0 g) ∧ isD (Rm m (manyM m ticket) (fsM m ticket / 20)) (m 39 0 ticket) d ∧ isChain (m 30 0 8) (Rm m (manyM m ticket) (fsM m ticket / 20)) (ptm m (manyM m ticket)) (rwm m) (m 39 0) ticket d (m1 43 0) ∧ (∀ t : Int, 1 ≤ t → t ≤ m 30 0 8 → ptm m (manyM m ticket) t → m1 44 0 t = fsM m t) ∧ ans = d + 1 ∧ m2 = chgM m1 (d + 1) (manyM m ticket))) : m2 30 0 0 = z ∧ (z = 0 → m2 45 0 0 = ans) ∧ INV m2 (c + 1) := by
  have e8 := h.2.1.2.1
  have key : (∀ g : Nat, 30 ≤ g → g < 40 → m g = M g) → 1 ≤ ticket → ticket ≤ M 7 0 8 → m 30 0 8 = M 7 0 8 ∧ (hsW m ticket ↔ M 15 0 ticket ≠ -1) ∧ (M 15 0 ticket ≠ -1 → manyM m ticket = M 9 0 ticket ∧ fsM m ticket / 20 = M 13 0 ticket ∧ m 39 = M 39 ∧ ∀ k : Nat, Rm m (M 9 0 ticket) (M 13 0 ticket) k (M 39 0 ticket) ↔ RM M (M 9 0 ticket) (M 13 0 ticket) k (M 15 0 ticket)) := fun hi t1 t2 => by
    obtain ⟨p1, p2, p3, p4, p5, p6⟩ := mod_eq hi
    refine ⟨by rw [hi 30 (by decide) (by decide)]; exact e8, by rw [p6]; exact h.hs t1 t2, fun hw => ?_⟩
    have X := h.exf t1 t2 hw
    have r := X.2.2.2.1
    unfold rwm at r
    refine ⟨by rw [p5]; exact X.2.2.2.2.1, by rw [p3]; exact r, hi 39 (by decide) (by decide), fun k => ?_⟩
    rw [p2, X.2.2.2.2.2.1]
    exact ((h.R (by have := X.1.2.1.2.1; omega)) k _).symm
  rcases w with ⟨w1, w2, rfl⟩ | ⟨w1, w2, w3⟩ | ⟨w1, w2, m1, w4, w5, hm⟩
  · rcases q with ⟨q1, q2, q3⟩ | ⟨⟨q1, q4⟩, q2, q3⟩ | ⟨⟨⟨q1, q4⟩, q5⟩, q2, x, q6, q3⟩ | ⟨⟨q1, q4⟩, x, d, q5, q6, q7, q8, q9, q2, q3⟩
    · exact fin_t h q3 (by omega) (fun _ => by omega)
    all_goals (exfalso; omega)
  · have hmM : INV m c := INV_same (SAME_g (fun g hg => w3 g (by omega) (by omega) (by omega))) h
    obtain ⟨k8, kh, kr⟩ := key (fun g g1 g2 => w3 g (by omega) (by omega) (by omega)) w2.1.1 w2.1.2
    rcases q with ⟨q1, q2, q3⟩ | ⟨⟨q1, q4⟩, q2, q3⟩ | ⟨⟨⟨q1, q4⟩, q5⟩, q2, x, q6, q3⟩ | ⟨⟨q1, q4⟩, x, d, q5, q6, q7, q8, q9, q2, q3⟩
    · exfalso; omega
    · exact fin_t hmM q3 (by omega) (fun _ => by omega)
    · exact fin_t (INV_same (SAME_g (fun g hg => q6 g (by omega) (by omega) (by omega))) hmM) q3 (by omega) (fun o => by omega)
    · exfalso
      rcases w2.2 with a | ⟨a, b⟩
      · exact (kh.mp q4) a
      · obtain ⟨r1, r2, r3, r4⟩ := kr a
        rw [r1, r2, r3] at q7
        rcases q7 with ⟨y, _⟩ | ⟨_, _, y, _⟩
        · omega
        · exact b _ ((r4 _).mp y)
  · have hi : ∀ g : Nat, 30 ≤ g → g < 40 → m g = M g := fun g g1 g2 => by
      have q : exM m1 g = m1 g := by
        unfold exM
        split
        · rw [mvM_g (by omega) (by omega) (by omega) (by omega), chS_g (by omega) (by omega) (by omega) (by omega)]
        · rw [mvM_g (by omega) (by omega) (by omega) (by omega), chS_g (by omega) (by omega) (by omega) (by omega)]
      rw [hm, updM_g (by omega), q, w4 g (by omega) (by omega) (by omega)]
    obtain ⟨k8, kh, kr⟩ := key hi w2.1.1 w2.1.2
    obtain ⟨r1, r2, r3, r4⟩ := kr w2.2
    obtain ⟨p1, p2, p3, p4, p5, p6⟩ := mod_eq hi
    rcases q with ⟨q1, q2, q3⟩ | ⟨⟨q1, q4⟩, q2, q3⟩ | ⟨⟨⟨q1, q4⟩, q5⟩, q2, x, q6, q3⟩ | ⟨⟨q1, q4⟩, x, d, q5, q6, q7, q8, q9, q2, q3⟩
    · exfalso; omega
    · exact absurd (kh.mpr w2.2) q4
    · exfalso
      rw [r1, r2, r3] at q5
      obtain ⟨d, d0, d1, hd, _⟩ := w5
      rcases hd with ⟨y, _⟩ | ⟨_, _, y, _⟩
      · omega
      · exact q5 _ ((r4 _).mpr y)
    · rw [r1, r2, r3, p2] at q7
      rw [r1, r2, r3, p2, p1, p4, k8] at q8
      rw [r1] at q3
      rw [p1, p3, r1, k8] at q9
      have N := new_exc h w2.1 w2.2 w4 w5 hm q6 q7 (by rw [e8]; exact q8) (by rw [e8]; exact q9) q3
      exact ⟨by rw [w1]; exact N.2.1, fun _ => by rw [N.2.2, q2], INV_up N.1⟩
