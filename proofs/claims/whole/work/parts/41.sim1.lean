/-! call by call: both answer the same -/
theorem fin_t {m m2 : Mem} {c k z b : Int} (h : INV m c) (e : m2 = thr m k) (hz : z = k) (hb : z = 0 → m 45 0 0 = b) : m2 30 0 0 = z ∧ (z = 0 → m2 45 0 0 = b) ∧ INV m2 (c + 1) := by
  subst e hz
  exact ⟨updM_same, fun q => by rw [thr_g (by decide)]; exact hb q, INV_up (INV_same (SAME_t _) h)⟩
theorem SFd_same {m m1 : Mem} (h : SFd m m1) : SAME m m1 := SAME_g (fun g hg => h g (by omega) (by omega))
theorem fin_s {m m1 m2 : Mem} {c k z b : Int} (h : INV m c) (h1 : SFd m m1) (e : m2 = thr m1 k) (hz : z = k) (hb : z = 0 → m 45 0 0 = b) : m2 30 0 0 = z ∧ (z = 0 → m2 45 0 0 = b) ∧ INV m2 (c + 1) :=
  fin_t (INV_same (SFd_same h1) h) e hz (fun q => by rw [h1 45 (by decide) (by decide)]; exact hb q)
theorem SPLd_can {M m : Mem} {people z : Int} (h : SPLd M m people z) : ∃ b v : Int, cD M 0 b people v := by
  obtain ⟨z1, z2, g, hF, _⟩ := h
  rcases hF with ⟨a, _⟩ | ⟨_, _, q, _⟩
  · omega
  · exact ⟨z, g, q⟩
/-- a ticket's seats, counted by both -/
theorem INV.many {M : Mem} {c t : Int} (h : INV M c) (t1 : 1 ≤ t) (t2 : t ≤ M 7 0 8) : manyM M t = if M 8 0 t = 0 ∨ M 8 0 t = 1 then M 9 0 t else 0 := by
  have ti := h.2.1.2.2.1 t t1 t2
  by_cases e : M 8 0 t = 0 ∨ M 8 0 t = 1
  · rw [if_pos e]
    rcases (h.2.2.2.1 t t1 t2).1 (by omega) with ⟨b1, b2, b3⟩ | ⟨_, b, _⟩
    · have w := h.hw.2.2 _ b1.1 b1.2
      have n := h.hw.2.1
      exact many_blk (lo := 20 * M 13 0 t + M 14 0 t) (by omega) (by omega) (by omega) (fun a a0 a1 => b3 a a0 a1)
    · exact b
  · rw [if_neg e]
    refine sumI_zero (fun a a0 a1 => if_neg (fun q => ?_))
    have := (h.2.2.1 a a0 a1).2.2
    rw [q] at this
    have := ti.2.1
    omega
theorem sq_state {m m2 : Mem} {c row seat z ans : Int} (h : INV m c) (w : (z = 1 ∧ ¬ (0 ≤ row ∧ row < m 1 0 4 ∧ 0 ≤ seat ∧ seat < m 2 0 row)) ∨ (z = 0 ∧ (0 ≤ row ∧ row < m 1 0 4 ∧ 0 ≤ seat ∧ seat < m 2 0 row) ∧ m 45 0 0 = (if m 6 row seat = 0 then 0 else if m 6 row seat = -1 then 3 else if m 8 0 (m 6 row seat) = 0 then 1 else 2))) (q : ((¬ (0 ≤ row ∧ row < m 30 0 3 ∧ 0 ≤ seat ∧ seat < m 31 0 row)) ∧ ans = 0 ∧ m2 = thr m 1) ∨ (((0 ≤ row ∧ row < m 30 0 3 ∧ 0 ≤ seat ∧ seat < m 31 0 row) ∧ oMd m row seat = 0) ∧ ans = 0 ∧ m2 = thr m 0) ∨ (((0 ≤ row ∧ row < m 30 0 3 ∧ 0 ≤ seat ∧ seat < m 31 0 row) ∧ oMd m row seat = -1) ∧ ans = 3 ∧ m2 = thr m 0) ∨ (((0 ≤ row ∧ row < m 30 0 3 ∧ 0 ≤ seat ∧ seat < m 31 0 row) ∧ (oMd m row seat ≠ 0 ∧ oMd m row seat ≠ -1) ∧ m 35 0 (oMd m row seat) = 0) ∧ ans = 1 ∧ m2 = thr m 0) ∨ (((0 ≤ row ∧ row < m 30 0 3 ∧ 0 ≤ seat ∧ seat < m 31 0 row) ∧ (oMd m row seat ≠ 0 ∧ oMd m row seat ≠ -1) ∧ m 35 0 (oMd m row seat) ≠ 0) ∧ ans = 2 ∧ m2 = thr m 0)) : m2 30 0 0 = z ∧ (z = 0 → m2 45 0 0 = ans) ∧ INV m2 (c + 1) := by
  rcases w with ⟨w1, w2⟩ | ⟨w1, w2, w3⟩ <;> rcases q with ⟨q1, q2, q3⟩ | ⟨q1, q2, q3⟩ | ⟨q1, q2, q3⟩ | ⟨q1, q2, q3⟩ | ⟨q1, q2, q3⟩
  all_goals first
    | exact fin_t h q3 (by omega) (fun _ => by omega)
    | (exfalso; have e3 := h.row.1; have e8 := h.2.1.2.1; first | omega | (have e31 := (h.row.2 row (by omega) (by omega)).1; omega))
    | exact fin_t h q3 (by omega) (fun _ => by have e3 := h.row.1; have e8 := h.2.1.2.1; have eo := h.own w2.1 w2.2.1 w2.2.2.1 w2.2.2.2; have vo := h.vo row seat w2.1 w2.2.1 w2.2.2.1 w2.2.2.2; rw [eo] at q1; first | omega | (rw [w3, q2]; first | rw [if_pos q1.2] | rw [if_neg (by omega), if_pos q1.2] | (have ti := (h.2.1.2.2.1 (m 6 row seat) (by omega) (by omega)).1.1; rw [ti] at q1; rw [if_neg (by omega), if_neg (by omega)]; first | rw [if_pos q1.2.2] | rw [if_neg q1.2.2])))
    | (exfalso; have e31 := (h.row.2 row (by omega) (by omega)).1; have e3 := h.row.1; have e8 := h.2.1.2.1; have eo := h.own w2.1 w2.2.1 w2.2.2.1 w2.2.2.2; have vo := h.vo row seat w2.1 w2.2.1 w2.2.2.1 w2.2.2.2; rw [eo] at q1; first | omega | (rw [w3, q2]; first | rw [if_pos q1.2] | rw [if_neg (by omega), if_pos q1.2] | (have ti := (h.2.1.2.2.1 (m 6 row seat) (by omega) (by omega)).1.1; rw [ti] at q1; rw [if_neg (by omega), if_neg (by omega)]; first | rw [if_pos q1.2.2] | rw [if_neg q1.2.2])))
theorem sq_ticketAt {m m2 : Mem} {c row seat z ans : Int} (h : INV m c) (w : (z = 1 ∧ ¬ (0 ≤ row ∧ row < m 1 0 4 ∧ 0 ≤ seat ∧ seat < m 2 0 row)) ∨ (z = 0 ∧ (0 ≤ row ∧ row < m 1 0 4 ∧ 0 ≤ seat ∧ seat < m 2 0 row) ∧ m 45 0 0 = max (m 6 row seat) 0)) (q : ((¬ (0 ≤ row ∧ row < m 30 0 3 ∧ 0 ≤ seat ∧ seat < m 31 0 row)) ∧ ans = 0 ∧ m2 = thr m 1) ∨ (((0 ≤ row ∧ row < m 30 0 3 ∧ 0 ≤ seat ∧ seat < m 31 0 row) ∧ 0 < oMd m row seat) ∧ ans = oMd m row seat ∧ m2 = thr m 0) ∨ (((0 ≤ row ∧ row < m 30 0 3 ∧ 0 ≤ seat ∧ seat < m 31 0 row) ∧ ¬ 0 < oMd m row seat) ∧ ans = 0 ∧ m2 = thr m 0)) : m2 30 0 0 = z ∧ (z = 0 → m2 45 0 0 = ans) ∧ INV m2 (c + 1) := by
  rcases w with ⟨w1, w2⟩ | ⟨w1, w2, w3⟩ <;> rcases q with ⟨q1, q2, q3⟩ | ⟨q1, q2, q3⟩ | ⟨q1, q2, q3⟩
  all_goals first
    | exact fin_t h q3 (by omega) (fun _ => by omega)
    | (exfalso; have e3 := h.row.1; have e8 := h.2.1.2.1; first | omega | (have e31 := (h.row.2 row (by omega) (by omega)).1; omega))
    | exact fin_t h q3 (by omega) (fun _ => by have e3 := h.row.1; have e8 := h.2.1.2.1; have eo := h.own w2.1 w2.2.1 w2.2.2.1 w2.2.2.2; omega)
    | (exfalso; have e31 := (h.row.2 row (by omega) (by omega)).1; have e3 := h.row.1; have e8 := h.2.1.2.1; have eo := h.own w2.1 w2.2.1 w2.2.2.1 w2.2.2.2; omega)
theorem sq_value {m m2 : Mem} {c row seat z ans : Int} (h : INV m c) (w : (z = 1 ∧ ¬ (0 ≤ row ∧ row < m 1 0 4 ∧ 0 ≤ seat ∧ seat < m 2 0 row)) ∨ (z = 0 ∧ (0 ≤ row ∧ row < m 1 0 4 ∧ 0 ≤ seat ∧ seat < m 2 0 row) ∧ m 45 0 0 = vS (m 3 0 row) (m 2 0 row) seat)) (q : ((¬ (0 ≤ row ∧ row < m 30 0 3 ∧ 0 ≤ seat ∧ seat < m 31 0 row)) ∧ ans = 0 ∧ m2 = thr m 1) ∨ ((0 ≤ row ∧ row < m 30 0 3 ∧ 0 ≤ seat ∧ seat < m 31 0 row) ∧ ans = vS (m 32 0 row) (m 31 0 row) seat ∧ m2 = thr m 0)) : m2 30 0 0 = z ∧ (z = 0 → m2 45 0 0 = ans) ∧ INV m2 (c + 1) := by
  rcases w with ⟨w1, w2⟩ | ⟨w1, w2, w3⟩ <;> rcases q with ⟨q1, q2, q3⟩ | ⟨q1, q2, q3⟩
  all_goals first
    | exact fin_t h q3 (by omega) (fun _ => by omega)
    | (exfalso; have e3 := h.row.1; have e8 := h.2.1.2.1; first | omega | (have e31 := (h.row.2 row (by omega) (by omega)).1; omega))
    | exact fin_t h q3 (by omega) (fun _ => by have e3 := h.row.1; have e8 := h.2.1.2.1; have er := h.row.2 row w2.1 w2.2.1; rw [w3, q2, er.1, er.2.1])
    | (exfalso; have e31 := (h.row.2 row (by omega) (by omega)).1; have e3 := h.row.1; have e8 := h.2.1.2.1; have er := h.row.2 row w2.1 w2.2.1; rw [w3, q2, er.1, er.2.1])
theorem sq_freeSeats {m m2 : Mem} {c row z ans : Int} (h : INV m c) (w : (z = 1 ∧ ¬ (0 ≤ row ∧ row < m 1 0 4)) ∨ (z = 0 ∧ (0 ≤ row ∧ row < m 1 0 4) ∧ m 45 0 0 = sumI (fun s => if m 6 row s = 0 then 1 else 0) (m 2 0 row))) (q : ((¬ (0 ≤ row ∧ row < m 30 0 3)) ∧ ans = 0 ∧ m2 = thr m 1) ∨ ((0 ≤ row ∧ row < m 30 0 3) ∧ ans = sumI (fun s => if oMd m row s = 0 then 1 else 0) (m 31 0 row) ∧ m2 = thr m 0)) : m2 30 0 0 = z ∧ (z = 0 → m2 45 0 0 = ans) ∧ INV m2 (c + 1) := by
  rcases w with ⟨w1, w2⟩ | ⟨w1, w2, w3⟩ <;> rcases q with ⟨q1, q2, q3⟩ | ⟨q1, q2, q3⟩
  all_goals first
    | exact fin_t h q3 (by omega) (fun _ => by omega)
    | (exfalso; have e3 := h.row.1; have e8 := h.2.1.2.1; first | omega | (have e31 := (h.row.2 row (by omega) (by omega)).1; omega))
    | exact fin_t h q3 (by omega) (fun _ => by have e3 := h.row.1; have e8 := h.2.1.2.1; have er := h.row.2 row w2.1 w2.2; rw [w3, q2, er.1]; exact sumI_cg (fun s s0 s1 => by rw [h.own w2.1 w2.2 s0 s1]))
    | (exfalso; have e31 := (h.row.2 row (by omega) (by omega)).1; have e3 := h.row.1; have e8 := h.2.1.2.1; have er := h.row.2 row w2.1 w2.2; rw [w3, q2, er.1]; exact sumI_cg (fun s s0 s1 => by rw [h.own w2.1 w2.2 s0 s1]))
theorem sq_ticketState {m m2 : Mem} {c ticket z ans : Int} (h : INV m c) (w : (z = 1 ∧ ¬ (1 ≤ ticket ∧ ticket ≤ m 7 0 8)) ∨ (z = 0 ∧ (1 ≤ ticket ∧ ticket ≤ m 7 0 8) ∧ m 45 0 0 = m 8 0 ticket)) (q : ((¬ (1 ≤ ticket ∧ ticket ≤ m 30 0 8)) ∧ ans = 0 ∧ m2 = thr m 1) ∨ ((1 ≤ ticket ∧ ticket ≤ m 30 0 8) ∧ ans = m 35 0 ticket ∧ m2 = thr m 0)) : m2 30 0 0 = z ∧ (z = 0 → m2 45 0 0 = ans) ∧ INV m2 (c + 1) := by
  rcases w with ⟨w1, w2⟩ | ⟨w1, w2, w3⟩ <;> rcases q with ⟨q1, q2, q3⟩ | ⟨q1, q2, q3⟩
  all_goals first
    | exact fin_t h q3 (by omega) (fun _ => by omega)
    | (exfalso; have e3 := h.row.1; have e8 := h.2.1.2.1; first | omega | (have e31 := (h.row.2 row (by omega) (by omega)).1; omega))
    | exact fin_t h q3 (by omega) (fun _ => by have e3 := h.row.1; have e8 := h.2.1.2.1; have ti := (h.2.1.2.2.1 ticket w2.1 w2.2).1.1; omega)
    | (exfalso; have e31 := (h.row.2 row (by omega) (by omega)).1; have e3 := h.row.1; have e8 := h.2.1.2.1; have ti := (h.2.1.2.2.1 ticket w2.1 w2.2).1.1; omega)
theorem sq_seatsOf {m m2 : Mem} {c ticket z ans : Int} (h : INV m c) (w : (z = 1 ∧ ¬ (1 ≤ ticket ∧ ticket ≤ m 7 0 8)) ∨ (z = 0 ∧ (1 ≤ ticket ∧ ticket ≤ m 7 0 8) ∧ m 45 0 0 = (if m 8 0 ticket = 0 ∨ m 8 0 ticket = 1 then m 9 0 ticket else 0))) (q : ((¬ (1 ≤ ticket ∧ ticket ≤ m 30 0 8)) ∧ ans = 0 ∧ m2 = thr m 1) ∨ ((1 ≤ ticket ∧ ticket ≤ m 30 0 8) ∧ ans = manyM m ticket ∧ m2 = thr m 0)) : m2 30 0 0 = z ∧ (z = 0 → m2 45 0 0 = ans) ∧ INV m2 (c + 1) := by
  rcases w with ⟨w1, w2⟩ | ⟨w1, w2, w3⟩ <;> rcases q with ⟨q1, q2, q3⟩ | ⟨q1, q2, q3⟩
  all_goals first
    | exact fin_t h q3 (by omega) (fun _ => by omega)
    | (exfalso; have e3 := h.row.1; have e8 := h.2.1.2.1; first | omega | (have e31 := (h.row.2 row (by omega) (by omega)).1; omega))
    | exact fin_t h q3 (by omega) (fun _ => by have e3 := h.row.1; have e8 := h.2.1.2.1; rw [w3, q2]; exact (h.many w2.1 w2.2).symm)
    | (exfalso; have e31 := (h.row.2 row (by omega) (by omega)).1; have e3 := h.row.1; have e8 := h.2.1.2.1; rw [w3, q2]; exact (h.many w2.1 w2.2).symm)
theorem sq_priceOf {m m2 : Mem} {c ticket z ans : Int} (h : INV m c) (w : (z = 1 ∧ ¬ (1 ≤ ticket ∧ ticket ≤ m 7 0 8)) ∨ (z = 0 ∧ (1 ≤ ticket ∧ ticket ≤ m 7 0 8) ∧ m 45 0 0 = priceM m ticket)) (q : ((¬ (1 ≤ ticket ∧ ticket ≤ m 30 0 8)) ∧ ans = 0 ∧ m2 = thr m 1) ∨ ((1 ≤ ticket ∧ ticket ≤ m 30 0 8) ∧ ans = pricM m ticket ∧ m2 = thr m 0)) : m2 30 0 0 = z ∧ (z = 0 → m2 45 0 0 = ans) ∧ INV m2 (c + 1) := by
  rcases w with ⟨w1, w2⟩ | ⟨w1, w2, w3⟩ <;> rcases q with ⟨q1, q2, q3⟩ | ⟨q1, q2, q3⟩
  all_goals first
    | exact fin_t h q3 (by omega) (fun _ => by omega)
    | (exfalso; have e3 := h.row.1; have e8 := h.2.1.2.1; first | omega | (have e31 := (h.row.2 row (by omega) (by omega)).1; omega))
    | exact fin_t h q3 (by omega) (fun _ => by have e3 := h.row.1; have e8 := h.2.1.2.1; rw [w3, q2]; exact h.price w2.1)
    | (exfalso; have e31 := (h.row.2 row (by omega) (by omega)).1; have e3 := h.row.1; have e8 := h.2.1.2.1; rw [w3, q2]; exact h.price w2.1)
theorem sq_bestBlock {m m2 : Mem} {c seats z ans : Int} (h : INV m c) (w : (z = 1 ∧ ¬ (1 ≤ seats ∧ seats ≤ 20)) ∨ (z = 2 ∧ (1 ≤ seats ∧ seats ≤ 20) ∧ bestM m seats (-1)) ∨ (z = 0 ∧ (1 ≤ seats ∧ seats ≤ 20) ∧ bestM m seats (m 45 0 0) ∧ m 45 0 0 ≠ -1)) (q : ((¬ (1 ≤ seats ∧ seats ≤ 20)) ∧ ans = 0 ∧ m2 = thr m 1) ∨ (((1 ≤ seats ∧ seats ≤ 20) ∧ bestG (m 30 0 3) (m 31 0) (oMd m) (m 32 0) seats (-1)) ∧ ans = 0 ∧ m2 = thr m 2) ∨ (((1 ≤ seats ∧ seats ≤ 20) ∧ (bestG (m 30 0 3) (m 31 0) (oMd m) (m 32 0) seats ans ∧ ans ≠ -1)) ∧ m2 = thr m 0)) : m2 30 0 0 = z ∧ (z = 0 → m2 45 0 0 = ans) ∧ INV m2 (c + 1) := by
  rcases w with ⟨w1, w2⟩ | ⟨w1, w2, w3⟩ | ⟨w1, w2, w3, w4⟩ <;> rcases q with ⟨q1, q2, q3⟩ | ⟨q1, q2, q3⟩ | ⟨⟨q1, q2, q4⟩, q3⟩
  all_goals first
    | exact fin_t h q3 (by omega) (fun _ => by omega)
    | (exfalso; omega)
    | (exfalso; exact q4 (bestG_u q2 ((h.best (by omega)).mp w3)))
    | (exfalso; exact w4 (bestG_u ((h.best (by omega)).mp w3) q1.2))
    | exact fin_t h q3 (by omega) (fun _ => bestG_u ((h.best (by omega)).mp w3) q2)
theorem sq_leavesOrphan {m m2 : Mem} {c seats z ans : Int} (h : INV m c) (w : (z = 1 ∧ ¬ (1 ≤ seats ∧ seats ≤ 20)) ∨ (z = 2 ∧ (1 ≤ seats ∧ seats ≤ 20) ∧ bestM m seats (-1)) ∨ (z = 0 ∧ (1 ≤ seats ∧ seats ≤ 20) ∧ ∃ y, (bestM m seats y ∧ y ≠ -1) ∧ ((m 45 0 0 = 1 ∧ hasO (m 2 0 (y / 100)) (m 6 (y / 100)) (y % 100) seats) ∨ (m 45 0 0 = 0 ∧ ¬ hasO (m 2 0 (y / 100)) (m 6 (y / 100)) (y % 100) seats)))) (q : ((¬ (1 ≤ seats ∧ seats ≤ 20)) ∧ ans = 0 ∧ m2 = thr m 1) ∨ (((1 ≤ seats ∧ seats ≤ 20) ∧ bestG (m 30 0 3) (m 31 0) (oMd m) (m 32 0) seats (-1)) ∧ ans = 0 ∧ m2 = thr m 2) ∨ (((1 ≤ seats ∧ seats ≤ 20) ∧ ∃ b, (bestG (m 30 0 3) (m 31 0) (oMd m) (m 32 0) seats b ∧ b ≠ -1) ∧ ((ans = 1 ∧ hasO (m 31 0 (b / 100)) (oMd m (b / 100)) (b % 100) seats) ∨ (ans = 0 ∧ ¬ hasO (m 31 0 (b / 100)) (oMd m (b / 100)) (b % 100) seats))) ∧ m2 = thr m 0)) : m2 30 0 0 = z ∧ (z = 0 → m2 45 0 0 = ans) ∧ INV m2 (c + 1) := by
  rcases w with ⟨w1, w2⟩ | ⟨w1, w2, w3⟩ | ⟨w1, w2, y, ⟨w3, w4⟩, w5⟩ <;> rcases q with ⟨q1, q2, q3⟩ | ⟨q1, q2, q3⟩ | ⟨⟨q1, y', ⟨q2, q4⟩, q5⟩, q3⟩
  all_goals first
    | exact fin_t h q3 (by omega) (fun _ => by omega)
    | (exfalso; omega)
    | (exfalso; exact q4 (bestG_u q2 ((h.best (by omega)).mp w3)))
    | (exfalso; exact w4 (bestG_u ((h.best (by omega)).mp w3) q1.2))
    | (have e := bestG_u ((h.best (by omega)).mp w3) q2
       subst e
       have ba := bestG_at (by omega) (fun r r0 r1 => (h.hw.2.2 r r0 r1).2.1) w3 w4
       have er := (h.row.2 (y / 100) ba.1 ba.2.1).1
       have ho := hasO_cg (f := y % 100) (k := seats) er.symm (fun s s0 s1 => (h.own ba.1 ba.2.1 s0 s1).symm)
       refine fin_t h q3 (by omega) (fun _ => ?_)
       rcases w5 with ⟨a, b1⟩ | ⟨a, b1⟩ <;> rcases q5 with ⟨a', b2⟩ | ⟨a', b2⟩
       · omega
       · exact absurd (ho.mp b1) b2
       · exact absurd (ho.mpr b2) b1
       · omega)
theorem sq_nextExpiry {m m2 : Mem} {c  z ans : Int} (h : INV m c) (w : (z = 1 ∧ isEarl (m 7 0 8) (m 8 0) (m 10 0) (-1)) ∨ (z = 0 ∧ isEarl (m 7 0 8) (m 8 0) (m 10 0) (m 45 0 0) ∧ m 45 0 0 ≠ -1)) (q : (((isEarl (m 30 0 8) (m 35 0) (m 36 0) (-1)) ∧ ans = 0) ∧ m2 = thr m 1) ∨ (((isEarl (m 30 0 8) (m 35 0) (m 36 0) ans) ∧ ans ≠ -1) ∧ m2 = thr m 0)) : m2 30 0 0 = z ∧ (z = 0 → m2 45 0 0 = ans) ∧ INV m2 (c + 1) := by
  have U : ∀ {y x : Int}, isEarl (m 7 0 8) (m 8 0) (m 10 0) y → isEarl (m 30 0 8) (m 35 0) (m 36 0) x → y = x := fun {y x} a b' => by
    rw [h.2.1.2.1] at b'
    exact isEarl_u (fun t t1 t2 => by rw [(h.2.1.2.2.1 t t1 t2).1.1]) (fun t t1 t2 _ => (h.2.1.2.2.1 t t1 t2).1.2.1.symm) a b'
  rcases w with ⟨w1, w2⟩ | ⟨w1, w2, w3⟩ <;> rcases q with ⟨⟨q1, q2⟩, q3⟩ | ⟨⟨q1, q2⟩, q3⟩
  · exact fin_t h q3 (by omega) (fun _ => by omega)
  · exact absurd (U w2 q1).symm q2
  · exact absurd (U w2 q1) w3
  · exact fin_t h q3 (by omega) (fun _ => U w2 q1)
theorem sq_rowsForGroup {m m2 : Mem} {c people z ans : Int} (h : INV m c) (w : (z = 1 ∧ ¬ (2 ≤ people ∧ people ≤ 100)) ∨ (z = 2 ∧ (2 ≤ people ∧ people ≤ 100) ∧ ∀ x v : Int, ¬ cM m 0 x people v) ∨ (z = 0 ∧ (2 ≤ people ∧ people ≤ 100) ∧ FOUND m m people ∧ m 45 0 0 = m 16 0 7)) (q : ((¬ (2 ≤ people ∧ people ≤ 100)) ∧ ans = 0 ∧ m2 = thr m 1) ∨ (((2 ≤ people ∧ people ≤ 100) ∧ (∀ b v : Int, ¬ cD m 0 b people v)) ∧ ans = 0 ∧ ∃ m1, SFd m m1 ∧ m2 = thr m1 2) ∨ ((2 ≤ people ∧ people ≤ 100) ∧ ∃ m1, SFd m m1 ∧ SPLd m m1 people ans ∧ m2 = thr m1 0)) : m2 30 0 0 = z ∧ (z = 0 → m2 45 0 0 = ans) ∧ INV m2 (c + 1) := by
  rcases w with ⟨w1, w2⟩ | ⟨w1, w2, w3⟩ | ⟨w1, w2, w3, w4⟩ <;> rcases q with ⟨q1, q2, q3⟩ | ⟨⟨q1, q2⟩, q4, m1, q5, q3⟩ | ⟨q1, m1, q5, q2, q3⟩
  all_goals first
    | exact fin_t h q3 (by omega) (fun _ => by omega)
    | (exfalso; omega)
    | exact fin_s h q5 q3 (by omega) (fun _ => by omega)
    | (exfalso; obtain ⟨x, v, a⟩ := SPLd_can q2; exact w3 x v (h.cM.mpr a))
    | (exfalso; obtain ⟨x, v, a⟩ := FOUND_can w3; exact q2 x v (h.cM.mp a))
    | exact fin_s h q5 q3 (by omega) (fun _ => by rw [w4]; exact (h.split w3 q2).1)
theorem sq_seatsForGroup {m m2 : Mem} {c people row z ans : Int} (h : INV m c) (w : (z = 1 ∧ ¬ (0 ≤ row ∧ row < m 1 0 4)) ∨ (z = 2 ∧ (0 ≤ row ∧ row < m 1 0 4) ∧ ¬ (2 ≤ people ∧ people ≤ 100)) ∨ (z = 3 ∧ ((0 ≤ row ∧ row < m 1 0 4) ∧ (2 ≤ people ∧ people ≤ 100)) ∧ ∀ x v : Int, ¬ cM m 0 x people v) ∨ (z = 0 ∧ ((0 ≤ row ∧ row < m 1 0 4) ∧ (2 ≤ people ∧ people ≤ 100)) ∧ FOUND m m people ∧ m 45 0 0 = m 26 0 row)) (q : ((¬ (0 ≤ row ∧ row < m 30 0 3)) ∧ ans = 0 ∧ m2 = thr m 1) ∨ (((0 ≤ row ∧ row < m 30 0 3) ∧ ¬ (2 ≤ people ∧ people ≤ 100)) ∧ ans = 0 ∧ m2 = thr m 2) ∨ ((((0 ≤ row ∧ row < m 30 0 3) ∧ (2 ≤ people ∧ people ≤ 100)) ∧ (∀ b v : Int, ¬ cD m 0 b people v)) ∧ ans = 0 ∧ ∃ m1, SFd m m1 ∧ m2 = thr m1 3) ∨ (((0 ≤ row ∧ row < m 30 0 3) ∧ (2 ≤ people ∧ people ≤ 100)) ∧ ∃ m1 n, SFd m m1 ∧ SPLd m m1 people n ∧ ans = m1 41 0 row ∧ m2 = thr m1 0)) : m2 30 0 0 = z ∧ (z = 0 → m2 45 0 0 = ans) ∧ INV m2 (c + 1) := by
  have e3 := h.row.1
  rcases w with ⟨w1, w2⟩ | ⟨w1, w2, w3⟩ | ⟨w1, w2, w3⟩ | ⟨w1, w2, w3, w4⟩ <;> rcases q with ⟨q1, q2, q3⟩ | ⟨q1, q2, q3⟩ | ⟨⟨q1, q2⟩, q4, m1, q5, q3⟩ | ⟨q1, m1, n1, q5, q2, q4, q3⟩
  all_goals first
    | exact fin_t h q3 (by omega) (fun _ => by omega)
    | (exfalso; omega)
    | exact fin_s h q5 q3 (by omega) (fun _ => by omega)
    | (exfalso; obtain ⟨x, v, a⟩ := SPLd_can q2; exact w3 x v (h.cM.mpr a))
    | (exfalso; obtain ⟨x, v, a⟩ := FOUND_can w3; exact q2 x v (h.cM.mp a))
    | exact fin_s h q5 q3 (by omega) (fun _ => by rw [w4, q4]; exact (h.split w3 q2).2 row w2.1.1 w2.1.2)
