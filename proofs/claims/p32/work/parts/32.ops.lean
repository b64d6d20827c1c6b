/-! the calls by name -/
def Q_addRow (M : Mem) (seats : Int) (score : Int) (price : Int) : OutT → Mem → Prop := fun o m => (o = .inr eIAE ∧ (¬ ((1 ≤ seats ∧ seats ≤ 20) ∧ (0 ≤ score ∧ score ≤ 1000) ∧ (0 ≤ price ∧ price ≤ 10000))) ∧ m = M) ∨ (o = .inr eISE ∧ (((1 ≤ seats ∧ seats ≤ 20) ∧ (0 ≤ score ∧ score ≤ 1000) ∧ (0 ≤ price ∧ price ≤ 10000)) ∧ ¬ M 1 0 4 < 12) ∧ m = M) ∨ (∃ z, o = .inl (some z) ∧ (((1 ≤ seats ∧ seats ≤ 20) ∧ (0 ≤ score ∧ score ≤ 1000) ∧ (0 ≤ price ∧ price ≤ 10000)) ∧ M 1 0 4 < 12 ∧ z = M 1 0 4 ∧ m = updM (updM (updM (updM M 2 0 (M 1 0 4) seats) 3 0 (M 1 0 4) score) 4 0 (M 1 0 4) price) 1 0 4 (M 1 0 4 + 1)))
def Q_toggleBlocked (M : Mem) (row : Int) (seat : Int) : OutT → Mem → Prop := fun o m => (o = .inr eIOB ∧ (¬ (0 ≤ row ∧ row < M 1 0 4 ∧ 0 ≤ seat ∧ seat < M 2 0 row)) ∧ m = M) ∨ (o = .inr eISE ∧ ((0 ≤ row ∧ row < M 1 0 4 ∧ 0 ≤ seat ∧ seat < M 2 0 row) ∧ 0 < M 6 row seat) ∧ m = M) ∨ (∃ z, o = .inl (some z) ∧ ((0 ≤ row ∧ row < M 1 0 4 ∧ 0 ≤ seat ∧ seat < M 2 0 row) ∧ M 6 row seat ≤ 0 ∧ z = (if M 6 row seat = 0 then 1 else 0) ∧ m = giveM M row seat 1 (if M 6 row seat = 0 then -1 else 0)))
def Q_state (M : Mem) (row : Int) (seat : Int) : OutT → Mem → Prop := fun o m => (o = .inr eIOB ∧ (¬ (0 ≤ row ∧ row < M 1 0 4 ∧ 0 ≤ seat ∧ seat < M 2 0 row)) ∧ m = M) ∨ (∃ z, o = .inl (some z) ∧ ((0 ≤ row ∧ row < M 1 0 4 ∧ 0 ≤ seat ∧ seat < M 2 0 row) ∧ z = (if M 6 row seat = 0 then 0 else if M 6 row seat = -1 then 3 else if M 8 0 (M 6 row seat) = 0 then 1 else 2) ∧ m = M))
def Q_ticketAt (M : Mem) (row : Int) (seat : Int) : OutT → Mem → Prop := fun o m => (o = .inr eIOB ∧ (¬ (0 ≤ row ∧ row < M 1 0 4 ∧ 0 ≤ seat ∧ seat < M 2 0 row)) ∧ m = M) ∨ (∃ z, o = .inl (some z) ∧ ((0 ≤ row ∧ row < M 1 0 4 ∧ 0 ≤ seat ∧ seat < M 2 0 row) ∧ z = max (M 6 row seat) 0 ∧ m = M))
def Q_value (M : Mem) (row : Int) (seat : Int) : OutT → Mem → Prop := fun o m => (o = .inr eIOB ∧ (¬ (0 ≤ row ∧ row < M 1 0 4 ∧ 0 ≤ seat ∧ seat < M 2 0 row)) ∧ m = M) ∨ (∃ z, o = .inl (some z) ∧ ((0 ≤ row ∧ row < M 1 0 4 ∧ 0 ≤ seat ∧ seat < M 2 0 row) ∧ z = vS (M 3 0 row) (M 2 0 row) seat ∧ m = M))
def Q_freeSeats (M : Mem) (row : Int) : OutT → Mem → Prop := fun o m => (o = .inr eIOB ∧ (¬ (0 ≤ row ∧ row < M 1 0 4)) ∧ m = M) ∨ (∃ z, o = .inl (some z) ∧ ((0 ≤ row ∧ row < M 1 0 4) ∧ z = sumI (fun s => if M 6 row s = 0 then 1 else 0) (M 2 0 row) ∧ m = M))
def Q_bestBlock (M : Mem) (seats : Int) : OutT → Mem → Prop := fun o m => (o = .inr eIAE ∧ (¬ (1 ≤ seats ∧ seats ≤ 20)) ∧ m = M) ∨ (o = .inr eISE ∧ ((1 ≤ seats ∧ seats ≤ 20) ∧ bestM M seats (-1)) ∧ m = M) ∨ (∃ z, o = .inl (some z) ∧ ((1 ≤ seats ∧ seats ≤ 20) ∧ (bestM M seats z ∧ z ≠ -1) ∧ m = M))
def Q_leavesOrphan (M : Mem) (seats : Int) : OutT → Mem → Prop := fun o m => (o = .inr eIAE ∧ (¬ (1 ≤ seats ∧ seats ≤ 20)) ∧ m = M) ∨ (o = .inr eISE ∧ ((1 ≤ seats ∧ seats ≤ 20) ∧ bestM M seats (-1)) ∧ m = M) ∨ (∃ z, o = .inl (some z) ∧ ((1 ≤ seats ∧ seats ≤ 20) ∧ ∃ b, (bestM M seats b ∧ b ≠ -1) ∧ ((z = 1 ∧ hasO (M 2 0 (b / 100)) (M 6 (b / 100)) (b % 100) seats) ∨ (z = 0 ∧ ¬ (hasO (M 2 0 (b / 100)) (M 6 (b / 100)) (b % 100) seats))) ∧ m = M))
def Q_hold (M : Mem) (seats : Int) (minutes : Int) : OutT → Mem → Prop := fun o m => (o = .inr eIAE ∧ (¬ ((1 ≤ seats ∧ seats ≤ 20) ∧ (1 ≤ minutes ∧ minutes ≤ 200))) ∧ m = M) ∨ (o = .inr eISE ∧ (((1 ≤ seats ∧ seats ≤ 20) ∧ (1 ≤ minutes ∧ minutes ≤ 200)) ∧ (bestM M seats (-1) ∨ ¬ M 7 0 8 < 100)) ∧ m = M) ∨ (∃ z, o = .inl (some z) ∧ (((1 ≤ seats ∧ seats ≤ 20) ∧ (1 ≤ minutes ∧ minutes ≤ 200)) ∧ M 7 0 8 < 100 ∧ ∃ b, (bestM M seats b ∧ b ≠ -1) ∧ z = M 7 0 8 + 1 ∧ m = grM M (b / 100) (b % 100) seats minutes))
def Q_holdAt (M : Mem) (row : Int) (first : Int) (seats : Int) (minutes : Int) : OutT → Mem → Prop := fun o m => (o = .inr eIOB ∧ (¬ (0 ≤ row ∧ row < M 1 0 4 ∧ 0 ≤ first ∧ first < M 2 0 row)) ∧ m = M) ∨ (o = .inr eIAE ∧ ((0 ≤ row ∧ row < M 1 0 4 ∧ 0 ≤ first ∧ first < M 2 0 row) ∧ ¬ ((1 ≤ seats ∧ seats ≤ 20) ∧ (1 ≤ minutes ∧ minutes ≤ 200))) ∧ m = M) ∨ (o = .inr eISE ∧ (((0 ≤ row ∧ row < M 1 0 4 ∧ 0 ≤ first ∧ first < M 2 0 row) ∧ ((1 ≤ seats ∧ seats ≤ 20) ∧ (1 ≤ minutes ∧ minutes ≤ 200))) ∧ (¬ (1 ≤ seats ∧ 0 ≤ first ∧ first + seats ≤ M 2 0 row ∧ allF (M 6 row) first seats) ∨ ¬ M 7 0 8 < 100)) ∧ m = M) ∨ (∃ z, o = .inl (some z) ∧ (((0 ≤ row ∧ row < M 1 0 4 ∧ 0 ≤ first ∧ first < M 2 0 row) ∧ ((1 ≤ seats ∧ seats ≤ 20) ∧ (1 ≤ minutes ∧ minutes ≤ 200))) ∧ (1 ≤ seats ∧ 0 ≤ first ∧ first + seats ≤ M 2 0 row ∧ allF (M 6 row) first seats) ∧ M 7 0 8 < 100 ∧ z = M 7 0 8 + 1 ∧ m = grM M row first seats minutes))
def Q_rowsForGroup (M : Mem) (people : Int) : OutT → Mem → Prop := fun o m => (o = .inr eIAE ∧ (¬ (2 ≤ people ∧ people ≤ 100)) ∧ m = M) ∨ (o = .inr eISE ∧ ((2 ≤ people ∧ people ≤ 100) ∧ ∀ b v : Int, ¬ cM M 0 b people v) ∧ SF M m) ∨ (∃ z, o = .inl (some z) ∧ ((2 ≤ people ∧ people ≤ 100) ∧ SF M m ∧ FOUND M m people ∧ z = m 16 0 7))
def Q_seatsForGroup (M : Mem) (people : Int) (row : Int) : OutT → Mem → Prop := fun o m => (o = .inr eIOB ∧ (¬ (0 ≤ row ∧ row < M 1 0 4)) ∧ m = M) ∨ (o = .inr eIAE ∧ ((0 ≤ row ∧ row < M 1 0 4) ∧ ¬ (2 ≤ people ∧ people ≤ 100)) ∧ m = M) ∨ (o = .inr eISE ∧ (((0 ≤ row ∧ row < M 1 0 4) ∧ (2 ≤ people ∧ people ≤ 100)) ∧ ∀ b v : Int, ¬ cM M 0 b people v) ∧ SF M m) ∨ (∃ z, o = .inl (some z) ∧ (((0 ≤ row ∧ row < M 1 0 4) ∧ (2 ≤ people ∧ people ≤ 100)) ∧ SF M m ∧ FOUND M m people ∧ z = m 26 0 row))
def Q_holdGroup (M : Mem) (people : Int) (minutes : Int) : OutT → Mem → Prop := fun o m => (o = .inr eIAE ∧ (¬ ((2 ≤ people ∧ people ≤ 100) ∧ (1 ≤ minutes ∧ minutes ≤ 200))) ∧ m = M) ∨ (o = .inr eISE ∧ (((2 ≤ people ∧ people ≤ 100) ∧ (1 ≤ minutes ∧ minutes ≤ 200)) ∧ ((∀ b v : Int, ¬ cM M 0 b people v) ∨ ((∃ b v : Int, cM M 0 b people v) ∧ ¬ M 7 0 8 < 100))) ∧ SF M m) ∨ (∃ z, o = .inl (some z) ∧ (((2 ≤ people ∧ people ≤ 100) ∧ (1 ≤ minutes ∧ minutes ≤ 200)) ∧ M 7 0 8 < 100 ∧ ∃ m1, SF M m1 ∧ FOUND M m1 people ∧ z = M 7 0 8 + 1 ∧ m = gsM m1 people minutes))
def Q_ticketState (M : Mem) (ticket : Int) : OutT → Mem → Prop := fun o m => (o = .inr eIOB ∧ (¬ (1 ≤ ticket ∧ ticket ≤ M 7 0 8)) ∧ m = M) ∨ (∃ z, o = .inl (some z) ∧ ((1 ≤ ticket ∧ ticket ≤ M 7 0 8) ∧ z = M 8 0 ticket ∧ m = M))
def Q_seatsOf (M : Mem) (ticket : Int) : OutT → Mem → Prop := fun o m => (o = .inr eIOB ∧ (¬ (1 ≤ ticket ∧ ticket ≤ M 7 0 8)) ∧ m = M) ∨ (∃ z, o = .inl (some z) ∧ ((1 ≤ ticket ∧ ticket ≤ M 7 0 8) ∧ z = (if (M 8 0 ticket = 0 ∨ M 8 0 ticket = 1) then M 9 0 ticket else 0) ∧ m = M))
def Q_priceOf (M : Mem) (ticket : Int) : OutT → Mem → Prop := fun o m => (o = .inr eIOB ∧ (¬ (1 ≤ ticket ∧ ticket ≤ M 7 0 8)) ∧ m = M) ∨ (∃ z, o = .inl (some z) ∧ ((1 ≤ ticket ∧ ticket ≤ M 7 0 8) ∧ z = priceM M ticket ∧ m = M))
def Q_extend (M : Mem) (ticket : Int) (minutes : Int) : OutT → Mem → Prop := fun o m => (o = .inr eIOB ∧ (¬ (1 ≤ ticket ∧ ticket ≤ M 7 0 8)) ∧ m = M) ∨ (o = .inr eIAE ∧ ((1 ≤ ticket ∧ ticket ≤ M 7 0 8) ∧ ¬ (1 ≤ minutes ∧ minutes ≤ 200)) ∧ m = M) ∨ (o = .inr eISE ∧ (((1 ≤ ticket ∧ ticket ≤ M 7 0 8) ∧ (1 ≤ minutes ∧ minutes ≤ 200)) ∧ ¬ (M 8 0 ticket = 0 ∧ M 11 0 ticket < 2)) ∧ m = M) ∨ (∃ z, o = .inl (some z) ∧ (((1 ≤ ticket ∧ ticket ≤ M 7 0 8) ∧ (1 ≤ minutes ∧ minutes ≤ 200)) ∧ (M 8 0 ticket = 0 ∧ M 11 0 ticket < 2) ∧ z = M 0 0 4 + minutes ∧ m = updM (updM M 10 0 ticket (M 0 0 4 + minutes)) 11 0 ticket (M 11 0 ticket + 1)))
def Q_pay (M : Mem) (ticket : Int) : OutT → Mem → Prop := fun o m => (o = .inr eIOB ∧ (¬ (1 ≤ ticket ∧ ticket ≤ M 7 0 8)) ∧ m = M) ∨ (o = .inr eISE ∧ ((1 ≤ ticket ∧ ticket ≤ M 7 0 8) ∧ ¬ M 8 0 ticket = 0) ∧ m = M) ∨ (∃ z, o = .inl (some z) ∧ ((1 ≤ ticket ∧ ticket ≤ M 7 0 8) ∧ M 8 0 ticket = 0 ∧ z = priceM M ticket ∧ m = updM (updM (updM M 8 0 ticket 1) 12 0 ticket (priceM M ticket)) 0 0 5 (M 0 0 5 + priceM M ticket)))
def Q_cancel (M : Mem) (ticket : Int) : OutT → Mem → Prop := fun o m => (o = .inr eIOB ∧ (¬ (1 ≤ ticket ∧ ticket ≤ M 7 0 8)) ∧ m = M) ∨ (o = .inr eISE ∧ ((1 ≤ ticket ∧ ticket ≤ M 7 0 8) ∧ ¬ (M 8 0 ticket = 0 ∨ M 8 0 ticket = 1)) ∧ m = M) ∨ (∃ z, o = .inl (some z) ∧ ((1 ≤ ticket ∧ ticket ≤ M 7 0 8) ∧ (M 8 0 ticket = 0 ∨ M 8 0 ticket = 1) ∧ z = M 12 0 ticket ∧ m = updM (clM M ticket 3) 0 0 5 (M 0 0 5 - M 12 0 ticket)))
def Q_pass (M : Mem) (minutes : Int) : OutT → Mem → Prop := fun o m => (o = .inr eIAE ∧ (¬ (1 ≤ minutes ∧ minutes ≤ 1000)) ∧ m = M) ∨ (∃ z, o = .inl (some z) ∧ ((1 ≤ minutes ∧ minutes ≤ 1000) ∧ z = passC M minutes ∧ m = passM M minutes))
def Q_nextExpiry (M : Mem) : OutT → Mem → Prop := fun o m => (o = .inr eISE ∧ (isEarl (M 7 0 8) (M 8 0) (M 10 0) (-1)) ∧ m = M) ∨ (∃ z, o = .inl (some z) ∧ (isEarl (M 7 0 8) (M 8 0) (M 10 0) z ∧ z ≠ -1 ∧ m = M))
def Q_wish (M : Mem) (ticket : Int) (row : Int) : OutT → Mem → Prop := fun o m => (o = .inr eIOB ∧ (¬ ((1 ≤ ticket ∧ ticket ≤ M 7 0 8) ∧ (0 ≤ row ∧ row < M 1 0 4))) ∧ m = M) ∨ (o = .inr eISE ∧ (((1 ≤ ticket ∧ ticket ≤ M 7 0 8) ∧ (0 ≤ row ∧ row < M 1 0 4)) ∧ ¬ (M 8 0 ticket = 1 ∧ M 13 0 ticket ≠ -1 ∧ M 13 0 ticket ≠ row)) ∧ m = M) ∨ (∃ z, o = .inl (some z) ∧ (((1 ≤ ticket ∧ ticket ≤ M 7 0 8) ∧ (0 ≤ row ∧ row < M 1 0 4)) ∧ (M 8 0 ticket = 1 ∧ M 13 0 ticket ≠ -1 ∧ M 13 0 ticket ≠ row) ∧ z = M 15 0 ticket ∧ m = updM M 15 0 ticket row))
def Q_exchange (M : Mem) (ticket : Int) : OutT → Mem → Prop := fun o m => (o = .inr eIOB ∧ (¬ (1 ≤ ticket ∧ ticket ≤ M 7 0 8)) ∧ m = M) ∨ (o = .inr eISE ∧ ((1 ≤ ticket ∧ ticket ≤ M 7 0 8) ∧ (M 15 0 ticket = -1 ∨ (M 15 0 ticket ≠ -1 ∧ ∀ k : Nat, ¬ RM M (M 9 0 ticket) (M 13 0 ticket) k (M 15 0 ticket)))) ∧ XF M m) ∨ (∃ z, o = .inl (some z) ∧ ((1 ≤ ticket ∧ ticket ≤ M 7 0 8) ∧ M 15 0 ticket ≠ -1 ∧ ∃ m1, XF M m1 ∧ XFOUND M m1 ticket (M 9 0 ticket) (M 13 0 ticket) ∧ z = m1 27 0 4 ∧ m = exM m1))
/-- the second object's part stays -/
def FR (M m : Mem) : Prop := ∀ g : Nat, 30 ≤ g → m g = M g
theorem FR.rf {M : Mem} : FR M M := fun _ _ => rfl
/-- how a call leaves its object -/
def GOOD (M : Mem) (c : Int) : OutT → Mem → Prop := fun o m => INV m (c + 1) ∧ ENDS m ∧ FR M m ∧ ((∃ E, o = .inr E ∧ S16 M m) ∨ ∃ z : Int, o = .inl (some z) ∧ -1 ≤ z ∧ z ≤ 2500000 + 1000 * c)
theorem good_x {M m : Mem} {c : Int} {E : String} (h : INV M c) (he : ENDS M) (s : S16 M m) (f : FR M m) : GOOD M c (.inr E) m := ⟨INV_up (INV_cg s h), ENDS_cg s he, f, Or.inl ⟨E, rfl, s⟩⟩
theorem good_xM {M m : Mem} {c : Int} {E : String} (h : INV M c) (he : ENDS M) (e : m = M) : GOOD M c (.inr E) m := by
  subst e
  exact good_x h he S16.rf FR.rf
theorem updM_x {M : Mem} {g : Nat} {i j v : Int} {g' : Nat} {i' j' : Int} (h : j' ≠ j) : updM M g i j v g' i' j' = M g' i' j' := by simp [updM, h]
/-- one ticket's end is new, all others are as they were -/
theorem ENDS_one {M m : Mem} {n : Int} (he : ENDS M) (k0 : m 0 0 4 = M 0 0 4) (k7 : ∀ t : Int, 1 ≤ t → t ≤ m 7 0 8 → t ≠ n → t ≤ M 7 0 8) (kt : ∀ t : Int, 1 ≤ t → t ≠ n → (m 8 0 t = M 8 0 t ∧ m 10 0 t = M 10 0 t) ∨ m 8 0 t ≠ 0) (kn : m 8 0 n = 0 → M 0 0 4 < m 10 0 n ∧ m 10 0 n ≤ M 0 0 4 + 200) : ENDS m := by
  intro t t1 t2 t3
  rw [k0]
  by_cases e : t = n
  · rw [e] at t3 ⊢; exact kn t3
  · rcases kt t t1 e with k | k
    · rw [k.1] at t3
      rw [k.2]
      exact he t t1 (k7 t t1 t2 e) t3
    · exact absurd t3 k
/-! a row more -/
theorem k_addRow {M m : Mem} {c seats score price : Int} {o : OutT} (h : INV M c) (he : ENDS M) (q : Q_addRow M seats score price o m) : GOOD M c o m := by
  rcases q with ⟨rfl, q1, q2⟩ | ⟨rfl, q1, q2⟩ | ⟨z, rfl, q1, q2, q3, rfl⟩
  · exact good_xM h he q2
  · exact good_xM h he q2
  · have n0 := h.hw.1
    have i50 := h.2.2.2.2.1
    have G : ∀ g : Nat, g ≠ 1 → g ≠ 2 → g ≠ 3 → g ≠ 4 → (updM (updM (updM (updM M 2 0 (M 1 0 4) seats) 3 0 (M 1 0 4) score) 4 0 (M 1 0 4) price) 1 0 4 (M 1 0 4 + 1)) g = M g := fun g g1 g2 g3 g4 => by rw [updM_g g1, updM_g g4, updM_g g3, updM_g g2]
    generalize hm : (updM (updM (updM (updM M 2 0 (M 1 0 4) seats) 3 0 (M 1 0 4) score) 4 0 (M 1 0 4) price) 1 0 4 (M 1 0 4 + 1)) = m at *
    have n1 : m 1 0 4 = M 1 0 4 + 1 := by rw [← hm, updM_same]
    have r2 : ∀ r : Int, m 2 0 r = if r = M 1 0 4 then seats else M 2 0 r := fun r => by
      rw [← hm, updM_g (by decide), updM_g (by decide), updM_g (by decide)]
      by_cases e : r = M 1 0 4
      · rw [if_pos e, e, updM_same]
      · rw [if_neg e, updM_j e]
    have r3 : ∀ r : Int, m 3 0 r = if r = M 1 0 4 then score else M 3 0 r := fun r => by
      rw [← hm, updM_g (by decide), updM_g (by decide)]
      by_cases e : r = M 1 0 4
      · rw [if_pos e, e, updM_same]
      · rw [if_neg e, updM_j e, updM_g (by decide)]
    have r4 : ∀ r : Int, m 4 0 r = if r = M 1 0 4 then price else M 4 0 r := fun r => by
      rw [← hm, updM_g (by decide)]
      by_cases e : r = M 1 0 4
      · rw [if_pos e, e, updM_same]
      · rw [if_neg e, updM_j e, updM_g (by decide), updM_g (by decide)]
    have w20 : ∀ r : Int, 0 ≤ r → r < M 1 0 4 → m 2 0 r = M 2 0 r := fun r r0 r1 => by rw [r2, if_neg (by omega)]
    have e0 := G 0 (by decide) (by decide) (by decide) (by decide)
    have e7 := G 7 (by decide) (by decide) (by decide) (by decide)
    have e8 := G 8 (by decide) (by decide) (by decide) (by decide)
    have e9 := G 9 (by decide) (by decide) (by decide) (by decide)
    have e10 := G 10 (by decide) (by decide) (by decide) (by decide)
    have e11 := G 11 (by decide) (by decide) (by decide) (by decide)
    have e12 := G 12 (by decide) (by decide) (by decide) (by decide)
    have e13 := G 13 (by decide) (by decide) (by decide) (by decide)
    have e14 := G 14 (by decide) (by decide) (by decide) (by decide)
    have e15 := G 15 (by decide) (by decide) (by decide) (by decide)
    have ef : fo m = fo M := by funext a; unfold fo; rw [G 6 (by decide) (by decide) (by decide) (by decide)]
    refine ⟨INV_up ?_, ?_, fun g hg => G g (by omega) (by omega) (by omega) (by omega), Or.inr ⟨z, rfl, by omega⟩⟩
    · obtain ⟨a1, ⟨b1, b3⟩, c3, d4, i5⟩ := h
      refine ⟨⟨by omega, by omega, fun r r0 r1 => ?_⟩, ⟨BW_g b1 e7, fun t t1 t2 => ?_⟩, fun a x0 x1 => ?_, fun t t1 t2 => ?_, ?_⟩
      · rw [r2, r3, r4]
        by_cases e : r = M 1 0 4
        · rw [if_pos e, if_pos e, if_pos e]; omega
        · rw [if_neg e, if_neg e, if_neg e]; exact a1.2.2 r r0 (by omega)
      · rw [e7] at t2
        have k := b3 t t1 t2
        unfold TI at k ⊢
        rw [e8, e10, e11, e12, e15]
        exact k
      · obtain ⟨k2, k3⟩ := c3 a x0 x1
        unfold CI
        rw [ef, e7, e8]
        refine ⟨fun v => k2 (fun v2 => v ?_), k3⟩
        unfold vld at v2 ⊢
        rw [n1, w20 (a / 20) (by omega) v2.1]
        exact ⟨by omega, v2.2⟩
      · rw [e7] at t2
        have k := d4 t t1 t2
        rw [e8]
        refine ⟨fun o => ?_, ?_⟩
        · rcases k.1 o with ⟨x, y, u⟩ | x
          · refine Or.inl ⟨?_, ?_, ?_⟩
            · rw [e13, n1]; exact ⟨x.1, by omega⟩
            · rw [e13, e14, e9, w20 _ x.1 x.2]; exact y
            · rw [e13, e14, e9, ef]; exact u
          · refine Or.inr ?_
            unfold spl many at x ⊢
            rw [e13, e9, ef]
            exact x
        · have ws := k.2
          unfold WS at ws ⊢
          rw [e15, e8, e13, n1]
          exact fun o => by have := ws o; omega
      · unfold I5 at i5 ⊢
        rw [e0]
        exact i5
    · unfold ENDS at he ⊢
      rw [e0, e7, e8, e10]
      exact he
/-! a seat is blocked, or free again -/
theorem giveM_f {M : Mem} {row f k ow a : Int} (a0 : 0 ≤ a) (h0 : 0 ≤ f) (h1 : f + k ≤ 20) : fo (giveM M row f k ow) a = if 20 * row + f ≤ a ∧ a < 20 * row + f + k then ow else fo M a := by
  unfold fo giveM
  by_cases q : 20 * row + f ≤ a ∧ a < 20 * row + f + k
  · rw [if_pos q, if_pos ⟨rfl, by omega, by omega, by omega⟩]
  · rw [if_neg q, if_neg (fun x => q (by omega))]
theorem k_toggleBlocked {M m : Mem} {c row seat : Int} {o : OutT} (h : INV M c) (he : ENDS M) (q : Q_toggleBlocked M row seat o m) : GOOD M c o m := by
  rcases q with ⟨rfl, q1, q2⟩ | ⟨rfl, q1, q2⟩ | ⟨z, rfl, q1, q2, q3, rfl⟩
  · exact good_xM h he q2
  · exact good_xM h he q2
  · have wr := h.hw.2.2 row q1.1 q1.2.1
    have n1 := h.hw.2.1
    have v0 : (if M 6 row seat = 0 then (-1 : Int) else 0) = 0 ∨ (if M 6 row seat = 0 then (-1 : Int) else 0) = -1 := by split; exact Or.inr rfl; exact Or.inl rfl
    have i50 := h.2.2.2.2.1
    have z0 : -1 ≤ z ∧ z ≤ 2500000 + 1000 * c := by rw [q3]; split <;> omega
    generalize (if M 6 row seat = 0 then (-1 : Int) else 0) = v at *
    have G : ∀ g : Nat, g ≠ 6 → giveM M row seat 1 v g = M g := fun g g1 => giveM_g g1
    have cell : ∀ a : Int, 0 ≤ a → fo (giveM M row seat 1 v) a = if a = 20 * row + seat then v else fo M a := fun a a0 => by
      rw [giveM_f a0 q1.2.2.1 (by omega)]
      by_cases e : a = 20 * row + seat
      · rw [if_pos e, if_pos (by omega)]
      · rw [if_neg e, if_neg (by omega)]
    have old : fo M (20 * row + seat) ≤ 0 := by rw [fo_at q1.2.2.1 (by omega)]; exact q2
    have kt : ∀ t : Int, keepT M (giveM M row seat 1 v) t := fun t => keepT_o (fun g g1 g2 => by rw [G g (by omega)])
    have kh : keepH M (giveM M row seat 1 v) := ⟨G 1 (by decide), G 2 (by decide), G 3 (by decide), G 4 (by decide)⟩
    have k7 := G 7 (by decide)
    refine ⟨INV_up ?_, ?_, fun g hg => G g (by omega), Or.inr ⟨z, rfl, z0⟩⟩
    · obtain ⟨h1, ⟨b1, b3⟩, c3, d4, i5⟩ := h
      refine ⟨keep_hw kh h1, ⟨BW_g b1 k7, fun t t1 t2 => keep_ti (kt t) (b3 t t1 (by rw [← k7]; exact t2))⟩, fun a x0 x1 => ?_, fun t t1 t2 => ?_, ?_⟩
      · obtain ⟨k2, k3⟩ := c3 a x0 x1
        unfold CI vld
        rw [cell a x0, kh.1, kh.2.1, k7, G 8 (by decide)]
        by_cases e : a = 20 * row + seat
        · rw [if_pos e]
          refine ⟨fun x => absurd ⟨?_, ?_⟩ x, by omega⟩
          · rw [show a / 20 = row by omega]; exact q1.2.1
          · rw [show a / 20 = row by omega]; omega
        · rw [if_neg e]
          exact ⟨k2, k3⟩
      · rw [k7] at t2
        have k := d4 t t1 t2
        refine ⟨fun o2 => keep_bs (kt t) kh.1 kh.2.1 (fun a x0 x1 => ?_) (k.1 (by rw [← (kt t).1]; exact o2)), keep_ws (kt t) kh.1 k.2⟩
        rw [cell a x0]
        by_cases e : a = 20 * row + seat
        · rw [if_pos e, e]; omega
        · rw [if_neg e]
      · unfold I5 at i5 ⊢
        rw [G 0 (by decide)]
        exact i5
    · unfold ENDS at he ⊢
      rw [G 0 (by decide), k7, G 8 (by decide), G 10 (by decide)]
      exact he
/-! a hold of one block -/
theorem openM_t {M : Mem} {a b t : Int} (ht : t ≠ M 7 0 8 + 1) {g : Nat} (hg : g ≠ 7) : openM M a b g 0 t = M g 0 t := by
  unfold openM
  rw [updM_x ht, updM_x ht, updM_x ht, updM_x ht, updM_x ht, updM_x ht, updM_x ht, updM_x ht, updM_g hg]
theorem openM_n {M : Mem} {a b : Int} : openM M a b 8 0 (M 7 0 8 + 1) = 0 ∧ openM M a b 9 0 (M 7 0 8 + 1) = a ∧ openM M a b 10 0 (M 7 0 8 + 1) = b ∧ openM M a b 11 0 (M 7 0 8 + 1) = 0 ∧ openM M a b 12 0 (M 7 0 8 + 1) = 0 ∧ openM M a b 13 0 (M 7 0 8 + 1) = -1 ∧ openM M a b 14 0 (M 7 0 8 + 1) = -1 ∧ openM M a b 15 0 (M 7 0 8 + 1) = -1 := by
  simp [openM, updM]
theorem grM_t {M : Mem} {row f k a t : Int} (ht : t ≠ M 7 0 8 + 1) {g : Nat} (hg : g ≠ 7) (h6 : g ≠ 6) : grM M row f k a g 0 t = M g 0 t := by
  unfold grM
  rw [giveM_g h6, updM_x ht, updM_x ht, openM_t ht hg]
theorem grM_g {M : Mem} {row f k a : Int} {g : Nat} (h : g < 6 ∨ 15 < g) : grM M row f k a g = M g := by
  unfold grM
  rw [giveM_g (by omega), updM_g (by omega), updM_g (by omega), openM_g (by omega)]
theorem grM_T {M : Mem} {row f k a : Int} : grM M row f k a 7 0 8 = M 7 0 8 + 1 := by
  unfold grM
  rw [giveM_g (by decide), updM_g (by decide), updM_g (by decide), openM_T]
theorem grM_n {M : Mem} {row f k a : Int} : grM M row f k a 8 0 (M 7 0 8 + 1) = 0 ∧ grM M row f k a 9 0 (M 7 0 8 + 1) = k ∧ grM M row f k a 10 0 (M 7 0 8 + 1) = M 0 0 4 + a ∧ grM M row f k a 11 0 (M 7 0 8 + 1) = 0 ∧ grM M row f k a 12 0 (M 7 0 8 + 1) = 0 ∧ grM M row f k a 13 0 (M 7 0 8 + 1) = row ∧ grM M row f k a 14 0 (M 7 0 8 + 1) = f ∧ grM M row f k a 15 0 (M 7 0 8 + 1) = -1 := by
  have o := openM_n (M := M) (a := k) (b := M 0 0 4 + a)
  unfold grM
  rw [giveM_g (by decide), giveM_g (by decide), giveM_g (by decide), giveM_g (by decide), giveM_g (by decide), giveM_g (by decide), giveM_g (by decide), giveM_g (by decide)]
  rw [updM_same, updM_g (show (8 : Nat) ≠ 14 by decide), updM_g (show (8 : Nat) ≠ 13 by decide), updM_g (show (9 : Nat) ≠ 14 by decide), updM_g (show (9 : Nat) ≠ 13 by decide), updM_g (show (10 : Nat) ≠ 14 by decide), updM_g (show (10 : Nat) ≠ 13 by decide), updM_g (show (11 : Nat) ≠ 14 by decide), updM_g (show (11 : Nat) ≠ 13 by decide), updM_g (show (12 : Nat) ≠ 14 by decide), updM_g (show (12 : Nat) ≠ 13 by decide), updM_g (show (13 : Nat) ≠ 14 by decide), updM_same, updM_g (show (15 : Nat) ≠ 14 by decide), updM_g (show (15 : Nat) ≠ 13 by decide)]
  exact ⟨o.1, o.2.1, o.2.2.1, o.2.2.2.1, o.2.2.2.2.1, rfl, rfl, o.2.2.2.2.2.2.2⟩
theorem grM_f {M : Mem} {row f k a x : Int} (x0 : 0 ≤ x) (h0 : 0 ≤ f) (h1 : f + k ≤ 20) : fo (grM M row f k a) x = if 20 * row + f ≤ x ∧ x < 20 * row + f + k then M 7 0 8 + 1 else fo M x := by
  unfold grM
  rw [giveM_f x0 h0 h1]
  have e : fo (updM (updM (openM M k (M 0 0 4 + a)) 13 0 (M 7 0 8 + 1) row) 14 0 (M 7 0 8 + 1) f) x = fo M x := by
    unfold fo
    rw [updM_g (by decide), updM_g (by decide), openM_g (by decide)]
  rw [e]
theorem new_blk {M : Mem} {c row first seats minutes z : Int} (h : INV M c) (he : ENDS M) (hT : M 7 0 8 < 100) (hr : 0 ≤ row ∧ row < M 1 0 4) (hb : 0 ≤ first ∧ 1 ≤ seats ∧ first + seats ≤ M 2 0 row) (ha : allF (M 6 row) first seats) (hmi : 1 ≤ minutes ∧ minutes ≤ 200) (hz : z = M 7 0 8 + 1) : GOOD M c (.inl (some z)) (grM M row first seats minutes) := by
  have w := h.hw.2.2 row hr.1 hr.2
  have n1 := h.hw.2.1
  have b0 := h.bw.1
  have i5 := h.2.2.2.2.1
  have G := grM_n (M := M) (row := row) (f := first) (k := seats) (a := minutes)
  have cell : ∀ a : Int, 0 ≤ a → fo (grM M row first seats minutes) a = if 20 * row + first ≤ a ∧ a < 20 * row + first + seats then M 7 0 8 + 1 else fo M a := fun a a0 => grM_f a0 hb.1 (by omega)
  have free : ∀ a : Int, 0 ≤ a → a < 240 → 20 * row + first ≤ a ∧ a < 20 * row + first + seats → fo M a = 0 ∧ vld M a := fun a a0 a1 q => by
    have r : a / 20 = row := by omega
    refine ⟨?_, ?_⟩
    · unfold fo; rw [r]; exact ha _ (by omega) (by omega)
    · unfold vld; rw [r]; exact ⟨hr.2, by omega⟩
  refine ⟨INV_up (INV_new (n := M 7 0 8 + 1) h hT rfl ⟨grM_g (by decide), grM_g (by decide), grM_g (by decide), grM_g (by decide)⟩ (grM_g (by decide)) grM_T (fun t ht => keepT_o (fun g g1 g2 => grM_t ht (by omega) (by omega))) G.1 ?_ G.2.2.2.1 G.2.2.2.2.1 G.2.2.2.2.2.2.2 (fun a a0 a1 => ?_) (Or.inl ⟨?_, ?_, fun a a0 a1 => ?_⟩)), ?_, fun g hg => grM_g (by omega), Or.inr ⟨z, rfl, by omega⟩⟩
  · rw [G.2.2.1]; omega
  · rw [cell a a0]
    by_cases q : 20 * row + first ≤ a ∧ a < 20 * row + first + seats
    · rw [if_pos q]
      have := free a a0 a1 q
      exact Or.inr ⟨this.1, this.2, rfl⟩
    · rw [if_neg q]; exact Or.inl rfl
  · rw [G.2.2.2.2.2.1, grM_g (by decide)]; exact hr
  · rw [G.2.2.2.2.2.2.1, G.2.1, G.2.2.2.2.2.1, grM_g (by decide)]; exact hb
  · rw [cell a a0, G.2.2.2.2.2.2.1, G.2.1, G.2.2.2.2.2.1]
    by_cases q : 20 * row + first ≤ a ∧ a < 20 * row + first + seats
    · rw [if_pos q]
      exact ⟨fun _ => q, fun _ => rfl⟩
    · rw [if_neg q]
      have := (h.2.2.1 a a0 a1).2
      exact ⟨fun x => by omega, fun x => absurd x q⟩
  · refine ENDS_one (n := M 7 0 8 + 1) he (by rw [grM_g (by decide)]) (fun t t1 t2 t3 => ?_) (fun t t1 ht => Or.inl ⟨grM_t ht (by decide) (by decide), grM_t ht (by decide) (by decide)⟩) (fun _ => ?_)
    · rw [grM_T] at t2; omega
    · rw [G.2.2.1]; omega
theorem k_hold {M m : Mem} {c seats minutes : Int} {o : OutT} (h : INV M c) (he : ENDS M) (q : Q_hold M seats minutes o m) : GOOD M c o m := by
  rcases q with ⟨rfl, q1, q2⟩ | ⟨rfl, q1, q2⟩ | ⟨z, rfl, q1, q2, b, ⟨q3, q4⟩, q5, rfl⟩
  · exact good_xM h he q2
  · exact good_xM h he q2
  · have ba := bestG_at q1.1.1 (fun r r0 r1 => (h.hw.2.2 r r0 r1).2.1) q3 q4
    exact new_blk h he q2 ⟨ba.1, ba.2.1⟩ ⟨ba.2.2.1, q1.1.1, ba.2.2.2.1⟩ ba.2.2.2.2.1 q1.2 q5
theorem k_holdAt {M m : Mem} {c row first seats minutes : Int} {o : OutT} (h : INV M c) (he : ENDS M) (q : Q_holdAt M row first seats minutes o m) : GOOD M c o m := by
  rcases q with ⟨rfl, q1, q2⟩ | ⟨rfl, q1, q2⟩ | ⟨rfl, q1, q2⟩ | ⟨z, rfl, q1, q2, q3, q4, rfl⟩
  · exact good_xM h he q2
  · exact good_xM h he q2
  · exact good_xM h he q2
  · exact new_blk h he q3 ⟨q1.1.1, q1.1.2.1⟩ ⟨q2.2.1, q2.1, q2.2.2.1⟩ q2.2.2.2 q1.2.2 q4
/-! one ticket's numbers -/
theorem k_extend {M m : Mem} {c ticket minutes : Int} {o : OutT} (h : INV M c) (he : ENDS M) (q : Q_extend M ticket minutes o m) : GOOD M c o m := by
  rcases q with ⟨rfl, q1, q2⟩ | ⟨rfl, q1, q2⟩ | ⟨rfl, q1, q2⟩ | ⟨z, rfl, q1, q2, q3, rfl⟩
  · exact good_xM h he q2
  · exact good_xM h he q2
  · exact good_xM h he q2
  · have ti := h.2.1.2 ticket q1.1.1 q1.1.2
    have ws := (h.2.2.2.1 ticket q1.1.1 q1.1.2).2
    have now := h.2.2.2.2.1
    have G : ∀ g : Nat, g ≠ 10 → g ≠ 11 → updM (updM M 10 0 ticket (M 0 0 4 + minutes)) 11 0 ticket (M 11 0 ticket + 1) g = M g := fun g a b => by rw [updM_g b, updM_g a]
    have v10 : updM (updM M 10 0 ticket (M 0 0 4 + minutes)) 11 0 ticket (M 11 0 ticket + 1) 10 0 ticket = M 0 0 4 + minutes := by rw [updM_g (by decide), updM_same]
    have v11 : updM (updM M 10 0 ticket (M 0 0 4 + minutes)) 11 0 ticket (M 11 0 ticket + 1) 11 0 ticket = M 11 0 ticket + 1 := updM_same
    have kt : ∀ t : Int, t ≠ ticket → ∀ g : Nat, updM (updM M 10 0 ticket (M 0 0 4 + minutes)) 11 0 ticket (M 11 0 ticket + 1) g 0 t = M g 0 t := fun t ht g => by rw [updM_x ht, updM_x ht]
    generalize updM (updM M 10 0 ticket (M 0 0 4 + minutes)) 11 0 ticket (M 11 0 ticket + 1) = m at *
    refine ⟨INV_up (INV_tk (n := ticket) h q1.1 (fun g hg => G g (by omega) (by omega)) (fun t ht => keepT_o (fun g _ _ => kt t ht g)) ?_ ?_ ?_ ?_ ?_ ?_ ?_), ?_, fun g hg => G g (by omega) (by omega), Or.inr ⟨z, rfl, by omega⟩⟩
    · rw [G 8 (by decide) (by decide)]; omega
    · omega
    · rw [G 9 (by decide) (by decide)]
    · rw [G 13 (by decide) (by decide)]
    · rw [G 14 (by decide) (by decide)]
    · unfold TI at ti ⊢
      rw [G 8 (by decide) (by decide), v10, v11, G 12 (by decide) (by decide), G 15 (by decide) (by decide)]
      exact ⟨ti.1, by omega, by have := ti.2.2.1; omega, ti.2.2.2⟩
    · unfold WS at ws ⊢
      rw [G 15 (by decide) (by decide), G 8 (by decide) (by decide), G 13 (by decide) (by decide), G 1 (by decide) (by decide)]
      exact ws
    · refine ENDS_one (n := ticket) he (by rw [G 0 (by decide) (by decide)]) (fun t t1 t2 t3 => ?_) (fun t t1 ht => Or.inl ⟨kt t ht 8, kt t ht 10⟩) (fun _ => ?_)
      · rw [G 7 (by decide) (by decide)] at t2; exact t2
      · rw [v10]; omega
theorem k_pay {M m : Mem} {c ticket : Int} {o : OutT} (h : INV M c) (he : ENDS M) (q : Q_pay M ticket o m) : GOOD M c o m := by
  rcases q with ⟨rfl, q1, q2⟩ | ⟨rfl, q1, q2⟩ | ⟨z, rfl, q1, q2, q3, rfl⟩
  · exact good_xM h he q2
  · exact good_xM h he q2
  · have ti := h.2.1.2 ticket q1.1 q1.2
    have ws := (h.2.2.2.1 ticket q1.1 q1.2).2
    have pb : 0 ≤ priceM M ticket ∧ priceM M ticket ≤ 2400000 := price_bd h.hw ticket
    have i50 := h.2.2.2.2.1
    have z0 : -1 ≤ z ∧ z ≤ 2500000 + 1000 * c := by rw [q3]; omega
    generalize priceM M ticket = pr at *
    have G : ∀ g : Nat, g ≠ 8 → g ≠ 12 → updM (updM M 8 0 ticket 1) 12 0 ticket pr g = M g := fun g a b => by rw [updM_g b, updM_g a]
    have v8 : updM (updM M 8 0 ticket 1) 12 0 ticket pr 8 0 ticket = 1 := by rw [updM_g (by decide), updM_same]
    have v12 : updM (updM M 8 0 ticket 1) 12 0 ticket pr 12 0 ticket = pr := updM_same
    have kt : ∀ t : Int, t ≠ ticket → ∀ g : Nat, updM (updM M 8 0 ticket 1) 12 0 ticket pr g 0 t = M g 0 t := fun t ht g => by rw [updM_x ht, updM_x ht]
    generalize updM (updM M 8 0 ticket 1) 12 0 ticket pr = m at *
    have hX : INV m c := by
      refine INV_tk (n := ticket) h q1 (fun g hg => G g (by omega) (by omega)) (fun t ht => keepT_o (fun g _ _ => kt t ht g)) ?_ ?_ ?_ ?_ ?_ ?_ ?_
      · rw [v8]; omega
      · omega
      · rw [G 9 (by decide) (by decide)]
      · rw [G 13 (by decide) (by decide)]
      · rw [G 14 (by decide) (by decide)]
      · unfold TI at ti ⊢
        rw [v8, G 10 (by decide) (by decide), G 11 (by decide) (by decide), v12, G 15 (by decide) (by decide)]
        exact ⟨by omega, ti.2.1, ti.2.2.1, pb, fun q => absurd rfl q⟩
      · unfold WS at ws ⊢
        rw [G 15 (by decide) (by decide), v8, G 13 (by decide) (by decide), G 1 (by decide) (by decide)]
        exact fun x => by have := ws x; omega
    refine ⟨INV_zero (a := 0) (b := pr) hX (fun g g0 g1 => updM_g g0) (by rw [updM_j (by decide)]; omega) (by rw [updM_same, G 0 (by decide) (by decide)]) (by omega) (by omega), ?_, fun g hg => by rw [updM_g (by omega)]; exact G g (by omega) (by omega), Or.inr ⟨z, rfl, z0⟩⟩
    refine ENDS_one (n := ticket) he (by rw [updM_j (by decide), G 0 (by decide) (by decide)]) (fun t t1 t2 t3 => ?_) (fun t t1 ht => Or.inl ⟨?_, ?_⟩) (fun x => ?_)
    · rw [updM_g (by decide), G 7 (by decide) (by decide)] at t2; exact t2
    · rw [updM_g (by decide)]; exact kt t ht 8
    · rw [updM_g (by decide)]; exact kt t ht 10
    · rw [updM_g (by decide), v8] at x; omega
theorem k_wish {M m : Mem} {c ticket row : Int} {o : OutT} (h : INV M c) (he : ENDS M) (q : Q_wish M ticket row o m) : GOOD M c o m := by
  rcases q with ⟨rfl, q1, q2⟩ | ⟨rfl, q1, q2⟩ | ⟨z, rfl, q1, q2, q3, rfl⟩
  · exact good_xM h he q2
  · exact good_xM h he q2
  · have ti := h.2.1.2 ticket q1.1.1 q1.1.2
    have ws := (h.2.2.2.1 ticket q1.1.1 q1.1.2).2
    have i50 := h.2.2.2.2.1
    have n12 := h.hw.2.1
    have z0 : -1 ≤ z ∧ z ≤ 2500000 + 1000 * c := by
      rw [q3]
      by_cases e : M 15 0 ticket = -1
      · omega
      · have := (ws e).2.2; omega
    have G : ∀ g : Nat, g ≠ 15 → updM M 15 0 ticket row g = M g := fun g a => updM_g a
    have v15 : updM M 15 0 ticket row 15 0 ticket = row := updM_same
    have kt : ∀ t : Int, t ≠ ticket → ∀ g : Nat, updM M 15 0 ticket row g 0 t = M g 0 t := fun t ht g => updM_x ht
    generalize updM M 15 0 ticket row = m at *
    refine ⟨INV_up (INV_tk (n := ticket) h q1.1 (fun g hg => G g (by omega)) (fun t ht => keepT_o (fun g _ _ => kt t ht g)) ?_ ?_ ?_ ?_ ?_ ?_ ?_), ?_, fun g hg => G g (by omega), Or.inr ⟨z, rfl, z0⟩⟩
    · rw [G 8 (by decide)]; omega
    · omega
    · rw [G 9 (by decide)]
    · rw [G 13 (by decide)]
    · rw [G 14 (by decide)]
    · unfold TI at ti ⊢
      rw [G 8 (by decide), G 10 (by decide), G 11 (by decide), G 12 (by decide), v15]
      exact ⟨ti.1, ti.2.1, ti.2.2.1, ti.2.2.2.1, fun x => absurd q2.1 x⟩
    · unfold WS
      rw [v15, G 8 (by decide), G 13 (by decide), G 1 (by decide)]
      exact fun _ => ⟨q2.1, q2.2.1, q1.2⟩
    · unfold ENDS at he ⊢
      rw [G 0 (by decide), G 7 (by decide), G 8 (by decide), G 10 (by decide)]
      exact he
/-! a ticket is closed -/
theorem clM_f {M : Mem} {t how a : Int} (hz : ∀ a : Int, 0 ≤ a → a < 240 → ¬ vld M a → fo M a ≠ t) (a0 : 0 ≤ a) (a1 : a < 240) : fo (clM M t how) a = if fo M a = t then 0 else fo M a := by
  have e : fo (clM M t how) a = fo (relM M t (M 1 0 4) 0) a := by
    unfold fo clM
    rw [updM_g (by decide), updM_g (by decide)]
  rw [e]
  show (if (6 : Nat) = 6 ∧ 0 ≤ a / 20 ∧ 0 ≤ a % 20 ∧ a % 20 < M 2 0 (a / 20) ∧ (a / 20 < M 1 0 4 ∨ (a / 20 = M 1 0 4 ∧ a % 20 < 0)) ∧ M 6 (a / 20) (a % 20) = t then 0 else M 6 (a / 20) (a % 20)) = if fo M a = t then 0 else fo M a
  by_cases q : fo M a = t
  · have v : vld M a := by
      by_cases v : vld M a
      · exact v
      · exact absurd q (hz a a0 a1 v)
    rw [if_pos q, if_pos ⟨rfl, by omega, by omega, v.2, Or.inl v.1, q⟩]
  · rw [if_neg q, if_neg (fun x => q x.2.2.2.2.2)]
    rfl
theorem INV.nz {M : Mem} {c t : Int} (h : INV M c) (t1 : 1 ≤ t) : ∀ a : Int, 0 ≤ a → a < 240 → ¬ vld M a → fo M a ≠ t := fun a a0 a1 v e => by
  have := (h.2.2.1 a a0 a1).1 v
  omega
theorem clM_t {M : Mem} {t how x : Int} (hx : x ≠ t) {g : Nat} (h6 : g ≠ 6) : clM M t how g 0 x = M g 0 x := by
  unfold clM
  rw [updM_x hx, updM_x hx, relM_g h6]
theorem clM_8 {M : Mem} {t how : Int} : clM M t how 8 0 t = how := by
  unfold clM
  rw [updM_g (by decide), updM_same]
theorem clM_15 {M : Mem} {t how : Int} : clM M t how 15 0 t = -1 := by
  unfold clM
  exact updM_same
theorem INV_clM {M : Mem} {c t how : Int} (h : INV M c) (ht : 1 ≤ t ∧ t ≤ M 7 0 8) (hh : how = 2 ∨ how = 3) : INV (clM M t how) c := by
  refine INV_clo (n := t) (how := how) h ht hh ⟨clM_g (by decide) (by decide) (by decide), clM_g (by decide) (by decide) (by decide), clM_g (by decide) (by decide) (by decide), clM_g (by decide) (by decide) (by decide)⟩ (clM_g (by decide) (by decide) (by decide)) (clM_g (by decide) (by decide) (by decide)) (fun x hx => keepT_o (fun g g1 g2 => clM_t hx (by omega))) clM_8 ?_ ?_ ?_ clM_15 (fun a a0 a1 => clM_f (h.nz ht.1) a0 a1)
  · rw [clM_g (by decide) (by decide) (by decide)]
  · rw [clM_g (by decide) (by decide) (by decide)]
  · rw [clM_g (by decide) (by decide) (by decide)]
theorem k_cancel {M m : Mem} {c ticket : Int} {o : OutT} (h : INV M c) (he : ENDS M) (q : Q_cancel M ticket o m) : GOOD M c o m := by
  rcases q with ⟨rfl, q1, q2⟩ | ⟨rfl, q1, q2⟩ | ⟨z, rfl, q1, q2, q3, rfl⟩
  · exact good_xM h he q2
  · exact good_xM h he q2
  · have hX := INV_clM (how := 3) h q1 (Or.inr rfl)
    have pd := h.pd ticket q1.1 q1.2
    have i50 := h.2.2.2.2.1
    refine ⟨INV_zero (a := 0) (b := -(M 12 0 ticket)) hX (fun g g0 g1 => updM_g g0) (by rw [updM_j (by decide)]; omega) (by rw [updM_same, clM_g (by decide) (by decide) (by decide)]; omega) (by omega) (by omega), ?_, fun g hg => by rw [updM_g (by omega), clM_g (by omega) (by omega) (by omega)], Or.inr ⟨z, rfl, by omega⟩⟩
    refine ENDS_one (n := ticket) he (by rw [updM_j (by decide), clM_g (by decide) (by decide) (by decide)]) (fun t t1 t2 t3 => ?_) (fun t t1 ht => Or.inl ⟨?_, ?_⟩) (fun x => ?_)
    · rw [updM_g (by decide), clM_g (by decide) (by decide) (by decide)] at t2; exact t2
    · rw [updM_g (by decide), clM_t ht (by decide)]
    · rw [updM_g (by decide), clM_t ht (by decide)]
    · rw [updM_g (by decide), clM_8] at x; omega
/-! time passes -/
theorem psS_inv {M : Mem} {c : Int} (h : INV M c) : ∀ j : Nat, (j : Int) ≤ M 7 0 8 → INV (psS M j) c ∧ (∀ t : Int, (j : Int) < t → psS M j 8 0 t = M 8 0 t) ∧ ∀ t : Int, 1 ≤ t → t ≤ (j : Int) → psS M j 8 0 t = 0 → M 8 0 t = 0 ∧ M 0 0 4 < M 10 0 t
  | 0, _ => ⟨h, fun _ _ => rfl, fun t t1 t2 => by omega⟩
  | j + 1, hj => by
    obtain ⟨i1, i2, i3⟩ := psS_inv h j (by omega)
    have g7 : psS M j 7 = M 7 := psS_g (by decide) (by decide) (by decide) j
    have g10 : psS M j 10 = M 10 := psS_g (by decide) (by decide) (by decide) j
    by_cases q : psS M j 8 0 ((j : Int) + 1) = 0 ∧ psS M j 10 0 ((j : Int) + 1) ≤ M 0 0 4
    · have e : psS M (j + 1) = clM (psS M j) ((j : Int) + 1) 2 := by simp only [psS]; rw [if_pos q]
      rw [e]
      refine ⟨INV_clM i1 ⟨by omega, by rw [g7]; omega⟩ (Or.inl rfl), fun t ht => ?_, fun t t1 t2 t3 => ?_⟩
      · rw [clM_t (by omega) (by decide)]; exact i2 t (by omega)
      · by_cases et : t = (j : Int) + 1
        · rw [et, clM_8] at t3; omega
        · rw [clM_t et (by decide)] at t3
          exact i3 t t1 (by omega) t3
    · have e : psS M (j + 1) = psS M j := by simp only [psS]; rw [if_neg q]
      rw [e]
      refine ⟨i1, fun t ht => i2 t (by omega), fun t t1 t2 t3 => ?_⟩
      by_cases et : t = (j : Int) + 1
      · rw [et] at t3 ⊢
        rw [g10] at q
        have e8 := i2 ((j : Int) + 1) (by omega)
        exact ⟨e8 ▸ t3, by omega⟩
      · exact i3 t t1 (by omega) t3
theorem k_pass {M m : Mem} {c minutes : Int} {o : OutT} (h : INV M c) (he : ENDS M) (q : Q_pass M minutes o m) : GOOD M c o m := by
  rcases q with ⟨rfl, q1, q2⟩ | ⟨z, rfl, q1, q2, rfl⟩
  · exact good_xM h he q2
  · have b := h.bw.1
    have hX : INV (updM M 0 0 4 (M 0 0 4 + minutes)) (c + 1) := INV_zero (a := minutes) (b := 0) h (fun g g0 g1 => updM_g g0) updM_same (by rw [updM_j (by decide)]; omega) (by omega) (by omega)
    have u7 : updM M 0 0 4 (M 0 0 4 + minutes) 7 = M 7 := updM_g (by decide)
    have u8 : updM M 0 0 4 (M 0 0 4 + minutes) 8 = M 8 := updM_g (by decide)
    have u10 : updM M 0 0 4 (M 0 0 4 + minutes) 10 = M 10 := updM_g (by decide)
    have u0 : updM M 0 0 4 (M 0 0 4 + minutes) 0 0 4 = M 0 0 4 + minutes := updM_same
    have P := psS_inv hX (M 7 0 8).toNat (by rw [u7]; omega)
    have i50 := h.2.2.2.2.1
    have b100 := h.bw.2
    have z0 : -1 ≤ z ∧ z ≤ 2500000 + 1000 * c := by
      rw [q2]
      have := psC_bd (updM M 0 0 4 (M 0 0 4 + minutes)) (M 7 0 8).toNat
      unfold passC
      omega
    refine ⟨P.1, ?_, fun g hg => ?_, Or.inr ⟨z, rfl, z0⟩⟩
    · intro t t1 t2 t3
      have k := P.2.2 t t1 (by
        unfold passM at t2
        rw [psS_g (by decide) (by decide) (by decide), u7] at t2
        omega) t3
      unfold passM
      rw [psS_g (by decide) (by decide) (by decide), psS_g (by decide) (by decide) (by decide), u10, u0]
      rw [u8, u10, u0] at k
      have e := he t t1 (by
        unfold passM at t2
        rw [psS_g (by decide) (by decide) (by decide), u7] at t2
        exact t2) k.1
      omega
    · unfold passM
      rw [psS_g (by omega) (by omega) (by omega), updM_g (by omega)]
