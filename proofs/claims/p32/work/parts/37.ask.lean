/-! what the checks ask, where it answers -/
def stV (M : Mem) (r s : Int) : Int := if M 6 r s = 0 then 0 else if M 6 r s = -1 then 3 else if M 8 0 (M 6 r s) = 0 then 1 else 2
def frC (M : Mem) (r : Int) : Int := sumI (fun s => if M 6 r s = 0 then 1 else 0) (M 2 0 r)
def orS (M : Mem) : Int := sumI (fun r => sumI (orC (M 2 0 r) (M 6 r)) (M 2 0 r)) (M 1 0 4)
theorem rV_sw (K : WPar) : rV (swK K) 0 0 = rV K 30 0 := rfl
theorem sw_rI {K : WPar} {l : Launch} {μ : MInfo} {avs : List Value} {M : Mem} {z z' : Int} (h : CT (swK K) l μ avs (swM M) (rI z (swM M))) (e : z = z') : CT K l μ avs M (rI z' M) :=
  CT_mono (CT_sw h) (fun o m _ q => by
    have h2 := congrArg swM (show swM m = swM M from q.2)
    rw [swM_swM, swM_swM] at h2
    exact ⟨e ▸ q.1, h2⟩)
theorem sw_rR {K : WPar} {l : Launch} {μ : MInfo} {avs : List Value} {M : Mem} {R R' : Int → Prop} (h : CT (swK K) l μ avs (swM M) (rR R (swM M))) (e : ∀ z, R z → R' z) : CT K l μ avs M (rR R' M) :=
  CT_mono (CT_sw h) (fun o m _ q => by
    obtain ⟨z, q1, q2, q3⟩ := q
    have h2 := congrArg swM (show swM m = swM M from q3)
    rw [swM_swM, swM_swM] at h2
    exact ⟨z, q1, e z q2, h2⟩)
section KCG
variable {M M' : Mem}
theorem S16.st (s : S16 M M') (r x : Int) : stV M' r x = stV M r x := by unfold stV; rw [s 6 (by decide), s 8 (by decide)]
theorem S16.fc (s : S16 M M') (r : Int) : frC M' r = frC M r := by unfold frC; rw [s 6 (by decide), s 2 (by decide)]
theorem S16.os (s : S16 M M') : orS M' = orS M := by unfold orS; rw [s 6 (by decide), s 2 (by decide), s 1 (by decide)]
theorem S16.so (s : S16 M M') (t : Int) : soM M' t = soM M t := by unfold soM; rw [s 8 (by decide), s 9 (by decide)]
theorem S16.pr (s : S16 M M') (t : Int) : priceM M' t = priceM M t := by unfold priceM; rw [s 6 (by decide), s 4 (by decide), s 2 (by decide), s 1 (by decide)]
end KCG
theorem k_state {K : WPar} {l : Launch} (hst : l.stackTraces = false) (M : Mem) {c : Int} (h : INV M c) (row : Int) (seat : Int) (hv : 0 ≤ row ∧ row < M 1 0 4 ∧ 0 ≤ seat ∧ seat < M 2 0 row) : CT K l iX4_state [rV K 0 0, iV row, iV seat] M (rI (stV M row seat) M) :=
  CT_mono (c_X4_state hst M row seat (by have n := h.hw.2.1; have b := h.bw.2;  have w := h.hw.2.2 row hv.1 hv.2.1; omega) (by have n := h.hw.2.1; have b := h.bw.2;  have w := h.hw.2.2 row hv.1 hv.2.1; omega) h.hw h.bw h.vo) (fun o m _ q => by
    rcases q with ⟨_, q, _⟩ | ⟨z, e, q1, q2, q3⟩
    · exact absurd hv q
    · exact ⟨e.trans (congrArg (fun y => Sum.inl (some y)) q2), q3⟩)
theorem k2_state {K : WPar} {l : Launch} (hst : l.stackTraces = false) (M : Mem) {c : Int} (h : INV M c) (heq : EQ2 M) (row : Int) (seat : Int) (hv : 0 ≤ row ∧ row < M 1 0 4 ∧ 0 ≤ seat ∧ seat < M 2 0 row) : CT K l iX4_state [rV K 30 0, iV row, iV seat] M (rI (stV M row seat) M) :=
  sw_rI (k_state (K := swK K) hst (swM M) (INV_cg heq.s h) row seat (by rw [heq.s 1 (by decide), heq.s 2 (by decide)]; exact hv)) (heq.s.st _ _)
theorem k_ticketAt {K : WPar} {l : Launch} (hst : l.stackTraces = false) (M : Mem) {c : Int} (h : INV M c) (row : Int) (seat : Int) (hv : 0 ≤ row ∧ row < M 1 0 4 ∧ 0 ≤ seat ∧ seat < M 2 0 row) : CT K l iX4_ticketAt [rV K 0 0, iV row, iV seat] M (rI (max (M 6 row seat) 0) M) :=
  CT_mono (c_X4_ticketAt hst M row seat (by have n := h.hw.2.1; have b := h.bw.2;  have w := h.hw.2.2 row hv.1 hv.2.1; omega) (by have n := h.hw.2.1; have b := h.bw.2;  have w := h.hw.2.2 row hv.1 hv.2.1; omega) h.hw) (fun o m _ q => by
    rcases q with ⟨_, q, _⟩ | ⟨z, e, q1, q2, q3⟩
    · exact absurd hv q
    · exact ⟨e.trans (congrArg (fun y => Sum.inl (some y)) q2), q3⟩)
theorem k2_ticketAt {K : WPar} {l : Launch} (hst : l.stackTraces = false) (M : Mem) {c : Int} (h : INV M c) (heq : EQ2 M) (row : Int) (seat : Int) (hv : 0 ≤ row ∧ row < M 1 0 4 ∧ 0 ≤ seat ∧ seat < M 2 0 row) : CT K l iX4_ticketAt [rV K 30 0, iV row, iV seat] M (rI (max (M 6 row seat) 0) M) :=
  sw_rI (k_ticketAt (K := swK K) hst (swM M) (INV_cg heq.s h) row seat (by rw [heq.s 1 (by decide), heq.s 2 (by decide)]; exact hv)) (by rw [heq.s 6 (by decide)])
theorem k_value {K : WPar} {l : Launch} (hst : l.stackTraces = false) (M : Mem) {c : Int} (h : INV M c) (row : Int) (seat : Int) (hv : 0 ≤ row ∧ row < M 1 0 4 ∧ 0 ≤ seat ∧ seat < M 2 0 row) : CT K l iX4_value [rV K 0 0, iV row, iV seat] M (rI (vS (M 3 0 row) (M 2 0 row) seat) M) :=
  CT_mono (c_X4_value hst M row seat (by have n := h.hw.2.1; have b := h.bw.2;  have w := h.hw.2.2 row hv.1 hv.2.1; omega) (by have n := h.hw.2.1; have b := h.bw.2;  have w := h.hw.2.2 row hv.1 hv.2.1; omega) h.hw) (fun o m _ q => by
    rcases q with ⟨_, q, _⟩ | ⟨z, e, q1, q2, q3⟩
    · exact absurd hv q
    · exact ⟨e.trans (congrArg (fun y => Sum.inl (some y)) q2), q3⟩)
theorem k2_value {K : WPar} {l : Launch} (hst : l.stackTraces = false) (M : Mem) {c : Int} (h : INV M c) (heq : EQ2 M) (row : Int) (seat : Int) (hv : 0 ≤ row ∧ row < M 1 0 4 ∧ 0 ≤ seat ∧ seat < M 2 0 row) : CT K l iX4_value [rV K 30 0, iV row, iV seat] M (rI (vS (M 3 0 row) (M 2 0 row) seat) M) :=
  sw_rI (k_value (K := swK K) hst (swM M) (INV_cg heq.s h) row seat (by rw [heq.s 1 (by decide), heq.s 2 (by decide)]; exact hv)) (by rw [heq.s 3 (by decide), heq.s 2 (by decide)])
theorem k_freeSeats {K : WPar} {l : Launch} (hst : l.stackTraces = false) (M : Mem) {c : Int} (h : INV M c) (row : Int) (hv : 0 ≤ row ∧ row < M 1 0 4) : CT K l iX4_freeSeats [rV K 0 0, iV row] M (rI (frC M row) M) :=
  CT_mono (c_X4_freeSeats hst M row (by have n := h.hw.2.1; have b := h.bw.2;  omega) h.hw) (fun o m _ q => by
    rcases q with ⟨_, q, _⟩ | ⟨z, e, q1, q2, q3⟩
    · exact absurd hv q
    · exact ⟨e.trans (congrArg (fun y => Sum.inl (some y)) q2), q3⟩)
theorem k2_freeSeats {K : WPar} {l : Launch} (hst : l.stackTraces = false) (M : Mem) {c : Int} (h : INV M c) (heq : EQ2 M) (row : Int) (hv : 0 ≤ row ∧ row < M 1 0 4) : CT K l iX4_freeSeats [rV K 30 0, iV row] M (rI (frC M row) M) :=
  sw_rI (k_freeSeats (K := swK K) hst (swM M) (INV_cg heq.s h) row (by rw [heq.s 1 (by decide)]; exact hv)) (heq.s.fc _)
theorem k_ticketState {K : WPar} {l : Launch} (hst : l.stackTraces = false) (M : Mem) {c : Int} (h : INV M c) (ticket : Int) (hv : 1 ≤ ticket ∧ ticket ≤ M 7 0 8) : CT K l iX4_ticketState [rV K 0 0, iV ticket] M (rI (M 8 0 ticket) M) :=
  CT_mono (c_X4_ticketState hst M ticket (by have n := h.hw.2.1; have b := h.bw.2;  omega) h.bw) (fun o m _ q => by
    rcases q with ⟨_, q, _⟩ | ⟨z, e, q1, q2, q3⟩
    · exact absurd hv q
    · exact ⟨e.trans (congrArg (fun y => Sum.inl (some y)) q2), q3⟩)
theorem k2_ticketState {K : WPar} {l : Launch} (hst : l.stackTraces = false) (M : Mem) {c : Int} (h : INV M c) (heq : EQ2 M) (ticket : Int) (hv : 1 ≤ ticket ∧ ticket ≤ M 7 0 8) : CT K l iX4_ticketState [rV K 30 0, iV ticket] M (rI (M 8 0 ticket) M) :=
  sw_rI (k_ticketState (K := swK K) hst (swM M) (INV_cg heq.s h) ticket (by rw [heq.s 7 (by decide)]; exact hv)) (by rw [heq.s 8 (by decide)])
theorem k_seatsOf {K : WPar} {l : Launch} (hst : l.stackTraces = false) (M : Mem) {c : Int} (h : INV M c) (ticket : Int) (hv : 1 ≤ ticket ∧ ticket ≤ M 7 0 8) : CT K l iX4_seatsOf [rV K 0 0, iV ticket] M (rI (soM M ticket) M) :=
  CT_mono (c_X4_seatsOf hst M ticket (by have n := h.hw.2.1; have b := h.bw.2;  omega) h.bw) (fun o m _ q => by
    rcases q with ⟨_, q, _⟩ | ⟨z, e, q1, q2, q3⟩
    · exact absurd hv q
    · exact ⟨e.trans (congrArg (fun y => Sum.inl (some y)) q2), q3⟩)
theorem k2_seatsOf {K : WPar} {l : Launch} (hst : l.stackTraces = false) (M : Mem) {c : Int} (h : INV M c) (heq : EQ2 M) (ticket : Int) (hv : 1 ≤ ticket ∧ ticket ≤ M 7 0 8) : CT K l iX4_seatsOf [rV K 30 0, iV ticket] M (rI (soM M ticket) M) :=
  sw_rI (k_seatsOf (K := swK K) hst (swM M) (INV_cg heq.s h) ticket (by rw [heq.s 7 (by decide)]; exact hv)) (heq.s.so _)
theorem k_priceOf {K : WPar} {l : Launch} (hst : l.stackTraces = false) (M : Mem) {c : Int} (h : INV M c) (ticket : Int) (hv : 1 ≤ ticket ∧ ticket ≤ M 7 0 8) : CT K l iX4_priceOf [rV K 0 0, iV ticket] M (rI (priceM M ticket) M) :=
  CT_mono (c_X4_priceOf hst M ticket (by have n := h.hw.2.1; have b := h.bw.2;  omega) h.hw h.bw) (fun o m _ q => by
    rcases q with ⟨_, q, _⟩ | ⟨z, e, q1, q2, q3⟩
    · exact absurd hv q
    · exact ⟨e.trans (congrArg (fun y => Sum.inl (some y)) q2), q3⟩)
theorem k2_priceOf {K : WPar} {l : Launch} (hst : l.stackTraces = false) (M : Mem) {c : Int} (h : INV M c) (heq : EQ2 M) (ticket : Int) (hv : 1 ≤ ticket ∧ ticket ≤ M 7 0 8) : CT K l iX4_priceOf [rV K 30 0, iV ticket] M (rI (priceM M ticket) M) :=
  sw_rI (k_priceOf (K := swK K) hst (swM M) (INV_cg heq.s h) ticket (by rw [heq.s 7 (by decide)]; exact hv)) (heq.s.pr _)
theorem k_rows {K : WPar} {l : Launch} (hst : l.stackTraces = false) (M : Mem) {c : Int} (h : INV M c) : CT K l iX4_rows [rV K 0 0] M (rI (M 1 0 4) M) := c_X4_rows hst M
theorem k2_rows {K : WPar} {l : Launch} (hst : l.stackTraces = false) (M : Mem) {c : Int} (h : INV M c) (heq : EQ2 M) : CT K l iX4_rows [rV K 30 0] M (rI (M 1 0 4) M) := sw_rI (k_rows (K := swK K) hst (swM M) (INV_cg heq.s h)) (by rw [heq.s 1 (by decide)])
theorem k_tickets {K : WPar} {l : Launch} (hst : l.stackTraces = false) (M : Mem) {c : Int} (h : INV M c) : CT K l iX4_tickets [rV K 0 0] M (rI (M 7 0 8) M) := c_X4_tickets hst M
theorem k2_tickets {K : WPar} {l : Launch} (hst : l.stackTraces = false) (M : Mem) {c : Int} (h : INV M c) (heq : EQ2 M) : CT K l iX4_tickets [rV K 30 0] M (rI (M 7 0 8) M) := sw_rI (k_tickets (K := swK K) hst (swM M) (INV_cg heq.s h)) (by rw [heq.s 7 (by decide)])
theorem k_takings {K : WPar} {l : Launch} (hst : l.stackTraces = false) (M : Mem) {c : Int} (h : INV M c) : CT K l iX4_takings [rV K 0 0] M (rI (M 0 0 5) M) := c_X4_takings hst M
theorem k2_takings {K : WPar} {l : Launch} (hst : l.stackTraces = false) (M : Mem) {c : Int} (h : INV M c) (heq : EQ2 M) : CT K l iX4_takings [rV K 30 0] M (rI (M 0 0 5) M) := sw_rI (k_takings (K := swK K) hst (swM M) (INV_cg heq.s h)) (by rw [heq.s 0 (by decide)])
theorem k_now {K : WPar} {l : Launch} (hst : l.stackTraces = false) (M : Mem) {c : Int} (h : INV M c) : CT K l iX4_now [rV K 0 0] M (rI (M 0 0 4) M) := c_X4_now hst M
theorem k2_now {K : WPar} {l : Launch} (hst : l.stackTraces = false) (M : Mem) {c : Int} (h : INV M c) (heq : EQ2 M) : CT K l iX4_now [rV K 30 0] M (rI (M 0 0 4) M) := sw_rI (k_now (K := swK K) hst (swM M) (INV_cg heq.s h)) (by rw [heq.s 0 (by decide)])
theorem k_orphans {K : WPar} {l : Launch} (hst : l.stackTraces = false) (M : Mem) {c : Int} (h : INV M c) : CT K l iX4_orphans [rV K 0 0] M (rI (orS M) M) := c_X4_orphans hst M h.hw
theorem k2_orphans {K : WPar} {l : Launch} (hst : l.stackTraces = false) (M : Mem) {c : Int} (h : INV M c) (heq : EQ2 M) : CT K l iX4_orphans [rV K 30 0] M (rI (orS M) M) := sw_rI (k_orphans (K := swK K) hst (swM M) (INV_cg heq.s h)) heq.s.os
abbrev LNG (M : Mem) (z : Int) : Prop := isLongR (M 1 0 4) (M 2 0) (M 6) z
theorem k_longestBlock {K : WPar} {l : Launch} (hst : l.stackTraces = false) (M : Mem) {c : Int} (h : INV M c) : CT K l iX4_longestBlock [rV K 0 0] M (rR (fun z => LNG M z) M) := c_X4_longestBlock hst M h.hw
theorem k2_longestBlock {K : WPar} {l : Launch} (hst : l.stackTraces = false) (M : Mem) {c : Int} (h : INV M c) (heq : EQ2 M) : CT K l iX4_longestBlock [rV K 30 0] M (rR (fun z => LNG M z) M) := sw_rR (k_longestBlock (K := swK K) hst (swM M) (INV_cg heq.s h)) (fun z q => by
  unfold LNG at q
  rw [heq.s 1 (by decide), heq.s 2 (by decide), heq.s 6 (by decide)] at q
  exact q)
theorem LNG_u {M : Mem} {y z : Int} (h : LNG M y) (h' : LNG M z) : y = z := isLongR_u (fun _ _ _ => rfl) (fun _ _ _ _ _ _ => Iff.rfl) h h'
/-- the best block's orphan, where there is a best block -/
theorem k_leavesOrphan {K : WPar} {l : Launch} (hst : l.stackTraces = false) (M : Mem) {c : Int} (h : INV M c) (seats b : Int) (hs : 1 ≤ seats ∧ seats ≤ 20) (hb : bestM M seats b) (hb1 : b ≠ -1) : CT K l iX4_leavesOrphan [rV K 0 0, iV seats] M (rB (hasO (M 2 0 (b / 100)) (M 6 (b / 100)) (b % 100) seats) M) :=
  CT_mono (c_X4_leavesOrphan hst M seats (by omega) h.hw) (fun o m _ q => by
    rcases q with ⟨_, q, _⟩ | ⟨_, q, _⟩ | ⟨z, e, q1, y, q2, q3, q4⟩
    · exact absurd hs q
    · exact absurd (bestM_u hb q.2) hb1
    · have u := bestM_u hb q2.1
      subst u
      refine ⟨?_, q4⟩
      rcases q3 with ⟨q5, q6⟩ | ⟨q5, q6⟩
      · exact Or.inl ⟨by rw [e, q5], q6⟩
      · exact Or.inr ⟨by rw [e, q5], q6⟩)
/-- the split's seats in a row, where there is a split -/
theorem k_seatsForGroup {K : WPar} {l : Launch} (hst : l.stackTraces = false) (M : Mem) {c : Int} (h : INV M c) (people row : Int) (hv : 0 ≤ row ∧ row < M 1 0 4) (hp : 2 ≤ people ∧ people ≤ 100) (hf : ∃ b v : Int, cM M 0 b people v) : CT K l iX4_seatsForGroup [rV K 0 0, iV people, iV row] M (rZm (fun z m => SF M m ∧ FOUND M m people ∧ z = m 26 0 row)) :=
  CT_mono (c_X4_seatsForGroup hst M people row (by omega) (by have n := h.hw.2.1; omega) h.hw) (fun o m _ q => by
    rcases q with ⟨_, q, _⟩ | ⟨_, q, _⟩ | ⟨_, q, _⟩ | ⟨z, e, q1, q2, q3, q4⟩
    · exact absurd hv q
    · exact absurd hp q.2
    · obtain ⟨b, v, y⟩ := hf
      exact absurd y (q.2 b v)
    · exact ⟨z, e, q2, q3, q4⟩)
