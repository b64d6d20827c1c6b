def iL_addRow : MInfo := (yL_addRow, cL_addRow, 6, some .int, (9, 165), (4, 24), [(0, 12, 15, 13), (0, 12, 19, 15)])
def iL_toggleBlocked : MInfo := (yL_toggleBlocked, cL_toggleBlocked, 5, some .int, (8, 146), (2, 12), [(0, 17, 20, 21), (0, 17, 24, 15)])
def iL_state : MInfo := (yL_state, cL_state, 5, some .int, (8, 145), (1, 6), [(0, 10, 13, 21)])
def iL_ticketAt : MInfo := (yL_ticketAt, cL_ticketAt, 5, some .int, (8, 144), (1, 6), [(0, 10, 13, 21)])
def iL_value : MInfo := (yL_value, cL_value, 5, some .int, (8, 144), (1, 6), [(0, 10, 13, 21)])
def iL_freeSeats : MInfo := (yL_freeSeats, cL_freeSeats, 4, some .int, (8, 142), (1, 6), [(0, 9, 12, 21)])
def iL_bestBlock : MInfo := (yL_bestBlock, cL_bestBlock, 4, some .int, (9, 175), (2, 12), [(0, 9, 12, 13), (0, 9, 15, 15)])
def iL_leavesOrphan : MInfo := (yL_leavesOrphan, cL_leavesOrphan, 4, some .int, (9, 176), (2, 12), [(0, 16, 19, 13), (0, 16, 22, 15)])
def iL_hold : MInfo := (yL_hold, cL_hold, 5, some .int, (9, 177), (4, 24), [(0, 10, 13, 13), (0, 10, 17, 15)])
def iL_holdAt : MInfo := (yL_holdAt, cL_holdAt, 7, some .int, (9, 166), (5, 30), [(0, 14, 17, 21), (0, 14, 21, 13), (0, 14, 25, 15)])
def iL_rowsForGroup : MInfo := (yL_rowsForGroup, cL_rowsForGroup, 4, some .int, (9, 193), (2, 12), [(0, 9, 12, 13), (0, 9, 15, 15)])
def iL_seatsForGroup : MInfo := (yL_seatsForGroup, cL_seatsForGroup, 5, some .int, (9, 194), (3, 18), [(0, 10, 13, 21), (0, 10, 17, 13), (0, 10, 21, 15)])
def iL_holdGroup : MInfo := (yL_holdGroup, cL_holdGroup, 5, some .int, (9, 194), (4, 24), [(0, 10, 13, 13), (0, 10, 17, 15)])
def iL_ticketState : MInfo := (yL_ticketState, cL_ticketState, 4, some .int, (8, 142), (1, 6), [(0, 9, 12, 21)])
def iL_seatsOf : MInfo := (yL_seatsOf, cL_seatsOf, 4, some .int, (8, 142), (1, 6), [(0, 9, 12, 21)])
def iL_priceOf : MInfo := (yL_priceOf, cL_priceOf, 4, some .int, (8, 142), (1, 6), [(0, 9, 12, 21)])
def iL_extend : MInfo := (yL_extend, cL_extend, 5, some .int, (9, 164), (4, 24), [(0, 10, 13, 21), (0, 10, 17, 13), (0, 10, 21, 15)])
def iL_pay : MInfo := (yL_pay, cL_pay, 4, some .int, (8, 143), (2, 12), [(0, 9, 12, 21), (0, 9, 15, 15)])
def iL_cancel : MInfo := (yL_cancel, cL_cancel, 4, some .int, (8, 143), (2, 12), [(0, 9, 12, 21), (0, 9, 15, 15)])
def iL_pass : MInfo := (yL_pass, cL_pass, 4, some .int, (8, 145), (1, 6), [(0, 9, 12, 13)])
def iL_nextExpiry : MInfo := (yL_nextExpiry, cL_nextExpiry, 3, some .int, (7, 121), (1, 6), [(0, 8, 11, 15)])
def iL_wish : MInfo := (yL_wish, cL_wish, 5, some .int, (8, 145), (3, 18), [(0, 10, 13, 21), (0, 10, 17, 15)])
def iL_exchange : MInfo := (yL_exchange, cL_exchange, 4, some .int, (8, 171), (2, 12), [(0, 9, 12, 21), (0, 9, 15, 15)])
theorem cw_L_addRow : CALSW iL_addRow 5 := ⟨co_L_addRow, st_L_addRow, in_L, by decide, by decide, by decide +kernel⟩
theorem cw_L_toggleBlocked : CALSW iL_toggleBlocked 4 := ⟨co_L_toggleBlocked, st_L_toggleBlocked, in_L, by decide, by decide, by decide +kernel⟩
theorem cw_L_state : CALSW iL_state 4 := ⟨co_L_state, st_L_state, in_L, by decide, by decide, by decide +kernel⟩
theorem cw_L_ticketAt : CALSW iL_ticketAt 4 := ⟨co_L_ticketAt, st_L_ticketAt, in_L, by decide, by decide, by decide +kernel⟩
theorem cw_L_value : CALSW iL_value 4 := ⟨co_L_value, st_L_value, in_L, by decide, by decide, by decide +kernel⟩
theorem cw_L_freeSeats : CALSW iL_freeSeats 3 := ⟨co_L_freeSeats, st_L_freeSeats, in_L, by decide, by decide, by decide +kernel⟩
theorem cw_L_bestBlock : CALSW iL_bestBlock 3 := ⟨co_L_bestBlock, st_L_bestBlock, in_L, by decide, by decide, by decide +kernel⟩
theorem cw_L_leavesOrphan : CALSW iL_leavesOrphan 3 := ⟨co_L_leavesOrphan, st_L_leavesOrphan, in_L, by decide, by decide, by decide +kernel⟩
theorem cw_L_hold : CALSW iL_hold 4 := ⟨co_L_hold, st_L_hold, in_L, by decide, by decide, by decide +kernel⟩
theorem cw_L_holdAt : CALSW iL_holdAt 6 := ⟨co_L_holdAt, st_L_holdAt, in_L, by decide, by decide, by decide +kernel⟩
theorem cw_L_rowsForGroup : CALSW iL_rowsForGroup 3 := ⟨co_L_rowsForGroup, st_L_rowsForGroup, in_L, by decide, by decide, by decide +kernel⟩
theorem cw_L_seatsForGroup : CALSW iL_seatsForGroup 4 := ⟨co_L_seatsForGroup, st_L_seatsForGroup, in_L, by decide, by decide, by decide +kernel⟩
theorem cw_L_holdGroup : CALSW iL_holdGroup 4 := ⟨co_L_holdGroup, st_L_holdGroup, in_L, by decide, by decide, by decide +kernel⟩
theorem cw_L_ticketState : CALSW iL_ticketState 3 := ⟨co_L_ticketState, st_L_ticketState, in_L, by decide, by decide, by decide +kernel⟩
theorem cw_L_seatsOf : CALSW iL_seatsOf 3 := ⟨co_L_seatsOf, st_L_seatsOf, in_L, by decide, by decide, by decide +kernel⟩
theorem cw_L_priceOf : CALSW iL_priceOf 3 := ⟨co_L_priceOf, st_L_priceOf, in_L, by decide, by decide, by decide +kernel⟩
theorem cw_L_extend : CALSW iL_extend 4 := ⟨co_L_extend, st_L_extend, in_L, by decide, by decide, by decide +kernel⟩
theorem cw_L_pay : CALSW iL_pay 3 := ⟨co_L_pay, st_L_pay, in_L, by decide, by decide, by decide +kernel⟩
theorem cw_L_cancel : CALSW iL_cancel 3 := ⟨co_L_cancel, st_L_cancel, in_L, by decide, by decide, by decide +kernel⟩
theorem cw_L_pass : CALSW iL_pass 3 := ⟨co_L_pass, st_L_pass, in_L, by decide, by decide, by decide +kernel⟩
theorem cw_L_nextExpiry : CALSW iL_nextExpiry 2 := ⟨co_L_nextExpiry, st_L_nextExpiry, in_L, by decide, by decide, by decide +kernel⟩
theorem cw_L_wish : CALSW iL_wish 4 := ⟨co_L_wish, st_L_wish, in_L, by decide, by decide, by decide +kernel⟩
theorem cw_L_exchange : CALSW iL_exchange 3 := ⟨co_L_exchange, st_L_exchange, in_L, by decide, by decide, by decide +kernel⟩
theorem cs_IAE : Cond.castable eIAE eIAE ∈ lw_tbl := by decide +kernel
theorem cs_ISE : Cond.castable eISE eISE ∈ lw_tbl := by decide +kernel
theorem cs_IOB : Cond.castable eIOB eIOB ∈ lw_tbl := by decide +kernel
set_option maxHeartbeats 4000000 in
set_option maxRecDepth 20000 in
theorem c_L_addRow {K : WPar} {l : Launch} (hst : l.stackTraces = false) (M : Mem) (seats : Int) (score : Int) (price : Int) (r_seats : inR seats) (r_score : inR score) (r_price : inR price) (hw : HW M) : CTL K l iL_addRow [rV K 0 0, iV (seats), iV (score), iV (price), rV K 45 0] M (rZm (fun z m => (z = 1 ∧ (¬ ((1 ≤ seats ∧ seats ≤ 20) ∧ (0 ≤ score ∧ score ≤ 1000) ∧ (0 ≤ price ∧ price ≤ 10000))) ∧ m = M) ∨ (z = 2 ∧ (((1 ≤ seats ∧ seats ≤ 20) ∧ (0 ≤ score ∧ score ≤ 1000) ∧ (0 ≤ price ∧ price ≤ 10000)) ∧ ¬ M 1 0 4 < 12) ∧ m = M) ∨ (z = 0 ∧ ∃ (a : Int) (y : Mem), (((1 ≤ seats ∧ seats ≤ 20) ∧ (0 ≤ score ∧ score ≤ 1000) ∧ (0 ≤ price ∧ price ≤ 10000)) ∧ M 1 0 4 < 12 ∧ a = M 1 0 4 ∧ y = updM (updM (updM (updM M 2 0 (M 1 0 4) seats) 3 0 (M 1 0 4) score) 4 0 (M 1 0 4) price) 1 0 4 (M 1 0 4 + 1)) ∧ m = updM y 45 0 0 a))) := by
  refine aw_metW [some (rV K 0 0), some (iV (seats)), some (iV (score)), some (iV (price)), some (rV K 45 0), none] hst (by decide) (Nat.le_of_ble_eq_true rfl) rfl rfl (lcat rfl) ?_
  refine aw_rng (fun hM => ?_)
  refine aw_aload dL_addRow_0 rfl ?_
  refine aw_iconst dL_addRow_2 ?_
  refine aw_aload_n dL_addRow_3 rfl rfl ?_
  refine aw_iload_n dL_addRow_4 rfl rfl ?_
  refine aw_iload_n dL_addRow_5 rfl rfl ?_
  refine aw_iload_n dL_addRow_6 rfl rfl ?_
  refine aw_callV (g := 0) (As := [iV (seats), iV (score), iV (price)]) (rest := [iV 0, rV K 45 0]) (c_X4_addRow hst M seats score price r_seats r_score r_price hw) cv_X4_addRow dL_addRow_7 ml_L_7 rfl rfl rfl rfl rfl (Nat.le_of_ble_eq_true rfl) (by decide) (by decide) (fun r M1 h => ?_) (fun E M1 h => ?_)
  · rcases h with ⟨e, h, hm⟩ | ⟨e, h, hm⟩ | ⟨z, e, h⟩
    · cases e
    · cases e
    · cases e
      refine aw_rng (fun hM1 => ?_)
      have hz : inR z := by
        rw [h.2.2.1]; exact hM _ _ _
      refine aw_i2l hz dL_addRow_10 ?_
      refine aw_last (g := 45) (n := 1) (M' := updM M1 45 0 0 z) rfl (by decide) dL_addRow_11 (by decide) (by decide) hz rfl ?_
      refine aw_goto (tgt := 23) dL_addRow_12 (by decide) ?_
      refine aw_iconst dL_addRow_23 ?_
      exact aw_iretW dL_addRow_24 rfl rfl (by decide) (by decide) ⟨0, rfl, (Or.inr (Or.inr ⟨rfl, z, M1, h, rfl⟩))⟩
  · rcases h with ⟨e, h, hm⟩ | ⟨e, h, hm⟩ | ⟨z, e, h⟩
    · cases e
      refine ax_catch (name := eIAE) (i := 5) [] ⟨0, 12, 15, 13⟩ [⟨0, 12, 19, 15⟩] rfl (fun _ hz => by cases hz) (by decide) (by decide) kl_L_13 cs_IAE dL_addRow_15 (by decide) rfl ?_
      refine aw_iconst dL_addRow_17 ?_
      exact aw_iretW dL_addRow_18 rfl rfl (by decide) (by decide) ⟨1, rfl, (Or.inl ⟨rfl, h, hm⟩)⟩
    · cases e
      refine ax_catch (name := eISE) (i := 5) [⟨0, 12, 15, 13⟩] ⟨0, 12, 19, 15⟩ [] rfl (List.forall_mem_cons.mpr ⟨Or.inr ⟨by decide, eIAE, kl_L_13, by decide +kernel⟩, fun _ hz => by cases hz⟩) (by decide) (by decide) kl_L_15 cs_ISE dL_addRow_19 (by decide) rfl ?_
      refine aw_iconst dL_addRow_21 ?_
      exact aw_iretW dL_addRow_22 rfl rfl (by decide) (by decide) ⟨2, rfl, (Or.inr (Or.inl ⟨rfl, h, hm⟩))⟩
    · cases e
set_option maxHeartbeats 4000000 in
set_option maxRecDepth 20000 in
theorem c_L_toggleBlocked {K : WPar} {l : Launch} (hst : l.stackTraces = false) (M : Mem) (row : Int) (seat : Int) (r_row : inR row) (r_seat : inR seat) (hw : HW M) : CTL K l iL_toggleBlocked [rV K 0 0, iV (row), iV (seat), rV K 45 0] M (rZm (fun z m => (z = 1 ∧ (¬ (0 ≤ row ∧ row < M 1 0 4 ∧ 0 ≤ seat ∧ seat < M 2 0 row)) ∧ m = M) ∨ (z = 2 ∧ ((0 ≤ row ∧ row < M 1 0 4 ∧ 0 ≤ seat ∧ seat < M 2 0 row) ∧ 0 < M 6 row seat) ∧ m = M) ∨ (z = 0 ∧ ∃ (a : Int) (y : Mem), ((0 ≤ row ∧ row < M 1 0 4 ∧ 0 ≤ seat ∧ seat < M 2 0 row) ∧ M 6 row seat ≤ 0 ∧ a = (if M 6 row seat = 0 then 1 else 0) ∧ y = giveM M row seat 1 (if M 6 row seat = 0 then -1 else 0)) ∧ m = updM y 45 0 0 a))) := by
  refine aw_metW [some (rV K 0 0), some (iV (row)), some (iV (seat)), some (rV K 45 0), none] hst (by decide) (Nat.le_of_ble_eq_true rfl) rfl rfl (lcat rfl) ?_
  refine aw_rng (fun hM => ?_)
  refine aw_aload_n dL_toggleBlocked_0 rfl rfl ?_
  refine aw_iconst dL_toggleBlocked_1 ?_
  refine aw_aload_n dL_toggleBlocked_2 rfl rfl ?_
  refine aw_iload_n dL_toggleBlocked_3 rfl rfl ?_
  refine aw_iload_n dL_toggleBlocked_4 rfl rfl ?_
  refine aw_callV (g := 0) (As := [iV (row), iV (seat)]) (rest := [iV 0, rV K 45 0]) (c_X4_toggleBlocked hst M row seat r_row r_seat hw) cv_X4_toggleBlocked dL_toggleBlocked_5 ml_L_17 rfl rfl rfl rfl rfl (Nat.le_of_ble_eq_true rfl) (by decide) (by decide) (fun r M1 h => ?_) (fun E M1 h => ?_)
  · rcases h with ⟨e, h, hm⟩ | ⟨e, h, hm⟩ | ⟨z, e, h⟩
    · cases e
    · cases e
    · cases e
      refine aw_rng (fun hM1 => ?_)
      have hz : inR z := by
        rw [h.2.2.1]; split <;> decide
      refine aw_if_eq (tgt := 15) dL_toggleBlocked_8 (by decide) hz (fun hq => ?_) (fun hq => ?_)
      · refine aw_lconst (z := 0) dL_toggleBlocked_15 rfl ?_
        refine aw_last (g := 45) (n := 1) (M' := updM M1 45 0 0 z) rfl (by decide) dL_toggleBlocked_16 (by decide) (by decide) (by decide) (by rw [hq]) ?_
        refine aw_goto (tgt := 28) dL_toggleBlocked_17 (by decide) ?_
        refine aw_iconst dL_toggleBlocked_28 ?_
        exact aw_iretW dL_toggleBlocked_29 rfl rfl (by decide) (by decide) ⟨0, rfl, (Or.inr (Or.inr ⟨rfl, z, M1, h, rfl⟩))⟩
      · refine aw_lconst (z := 1) dL_toggleBlocked_11 rfl ?_
        refine aw_goto (tgt := 16) dL_toggleBlocked_12 (by decide) ?_
        have h1 : z = 1 := by have q := h.2.2.1; split at q <;> omega
        refine aw_last (g := 45) (n := 1) (M' := updM M1 45 0 0 z) rfl (by decide) dL_toggleBlocked_16 (by decide) (by decide) (by decide) (by rw [h1]) ?_
        refine aw_goto (tgt := 28) dL_toggleBlocked_17 (by decide) ?_
        refine aw_iconst dL_toggleBlocked_28 ?_
        exact aw_iretW dL_toggleBlocked_29 rfl rfl (by decide) (by decide) ⟨0, rfl, (Or.inr (Or.inr ⟨rfl, z, M1, h, rfl⟩))⟩
  · rcases h with ⟨e, h, hm⟩ | ⟨e, h, hm⟩ | ⟨z, e, h⟩
    · cases e
      refine ax_catch (name := eIOB) (i := 4) [] ⟨0, 17, 20, 21⟩ [⟨0, 17, 24, 15⟩] rfl (fun _ hz => by cases hz) (by decide) (by decide) kl_L_21 cs_IOB dL_toggleBlocked_20 (by decide) rfl ?_
      refine aw_iconst dL_toggleBlocked_22 ?_
      exact aw_iretW dL_toggleBlocked_23 rfl rfl (by decide) (by decide) ⟨1, rfl, (Or.inl ⟨rfl, h, hm⟩)⟩
    · cases e
      refine ax_catch (name := eISE) (i := 4) [⟨0, 17, 20, 21⟩] ⟨0, 17, 24, 15⟩ [] rfl (List.forall_mem_cons.mpr ⟨Or.inr ⟨by decide, eIOB, kl_L_21, by decide +kernel⟩, fun _ hz => by cases hz⟩) (by decide) (by decide) kl_L_15 cs_ISE dL_toggleBlocked_24 (by decide) rfl ?_
      refine aw_iconst dL_toggleBlocked_26 ?_
      exact aw_iretW dL_toggleBlocked_27 rfl rfl (by decide) (by decide) ⟨2, rfl, (Or.inr (Or.inl ⟨rfl, h, hm⟩))⟩
    · cases e
set_option maxHeartbeats 4000000 in
set_option maxRecDepth 20000 in
theorem c_L_state {K : WPar} {l : Launch} (hst : l.stackTraces = false) (M : Mem) (row : Int) (seat : Int) (r_row : inR row) (r_seat : inR seat) (hw : HW M) (bw : BW M) (v_o : ∀ r s : Int, 0 ≤ r → r < M 1 0 4 → 0 ≤ s → s < M 2 0 r → M 6 r s = 0 ∨ M 6 r s = -1 ∨ (1 ≤ M 6 r s ∧ M 6 r s ≤ M 7 0 8)) : CTL K l iL_state [rV K 0 0, iV (row), iV (seat), rV K 45 0] M (rZm (fun z m => (z = 1 ∧ (¬ (0 ≤ row ∧ row < M 1 0 4 ∧ 0 ≤ seat ∧ seat < M 2 0 row)) ∧ m = M) ∨ (z = 0 ∧ ∃ (a : Int) (y : Mem), ((0 ≤ row ∧ row < M 1 0 4 ∧ 0 ≤ seat ∧ seat < M 2 0 row) ∧ a = (if M 6 row seat = 0 then 0 else if M 6 row seat = -1 then 3 else if M 8 0 (M 6 row seat) = 0 then 1 else 2) ∧ y = M) ∧ m = updM y 45 0 0 a))) := by
  refine aw_metW [some (rV K 0 0), some (iV (row)), some (iV (seat)), some (rV K 45 0), none] hst (by decide) (Nat.le_of_ble_eq_true rfl) rfl rfl (lcat rfl) ?_
  refine aw_rng (fun hM => ?_)
  refine aw_aload_n dL_state_0 rfl rfl ?_
  refine aw_iconst dL_state_1 ?_
  refine aw_aload_n dL_state_2 rfl rfl ?_
  refine aw_iload_n dL_state_3 rfl rfl ?_
  refine aw_iload_n dL_state_4 rfl rfl ?_
  refine aw_callV (g := 0) (As := [iV (row), iV (seat)]) (rest := [iV 0, rV K 45 0]) (c_X4_state hst M row seat r_row r_seat hw bw v_o) cv_X4_state dL_state_5 ml_L_23 rfl rfl rfl rfl rfl (Nat.le_of_ble_eq_true rfl) (by decide) (by decide) (fun r M1 h => ?_) (fun E M1 h => ?_)
  · rcases h with ⟨e, h, hm⟩ | ⟨z, e, h⟩
    · cases e
    · cases e
      refine aw_rng (fun hM1 => ?_)
      have hz : inR z := by
        rw [h.2.1]
        repeat' split
        all_goals decide
      refine aw_i2l hz dL_state_8 ?_
      refine aw_last (g := 45) (n := 1) (M' := updM M1 45 0 0 z) rfl (by decide) dL_state_9 (by decide) (by decide) hz rfl ?_
      refine aw_goto (tgt := 17) dL_state_10 (by decide) ?_
      refine aw_iconst dL_state_17 ?_
      exact aw_iretW dL_state_18 rfl rfl (by decide) (by decide) ⟨0, rfl, (Or.inr ⟨rfl, z, M1, h, rfl⟩)⟩
  · rcases h with ⟨e, h, hm⟩ | ⟨z, e, h⟩
    · cases e
      refine ax_catch (name := eIOB) (i := 4) [] ⟨0, 10, 13, 21⟩ [] rfl (fun _ hz => by cases hz) (by decide) (by decide) kl_L_21 cs_IOB dL_state_13 (by decide) rfl ?_
      refine aw_iconst dL_state_15 ?_
      exact aw_iretW dL_state_16 rfl rfl (by decide) (by decide) ⟨1, rfl, (Or.inl ⟨rfl, h, hm⟩)⟩
    · cases e
set_option maxHeartbeats 4000000 in
set_option maxRecDepth 20000 in
theorem c_L_ticketAt {K : WPar} {l : Launch} (hst : l.stackTraces = false) (M : Mem) (row : Int) (seat : Int) (r_row : inR row) (r_seat : inR seat) (hw : HW M) : CTL K l iL_ticketAt [rV K 0 0, iV (row), iV (seat), rV K 45 0] M (rZm (fun z m => (z = 1 ∧ (¬ (0 ≤ row ∧ row < M 1 0 4 ∧ 0 ≤ seat ∧ seat < M 2 0 row)) ∧ m = M) ∨ (z = 0 ∧ ∃ (a : Int) (y : Mem), ((0 ≤ row ∧ row < M 1 0 4 ∧ 0 ≤ seat ∧ seat < M 2 0 row) ∧ a = max (M 6 row seat) 0 ∧ y = M) ∧ m = updM y 45 0 0 a))) := by
  refine aw_metW [some (rV K 0 0), some (iV (row)), some (iV (seat)), some (rV K 45 0), none] hst (by decide) (Nat.le_of_ble_eq_true rfl) rfl rfl (lcat rfl) ?_
  refine aw_rng (fun hM => ?_)
  refine aw_aload_n dL_ticketAt_0 rfl rfl ?_
  refine aw_iconst dL_ticketAt_1 ?_
  refine aw_aload_n dL_ticketAt_2 rfl rfl ?_
  refine aw_iload_n dL_ticketAt_3 rfl rfl ?_
  refine aw_iload_n dL_ticketAt_4 rfl rfl ?_
  refine aw_callV (g := 0) (As := [iV (row), iV (seat)]) (rest := [iV 0, rV K 45 0]) (c_X4_ticketAt hst M row seat r_row r_seat hw) cv_X4_ticketAt dL_ticketAt_5 ml_L_27 rfl rfl rfl rfl rfl (Nat.le_of_ble_eq_true rfl) (by decide) (by decide) (fun r M1 h => ?_) (fun E M1 h => ?_)
  · rcases h with ⟨e, h, hm⟩ | ⟨z, e, h⟩
    · cases e
    · cases e
      refine aw_rng (fun hM1 => ?_)
      have hz : inR z := by
        rw [h.2.1]; have q := hM 6 row seat; omega
      refine aw_i2l hz dL_ticketAt_8 ?_
      refine aw_last (g := 45) (n := 1) (M' := updM M1 45 0 0 z) rfl (by decide) dL_ticketAt_9 (by decide) (by decide) hz rfl ?_
      refine aw_goto (tgt := 17) dL_ticketAt_10 (by decide) ?_
      refine aw_iconst dL_ticketAt_17 ?_
      exact aw_iretW dL_ticketAt_18 rfl rfl (by decide) (by decide) ⟨0, rfl, (Or.inr ⟨rfl, z, M1, h, rfl⟩)⟩
  · rcases h with ⟨e, h, hm⟩ | ⟨z, e, h⟩
    · cases e
      refine ax_catch (name := eIOB) (i := 4) [] ⟨0, 10, 13, 21⟩ [] rfl (fun _ hz => by cases hz) (by decide) (by decide) kl_L_21 cs_IOB dL_ticketAt_13 (by decide) rfl ?_
      refine aw_iconst dL_ticketAt_15 ?_
      exact aw_iretW dL_ticketAt_16 rfl rfl (by decide) (by decide) ⟨1, rfl, (Or.inl ⟨rfl, h, hm⟩)⟩
    · cases e
set_option maxHeartbeats 4000000 in
set_option maxRecDepth 20000 in
theorem c_L_value {K : WPar} {l : Launch} (hst : l.stackTraces = false) (M : Mem) (row : Int) (seat : Int) (r_row : inR row) (r_seat : inR seat) (hw : HW M) : CTL K l iL_value [rV K 0 0, iV (row), iV (seat), rV K 45 0] M (rZm (fun z m => (z = 1 ∧ (¬ (0 ≤ row ∧ row < M 1 0 4 ∧ 0 ≤ seat ∧ seat < M 2 0 row)) ∧ m = M) ∨ (z = 0 ∧ ∃ (a : Int) (y : Mem), ((0 ≤ row ∧ row < M 1 0 4 ∧ 0 ≤ seat ∧ seat < M 2 0 row) ∧ a = vS (M 3 0 row) (M 2 0 row) seat ∧ y = M) ∧ m = updM y 45 0 0 a))) := by
  refine aw_metW [some (rV K 0 0), some (iV (row)), some (iV (seat)), some (rV K 45 0), none] hst (by decide) (Nat.le_of_ble_eq_true rfl) rfl rfl (lcat rfl) ?_
  refine aw_rng (fun hM => ?_)
  refine aw_aload_n dL_value_0 rfl rfl ?_
  refine aw_iconst dL_value_1 ?_
  refine aw_aload_n dL_value_2 rfl rfl ?_
  refine aw_iload_n dL_value_3 rfl rfl ?_
  refine aw_iload_n dL_value_4 rfl rfl ?_
  refine aw_callV (g := 0) (As := [iV (row), iV (seat)]) (rest := [iV 0, rV K 45 0]) (c_X4_value hst M row seat r_row r_seat hw) cv_X4_value dL_value_5 ml_L_30 rfl rfl rfl rfl rfl (Nat.le_of_ble_eq_true rfl) (by decide) (by decide) (fun r M1 h => ?_) (fun E M1 h => ?_)
  · rcases h with ⟨e, h, hm⟩ | ⟨z, e, h⟩
    · cases e
    · cases e
      refine aw_rng (fun hM1 => ?_)
      have hz : inR z := by
        have n := hw.2.2 row h.1.1 h.1.2.1
        have q := vS_bd (sc := M 3 0 row) (w := M 2 0 row) (s := seat) n.2.2.1 n.2.2.2.1 ⟨by omega, n.2.1⟩ ⟨h.1.2.2.1, h.1.2.2.2⟩
        rw [h.2.1]
        omega
      refine aw_i2l hz dL_value_8 ?_
      refine aw_last (g := 45) (n := 1) (M' := updM M1 45 0 0 z) rfl (by decide) dL_value_9 (by decide) (by decide) hz rfl ?_
      refine aw_goto (tgt := 17) dL_value_10 (by decide) ?_
      refine aw_iconst dL_value_17 ?_
      exact aw_iretW dL_value_18 rfl rfl (by decide) (by decide) ⟨0, rfl, (Or.inr ⟨rfl, z, M1, h, rfl⟩)⟩
  · rcases h with ⟨e, h, hm⟩ | ⟨z, e, h⟩
    · cases e
      refine ax_catch (name := eIOB) (i := 4) [] ⟨0, 10, 13, 21⟩ [] rfl (fun _ hz => by cases hz) (by decide) (by decide) kl_L_21 cs_IOB dL_value_13 (by decide) rfl ?_
      refine aw_iconst dL_value_15 ?_
      exact aw_iretW dL_value_16 rfl rfl (by decide) (by decide) ⟨1, rfl, (Or.inl ⟨rfl, h, hm⟩)⟩
    · cases e
set_option maxHeartbeats 4000000 in
set_option maxRecDepth 20000 in
theorem c_L_freeSeats {K : WPar} {l : Launch} (hst : l.stackTraces = false) (M : Mem) (row : Int) (r_row : inR row) (hw : HW M) : CTL K l iL_freeSeats [rV K 0 0, iV (row), rV K 45 0] M (rZm (fun z m => (z = 1 ∧ (¬ (0 ≤ row ∧ row < M 1 0 4)) ∧ m = M) ∨ (z = 0 ∧ ∃ (a : Int) (y : Mem), ((0 ≤ row ∧ row < M 1 0 4) ∧ a = sumI (fun s => if M 6 row s = 0 then 1 else 0) (M 2 0 row) ∧ y = M) ∧ m = updM y 45 0 0 a))) := by
  refine aw_metW [some (rV K 0 0), some (iV (row)), some (rV K 45 0), none] hst (by decide) (Nat.le_of_ble_eq_true rfl) rfl rfl (lcat rfl) ?_
  refine aw_rng (fun hM => ?_)
  refine aw_aload_n dL_freeSeats_0 rfl rfl ?_
  refine aw_iconst dL_freeSeats_1 ?_
  refine aw_aload_n dL_freeSeats_2 rfl rfl ?_
  refine aw_iload_n dL_freeSeats_3 rfl rfl ?_
  refine aw_callV (g := 0) (As := [iV (row)]) (rest := [iV 0, rV K 45 0]) (c_X4_freeSeats hst M row r_row hw) cv_X4_freeSeats dL_freeSeats_4 ml_L_33 rfl rfl rfl rfl rfl (Nat.le_of_ble_eq_true rfl) (by decide) (by decide) (fun r M1 h => ?_) (fun E M1 h => ?_)
  · rcases h with ⟨e, h, hm⟩ | ⟨z, e, h⟩
    · cases e
    · cases e
      refine aw_rng (fun hM1 => ?_)
      have hz : inR z := by
        have n := hw.2.2 row h.1.1 h.1.2
        have q := sumI_bd (f := fun s => if M 6 row s = 0 then 1 else 0) 0 1 (z := M 2 0 row) (by omega) (fun i _ _ => by split <;> omega)
        rw [h.2.1]
        omega
      refine aw_i2l hz dL_freeSeats_7 ?_
      refine aw_last (g := 45) (n := 1) (M' := updM M1 45 0 0 z) rfl (by decide) dL_freeSeats_8 (by decide) (by decide) hz rfl ?_
      refine aw_goto (tgt := 15) dL_freeSeats_9 (by decide) ?_
      refine aw_iconst dL_freeSeats_15 ?_
      exact aw_iretW dL_freeSeats_16 rfl rfl (by decide) (by decide) ⟨0, rfl, (Or.inr ⟨rfl, z, M1, h, rfl⟩)⟩
  · rcases h with ⟨e, h, hm⟩ | ⟨z, e, h⟩
    · cases e
      refine ax_catchn (name := eIOB) (i := 3) [] ⟨0, 9, 12, 21⟩ [] rfl (fun _ hz => by cases hz) (by decide) (by decide) kl_L_21 cs_IOB dL_freeSeats_12 rfl (by decide) rfl ?_
      refine aw_iconst dL_freeSeats_13 ?_
      exact aw_iretW dL_freeSeats_14 rfl rfl (by decide) (by decide) ⟨1, rfl, (Or.inl ⟨rfl, h, hm⟩)⟩
    · cases e
set_option maxHeartbeats 4000000 in
set_option maxRecDepth 20000 in
theorem c_L_bestBlock {K : WPar} {l : Launch} (hst : l.stackTraces = false) (M : Mem) (seats : Int) (r_seats : inR seats) (hw : HW M) : CTL K l iL_bestBlock [rV K 0 0, iV (seats), rV K 45 0] M (rZm (fun z m => (z = 1 ∧ (¬ (1 ≤ seats ∧ seats ≤ 20)) ∧ m = M) ∨ (z = 2 ∧ ((1 ≤ seats ∧ seats ≤ 20) ∧ bestM M seats (-1)) ∧ m = M) ∨ (z = 0 ∧ ∃ (a : Int) (y : Mem), ((1 ≤ seats ∧ seats ≤ 20) ∧ (bestM M seats a ∧ a ≠ -1) ∧ y = M) ∧ m = updM y 45 0 0 a))) := by
  refine aw_metW [some (rV K 0 0), some (iV (seats)), some (rV K 45 0), none] hst (by decide) (Nat.le_of_ble_eq_true rfl) rfl rfl (lcat rfl) ?_
  refine aw_rng (fun hM => ?_)
  refine aw_aload_n dL_bestBlock_0 rfl rfl ?_
  refine aw_iconst dL_bestBlock_1 ?_
  refine aw_aload_n dL_bestBlock_2 rfl rfl ?_
  refine aw_iload_n dL_bestBlock_3 rfl rfl ?_
  refine aw_callV (g := 0) (As := [iV (seats)]) (rest := [iV 0, rV K 45 0]) (c_X4_bestBlock hst M seats r_seats hw) cv_X4_bestBlock dL_bestBlock_4 ml_L_37 rfl rfl rfl rfl rfl (Nat.le_of_ble_eq_true rfl) (by decide) (by decide) (fun r M1 h => ?_) (fun E M1 h => ?_)
  · rcases h with ⟨e, h, hm⟩ | ⟨e, h, hm⟩ | ⟨z, e, h⟩
    · cases e
    · cases e
    · cases e
      refine aw_rng (fun hM1 => ?_)
      have hz : inR z := by
        have ba := bestG_at h.1.1 (fun r r0 r1 => (hw.2.2 r r0 r1).2.1) h.2.1.1 h.2.1.2
        have n := hw.2.2 (z / 100) ba.1 ba.2.1
        have n2 := hw.2.1
        omega
      refine aw_i2l hz dL_bestBlock_7 ?_
      refine aw_last (g := 45) (n := 1) (M' := updM M1 45 0 0 z) rfl (by decide) dL_bestBlock_8 (by decide) (by decide) hz rfl ?_
      refine aw_goto (tgt := 18) dL_bestBlock_9 (by decide) ?_
      refine aw_iconst dL_bestBlock_18 ?_
      exact aw_iretW dL_bestBlock_19 rfl rfl (by decide) (by decide) ⟨0, rfl, (Or.inr (Or.inr ⟨rfl, z, M1, h, rfl⟩))⟩
  · rcases h with ⟨e, h, hm⟩ | ⟨e, h, hm⟩ | ⟨z, e, h⟩
    · cases e
      refine ax_catchn (name := eIAE) (i := 3) [] ⟨0, 9, 12, 13⟩ [⟨0, 9, 15, 15⟩] rfl (fun _ hz => by cases hz) (by decide) (by decide) kl_L_13 cs_IAE dL_bestBlock_12 rfl (by decide) rfl ?_
      refine aw_iconst dL_bestBlock_13 ?_
      exact aw_iretW dL_bestBlock_14 rfl rfl (by decide) (by decide) ⟨1, rfl, (Or.inl ⟨rfl, h, hm⟩)⟩
    · cases e
      refine ax_catchn (name := eISE) (i := 3) [⟨0, 9, 12, 13⟩] ⟨0, 9, 15, 15⟩ [] rfl (List.forall_mem_cons.mpr ⟨Or.inr ⟨by decide, eIAE, kl_L_13, by decide +kernel⟩, fun _ hz => by cases hz⟩) (by decide) (by decide) kl_L_15 cs_ISE dL_bestBlock_15 rfl (by decide) rfl ?_
      refine aw_iconst dL_bestBlock_16 ?_
      exact aw_iretW dL_bestBlock_17 rfl rfl (by decide) (by decide) ⟨2, rfl, (Or.inr (Or.inl ⟨rfl, h, hm⟩))⟩
    · cases e
set_option maxHeartbeats 4000000 in
set_option maxRecDepth 20000 in
theorem c_L_leavesOrphan {K : WPar} {l : Launch} (hst : l.stackTraces = false) (M : Mem) (seats : Int) (r_seats : inR seats) (hw : HW M) : CTL K l iL_leavesOrphan [rV K 0 0, iV (seats), rV K 45 0] M (rZm (fun z m => (z = 1 ∧ (¬ (1 ≤ seats ∧ seats ≤ 20)) ∧ m = M) ∨ (z = 2 ∧ ((1 ≤ seats ∧ seats ≤ 20) ∧ bestM M seats (-1)) ∧ m = M) ∨ (z = 0 ∧ ∃ (a : Int) (y : Mem), ((1 ≤ seats ∧ seats ≤ 20) ∧ ∃ b, (bestM M seats b ∧ b ≠ -1) ∧ ((a = 1 ∧ hasO (M 2 0 (b / 100)) (M 6 (b / 100)) (b % 100) seats) ∨ (a = 0 ∧ ¬ (hasO (M 2 0 (b / 100)) (M 6 (b / 100)) (b % 100) seats))) ∧ y = M) ∧ m = updM y 45 0 0 a))) := by
  refine aw_metW [some (rV K 0 0), some (iV (seats)), some (rV K 45 0), none] hst (by decide) (Nat.le_of_ble_eq_true rfl) rfl rfl (lcat rfl) ?_
  refine aw_rng (fun hM => ?_)
  refine aw_aload_n dL_leavesOrphan_0 rfl rfl ?_
  refine aw_iconst dL_leavesOrphan_1 ?_
  refine aw_aload_n dL_leavesOrphan_2 rfl rfl ?_
  refine aw_iload_n dL_leavesOrphan_3 rfl rfl ?_
  refine aw_callV (g := 0) (As := [iV (seats)]) (rest := [iV 0, rV K 45 0]) (c_X4_leavesOrphan hst M seats r_seats hw) cv_X4_leavesOrphan dL_leavesOrphan_4 ml_L_40 rfl rfl rfl rfl rfl (Nat.le_of_ble_eq_true rfl) (by decide) (by decide) (fun r M1 h => ?_) (fun E M1 h => ?_)
  · rcases h with ⟨e, h, hm⟩ | ⟨e, h, hm⟩ | ⟨z, e, h⟩
    · cases e
    · cases e
    · cases e
      refine aw_rng (fun hM1 => ?_)
      have hz : inR z := by
        obtain ⟨_, _, _, q, _⟩ := h; rcases q with q | q <;> (rw [q.1]; decide)
      refine aw_if_eq (tgt := 14) dL_leavesOrphan_7 (by decide) hz (fun hq => ?_) (fun hq => ?_)
      · refine aw_lconst (z := 0) dL_leavesOrphan_14 rfl ?_
        refine aw_last (g := 45) (n := 1) (M' := updM M1 45 0 0 z) rfl (by decide) dL_leavesOrphan_15 (by decide) (by decide) (by decide) (by rw [hq]) ?_
        refine aw_goto (tgt := 25) dL_leavesOrphan_16 (by decide) ?_
        refine aw_iconst dL_leavesOrphan_25 ?_
        exact aw_iretW dL_leavesOrphan_26 rfl rfl (by decide) (by decide) ⟨0, rfl, (Or.inr (Or.inr ⟨rfl, z, M1, h, rfl⟩))⟩
      · refine aw_lconst (z := 1) dL_leavesOrphan_10 rfl ?_
        refine aw_goto (tgt := 15) dL_leavesOrphan_11 (by decide) ?_
        have h1 : z = 1 := by obtain ⟨_, _, _, q, _⟩ := h; exact q.elim (fun q => q.1) (fun q => absurd q.1 hq)
        refine aw_last (g := 45) (n := 1) (M' := updM M1 45 0 0 z) rfl (by decide) dL_leavesOrphan_15 (by decide) (by decide) (by decide) (by rw [h1]) ?_
        refine aw_goto (tgt := 25) dL_leavesOrphan_16 (by decide) ?_
        refine aw_iconst dL_leavesOrphan_25 ?_
        exact aw_iretW dL_leavesOrphan_26 rfl rfl (by decide) (by decide) ⟨0, rfl, (Or.inr (Or.inr ⟨rfl, z, M1, h, rfl⟩))⟩
  · rcases h with ⟨e, h, hm⟩ | ⟨e, h, hm⟩ | ⟨z, e, h⟩
    · cases e
      refine ax_catchn (name := eIAE) (i := 3) [] ⟨0, 16, 19, 13⟩ [⟨0, 16, 22, 15⟩] rfl (fun _ hz => by cases hz) (by decide) (by decide) kl_L_13 cs_IAE dL_leavesOrphan_19 rfl (by decide) rfl ?_
      refine aw_iconst dL_leavesOrphan_20 ?_
      exact aw_iretW dL_leavesOrphan_21 rfl rfl (by decide) (by decide) ⟨1, rfl, (Or.inl ⟨rfl, h, hm⟩)⟩
    · cases e
      refine ax_catchn (name := eISE) (i := 3) [⟨0, 16, 19, 13⟩] ⟨0, 16, 22, 15⟩ [] rfl (List.forall_mem_cons.mpr ⟨Or.inr ⟨by decide, eIAE, kl_L_13, by decide +kernel⟩, fun _ hz => by cases hz⟩) (by decide) (by decide) kl_L_15 cs_ISE dL_leavesOrphan_22 rfl (by decide) rfl ?_
      refine aw_iconst dL_leavesOrphan_23 ?_
      exact aw_iretW dL_leavesOrphan_24 rfl rfl (by decide) (by decide) ⟨2, rfl, (Or.inr (Or.inl ⟨rfl, h, hm⟩))⟩
    · cases e
set_option maxHeartbeats 4000000 in
set_option maxRecDepth 20000 in
theorem c_L_hold {K : WPar} {l : Launch} (hst : l.stackTraces = false) (M : Mem) (seats : Int) (minutes : Int) (r_seats : inR seats) (r_minutes : inR minutes) (hw : HW M) (bw : BW M) (v_now : 0 ≤ M 0 0 4 ∧ M 0 0 4 ≤ 1000000) : CTL K l iL_hold [rV K 0 0, iV (seats), iV (minutes), rV K 45 0] M (rZm (fun z m => (z = 1 ∧ (¬ ((1 ≤ seats ∧ seats ≤ 20) ∧ (1 ≤ minutes ∧ minutes ≤ 200))) ∧ m = M) ∨ (z = 2 ∧ (((1 ≤ seats ∧ seats ≤ 20) ∧ (1 ≤ minutes ∧ minutes ≤ 200)) ∧ (bestM M seats (-1) ∨ ¬ M 7 0 8 < 100)) ∧ m = M) ∨ (z = 0 ∧ ∃ (a : Int) (y : Mem), (((1 ≤ seats ∧ seats ≤ 20) ∧ (1 ≤ minutes ∧ minutes ≤ 200)) ∧ M 7 0 8 < 100 ∧ ∃ b, (bestM M seats b ∧ b ≠ -1) ∧ a = M 7 0 8 + 1 ∧ y = grM M (b / 100) (b % 100) seats minutes) ∧ m = updM y 45 0 0 a))) := by
  refine aw_metW [some (rV K 0 0), some (iV (seats)), some (iV (minutes)), some (rV K 45 0), none] hst (by decide) (Nat.le_of_ble_eq_true rfl) rfl rfl (lcat rfl) ?_
  refine aw_rng (fun hM => ?_)
  refine aw_aload_n dL_hold_0 rfl rfl ?_
  refine aw_iconst dL_hold_1 ?_
  refine aw_aload_n dL_hold_2 rfl rfl ?_
  refine aw_iload_n dL_hold_3 rfl rfl ?_
  refine aw_iload_n dL_hold_4 rfl rfl ?_
  refine aw_callV (g := 0) (As := [iV (seats), iV (minutes)]) (rest := [iV 0, rV K 45 0]) (c_X4_hold hst M seats minutes r_seats r_minutes hw bw v_now) cv_X4_hold dL_hold_5 ml_L_44 rfl rfl rfl rfl rfl (Nat.le_of_ble_eq_true rfl) (by decide) (by decide) (fun r M1 h => ?_) (fun E M1 h => ?_)
  · rcases h with ⟨e, h, hm⟩ | ⟨e, h, hm⟩ | ⟨z, e, h⟩
    · cases e
    · cases e
    · cases e
      refine aw_rng (fun hM1 => ?_)
      have hz : inR z := by
        have q := h.2.1; obtain ⟨b, q1, q2, q3⟩ := h.2.2; have q4 := bw.1; omega
      refine aw_i2l hz dL_hold_8 ?_
      refine aw_last (g := 45) (n := 1) (M' := updM M1 45 0 0 z) rfl (by decide) dL_hold_9 (by decide) (by decide) hz rfl ?_
      refine aw_goto (tgt := 21) dL_hold_10 (by decide) ?_
      refine aw_iconst dL_hold_21 ?_
      exact aw_iretW dL_hold_22 rfl rfl (by decide) (by decide) ⟨0, rfl, (Or.inr (Or.inr ⟨rfl, z, M1, h, rfl⟩))⟩
  · rcases h with ⟨e, h, hm⟩ | ⟨e, h, hm⟩ | ⟨z, e, h⟩
    · cases e
      refine ax_catch (name := eIAE) (i := 4) [] ⟨0, 10, 13, 13⟩ [⟨0, 10, 17, 15⟩] rfl (fun _ hz => by cases hz) (by decide) (by decide) kl_L_13 cs_IAE dL_hold_13 (by decide) rfl ?_
      refine aw_iconst dL_hold_15 ?_
      exact aw_iretW dL_hold_16 rfl rfl (by decide) (by decide) ⟨1, rfl, (Or.inl ⟨rfl, h, hm⟩)⟩
    · cases e
      refine ax_catch (name := eISE) (i := 4) [⟨0, 10, 13, 13⟩] ⟨0, 10, 17, 15⟩ [] rfl (List.forall_mem_cons.mpr ⟨Or.inr ⟨by decide, eIAE, kl_L_13, by decide +kernel⟩, fun _ hz => by cases hz⟩) (by decide) (by decide) kl_L_15 cs_ISE dL_hold_17 (by decide) rfl ?_
      refine aw_iconst dL_hold_19 ?_
      exact aw_iretW dL_hold_20 rfl rfl (by decide) (by decide) ⟨2, rfl, (Or.inr (Or.inl ⟨rfl, h, hm⟩))⟩
    · cases e
set_option maxHeartbeats 4000000 in
set_option maxRecDepth 20000 in
theorem c_L_holdAt {K : WPar} {l : Launch} (hst : l.stackTraces = false) (M : Mem) (row : Int) (first : Int) (seats : Int) (minutes : Int) (r_row : inR row) (r_first : inR first) (r_seats : inR seats) (r_minutes : inR minutes) (hw : HW M) (bw : BW M) (v_now : 0 ≤ M 0 0 4 ∧ M 0 0 4 ≤ 1000000) : CTL K l iL_holdAt [rV K 0 0, iV (row), iV (first), iV (seats), iV (minutes), rV K 45 0] M (rZm (fun z m => (z = 1 ∧ (¬ (0 ≤ row ∧ row < M 1 0 4 ∧ 0 ≤ first ∧ first < M 2 0 row)) ∧ m = M) ∨ (z = 2 ∧ ((0 ≤ row ∧ row < M 1 0 4 ∧ 0 ≤ first ∧ first < M 2 0 row) ∧ ¬ ((1 ≤ seats ∧ seats ≤ 20) ∧ (1 ≤ minutes ∧ minutes ≤ 200))) ∧ m = M) ∨ (z = 3 ∧ (((0 ≤ row ∧ row < M 1 0 4 ∧ 0 ≤ first ∧ first < M 2 0 row) ∧ ((1 ≤ seats ∧ seats ≤ 20) ∧ (1 ≤ minutes ∧ minutes ≤ 200))) ∧ (¬ (1 ≤ seats ∧ 0 ≤ first ∧ first + seats ≤ M 2 0 row ∧ allF (M 6 row) first seats) ∨ ¬ M 7 0 8 < 100)) ∧ m = M) ∨ (z = 0 ∧ ∃ (a : Int) (y : Mem), (((0 ≤ row ∧ row < M 1 0 4 ∧ 0 ≤ first ∧ first < M 2 0 row) ∧ ((1 ≤ seats ∧ seats ≤ 20) ∧ (1 ≤ minutes ∧ minutes ≤ 200))) ∧ (1 ≤ seats ∧ 0 ≤ first ∧ first + seats ≤ M 2 0 row ∧ allF (M 6 row) first seats) ∧ M 7 0 8 < 100 ∧ a = M 7 0 8 + 1 ∧ y = grM M row first seats minutes) ∧ m = updM y 45 0 0 a))) := by
  refine aw_metW [some (rV K 0 0), some (iV (row)), some (iV (first)), some (iV (seats)), some (iV (minutes)), some (rV K 45 0), none] hst (by decide) (Nat.le_of_ble_eq_true rfl) rfl rfl (lcat rfl) ?_
  refine aw_rng (fun hM => ?_)
  refine aw_aload dL_holdAt_0 rfl ?_
  refine aw_iconst dL_holdAt_2 ?_
  refine aw_aload_n dL_holdAt_3 rfl rfl ?_
  refine aw_iload_n dL_holdAt_4 rfl rfl ?_
  refine aw_iload_n dL_holdAt_5 rfl rfl ?_
  refine aw_iload_n dL_holdAt_6 rfl rfl ?_
  refine aw_iload dL_holdAt_7 rfl ?_
  refine aw_callV (g := 0) (As := [iV (row), iV (first), iV (seats), iV (minutes)]) (rest := [iV 0, rV K 45 0]) (c_X4_holdAt hst M row first seats minutes r_row r_first r_seats r_minutes hw bw v_now) cv_X4_holdAt dL_holdAt_9 ml_L_47 rfl rfl rfl rfl rfl (Nat.le_of_ble_eq_true rfl) (by decide) (by decide) (fun r M1 h => ?_) (fun E M1 h => ?_)
  · rcases h with ⟨e, h, hm⟩ | ⟨e, h, hm⟩ | ⟨e, h, hm⟩ | ⟨z, e, h⟩
    · cases e
    · cases e
    · cases e
    · cases e
      refine aw_rng (fun hM1 => ?_)
      have hz : inR z := by
        have q := h.2.2.1; have q3 := h.2.2.2.1; have q4 := bw.1; omega
      refine aw_i2l hz dL_holdAt_12 ?_
      refine aw_last (g := 45) (n := 1) (M' := updM M1 45 0 0 z) rfl (by decide) dL_holdAt_13 (by decide) (by decide) hz rfl ?_
      refine aw_goto (tgt := 29) dL_holdAt_14 (by decide) ?_
      refine aw_iconst dL_holdAt_29 ?_
      exact aw_iretW dL_holdAt_30 rfl rfl (by decide) (by decide) ⟨0, rfl, (Or.inr (Or.inr (Or.inr ⟨rfl, z, M1, h, rfl⟩)))⟩
  · rcases h with ⟨e, h, hm⟩ | ⟨e, h, hm⟩ | ⟨e, h, hm⟩ | ⟨z, e, h⟩
    · cases e
      refine ax_catch (name := eIOB) (i := 6) [] ⟨0, 14, 17, 21⟩ [⟨0, 14, 21, 13⟩, ⟨0, 14, 25, 15⟩] rfl (fun _ hz => by cases hz) (by decide) (by decide) kl_L_21 cs_IOB dL_holdAt_17 (by decide) rfl ?_
      refine aw_iconst dL_holdAt_19 ?_
      exact aw_iretW dL_holdAt_20 rfl rfl (by decide) (by decide) ⟨1, rfl, (Or.inl ⟨rfl, h, hm⟩)⟩
    · cases e
      refine ax_catch (name := eIAE) (i := 6) [⟨0, 14, 17, 21⟩] ⟨0, 14, 21, 13⟩ [⟨0, 14, 25, 15⟩] rfl (List.forall_mem_cons.mpr ⟨Or.inr ⟨by decide, eIOB, kl_L_21, by decide +kernel⟩, fun _ hz => by cases hz⟩) (by decide) (by decide) kl_L_13 cs_IAE dL_holdAt_21 (by decide) rfl ?_
      refine aw_iconst dL_holdAt_23 ?_
      exact aw_iretW dL_holdAt_24 rfl rfl (by decide) (by decide) ⟨2, rfl, (Or.inr (Or.inl ⟨rfl, h, hm⟩))⟩
    · cases e
      refine ax_catch (name := eISE) (i := 6) [⟨0, 14, 17, 21⟩, ⟨0, 14, 21, 13⟩] ⟨0, 14, 25, 15⟩ [] rfl (List.forall_mem_cons.mpr ⟨Or.inr ⟨by decide, eIOB, kl_L_21, by decide +kernel⟩, List.forall_mem_cons.mpr ⟨Or.inr ⟨by decide, eIAE, kl_L_13, by decide +kernel⟩, fun _ hz => by cases hz⟩⟩) (by decide) (by decide) kl_L_15 cs_ISE dL_holdAt_25 (by decide) rfl ?_
      refine aw_iconst dL_holdAt_27 ?_
      exact aw_iretW dL_holdAt_28 rfl rfl (by decide) (by decide) ⟨3, rfl, (Or.inr (Or.inr (Or.inl ⟨rfl, h, hm⟩)))⟩
    · cases e
set_option maxHeartbeats 4000000 in
set_option maxRecDepth 20000 in
theorem c_L_rowsForGroup {K : WPar} {l : Launch} (hst : l.stackTraces = false) (M : Mem) (people : Int) (r_people : inR people) (hw : HW M) : CTL K l iL_rowsForGroup [rV K 0 0, iV (people), rV K 45 0] M (rZm (fun z m => (z = 1 ∧ (¬ (2 ≤ people ∧ people ≤ 100)) ∧ m = M) ∨ (z = 2 ∧ ((2 ≤ people ∧ people ≤ 100) ∧ ∀ b v : Int, ¬ cM M 0 b people v) ∧ SF M m) ∨ (z = 0 ∧ ∃ (a : Int) (y : Mem), ((2 ≤ people ∧ people ≤ 100) ∧ SF M y ∧ FOUND M y people ∧ a = y 16 0 7) ∧ m = updM y 45 0 0 a))) := by
  refine aw_metW [some (rV K 0 0), some (iV (people)), some (rV K 45 0), none] hst (by decide) (Nat.le_of_ble_eq_true rfl) rfl rfl (lcat rfl) ?_
  refine aw_rng (fun hM => ?_)
  refine aw_aload_n dL_rowsForGroup_0 rfl rfl ?_
  refine aw_iconst dL_rowsForGroup_1 ?_
  refine aw_aload_n dL_rowsForGroup_2 rfl rfl ?_
  refine aw_iload_n dL_rowsForGroup_3 rfl rfl ?_
  refine aw_callV (g := 0) (As := [iV (people)]) (rest := [iV 0, rV K 45 0]) (c_X4_rowsForGroup hst M people r_people hw) cv_X4_rowsForGroup dL_rowsForGroup_4 ml_L_51 rfl rfl rfl rfl rfl (Nat.le_of_ble_eq_true rfl) (by decide) (by decide) (fun r M1 h => ?_) (fun E M1 h => ?_)
  · rcases h with ⟨e, h, hm⟩ | ⟨e, h, hm⟩ | ⟨z, e, h⟩
    · cases e
    · cases e
    · cases e
      refine aw_rng (fun hM1 => ?_)
      have hz : inR z := by
        rw [h.2.2.2]; exact hM1 _ _ _
      refine aw_i2l hz dL_rowsForGroup_7 ?_
      refine aw_last (g := 45) (n := 1) (M' := updM M1 45 0 0 z) rfl (by decide) dL_rowsForGroup_8 (by decide) (by decide) hz rfl ?_
      refine aw_goto (tgt := 18) dL_rowsForGroup_9 (by decide) ?_
      refine aw_iconst dL_rowsForGroup_18 ?_
      exact aw_iretW dL_rowsForGroup_19 rfl rfl (by decide) (by decide) ⟨0, rfl, (Or.inr (Or.inr ⟨rfl, z, M1, h, rfl⟩))⟩
  · rcases h with ⟨e, h, hm⟩ | ⟨e, h, hm⟩ | ⟨z, e, h⟩
    · cases e
      refine ax_catchn (name := eIAE) (i := 3) [] ⟨0, 9, 12, 13⟩ [⟨0, 9, 15, 15⟩] rfl (fun _ hz => by cases hz) (by decide) (by decide) kl_L_13 cs_IAE dL_rowsForGroup_12 rfl (by decide) rfl ?_
      refine aw_iconst dL_rowsForGroup_13 ?_
      exact aw_iretW dL_rowsForGroup_14 rfl rfl (by decide) (by decide) ⟨1, rfl, (Or.inl ⟨rfl, h, hm⟩)⟩
    · cases e
      refine ax_catchn (name := eISE) (i := 3) [⟨0, 9, 12, 13⟩] ⟨0, 9, 15, 15⟩ [] rfl (List.forall_mem_cons.mpr ⟨Or.inr ⟨by decide, eIAE, kl_L_13, by decide +kernel⟩, fun _ hz => by cases hz⟩) (by decide) (by decide) kl_L_15 cs_ISE dL_rowsForGroup_15 rfl (by decide) rfl ?_
      refine aw_iconst dL_rowsForGroup_16 ?_
      exact aw_iretW dL_rowsForGroup_17 rfl rfl (by decide) (by decide) ⟨2, rfl, (Or.inr (Or.inl ⟨rfl, h, hm⟩))⟩
    · cases e
set_option maxHeartbeats 4000000 in
set_option maxRecDepth 20000 in
theorem c_L_seatsForGroup {K : WPar} {l : Launch} (hst : l.stackTraces = false) (M : Mem) (people : Int) (row : Int) (r_people : inR people) (r_row : inR row) (hw : HW M) : CTL K l iL_seatsForGroup [rV K 0 0, iV (people), iV (row), rV K 45 0] M (rZm (fun z m => (z = 1 ∧ (¬ (0 ≤ row ∧ row < M 1 0 4)) ∧ m = M) ∨ (z = 2 ∧ ((0 ≤ row ∧ row < M 1 0 4) ∧ ¬ (2 ≤ people ∧ people ≤ 100)) ∧ m = M) ∨ (z = 3 ∧ (((0 ≤ row ∧ row < M 1 0 4) ∧ (2 ≤ people ∧ people ≤ 100)) ∧ ∀ b v : Int, ¬ cM M 0 b people v) ∧ SF M m) ∨ (z = 0 ∧ ∃ (a : Int) (y : Mem), (((0 ≤ row ∧ row < M 1 0 4) ∧ (2 ≤ people ∧ people ≤ 100)) ∧ SF M y ∧ FOUND M y people ∧ a = y 26 0 row) ∧ m = updM y 45 0 0 a))) := by
  refine aw_metW [some (rV K 0 0), some (iV (people)), some (iV (row)), some (rV K 45 0), none] hst (by decide) (Nat.le_of_ble_eq_true rfl) rfl rfl (lcat rfl) ?_
  refine aw_rng (fun hM => ?_)
  refine aw_aload_n dL_seatsForGroup_0 rfl rfl ?_
  refine aw_iconst dL_seatsForGroup_1 ?_
  refine aw_aload_n dL_seatsForGroup_2 rfl rfl ?_
  refine aw_iload_n dL_seatsForGroup_3 rfl rfl ?_
  refine aw_iload_n dL_seatsForGroup_4 rfl rfl ?_
  refine aw_callV (g := 0) (As := [iV (people), iV (row)]) (rest := [iV 0, rV K 45 0]) (c_X4_seatsForGroup hst M people row r_people r_row hw) cv_X4_seatsForGroup dL_seatsForGroup_5 ml_L_54 rfl rfl rfl rfl rfl (Nat.le_of_ble_eq_true rfl) (by decide) (by decide) (fun r M1 h => ?_) (fun E M1 h => ?_)
  · rcases h with ⟨e, h, hm⟩ | ⟨e, h, hm⟩ | ⟨e, h, hm⟩ | ⟨z, e, h⟩
    · cases e
    · cases e
    · cases e
    · cases e
      refine aw_rng (fun hM1 => ?_)
      have hz : inR z := by
        rw [h.2.2.2]; exact hM1 _ _ _
      refine aw_i2l hz dL_seatsForGroup_8 ?_
      refine aw_last (g := 45) (n := 1) (M' := updM M1 45 0 0 z) rfl (by decide) dL_seatsForGroup_9 (by decide) (by decide) hz rfl ?_
      refine aw_goto (tgt := 25) dL_seatsForGroup_10 (by decide) ?_
      refine aw_iconst dL_seatsForGroup_25 ?_
      exact aw_iretW dL_seatsForGroup_26 rfl rfl (by decide) (by decide) ⟨0, rfl, (Or.inr (Or.inr (Or.inr ⟨rfl, z, M1, h, rfl⟩)))⟩
  · rcases h with ⟨e, h, hm⟩ | ⟨e, h, hm⟩ | ⟨e, h, hm⟩ | ⟨z, e, h⟩
    · cases e
      refine ax_catch (name := eIOB) (i := 4) [] ⟨0, 10, 13, 21⟩ [⟨0, 10, 17, 13⟩, ⟨0, 10, 21, 15⟩] rfl (fun _ hz => by cases hz) (by decide) (by decide) kl_L_21 cs_IOB dL_seatsForGroup_13 (by decide) rfl ?_
      refine aw_iconst dL_seatsForGroup_15 ?_
      exact aw_iretW dL_seatsForGroup_16 rfl rfl (by decide) (by decide) ⟨1, rfl, (Or.inl ⟨rfl, h, hm⟩)⟩
    · cases e
      refine ax_catch (name := eIAE) (i := 4) [⟨0, 10, 13, 21⟩] ⟨0, 10, 17, 13⟩ [⟨0, 10, 21, 15⟩] rfl (List.forall_mem_cons.mpr ⟨Or.inr ⟨by decide, eIOB, kl_L_21, by decide +kernel⟩, fun _ hz => by cases hz⟩) (by decide) (by decide) kl_L_13 cs_IAE dL_seatsForGroup_17 (by decide) rfl ?_
      refine aw_iconst dL_seatsForGroup_19 ?_
      exact aw_iretW dL_seatsForGroup_20 rfl rfl (by decide) (by decide) ⟨2, rfl, (Or.inr (Or.inl ⟨rfl, h, hm⟩))⟩
    · cases e
      refine ax_catch (name := eISE) (i := 4) [⟨0, 10, 13, 21⟩, ⟨0, 10, 17, 13⟩] ⟨0, 10, 21, 15⟩ [] rfl (List.forall_mem_cons.mpr ⟨Or.inr ⟨by decide, eIOB, kl_L_21, by decide +kernel⟩, List.forall_mem_cons.mpr ⟨Or.inr ⟨by decide, eIAE, kl_L_13, by decide +kernel⟩, fun _ hz => by cases hz⟩⟩) (by decide) (by decide) kl_L_15 cs_ISE dL_seatsForGroup_21 (by decide) rfl ?_
      refine aw_iconst dL_seatsForGroup_23 ?_
      exact aw_iretW dL_seatsForGroup_24 rfl rfl (by decide) (by decide) ⟨3, rfl, (Or.inr (Or.inr (Or.inl ⟨rfl, h, hm⟩)))⟩
    · cases e
set_option maxHeartbeats 4000000 in
set_option maxRecDepth 20000 in
theorem c_L_holdGroup {K : WPar} {l : Launch} (hst : l.stackTraces = false) (M : Mem) (people : Int) (minutes : Int) (r_people : inR people) (r_minutes : inR minutes) (hw : HW M) (bw : BW M) (v_now : 0 ≤ M 0 0 4 ∧ M 0 0 4 ≤ 1000000) : CTL K l iL_holdGroup [rV K 0 0, iV (people), iV (minutes), rV K 45 0] M (rZm (fun z m => (z = 1 ∧ (¬ ((2 ≤ people ∧ people ≤ 100) ∧ (1 ≤ minutes ∧ minutes ≤ 200))) ∧ m = M) ∨ (z = 2 ∧ (((2 ≤ people ∧ people ≤ 100) ∧ (1 ≤ minutes ∧ minutes ≤ 200)) ∧ ((∀ b v : Int, ¬ cM M 0 b people v) ∨ ((∃ b v : Int, cM M 0 b people v) ∧ ¬ M 7 0 8 < 100))) ∧ SF M m) ∨ (z = 0 ∧ ∃ (a : Int) (y : Mem), (((2 ≤ people ∧ people ≤ 100) ∧ (1 ≤ minutes ∧ minutes ≤ 200)) ∧ M 7 0 8 < 100 ∧ ∃ m1, SF M m1 ∧ FOUND M m1 people ∧ a = M 7 0 8 + 1 ∧ y = gsM m1 people minutes) ∧ m = updM y 45 0 0 a))) := by
  refine aw_metW [some (rV K 0 0), some (iV (people)), some (iV (minutes)), some (rV K 45 0), none] hst (by decide) (Nat.le_of_ble_eq_true rfl) rfl rfl (lcat rfl) ?_
  refine aw_rng (fun hM => ?_)
  refine aw_aload_n dL_holdGroup_0 rfl rfl ?_
  refine aw_iconst dL_holdGroup_1 ?_
  refine aw_aload_n dL_holdGroup_2 rfl rfl ?_
  refine aw_iload_n dL_holdGroup_3 rfl rfl ?_
  refine aw_iload_n dL_holdGroup_4 rfl rfl ?_
  refine aw_callV (g := 0) (As := [iV (people), iV (minutes)]) (rest := [iV 0, rV K 45 0]) (c_X4_holdGroup hst M people minutes r_people r_minutes hw bw v_now) cv_X4_holdGroup dL_holdGroup_5 ml_L_57 rfl rfl rfl rfl rfl (Nat.le_of_ble_eq_true rfl) (by decide) (by decide) (fun r M1 h => ?_) (fun E M1 h => ?_)
  · rcases h with ⟨e, h, hm⟩ | ⟨e, h, hm⟩ | ⟨z, e, h⟩
    · cases e
    · cases e
    · cases e
      refine aw_rng (fun hM1 => ?_)
      have hz : inR z := by
        have q := h.2.1; obtain ⟨b, q1, q2, q3, q5⟩ := h.2.2; have q4 := bw.1; omega
      refine aw_i2l hz dL_holdGroup_8 ?_
      refine aw_last (g := 45) (n := 1) (M' := updM M1 45 0 0 z) rfl (by decide) dL_holdGroup_9 (by decide) (by decide) hz rfl ?_
      refine aw_goto (tgt := 21) dL_holdGroup_10 (by decide) ?_
      refine aw_iconst dL_holdGroup_21 ?_
      exact aw_iretW dL_holdGroup_22 rfl rfl (by decide) (by decide) ⟨0, rfl, (Or.inr (Or.inr ⟨rfl, z, M1, h, rfl⟩))⟩
  · rcases h with ⟨e, h, hm⟩ | ⟨e, h, hm⟩ | ⟨z, e, h⟩
    · cases e
      refine ax_catch (name := eIAE) (i := 4) [] ⟨0, 10, 13, 13⟩ [⟨0, 10, 17, 15⟩] rfl (fun _ hz => by cases hz) (by decide) (by decide) kl_L_13 cs_IAE dL_holdGroup_13 (by decide) rfl ?_
      refine aw_iconst dL_holdGroup_15 ?_
      exact aw_iretW dL_holdGroup_16 rfl rfl (by decide) (by decide) ⟨1, rfl, (Or.inl ⟨rfl, h, hm⟩)⟩
    · cases e
      refine ax_catch (name := eISE) (i := 4) [⟨0, 10, 13, 13⟩] ⟨0, 10, 17, 15⟩ [] rfl (List.forall_mem_cons.mpr ⟨Or.inr ⟨by decide, eIAE, kl_L_13, by decide +kernel⟩, fun _ hz => by cases hz⟩) (by decide) (by decide) kl_L_15 cs_ISE dL_holdGroup_17 (by decide) rfl ?_
      refine aw_iconst dL_holdGroup_19 ?_
      exact aw_iretW dL_holdGroup_20 rfl rfl (by decide) (by decide) ⟨2, rfl, (Or.inr (Or.inl ⟨rfl, h, hm⟩))⟩
    · cases e
set_option maxHeartbeats 4000000 in
set_option maxRecDepth 20000 in
theorem c_L_ticketState {K : WPar} {l : Launch} (hst : l.stackTraces = false) (M : Mem) (ticket : Int) (r_ticket : inR ticket) (bw : BW M) : CTL K l iL_ticketState [rV K 0 0, iV (ticket), rV K 45 0] M (rZm (fun z m => (z = 1 ∧ (¬ (1 ≤ ticket ∧ ticket ≤ M 7 0 8)) ∧ m = M) ∨ (z = 0 ∧ ∃ (a : Int) (y : Mem), ((1 ≤ ticket ∧ ticket ≤ M 7 0 8) ∧ a = M 8 0 ticket ∧ y = M) ∧ m = updM y 45 0 0 a))) := by
  refine aw_metW [some (rV K 0 0), some (iV (ticket)), some (rV K 45 0), none] hst (by decide) (Nat.le_of_ble_eq_true rfl) rfl rfl (lcat rfl) ?_
  refine aw_rng (fun hM => ?_)
  refine aw_aload_n dL_ticketState_0 rfl rfl ?_
  refine aw_iconst dL_ticketState_1 ?_
  refine aw_aload_n dL_ticketState_2 rfl rfl ?_
  refine aw_iload_n dL_ticketState_3 rfl rfl ?_
  refine aw_callV (g := 0) (As := [iV (ticket)]) (rest := [iV 0, rV K 45 0]) (c_X4_ticketState hst M ticket r_ticket bw) cv_X4_ticketState dL_ticketState_4 ml_L_60 rfl rfl rfl rfl rfl (Nat.le_of_ble_eq_true rfl) (by decide) (by decide) (fun r M1 h => ?_) (fun E M1 h => ?_)
  · rcases h with ⟨e, h, hm⟩ | ⟨z, e, h⟩
    · cases e
    · cases e
      refine aw_rng (fun hM1 => ?_)
      have hz : inR z := by
        rw [h.2.1]; exact hM _ _ _
      refine aw_i2l hz dL_ticketState_7 ?_
      refine aw_last (g := 45) (n := 1) (M' := updM M1 45 0 0 z) rfl (by decide) dL_ticketState_8 (by decide) (by decide) hz rfl ?_
      refine aw_goto (tgt := 15) dL_ticketState_9 (by decide) ?_
      refine aw_iconst dL_ticketState_15 ?_
      exact aw_iretW dL_ticketState_16 rfl rfl (by decide) (by decide) ⟨0, rfl, (Or.inr ⟨rfl, z, M1, h, rfl⟩)⟩
  · rcases h with ⟨e, h, hm⟩ | ⟨z, e, h⟩
    · cases e
      refine ax_catchn (name := eIOB) (i := 3) [] ⟨0, 9, 12, 21⟩ [] rfl (fun _ hz => by cases hz) (by decide) (by decide) kl_L_21 cs_IOB dL_ticketState_12 rfl (by decide) rfl ?_
      refine aw_iconst dL_ticketState_13 ?_
      exact aw_iretW dL_ticketState_14 rfl rfl (by decide) (by decide) ⟨1, rfl, (Or.inl ⟨rfl, h, hm⟩)⟩
    · cases e
set_option maxHeartbeats 4000000 in
set_option maxRecDepth 20000 in
theorem c_L_seatsOf {K : WPar} {l : Launch} (hst : l.stackTraces = false) (M : Mem) (ticket : Int) (r_ticket : inR ticket) (bw : BW M) : CTL K l iL_seatsOf [rV K 0 0, iV (ticket), rV K 45 0] M (rZm (fun z m => (z = 1 ∧ (¬ (1 ≤ ticket ∧ ticket ≤ M 7 0 8)) ∧ m = M) ∨ (z = 0 ∧ ∃ (a : Int) (y : Mem), ((1 ≤ ticket ∧ ticket ≤ M 7 0 8) ∧ a = (if (M 8 0 ticket = 0 ∨ M 8 0 ticket = 1) then M 9 0 ticket else 0) ∧ y = M) ∧ m = updM y 45 0 0 a))) := by
  refine aw_metW [some (rV K 0 0), some (iV (ticket)), some (rV K 45 0), none] hst (by decide) (Nat.le_of_ble_eq_true rfl) rfl rfl (lcat rfl) ?_
  refine aw_rng (fun hM => ?_)
  refine aw_aload_n dL_seatsOf_0 rfl rfl ?_
  refine aw_iconst dL_seatsOf_1 ?_
  refine aw_aload_n dL_seatsOf_2 rfl rfl ?_
  refine aw_iload_n dL_seatsOf_3 rfl rfl ?_
  refine aw_callV (g := 0) (As := [iV (ticket)]) (rest := [iV 0, rV K 45 0]) (c_X4_seatsOf hst M ticket r_ticket bw) cv_X4_seatsOf dL_seatsOf_4 ml_L_63 rfl rfl rfl rfl rfl (Nat.le_of_ble_eq_true rfl) (by decide) (by decide) (fun r M1 h => ?_) (fun E M1 h => ?_)
  · rcases h with ⟨e, h, hm⟩ | ⟨z, e, h⟩
    · cases e
    · cases e
      refine aw_rng (fun hM1 => ?_)
      have hz : inR z := by
        rw [h.2.1]; have q := hM 9 0 ticket; split <;> omega
      refine aw_i2l hz dL_seatsOf_7 ?_
      refine aw_last (g := 45) (n := 1) (M' := updM M1 45 0 0 z) rfl (by decide) dL_seatsOf_8 (by decide) (by decide) hz rfl ?_
      refine aw_goto (tgt := 15) dL_seatsOf_9 (by decide) ?_
      refine aw_iconst dL_seatsOf_15 ?_
      exact aw_iretW dL_seatsOf_16 rfl rfl (by decide) (by decide) ⟨0, rfl, (Or.inr ⟨rfl, z, M1, h, rfl⟩)⟩
  · rcases h with ⟨e, h, hm⟩ | ⟨z, e, h⟩
    · cases e
      refine ax_catchn (name := eIOB) (i := 3) [] ⟨0, 9, 12, 21⟩ [] rfl (fun _ hz => by cases hz) (by decide) (by decide) kl_L_21 cs_IOB dL_seatsOf_12 rfl (by decide) rfl ?_
      refine aw_iconst dL_seatsOf_13 ?_
      exact aw_iretW dL_seatsOf_14 rfl rfl (by decide) (by decide) ⟨1, rfl, (Or.inl ⟨rfl, h, hm⟩)⟩
    · cases e
set_option maxHeartbeats 4000000 in
set_option maxRecDepth 20000 in
theorem c_L_priceOf {K : WPar} {l : Launch} (hst : l.stackTraces = false) (M : Mem) (ticket : Int) (r_ticket : inR ticket) (hw : HW M) (bw : BW M) : CTL K l iL_priceOf [rV K 0 0, iV (ticket), rV K 45 0] M (rZm (fun z m => (z = 1 ∧ (¬ (1 ≤ ticket ∧ ticket ≤ M 7 0 8)) ∧ m = M) ∨ (z = 0 ∧ ∃ (a : Int) (y : Mem), ((1 ≤ ticket ∧ ticket ≤ M 7 0 8) ∧ a = priceM M ticket ∧ y = M) ∧ m = updM y 45 0 0 a))) := by
  refine aw_metW [some (rV K 0 0), some (iV (ticket)), some (rV K 45 0), none] hst (by decide) (Nat.le_of_ble_eq_true rfl) rfl rfl (lcat rfl) ?_
  refine aw_rng (fun hM => ?_)
  refine aw_aload_n dL_priceOf_0 rfl rfl ?_
  refine aw_iconst dL_priceOf_1 ?_
  refine aw_aload_n dL_priceOf_2 rfl rfl ?_
  refine aw_iload_n dL_priceOf_3 rfl rfl ?_
  refine aw_callV (g := 0) (As := [iV (ticket)]) (rest := [iV 0, rV K 45 0]) (c_X4_priceOf hst M ticket r_ticket hw bw) cv_X4_priceOf dL_priceOf_4 ml_L_66 rfl rfl rfl rfl rfl (Nat.le_of_ble_eq_true rfl) (by decide) (by decide) (fun r M1 h => ?_) (fun E M1 h => ?_)
  · rcases h with ⟨e, h, hm⟩ | ⟨z, e, h⟩
    · cases e
    · cases e
      refine aw_rng (fun hM1 => ?_)
      have hz : inR z := by
        have q : 0 ≤ priceM M ticket ∧ priceM M ticket ≤ 2400000 := price_bd hw ticket
        rw [h.2.1]
        omega
      refine aw_i2l hz dL_priceOf_7 ?_
      refine aw_last (g := 45) (n := 1) (M' := updM M1 45 0 0 z) rfl (by decide) dL_priceOf_8 (by decide) (by decide) hz rfl ?_
      refine aw_goto (tgt := 15) dL_priceOf_9 (by decide) ?_
      refine aw_iconst dL_priceOf_15 ?_
      exact aw_iretW dL_priceOf_16 rfl rfl (by decide) (by decide) ⟨0, rfl, (Or.inr ⟨rfl, z, M1, h, rfl⟩)⟩
  · rcases h with ⟨e, h, hm⟩ | ⟨z, e, h⟩
    · cases e
      refine ax_catchn (name := eIOB) (i := 3) [] ⟨0, 9, 12, 21⟩ [] rfl (fun _ hz => by cases hz) (by decide) (by decide) kl_L_21 cs_IOB dL_priceOf_12 rfl (by decide) rfl ?_
      refine aw_iconst dL_priceOf_13 ?_
      exact aw_iretW dL_priceOf_14 rfl rfl (by decide) (by decide) ⟨1, rfl, (Or.inl ⟨rfl, h, hm⟩)⟩
    · cases e
set_option maxHeartbeats 4000000 in
set_option maxRecDepth 20000 in
theorem c_L_extend {K : WPar} {l : Launch} (hst : l.stackTraces = false) (M : Mem) (ticket : Int) (minutes : Int) (r_ticket : inR ticket) (r_minutes : inR minutes) (bw : BW M) (v_now : 0 ≤ M 0 0 4 ∧ M 0 0 4 ≤ 1000000) : CTL K l iL_extend [rV K 0 0, iV (ticket), iV (minutes), rV K 45 0] M (rZm (fun z m => (z = 1 ∧ (¬ (1 ≤ ticket ∧ ticket ≤ M 7 0 8)) ∧ m = M) ∨ (z = 2 ∧ ((1 ≤ ticket ∧ ticket ≤ M 7 0 8) ∧ ¬ (1 ≤ minutes ∧ minutes ≤ 200)) ∧ m = M) ∨ (z = 3 ∧ (((1 ≤ ticket ∧ ticket ≤ M 7 0 8) ∧ (1 ≤ minutes ∧ minutes ≤ 200)) ∧ ¬ (M 8 0 ticket = 0 ∧ M 11 0 ticket < 2)) ∧ m = M) ∨ (z = 0 ∧ ∃ (a : Int) (y : Mem), (((1 ≤ ticket ∧ ticket ≤ M 7 0 8) ∧ (1 ≤ minutes ∧ minutes ≤ 200)) ∧ (M 8 0 ticket = 0 ∧ M 11 0 ticket < 2) ∧ a = M 0 0 4 + minutes ∧ y = updM (updM M 10 0 ticket (M 0 0 4 + minutes)) 11 0 ticket (M 11 0 ticket + 1)) ∧ m = updM y 45 0 0 a))) := by
  refine aw_metW [some (rV K 0 0), some (iV (ticket)), some (iV (minutes)), some (rV K 45 0), none] hst (by decide) (Nat.le_of_ble_eq_true rfl) rfl rfl (lcat rfl) ?_
  refine aw_rng (fun hM => ?_)
  refine aw_aload_n dL_extend_0 rfl rfl ?_
  refine aw_iconst dL_extend_1 ?_
  refine aw_aload_n dL_extend_2 rfl rfl ?_
  refine aw_iload_n dL_extend_3 rfl rfl ?_
  refine aw_iload_n dL_extend_4 rfl rfl ?_
  refine aw_callV (g := 0) (As := [iV (ticket), iV (minutes)]) (rest := [iV 0, rV K 45 0]) (c_X4_extend hst M ticket minutes r_ticket r_minutes bw v_now) cv_X4_extend dL_extend_5 ml_L_69 rfl rfl rfl rfl rfl (Nat.le_of_ble_eq_true rfl) (by decide) (by decide) (fun r M1 h => ?_) (fun E M1 h => ?_)
  · rcases h with ⟨e, h, hm⟩ | ⟨e, h, hm⟩ | ⟨e, h, hm⟩ | ⟨z, e, h⟩
    · cases e
    · cases e
    · cases e
    · cases e
      refine aw_rng (fun hM1 => ?_)
      have hz : inR z := by
        rw [h.2.2.1]; have q := h.1.2; omega
      refine aw_i2l hz dL_extend_8 ?_
      refine aw_last (g := 45) (n := 1) (M' := updM M1 45 0 0 z) rfl (by decide) dL_extend_9 (by decide) (by decide) hz rfl ?_
      refine aw_goto (tgt := 25) dL_extend_10 (by decide) ?_
      refine aw_iconst dL_extend_25 ?_
      exact aw_iretW dL_extend_26 rfl rfl (by decide) (by decide) ⟨0, rfl, (Or.inr (Or.inr (Or.inr ⟨rfl, z, M1, h, rfl⟩)))⟩
  · rcases h with ⟨e, h, hm⟩ | ⟨e, h, hm⟩ | ⟨e, h, hm⟩ | ⟨z, e, h⟩
    · cases e
      refine ax_catch (name := eIOB) (i := 4) [] ⟨0, 10, 13, 21⟩ [⟨0, 10, 17, 13⟩, ⟨0, 10, 21, 15⟩] rfl (fun _ hz => by cases hz) (by decide) (by decide) kl_L_21 cs_IOB dL_extend_13 (by decide) rfl ?_
      refine aw_iconst dL_extend_15 ?_
      exact aw_iretW dL_extend_16 rfl rfl (by decide) (by decide) ⟨1, rfl, (Or.inl ⟨rfl, h, hm⟩)⟩
    · cases e
      refine ax_catch (name := eIAE) (i := 4) [⟨0, 10, 13, 21⟩] ⟨0, 10, 17, 13⟩ [⟨0, 10, 21, 15⟩] rfl (List.forall_mem_cons.mpr ⟨Or.inr ⟨by decide, eIOB, kl_L_21, by decide +kernel⟩, fun _ hz => by cases hz⟩) (by decide) (by decide) kl_L_13 cs_IAE dL_extend_17 (by decide) rfl ?_
      refine aw_iconst dL_extend_19 ?_
      exact aw_iretW dL_extend_20 rfl rfl (by decide) (by decide) ⟨2, rfl, (Or.inr (Or.inl ⟨rfl, h, hm⟩))⟩
    · cases e
      refine ax_catch (name := eISE) (i := 4) [⟨0, 10, 13, 21⟩, ⟨0, 10, 17, 13⟩] ⟨0, 10, 21, 15⟩ [] rfl (List.forall_mem_cons.mpr ⟨Or.inr ⟨by decide, eIOB, kl_L_21, by decide +kernel⟩, List.forall_mem_cons.mpr ⟨Or.inr ⟨by decide, eIAE, kl_L_13, by decide +kernel⟩, fun _ hz => by cases hz⟩⟩) (by decide) (by decide) kl_L_15 cs_ISE dL_extend_21 (by decide) rfl ?_
      refine aw_iconst dL_extend_23 ?_
      exact aw_iretW dL_extend_24 rfl rfl (by decide) (by decide) ⟨3, rfl, (Or.inr (Or.inr (Or.inl ⟨rfl, h, hm⟩)))⟩
    · cases e
set_option maxHeartbeats 4000000 in
set_option maxRecDepth 20000 in
theorem c_L_pay {K : WPar} {l : Launch} (hst : l.stackTraces = false) (M : Mem) (ticket : Int) (r_ticket : inR ticket) (hw : HW M) (bw : BW M) (v_bal : -1300000000 ≤ M 0 0 5 ∧ M 0 0 5 ≤ 1300000000) : CTL K l iL_pay [rV K 0 0, iV (ticket), rV K 45 0] M (rZm (fun z m => (z = 1 ∧ (¬ (1 ≤ ticket ∧ ticket ≤ M 7 0 8)) ∧ m = M) ∨ (z = 2 ∧ ((1 ≤ ticket ∧ ticket ≤ M 7 0 8) ∧ ¬ M 8 0 ticket = 0) ∧ m = M) ∨ (z = 0 ∧ ∃ (a : Int) (y : Mem), ((1 ≤ ticket ∧ ticket ≤ M 7 0 8) ∧ M 8 0 ticket = 0 ∧ a = priceM M ticket ∧ y = updM (updM (updM M 8 0 ticket 1) 12 0 ticket (priceM M ticket)) 0 0 5 (M 0 0 5 + priceM M ticket)) ∧ m = updM y 45 0 0 a))) := by
  refine aw_metW [some (rV K 0 0), some (iV (ticket)), some (rV K 45 0), none] hst (by decide) (Nat.le_of_ble_eq_true rfl) rfl rfl (lcat rfl) ?_
  refine aw_rng (fun hM => ?_)
  refine aw_aload_n dL_pay_0 rfl rfl ?_
  refine aw_iconst dL_pay_1 ?_
  refine aw_aload_n dL_pay_2 rfl rfl ?_
  refine aw_iload_n dL_pay_3 rfl rfl ?_
  refine aw_callV (g := 0) (As := [iV (ticket)]) (rest := [iV 0, rV K 45 0]) (c_X4_pay hst M ticket r_ticket hw bw v_bal) cv_X4_pay dL_pay_4 ml_L_72 rfl rfl rfl rfl rfl (Nat.le_of_ble_eq_true rfl) (by decide) (by decide) (fun r M1 h => ?_) (fun E M1 h => ?_)
  · rcases h with ⟨e, h, hm⟩ | ⟨e, h, hm⟩ | ⟨z, e, h⟩
    · cases e
    · cases e
    · cases e
      refine aw_rng (fun hM1 => ?_)
      have hz : inR z := by
        have q : 0 ≤ priceM M ticket ∧ priceM M ticket ≤ 2400000 := price_bd hw ticket
        rw [h.2.2.1]
        omega
      refine aw_i2l hz dL_pay_7 ?_
      refine aw_last (g := 45) (n := 1) (M' := updM M1 45 0 0 z) rfl (by decide) dL_pay_8 (by decide) (by decide) hz rfl ?_
      refine aw_goto (tgt := 18) dL_pay_9 (by decide) ?_
      refine aw_iconst dL_pay_18 ?_
      exact aw_iretW dL_pay_19 rfl rfl (by decide) (by decide) ⟨0, rfl, (Or.inr (Or.inr ⟨rfl, z, M1, h, rfl⟩))⟩
  · rcases h with ⟨e, h, hm⟩ | ⟨e, h, hm⟩ | ⟨z, e, h⟩
    · cases e
      refine ax_catchn (name := eIOB) (i := 3) [] ⟨0, 9, 12, 21⟩ [⟨0, 9, 15, 15⟩] rfl (fun _ hz => by cases hz) (by decide) (by decide) kl_L_21 cs_IOB dL_pay_12 rfl (by decide) rfl ?_
      refine aw_iconst dL_pay_13 ?_
      exact aw_iretW dL_pay_14 rfl rfl (by decide) (by decide) ⟨1, rfl, (Or.inl ⟨rfl, h, hm⟩)⟩
    · cases e
      refine ax_catchn (name := eISE) (i := 3) [⟨0, 9, 12, 21⟩] ⟨0, 9, 15, 15⟩ [] rfl (List.forall_mem_cons.mpr ⟨Or.inr ⟨by decide, eIOB, kl_L_21, by decide +kernel⟩, fun _ hz => by cases hz⟩) (by decide) (by decide) kl_L_15 cs_ISE dL_pay_15 rfl (by decide) rfl ?_
      refine aw_iconst dL_pay_16 ?_
      exact aw_iretW dL_pay_17 rfl rfl (by decide) (by decide) ⟨2, rfl, (Or.inr (Or.inl ⟨rfl, h, hm⟩))⟩
    · cases e
set_option maxHeartbeats 4000000 in
set_option maxRecDepth 20000 in
theorem c_L_cancel {K : WPar} {l : Launch} (hst : l.stackTraces = false) (M : Mem) (ticket : Int) (r_ticket : inR ticket) (hw : HW M) (bw : BW M) (v_bal : -1300000000 ≤ M 0 0 5 ∧ M 0 0 5 ≤ 1300000000) (v_pd : 1 ≤ ticket → ticket ≤ M 7 0 8 → 0 ≤ M 12 0 ticket ∧ M 12 0 ticket ≤ 2400000) : CTL K l iL_cancel [rV K 0 0, iV (ticket), rV K 45 0] M (rZm (fun z m => (z = 1 ∧ (¬ (1 ≤ ticket ∧ ticket ≤ M 7 0 8)) ∧ m = M) ∨ (z = 2 ∧ ((1 ≤ ticket ∧ ticket ≤ M 7 0 8) ∧ ¬ (M 8 0 ticket = 0 ∨ M 8 0 ticket = 1)) ∧ m = M) ∨ (z = 0 ∧ ∃ (a : Int) (y : Mem), ((1 ≤ ticket ∧ ticket ≤ M 7 0 8) ∧ (M 8 0 ticket = 0 ∨ M 8 0 ticket = 1) ∧ a = M 12 0 ticket ∧ y = updM (clM M ticket 3) 0 0 5 (M 0 0 5 - M 12 0 ticket)) ∧ m = updM y 45 0 0 a))) := by
  refine aw_metW [some (rV K 0 0), some (iV (ticket)), some (rV K 45 0), none] hst (by decide) (Nat.le_of_ble_eq_true rfl) rfl rfl (lcat rfl) ?_
  refine aw_rng (fun hM => ?_)
  refine aw_aload_n dL_cancel_0 rfl rfl ?_
  refine aw_iconst dL_cancel_1 ?_
  refine aw_aload_n dL_cancel_2 rfl rfl ?_
  refine aw_iload_n dL_cancel_3 rfl rfl ?_
  refine aw_callV (g := 0) (As := [iV (ticket)]) (rest := [iV 0, rV K 45 0]) (c_X4_cancel hst M ticket r_ticket hw bw v_bal v_pd) cv_X4_cancel dL_cancel_4 ml_L_75 rfl rfl rfl rfl rfl (Nat.le_of_ble_eq_true rfl) (by decide) (by decide) (fun r M1 h => ?_) (fun E M1 h => ?_)
  · rcases h with ⟨e, h, hm⟩ | ⟨e, h, hm⟩ | ⟨z, e, h⟩
    · cases e
    · cases e
    · cases e
      refine aw_rng (fun hM1 => ?_)
      have hz : inR z := by
        rw [h.2.2.1]; exact hM _ _ _
      refine aw_i2l hz dL_cancel_7 ?_
      refine aw_last (g := 45) (n := 1) (M' := updM M1 45 0 0 z) rfl (by decide) dL_cancel_8 (by decide) (by decide) hz rfl ?_
      refine aw_goto (tgt := 18) dL_cancel_9 (by decide) ?_
      refine aw_iconst dL_cancel_18 ?_
      exact aw_iretW dL_cancel_19 rfl rfl (by decide) (by decide) ⟨0, rfl, (Or.inr (Or.inr ⟨rfl, z, M1, h, rfl⟩))⟩
  · rcases h with ⟨e, h, hm⟩ | ⟨e, h, hm⟩ | ⟨z, e, h⟩
    · cases e
      refine ax_catchn (name := eIOB) (i := 3) [] ⟨0, 9, 12, 21⟩ [⟨0, 9, 15, 15⟩] rfl (fun _ hz => by cases hz) (by decide) (by decide) kl_L_21 cs_IOB dL_cancel_12 rfl (by decide) rfl ?_
      refine aw_iconst dL_cancel_13 ?_
      exact aw_iretW dL_cancel_14 rfl rfl (by decide) (by decide) ⟨1, rfl, (Or.inl ⟨rfl, h, hm⟩)⟩
    · cases e
      refine ax_catchn (name := eISE) (i := 3) [⟨0, 9, 12, 21⟩] ⟨0, 9, 15, 15⟩ [] rfl (List.forall_mem_cons.mpr ⟨Or.inr ⟨by decide, eIOB, kl_L_21, by decide +kernel⟩, fun _ hz => by cases hz⟩) (by decide) (by decide) kl_L_15 cs_ISE dL_cancel_15 rfl (by decide) rfl ?_
      refine aw_iconst dL_cancel_16 ?_
      exact aw_iretW dL_cancel_17 rfl rfl (by decide) (by decide) ⟨2, rfl, (Or.inr (Or.inl ⟨rfl, h, hm⟩))⟩
    · cases e
set_option maxHeartbeats 4000000 in
set_option maxRecDepth 20000 in
theorem c_L_pass {K : WPar} {l : Launch} (hst : l.stackTraces = false) (M : Mem) (minutes : Int) (r_minutes : inR minutes) (hw : HW M) (bw : BW M) (v_now : 0 ≤ M 0 0 4 ∧ M 0 0 4 ≤ 1000000) : CTL K l iL_pass [rV K 0 0, iV (minutes), rV K 45 0] M (rZm (fun z m => (z = 1 ∧ (¬ (1 ≤ minutes ∧ minutes ≤ 1000)) ∧ m = M) ∨ (z = 0 ∧ ∃ (a : Int) (y : Mem), ((1 ≤ minutes ∧ minutes ≤ 1000) ∧ a = passC M minutes ∧ y = passM M minutes) ∧ m = updM y 45 0 0 a))) := by
  refine aw_metW [some (rV K 0 0), some (iV (minutes)), some (rV K 45 0), none] hst (by decide) (Nat.le_of_ble_eq_true rfl) rfl rfl (lcat rfl) ?_
  refine aw_rng (fun hM => ?_)
  refine aw_aload_n dL_pass_0 rfl rfl ?_
  refine aw_iconst dL_pass_1 ?_
  refine aw_aload_n dL_pass_2 rfl rfl ?_
  refine aw_iload_n dL_pass_3 rfl rfl ?_
  refine aw_callV (g := 0) (As := [iV (minutes)]) (rest := [iV 0, rV K 45 0]) (c_X4_pass hst M minutes r_minutes hw bw v_now) cv_X4_pass dL_pass_4 ml_L_78 rfl rfl rfl rfl rfl (Nat.le_of_ble_eq_true rfl) (by decide) (by decide) (fun r M1 h => ?_) (fun E M1 h => ?_)
  · rcases h with ⟨e, h, hm⟩ | ⟨z, e, h⟩
    · cases e
    · cases e
      refine aw_rng (fun hM1 => ?_)
      have hz : inR z := by
        have q := psC_bd (updM M 0 0 4 (M 0 0 4 + minutes)) (M 7 0 8).toNat
        have b1 := bw.1
        have b2 := bw.2
        rw [h.2.1]
        unfold passC
        omega
      refine aw_i2l hz dL_pass_7 ?_
      refine aw_last (g := 45) (n := 1) (M' := updM M1 45 0 0 z) rfl (by decide) dL_pass_8 (by decide) (by decide) hz rfl ?_
      refine aw_goto (tgt := 15) dL_pass_9 (by decide) ?_
      refine aw_iconst dL_pass_15 ?_
      exact aw_iretW dL_pass_16 rfl rfl (by decide) (by decide) ⟨0, rfl, (Or.inr ⟨rfl, z, M1, h, rfl⟩)⟩
  · rcases h with ⟨e, h, hm⟩ | ⟨z, e, h⟩
    · cases e
      refine ax_catchn (name := eIAE) (i := 3) [] ⟨0, 9, 12, 13⟩ [] rfl (fun _ hz => by cases hz) (by decide) (by decide) kl_L_13 cs_IAE dL_pass_12 rfl (by decide) rfl ?_
      refine aw_iconst dL_pass_13 ?_
      exact aw_iretW dL_pass_14 rfl rfl (by decide) (by decide) ⟨1, rfl, (Or.inl ⟨rfl, h, hm⟩)⟩
    · cases e
set_option maxHeartbeats 4000000 in
set_option maxRecDepth 20000 in
theorem c_L_nextExpiry {K : WPar} {l : Launch} (hst : l.stackTraces = false) (M : Mem) (bw : BW M) (v_en : ∀ t : Int, 1 ≤ t → t ≤ M 7 0 8 → 0 ≤ M 10 0 t) : CTL K l iL_nextExpiry [rV K 0 0, rV K 45 0] M (rZm (fun z m => (z = 1 ∧ (isEarl (M 7 0 8) (M 8 0) (M 10 0) (-1)) ∧ m = M) ∨ (z = 0 ∧ ∃ (a : Int) (y : Mem), (isEarl (M 7 0 8) (M 8 0) (M 10 0) a ∧ a ≠ -1 ∧ y = M) ∧ m = updM y 45 0 0 a))) := by
  refine aw_metW [some (rV K 0 0), some (rV K 45 0), none] hst (by decide) (Nat.le_of_ble_eq_true rfl) rfl rfl (lcat rfl) ?_
  refine aw_rng (fun hM => ?_)
  refine aw_aload_n dL_nextExpiry_0 rfl rfl ?_
  refine aw_iconst dL_nextExpiry_1 ?_
  refine aw_aload_n dL_nextExpiry_2 rfl rfl ?_
  refine aw_callV (g := 0) (As := []) (rest := [iV 0, rV K 45 0]) (c_X4_nextExpiry hst M bw v_en) cv_X4_nextExpiry dL_nextExpiry_3 ml_L_81 rfl rfl rfl rfl rfl (Nat.le_of_ble_eq_true rfl) (by decide) (by decide) (fun r M1 h => ?_) (fun E M1 h => ?_)
  · rcases h with ⟨e, h, hm⟩ | ⟨z, e, h⟩
    · cases e
    · cases e
      refine aw_rng (fun hM1 => ?_)
      have hz : inR z := by
        rcases h.1 with ⟨q, _⟩ | ⟨q, ⟨t, t1, t2, t3, t4⟩, _⟩
        · omega
        · have x := hM 10 0 t
          omega
      refine aw_i2l hz dL_nextExpiry_6 ?_
      refine aw_last (g := 45) (n := 1) (M' := updM M1 45 0 0 z) rfl (by decide) dL_nextExpiry_7 (by decide) (by decide) hz rfl ?_
      refine aw_goto (tgt := 14) dL_nextExpiry_8 (by decide) ?_
      refine aw_iconst dL_nextExpiry_14 ?_
      exact aw_iretW dL_nextExpiry_15 rfl rfl (by decide) (by decide) ⟨0, rfl, (Or.inr ⟨rfl, z, M1, h, rfl⟩)⟩
  · rcases h with ⟨e, h, hm⟩ | ⟨z, e, h⟩
    · cases e
      refine ax_catchn (name := eISE) (i := 2) [] ⟨0, 8, 11, 15⟩ [] rfl (fun _ hz => by cases hz) (by decide) (by decide) kl_L_15 cs_ISE dL_nextExpiry_11 rfl (by decide) rfl ?_
      refine aw_iconst dL_nextExpiry_12 ?_
      exact aw_iretW dL_nextExpiry_13 rfl rfl (by decide) (by decide) ⟨1, rfl, (Or.inl ⟨rfl, h, hm⟩)⟩
    · cases e
set_option maxHeartbeats 4000000 in
set_option maxRecDepth 20000 in
theorem c_L_wish {K : WPar} {l : Launch} (hst : l.stackTraces = false) (M : Mem) (ticket : Int) (row : Int) (r_ticket : inR ticket) (r_row : inR row) (hw : HW M) (bw : BW M) : CTL K l iL_wish [rV K 0 0, iV (ticket), iV (row), rV K 45 0] M (rZm (fun z m => (z = 1 ∧ (¬ ((1 ≤ ticket ∧ ticket ≤ M 7 0 8) ∧ (0 ≤ row ∧ row < M 1 0 4))) ∧ m = M) ∨ (z = 2 ∧ (((1 ≤ ticket ∧ ticket ≤ M 7 0 8) ∧ (0 ≤ row ∧ row < M 1 0 4)) ∧ ¬ (M 8 0 ticket = 1 ∧ M 13 0 ticket ≠ -1 ∧ M 13 0 ticket ≠ row)) ∧ m = M) ∨ (z = 0 ∧ ∃ (a : Int) (y : Mem), (((1 ≤ ticket ∧ ticket ≤ M 7 0 8) ∧ (0 ≤ row ∧ row < M 1 0 4)) ∧ (M 8 0 ticket = 1 ∧ M 13 0 ticket ≠ -1 ∧ M 13 0 ticket ≠ row) ∧ a = M 15 0 ticket ∧ y = updM M 15 0 ticket row) ∧ m = updM y 45 0 0 a))) := by
  refine aw_metW [some (rV K 0 0), some (iV (ticket)), some (iV (row)), some (rV K 45 0), none] hst (by decide) (Nat.le_of_ble_eq_true rfl) rfl rfl (lcat rfl) ?_
  refine aw_rng (fun hM => ?_)
  refine aw_aload_n dL_wish_0 rfl rfl ?_
  refine aw_iconst dL_wish_1 ?_
  refine aw_aload_n dL_wish_2 rfl rfl ?_
  refine aw_iload_n dL_wish_3 rfl rfl ?_
  refine aw_iload_n dL_wish_4 rfl rfl ?_
  refine aw_callV (g := 0) (As := [iV (ticket), iV (row)]) (rest := [iV 0, rV K 45 0]) (c_X4_wish hst M ticket row r_ticket r_row hw bw) cv_X4_wish dL_wish_5 ml_L_85 rfl rfl rfl rfl rfl (Nat.le_of_ble_eq_true rfl) (by decide) (by decide) (fun r M1 h => ?_) (fun E M1 h => ?_)
  · rcases h with ⟨e, h, hm⟩ | ⟨e, h, hm⟩ | ⟨z, e, h⟩
    · cases e
    · cases e
    · cases e
      refine aw_rng (fun hM1 => ?_)
      have hz : inR z := by
        rw [h.2.2.1]; exact hM _ _ _
      refine aw_i2l hz dL_wish_8 ?_
      refine aw_last (g := 45) (n := 1) (M' := updM M1 45 0 0 z) rfl (by decide) dL_wish_9 (by decide) (by decide) hz rfl ?_
      refine aw_goto (tgt := 21) dL_wish_10 (by decide) ?_
      refine aw_iconst dL_wish_21 ?_
      exact aw_iretW dL_wish_22 rfl rfl (by decide) (by decide) ⟨0, rfl, (Or.inr (Or.inr ⟨rfl, z, M1, h, rfl⟩))⟩
  · rcases h with ⟨e, h, hm⟩ | ⟨e, h, hm⟩ | ⟨z, e, h⟩
    · cases e
      refine ax_catch (name := eIOB) (i := 4) [] ⟨0, 10, 13, 21⟩ [⟨0, 10, 17, 15⟩] rfl (fun _ hz => by cases hz) (by decide) (by decide) kl_L_21 cs_IOB dL_wish_13 (by decide) rfl ?_
      refine aw_iconst dL_wish_15 ?_
      exact aw_iretW dL_wish_16 rfl rfl (by decide) (by decide) ⟨1, rfl, (Or.inl ⟨rfl, h, hm⟩)⟩
    · cases e
      refine ax_catch (name := eISE) (i := 4) [⟨0, 10, 13, 21⟩] ⟨0, 10, 17, 15⟩ [] rfl (List.forall_mem_cons.mpr ⟨Or.inr ⟨by decide, eIOB, kl_L_21, by decide +kernel⟩, fun _ hz => by cases hz⟩) (by decide) (by decide) kl_L_15 cs_ISE dL_wish_17 (by decide) rfl ?_
      refine aw_iconst dL_wish_19 ?_
      exact aw_iretW dL_wish_20 rfl rfl (by decide) (by decide) ⟨2, rfl, (Or.inr (Or.inl ⟨rfl, h, hm⟩))⟩
    · cases e
set_option maxHeartbeats 4000000 in
set_option maxRecDepth 20000 in
theorem c_L_exchange {K : WPar} {l : Launch} (hst : l.stackTraces = false) (M : Mem) (ticket : Int) (r_ticket : inR ticket) (hw : HW M) (bw : BW M) (xw : XW M) (v_pl : ∀ t : Int, 1 ≤ t → t ≤ M 7 0 8 → M 15 0 t ≠ -1 → vpl M (M 9 0 t) (M 13 0 t) (M 14 0 t) ∧ 1 ≤ M 9 0 t ∧ M 9 0 t ≤ 20) : CTL K l iL_exchange [rV K 0 0, iV (ticket), rV K 45 0] M (rZm (fun z m => (z = 1 ∧ (¬ (1 ≤ ticket ∧ ticket ≤ M 7 0 8)) ∧ m = M) ∨ (z = 2 ∧ ((1 ≤ ticket ∧ ticket ≤ M 7 0 8) ∧ (M 15 0 ticket = -1 ∨ (M 15 0 ticket ≠ -1 ∧ ∀ k : Nat, ¬ RM M (M 9 0 ticket) (M 13 0 ticket) k (M 15 0 ticket)))) ∧ XF M m) ∨ (z = 0 ∧ ∃ (a : Int) (y : Mem), ((1 ≤ ticket ∧ ticket ≤ M 7 0 8) ∧ M 15 0 ticket ≠ -1 ∧ ∃ m1, XF M m1 ∧ XFOUND M m1 ticket (M 9 0 ticket) (M 13 0 ticket) ∧ a = m1 27 0 4 ∧ y = exM m1) ∧ m = updM y 45 0 0 a))) := by
  refine aw_metW [some (rV K 0 0), some (iV (ticket)), some (rV K 45 0), none] hst (by decide) (Nat.le_of_ble_eq_true rfl) rfl rfl (lcat rfl) ?_
  refine aw_rng (fun hM => ?_)
  refine aw_aload_n dL_exchange_0 rfl rfl ?_
  refine aw_iconst dL_exchange_1 ?_
  refine aw_aload_n dL_exchange_2 rfl rfl ?_
  refine aw_iload_n dL_exchange_3 rfl rfl ?_
  refine aw_callV (g := 0) (As := [iV (ticket)]) (rest := [iV 0, rV K 45 0]) (c_X4_exchange hst M ticket r_ticket hw bw xw v_pl) cv_X4_exchange dL_exchange_4 ml_L_88 rfl rfl rfl rfl rfl (Nat.le_of_ble_eq_true rfl) (by decide) (by decide) (fun r M1 h => ?_) (fun E M1 h => ?_)
  · rcases h with ⟨e, h, hm⟩ | ⟨e, h, hm⟩ | ⟨z, e, h⟩
    · cases e
    · cases e
    · cases e
      refine aw_rng (fun hM1 => ?_)
      have hz : inR z := by
        obtain ⟨m1, q1, q2, q3, q4⟩ := h.2.2
        have q6 : exM m1 27 = m1 27 := by
          unfold exM
          split
          · rw [mvM_g (by decide) (by decide) (by decide) (by decide), chS_g (by decide) (by decide) (by decide) (by decide)]
          · rw [mvM_g (by decide) (by decide) (by decide) (by decide), chS_g (by decide) (by decide) (by decide) (by decide)]
        have x := hM1 27 0 4
        rw [q4, q6] at x
        rw [q3]
        exact x
      refine aw_i2l hz dL_exchange_7 ?_
      refine aw_last (g := 45) (n := 1) (M' := updM M1 45 0 0 z) rfl (by decide) dL_exchange_8 (by decide) (by decide) hz rfl ?_
      refine aw_goto (tgt := 18) dL_exchange_9 (by decide) ?_
      refine aw_iconst dL_exchange_18 ?_
      exact aw_iretW dL_exchange_19 rfl rfl (by decide) (by decide) ⟨0, rfl, (Or.inr (Or.inr ⟨rfl, z, M1, h, rfl⟩))⟩
  · rcases h with ⟨e, h, hm⟩ | ⟨e, h, hm⟩ | ⟨z, e, h⟩
    · cases e
      refine ax_catchn (name := eIOB) (i := 3) [] ⟨0, 9, 12, 21⟩ [⟨0, 9, 15, 15⟩] rfl (fun _ hz => by cases hz) (by decide) (by decide) kl_L_21 cs_IOB dL_exchange_12 rfl (by decide) rfl ?_
      refine aw_iconst dL_exchange_13 ?_
      exact aw_iretW dL_exchange_14 rfl rfl (by decide) (by decide) ⟨1, rfl, (Or.inl ⟨rfl, h, hm⟩)⟩
    · cases e
      refine ax_catchn (name := eISE) (i := 3) [⟨0, 9, 12, 21⟩] ⟨0, 9, 15, 15⟩ [] rfl (List.forall_mem_cons.mpr ⟨Or.inr ⟨by decide, eIOB, kl_L_21, by decide +kernel⟩, fun _ hz => by cases hz⟩) (by decide) (by decide) kl_L_15 cs_ISE dL_exchange_15 rfl (by decide) rfl ?_
      refine aw_iconst dL_exchange_16 ?_
      exact aw_iretW dL_exchange_17 rfl rfl (by decide) (by decide) ⟨2, rfl, (Or.inr (Or.inl ⟨rfl, h, hm⟩))⟩
    · cases e
