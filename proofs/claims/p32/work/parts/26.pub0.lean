set_option maxHeartbeats 4000000 in
set_option maxRecDepth 20000 in
theorem c_X4_needRange {K : WPar} {l : Launch} (hst : l.stackTraces = false) (M : Mem) (number : Int) (least : Int) (most : Int) (r_number : inR number) (r_least : inR least) (r_most : inR most) : CT K l iX4_needRange [iV (number), iV (least), iV (most)] M (rX (least ≤ number ∧ number ≤ most) none (M) "java/lang/IllegalArgumentException" M) := by
  refine aw_met [some (iV (number)), some (iV (least)), some (iV (most))] hst (by decide) rfl (Nat.le_of_ble_eq_true rfl) rfl rfl (lcat rfl) ?_
  refine aw_rng (fun hM => ?_)
  refine aw_iload_n dX4_needRange_0 rfl rfl ?_
  refine aw_iload_n dX4_needRange_1 rfl rfl ?_
  refine aw_icmp_lt (tgt := 10) dX4_needRange_2 (by decide) (by omega) (by omega) (fun h2 => ?_) (fun h2 => ?_)
  · exact aw_throw (text := "out of range") at_IAE rfl rfl (by decide) dX4_needRange_10 dX4_needRange_13 dX4_needRange_14 dX4_needRange_16 dX4_needRange_19 (by decide) (Nat.le_of_ble_eq_true rfl) (by decide) (by decide) (Or.inr ⟨by omega, rfl, (by rfl)⟩)
  · refine aw_iload_n dX4_needRange_5 rfl rfl ?_
    refine aw_iload_n dX4_needRange_6 rfl rfl ?_
    refine aw_icmp_le (tgt := 20) dX4_needRange_7 (by decide) (by omega) (by omega) (fun h7 => ?_) (fun h7 => ?_)
    · exact aw_vret dX4_needRange_20 rfl (by decide) (by decide) (Or.inl ⟨by omega, rfl, (by rfl)⟩)
    · exact aw_throw (text := "out of range") at_IAE rfl rfl (by decide) dX4_needRange_10 dX4_needRange_13 dX4_needRange_14 dX4_needRange_16 dX4_needRange_19 (by decide) (Nat.le_of_ble_eq_true rfl) (by decide) (by decide) (Or.inr ⟨by omega, rfl, (by rfl)⟩)
set_option maxHeartbeats 4000000 in
set_option maxRecDepth 20000 in
theorem c_X4_needSeats {K : WPar} {l : Launch} (hst : l.stackTraces = false) (M : Mem) (seats : Int) (r_seats : inR seats) : CT K l iX4_needSeats [iV (seats)] M (rX (1 ≤ seats ∧ seats ≤ 20) none (M) "java/lang/IllegalArgumentException" M) := by
  refine aw_met [some (iV (seats))] hst (by decide) rfl (Nat.le_of_ble_eq_true rfl) rfl rfl (lcat rfl) ?_
  refine aw_rng (fun hM => ?_)
  refine aw_iload_n dX4_needSeats_0 rfl rfl ?_
  refine aw_iconst dX4_needSeats_1 ?_
  refine aw_bipush dX4_needSeats_2 rfl ?_
  refine aw_cSx (st2 := []) (c2 := 1) (s2 := 6) (As := [iV (seats), iV 1, iV 20]) (rest := []) (c_X4_needRange hst M (seats) (1) (20) (by omega) (by omega) (by omega)) cs_X4_needRange dX4_needSeats_4 ml_X4_52 rfl rfl (Nat.le_of_ble_eq_true rfl) (by decide) rfl rfl rfl (by decide) (fun h4 => ?_) (fun h4 => ?_)
  · exact aw_vret dX4_needSeats_7 rfl (by decide) (by decide) (Or.inl ⟨by omega, rfl, (by rfl)⟩)
  · exact ax_out rfl (by decide) (by decide) (Or.inr ⟨by omega, rfl, (by rfl)⟩)
set_option maxHeartbeats 4000000 in
set_option maxRecDepth 20000 in
theorem c_X4_needMinutes {K : WPar} {l : Launch} (hst : l.stackTraces = false) (M : Mem) (minutes : Int) (r_minutes : inR minutes) : CT K l iX4_needMinutes [iV (minutes)] M (rX (1 ≤ minutes ∧ minutes ≤ 200) none (M) "java/lang/IllegalArgumentException" M) := by
  refine aw_met [some (iV (minutes))] hst (by decide) rfl (Nat.le_of_ble_eq_true rfl) rfl rfl (lcat rfl) ?_
  refine aw_rng (fun hM => ?_)
  refine aw_iload_n dX4_needMinutes_0 rfl rfl ?_
  refine aw_iconst dX4_needMinutes_1 ?_
  refine aw_sipush dX4_needMinutes_2 rfl ?_
  refine aw_cSx (st2 := []) (c2 := 1) (s2 := 6) (As := [iV (minutes), iV 1, iV 200]) (rest := []) (c_X4_needRange hst M (minutes) (1) (200) (by omega) (by omega) (by omega)) cs_X4_needRange dX4_needMinutes_5 ml_X4_52 rfl rfl (Nat.le_of_ble_eq_true rfl) (by decide) rfl rfl rfl (by decide) (fun h5 => ?_) (fun h5 => ?_)
  · exact aw_vret dX4_needMinutes_8 rfl (by decide) (by decide) (Or.inl ⟨by omega, rfl, (by rfl)⟩)
  · exact ax_out rfl (by decide) (by decide) (Or.inr ⟨by omega, rfl, (by rfl)⟩)
set_option maxHeartbeats 4000000 in
set_option maxRecDepth 20000 in
theorem c_X4_needPeople {K : WPar} {l : Launch} (hst : l.stackTraces = false) (M : Mem) (people : Int) (r_people : inR people) : CT K l iX4_needPeople [iV (people)] M (rX (2 ≤ people ∧ people ≤ 100) none (M) "java/lang/IllegalArgumentException" M) := by
  refine aw_met [some (iV (people))] hst (by decide) rfl (Nat.le_of_ble_eq_true rfl) rfl rfl (lcat rfl) ?_
  refine aw_rng (fun hM => ?_)
  refine aw_iload_n dX4_needPeople_0 rfl rfl ?_
  refine aw_iconst dX4_needPeople_1 ?_
  refine aw_bipush dX4_needPeople_2 rfl ?_
  refine aw_cSx (st2 := []) (c2 := 1) (s2 := 6) (As := [iV (people), iV 2, iV 100]) (rest := []) (c_X4_needRange hst M (people) (2) (100) (by omega) (by omega) (by omega)) cs_X4_needRange dX4_needPeople_4 ml_X4_52 rfl rfl (Nat.le_of_ble_eq_true rfl) (by decide) rfl rfl rfl (by decide) (fun h4 => ?_) (fun h4 => ?_)
  · exact aw_vret dX4_needPeople_7 rfl (by decide) (by decide) (Or.inl ⟨by omega, rfl, (by rfl)⟩)
  · exact ax_out rfl (by decide) (by decide) (Or.inr ⟨by omega, rfl, (by rfl)⟩)
set_option maxHeartbeats 4000000 in
set_option maxRecDepth 20000 in
theorem c_X4_needRow {K : WPar} {l : Launch} (hst : l.stackTraces = false) (M : Mem) (row : Int) (r_row : inR row) (hw : HW M) : CT K l iX4_needRow [rV K 0 0, iV (row)] M (rX (0 ≤ row ∧ row < M 1 0 4) none (M) "java/lang/IndexOutOfBoundsException" M) := by
  refine aw_met [some (rV K 0 0), some (iV (row))] hst (by decide) rfl (Nat.le_of_ble_eq_true rfl) rfl rfl (lcat rfl) ?_
  refine aw_rng (fun hM => ?_)
  refine aw_aload_n dX4_needRow_0 rfl rfl ?_
  refine aw_getr (g := 0) rfl rfl ly_X4 rfl (k := 0) dX4_needRow_1 (by decide) fl_X4_10 rfl ?_
  refine aw_iload_n dX4_needRow_4 rfl rfl ?_
  refine aw_cVb (g := 1) (As := [iV (row)]) (rest := []) (c_X2_hasRow hst M (row) (by omega)) cv_X2_hasRow dX4_needRow_5 ml_X4_215 rfl rfl rfl rfl rfl (Nat.le_of_ble_eq_true rfl) (by decide) rfl rfl (by decide) (fun h5 => ?_) (fun h5 => ?_)
  · refine aw_if_ne (tgt := 21) dX4_needRow_8 (by decide) (by decide) (fun _ => ?_) (fun h => absurd h (by decide))
    exact aw_vret dX4_needRow_21 rfl (by decide) (by decide) (Or.inl ⟨by omega, rfl, (by rfl)⟩)
  · refine aw_if_ne (tgt := 21) dX4_needRow_8 (by decide) (by decide) (fun h => absurd h (by decide)) (fun _ => ?_)
    exact aw_throw (text := "no such row") at_IOB rfl rfl (by decide) dX4_needRow_11 dX4_needRow_14 dX4_needRow_15 dX4_needRow_17 dX4_needRow_20 (by decide) (Nat.le_of_ble_eq_true rfl) (by decide) (by decide) (Or.inr ⟨by omega, rfl, (by rfl)⟩)
set_option maxHeartbeats 4000000 in
set_option maxRecDepth 20000 in
theorem c_X4_needSeat {K : WPar} {l : Launch} (hst : l.stackTraces = false) (M : Mem) (row : Int) (seat : Int) (r_row : inR row) (r_seat : inR seat) (hw : HW M) : CT K l iX4_needSeat [rV K 0 0, iV (row), iV (seat)] M (rX (0 ≤ row ∧ row < M 1 0 4 ∧ 0 ≤ seat ∧ seat < M 2 0 row) none (M) "java/lang/IndexOutOfBoundsException" M) := by
  refine aw_met [some (rV K 0 0), some (iV (row)), some (iV (seat))] hst (by decide) rfl (Nat.le_of_ble_eq_true rfl) rfl rfl (lcat rfl) ?_
  refine aw_rng (fun hM => ?_)
  refine aw_aload_n dX4_needSeat_0 rfl rfl ?_
  refine aw_getr (g := 0) rfl rfl ly_X4 rfl (k := 0) dX4_needSeat_1 (by decide) fl_X4_10 rfl ?_
  refine aw_iload_n dX4_needSeat_4 rfl rfl ?_
  refine aw_iload_n dX4_needSeat_5 rfl rfl ?_
  refine aw_cVb (g := 1) (As := [iV (row), iV (seat)]) (rest := []) (c_X2_hasSeat hst M (row) (seat) (by omega) (by omega) (by omega)) cv_X2_hasSeat dX4_needSeat_6 ml_X4_223 rfl rfl rfl rfl rfl (Nat.le_of_ble_eq_true rfl) (by decide) rfl rfl (by decide) (fun h6 => ?_) (fun h6 => ?_)
  · refine aw_if_ne (tgt := 22) dX4_needSeat_9 (by decide) (by decide) (fun _ => ?_) (fun h => absurd h (by decide))
    exact aw_vret dX4_needSeat_22 rfl (by decide) (by decide) (Or.inl ⟨by omega, rfl, (by rfl)⟩)
  · refine aw_if_ne (tgt := 22) dX4_needSeat_9 (by decide) (by decide) (fun h => absurd h (by decide)) (fun _ => ?_)
    exact aw_throw (text := "no such row or seat") at_IOB rfl rfl (by decide) dX4_needSeat_12 dX4_needSeat_15 dX4_needSeat_16 dX4_needSeat_18 dX4_needSeat_21 (by decide) (Nat.le_of_ble_eq_true rfl) (by decide) (by decide) (Or.inr ⟨by omega, rfl, (by rfl)⟩)
set_option maxHeartbeats 4000000 in
set_option maxRecDepth 20000 in
theorem c_X4_needTicket {K : WPar} {l : Launch} (hst : l.stackTraces = false) (M : Mem) (ticket : Int) (r_ticket : inR ticket) (bw : BW M) : CT K l iX4_needTicket [rV K 0 0, iV (ticket)] M (rX (1 ≤ ticket ∧ ticket ≤ M 7 0 8) none (M) "java/lang/IndexOutOfBoundsException" M) := by
  refine aw_met [some (rV K 0 0), some (iV (ticket))] hst (by decide) rfl (Nat.le_of_ble_eq_true rfl) rfl rfl (lcat rfl) ?_
  refine aw_rng (fun hM => ?_)
  refine aw_aload_n dX4_needTicket_0 rfl rfl ?_
  refine aw_getr (g := 0) rfl rfl ly_X4 rfl (k := 1) dX4_needTicket_1 (by decide) fl_X4_19 rfl ?_
  refine aw_iload_n dX4_needTicket_4 rfl rfl ?_
  refine aw_cVb (g := 7) (As := [iV (ticket)]) (rest := []) (c_X3_hasTicket hst M (ticket) (by omega) (by omega)) cv_X3_hasTicket dX4_needTicket_5 ml_X4_229 rfl rfl rfl rfl rfl (Nat.le_of_ble_eq_true rfl) (by decide) rfl rfl (by decide) (fun h5 => ?_) (fun h5 => ?_)
  · refine aw_if_ne (tgt := 21) dX4_needTicket_8 (by decide) (by decide) (fun _ => ?_) (fun h => absurd h (by decide))
    exact aw_vret dX4_needTicket_21 rfl (by decide) (by decide) (Or.inl ⟨by omega, rfl, (by rfl)⟩)
  · refine aw_if_ne (tgt := 21) dX4_needTicket_8 (by decide) (by decide) (fun h => absurd h (by decide)) (fun _ => ?_)
    exact aw_throw (text := "no such ticket") at_IOB rfl rfl (by decide) dX4_needTicket_11 dX4_needTicket_14 dX4_needTicket_15 dX4_needTicket_17 dX4_needTicket_20 (by decide) (Nat.le_of_ble_eq_true rfl) (by decide) (by decide) (Or.inr ⟨by omega, rfl, (by rfl)⟩)
set_option maxHeartbeats 4000000 in
set_option maxRecDepth 20000 in
theorem c_X4_needHold {K : WPar} {l : Launch} (hst : l.stackTraces = false) (M : Mem) (ticket : Int) (r_ticket : inR ticket) (bw : BW M) (v_t : 1 ≤ ticket ∧ ticket ≤ M 7 0 8) : CT K l iX4_needHold [rV K 0 0, iV (ticket)] M (rX (M 8 0 ticket = 0) none (M) "java/lang/IllegalStateException" M) := by
  refine aw_met [some (rV K 0 0), some (iV (ticket))] hst (by decide) rfl (Nat.le_of_ble_eq_true rfl) rfl rfl (lcat rfl) ?_
  refine aw_rng (fun hM => ?_)
  have x8 := hM 8 0 ticket
  refine aw_aload_n dX4_needHold_0 rfl rfl ?_
  refine aw_getr (g := 0) rfl rfl ly_X4 rfl (k := 1) dX4_needHold_1 (by decide) fl_X4_19 rfl ?_
  refine aw_iload_n dX4_needHold_4 rfl rfl ?_
  refine aw_cVi (g := 7) (As := [iV (ticket)]) (rest := []) (c_X3_stateOf hst M (ticket) (by omega) (by omega)) cv_X3_stateOf dX4_needHold_5 ml_X4_85 rfl rfl rfl rfl rfl (Nat.le_of_ble_eq_true rfl) (by decide) rfl rfl (by decide) ?_
  refine aw_st (st' := [iV (M 8 0 ticket)]) (by rw [show (if 1 ≤ ticket ∧ ticket ≤ M 7 0 8 then M 8 0 ticket else 3 : Int) = M 8 0 ticket from by exact if_pos v_t]) ?_
  refine aw_if_eq (tgt := 21) dX4_needHold_8 (by decide) (by omega) (fun h8 => ?_) (fun h8 => ?_)
  · exact aw_vret dX4_needHold_21 rfl (by decide) (by decide) (Or.inl ⟨by omega, rfl, (by rfl)⟩)
  · exact aw_throw (text := "the ticket is no hold") at_ISE rfl rfl (by decide) dX4_needHold_11 dX4_needHold_14 dX4_needHold_15 dX4_needHold_17 dX4_needHold_20 (by decide) (Nat.le_of_ble_eq_true rfl) (by decide) (by decide) (Or.inr ⟨by omega, rfl, (by rfl)⟩)
set_option maxHeartbeats 4000000 in
set_option maxRecDepth 20000 in
theorem c_X4_needTicketLeft {K : WPar} {l : Launch} (hst : l.stackTraces = false) (M : Mem) (bw : BW M) : CT K l iX4_needTicketLeft [rV K 0 0] M (rX (M 7 0 8 < 100) none (M) "java/lang/IllegalStateException" M) := by
  refine aw_met [some (rV K 0 0)] hst (by decide) rfl (Nat.le_of_ble_eq_true rfl) rfl rfl (lcat rfl) ?_
  refine aw_rng (fun hM => ?_)
  refine aw_aload_n dX4_needTicketLeft_0 rfl rfl ?_
  refine aw_getr (g := 0) rfl rfl ly_X4 rfl (k := 1) dX4_needTicketLeft_1 (by decide) fl_X4_19 rfl ?_
  refine aw_cVi (g := 7) (As := []) (rest := []) (c_X3_count hst M) cv_X3_count dX4_needTicketLeft_4 ml_X4_146 rfl rfl rfl rfl rfl (Nat.le_of_ble_eq_true rfl) (by decide) rfl rfl (by decide) ?_
  refine aw_bipush dX4_needTicketLeft_7 rfl ?_
  refine aw_icmp_lt (tgt := 22) dX4_needTicketLeft_9 (by decide) (by have h1 := bw.1; have h2 := bw.2; omega) (by have h1 := bw.1; have h2 := bw.2; omega) (fun h9 => ?_) (fun h9 => ?_)
  · exact aw_vret dX4_needTicketLeft_22 rfl (by decide) (by decide) (Or.inl ⟨by have h1 := bw.1; have h2 := bw.2; omega, rfl, (by rfl)⟩)
  · exact aw_throw (text := "there have been all tickets") at_ISE rfl rfl (by decide) dX4_needTicketLeft_12 dX4_needTicketLeft_15 dX4_needTicketLeft_16 dX4_needTicketLeft_18 dX4_needTicketLeft_21 (by decide) (Nat.le_of_ble_eq_true rfl) (by decide) (by decide) (Or.inr ⟨by have h1 := bw.1; have h2 := bw.2; omega, rfl, (by rfl)⟩)
set_option maxHeartbeats 4000000 in
set_option maxRecDepth 20000 in
theorem c_X4_needBest {K : WPar} {l : Launch} (hst : l.stackTraces = false) (M : Mem) (seats : Int) (r_seats : inR seats) (hw : HW M) (v_s : 1 ≤ seats ∧ seats ≤ 20) : CT K l iX4_needBest [rV K 0 0, iV (seats)] M (rXr (fun z => bestM M seats z ∧ z ≠ -1) (bestM M seats (-1)) "java/lang/IllegalStateException" M) := by
  refine aw_met [some (rV K 0 0), some (iV (seats)), none] hst (by decide) rfl (Nat.le_of_ble_eq_true rfl) rfl rfl (lcat rfl) ?_
  refine aw_rng (fun hM => ?_)
  refine aw_aload_n dX4_needBest_0 rfl rfl ?_
  refine aw_getr (g := 0) rfl rfl ly_X4 rfl (k := 0) dX4_needBest_1 (by decide) fl_X4_10 rfl ?_
  refine aw_iload_n dX4_needBest_4 rfl rfl ?_
  refine aw_iconst dX4_needBest_5 ?_
  refine aw_cVr (g := 1) (As := [iV (seats), iV 0]) (rest := []) (c_X2_greatestOfAll hst M (seats) (0) (by omega) (by omega) (by omega) (by omega)) cv_X2_greatestOfAll dX4_needBest_6 ml_X4_243 rfl rfl rfl rfl rfl (Nat.le_of_ble_eq_true rfl) (by decide) rfl rfl (by decide) (fun z6 (h6 : ∃ bv, isBestRV (M 1 0 4) (cB (M 2 0) (M 6) seats (0 ≠ 0)) (vBR (M 3 0) (M 2 0) seats) z6 bv) => ?_)
  obtain ⟨bv6, hb6⟩ := h6; have hc6 := isBestRV_al (Q := False) (by simp) hb6; have zb6 : -1 ≤ z6 ∧ z6 ≤ 2000 := (by rcases hb6 with ⟨a, _⟩ | ⟨r, f, b1, b2, b3, b4, b5, b6, _⟩; omega; (have q := b6.1; have q2 := hw.2.2 r b3 b4; have q3 := hw.2.1; omega))
  refine aw_istore_n (L2 := [some (rV K 0 0), some (iV (seats)), some (iV (z6))]) dX4_needBest_9 rfl (by decide) rfl ?_
  refine aw_iload_n dX4_needBest_10 rfl rfl ?_
  refine aw_iconst dX4_needBest_11 ?_
  refine aw_icmp_ne (tgt := 25) dX4_needBest_12 (by decide) (by omega) (by omega) (fun h12 => ?_) (fun h12 => ?_)
  · refine aw_iload_n dX4_needBest_25 rfl rfl ?_
    refine aw_iconst dX4_needBest_26 ?_
    refine aw_icmp_ne (tgt := 40) dX4_needBest_27 (by decide) (by omega) (by omega) (fun h27 => ?_) (fun h27 => ?_)
    · refine aw_iload_n dX4_needBest_40 rfl rfl ?_
      exact aw_iret dX4_needBest_41 rfl rfl (by decide) (by decide) (Or.inl ⟨_, rfl, by first | exact ⟨Or.inl ⟨h12, bv6, hc6⟩, h12⟩ | exact ⟨Or.inr ⟨⟨bv6, h12 ▸ hc6⟩, bv21, hc21⟩, h27⟩, rfl⟩)
    · exact aw_throw (text := "there is no possible block") at_ISE rfl rfl (by decide) dX4_needBest_30 dX4_needBest_33 dX4_needBest_34 dX4_needBest_36 dX4_needBest_39 (by decide) (Nat.le_of_ble_eq_true rfl) (by decide) (by decide) (Or.inr ⟨rfl, by first | exact absurd h27 h12 | exact Or.inr ⟨⟨bv6, h12 ▸ hc6⟩, bv21, h27 ▸ hc21⟩, rfl⟩)
  · refine aw_aload_n dX4_needBest_15 rfl rfl ?_
    refine aw_getr (g := 0) rfl rfl ly_X4 rfl (k := 0) dX4_needBest_16 (by decide) fl_X4_10 rfl ?_
    refine aw_iload_n dX4_needBest_19 rfl rfl ?_
    refine aw_iconst dX4_needBest_20 ?_
    refine aw_cVr (g := 1) (As := [iV (seats), iV 1]) (rest := []) (c_X2_greatestOfAll hst M (seats) (1) (by omega) (by omega) (by omega) (by omega)) cv_X2_greatestOfAll dX4_needBest_21 ml_X4_243 rfl rfl rfl rfl rfl (Nat.le_of_ble_eq_true rfl) (by decide) rfl rfl (by decide) (fun z21 (h21 : ∃ bv, isBestRV (M 1 0 4) (cB (M 2 0) (M 6) seats (1 ≠ 0)) (vBR (M 3 0) (M 2 0) seats) z21 bv) => ?_)
    obtain ⟨bv21, hb21⟩ := h21; have hc21 := isBestRV_al (Q := True) (by simp) hb21; have zb21 : -1 ≤ z21 ∧ z21 ≤ 2000 := (by rcases hb21 with ⟨a, _⟩ | ⟨r, f, b1, b2, b3, b4, b5, b6, _⟩; omega; (have q := b6.1; have q2 := hw.2.2 r b3 b4; have q3 := hw.2.1; omega))
    refine aw_istore_n (L2 := [some (rV K 0 0), some (iV (seats)), some (iV (z21))]) dX4_needBest_24 rfl (by decide) rfl ?_
    refine aw_iload_n dX4_needBest_25 rfl rfl ?_
    refine aw_iconst dX4_needBest_26 ?_
    refine aw_icmp_ne (tgt := 40) dX4_needBest_27 (by decide) (by omega) (by omega) (fun h27 => ?_) (fun h27 => ?_)
    · refine aw_iload_n dX4_needBest_40 rfl rfl ?_
      exact aw_iret dX4_needBest_41 rfl rfl (by decide) (by decide) (Or.inl ⟨_, rfl, by first | exact ⟨Or.inl ⟨h12, bv6, hc6⟩, h12⟩ | exact ⟨Or.inr ⟨⟨bv6, h12 ▸ hc6⟩, bv21, hc21⟩, h27⟩, rfl⟩)
    · exact aw_throw (text := "there is no possible block") at_ISE rfl rfl (by decide) dX4_needBest_30 dX4_needBest_33 dX4_needBest_34 dX4_needBest_36 dX4_needBest_39 (by decide) (Nat.le_of_ble_eq_true rfl) (by decide) (by decide) (Or.inr ⟨rfl, by first | exact absurd h27 h12 | exact Or.inr ⟨⟨bv6, h12 ▸ hc6⟩, bv21, h27 ▸ hc21⟩, rfl⟩)
set_option maxHeartbeats 4000000 in
set_option maxRecDepth 20000 in
theorem c_X4_needSplit {K : WPar} {l : Launch} (hst : l.stackTraces = false) (M : Mem) (people : Int) (r_people : inR people) (hw : HW M) (v_p : 2 ≤ people ∧ people ≤ 100) : CT K l iX4_needSplit [rV K 0 0, iV (people)] M (rXm (fun m => SF M m ∧ FOUND M m people) (fun m => SF M m ∧ ∀ b v : Int, ¬ cM M 0 b people v) "java/lang/IllegalStateException") := by
  refine aw_met [some (rV K 0 0), some (iV (people))] hst (by decide) rfl (Nat.le_of_ble_eq_true rfl) rfl rfl (lcat rfl) ?_
  refine aw_rng (fun hM => ?_)
  refine aw_aload_n dX4_needSplit_0 rfl rfl ?_
  refine aw_getr (g := 0) rfl rfl ly_X4 rfl (k := 2) dX4_needSplit_1 (by decide) fl_X4_28 rfl ?_
  refine aw_iload_n dX4_needSplit_4 rfl rfl ?_
  refine aw_cVf (g := 16) (As := [iV (people)]) (rest := []) (c_X1_find hst M (people) (by omega) (by omega) (by omega)) cv_X1_find dX4_needSplit_5 ml_X4_249 rfl rfl rfl rfl rfl (Nat.le_of_ble_eq_true rfl) (by decide) rfl rfl (by decide) (fun M5 (h5 : SF M M5 ∧ FOUND M M5 people) => ?_) (fun M5 (h5 : SF M M5 ∧ ∀ b v : Int, ¬ cM M 0 b people v) => ?_)
  · refine aw_if_ne (tgt := 21) dX4_needSplit_8 (by decide) (by decide) (fun _ => ?_) (fun h => absurd h (by decide))
    exact aw_vret dX4_needSplit_21 rfl (by decide) (by decide) (Or.inl ⟨rfl, by exact h5⟩)
  · refine aw_if_ne (tgt := 21) dX4_needSplit_8 (by decide) (by decide) (fun h => absurd h (by decide)) (fun _ => ?_)
    exact aw_throw (text := "the group cannot be split") at_ISE rfl rfl (by decide) dX4_needSplit_11 dX4_needSplit_14 dX4_needSplit_15 dX4_needSplit_17 dX4_needSplit_20 (by decide) (Nat.le_of_ble_eq_true rfl) (by decide) (by decide) (Or.inr ⟨rfl, by exact h5⟩)
set_option maxHeartbeats 4000000 in
set_option maxRecDepth 20000 in
theorem c_X4_grantBlock {K : WPar} {l : Launch} (hst : l.stackTraces = false) (M : Mem) (row : Int) (first : Int) (seats : Int) (minutes : Int) (r_row : inR row) (r_first : inR first) (r_seats : inR seats) (r_minutes : inR minutes) (hw : HW M) (bw : BW M) (v_now : 0 ≤ M 0 0 4 ∧ M 0 0 4 ≤ 1000000) (v_g : M 7 0 8 < 100) (v_mi : 1 ≤ minutes ∧ minutes ≤ 200) (v_b : 0 ≤ row ∧ row < M 1 0 4 ∧ 0 ≤ first ∧ 1 ≤ seats ∧ first + seats ≤ M 2 0 row) : CT K l iX4_grantBlock [rV K 0 0, iV (row), iV (first), iV (seats), iV (minutes)] M (rI (M 7 0 8 + 1) (grM M row first seats minutes)) := by
  refine aw_met [some (rV K 0 0), some (iV (row)), some (iV (first)), some (iV (seats)), some (iV (minutes)), none] hst (by decide) rfl (Nat.le_of_ble_eq_true rfl) rfl rfl (lcat rfl) ?_
  refine aw_rng (fun hM => ?_)
  have n1 := hw.1; have n2 := hw.2.1; have n3 := hw.2.2 row v_b.1 v_b.2.1; have t1 := bw.1
  refine aw_aload_n dX4_grantBlock_0 rfl rfl ?_
  refine aw_getr (g := 0) rfl rfl ly_X4 rfl (k := 1) dX4_grantBlock_1 (by decide) fl_X4_19 rfl ?_
  refine aw_iload_n dX4_grantBlock_4 rfl rfl ?_
  refine aw_aload_n dX4_grantBlock_5 rfl rfl ?_
  refine aw_geti (g := 0) rfl rfl ly_X4 rfl (k := 4) 4 rfl dX4_grantBlock_6 (by decide) fl_X4_41 rfl (fun r6 => ?_)
  refine aw_iload dX4_grantBlock_9 rfl ?_
  refine aw_iadd dX4_grantBlock_11 ?_
  refine aw_cVi (g := 7) (As := [iV (seats), iV ((M 0 0 4) + minutes)]) (rest := []) (c_X3_open hst M (seats) ((M 0 0 4) + minutes) (by omega) (by omega) (by omega) (by omega)) cv_X3_open dX4_grantBlock_12 ml_X4_252 rfl rfl rfl rfl rfl (Nat.le_of_ble_eq_true rfl) (by decide) rfl rfl (by decide) ?_
  refine aw_istore (L2 := [some (rV K 0 0), some (iV (row)), some (iV (first)), some (iV (seats)), some (iV (minutes)), some (iV (M 7 0 8 + 1))]) dX4_grantBlock_15 (by decide) rfl ?_
  generalize hMa : openM M seats ((M 0 0 4) + minutes) = Ma
  have ha : ∀ g : Nat, (g < 7 ∨ 15 < g) → Ma g = M g := (fun g hg => by rw [← hMa]; exact openM_g hg); have b7 : Ma 7 0 8 = M 7 0 8 + 1 := (by rw [← hMa]; exact openM_T); have bwa : BW Ma := (by unfold BW; omega); have hwa : HW Ma := HW_g hw (ha 1 (by decide)) (ha 2 (by decide)) (ha 3 (by decide)) (ha 4 (by decide))
  refine aw_aload_n dX4_grantBlock_17 rfl rfl ?_
  refine aw_getr (g := 0) rfl rfl ly_X4 rfl (k := 1) dX4_grantBlock_18 (by decide) fl_X4_19 rfl ?_
  refine aw_iload dX4_grantBlock_21 rfl ?_
  refine aw_iload_n dX4_grantBlock_23 rfl rfl ?_
  refine aw_iload_n dX4_grantBlock_24 rfl rfl ?_
  refine aw_cVn (g := 7) (As := [iV (M 7 0 8 + 1), iV (row), iV (first)]) (rest := []) (c_X3_putAt hst Ma (M 7 0 8 + 1) (row) (first) (by omega) (by omega) (by omega) (by exact bwa) (by omega)) cv_X3_putAt dX4_grantBlock_25 ml_X4_255 rfl rfl rfl rfl rfl (Nat.le_of_ble_eq_true rfl) (by decide) rfl rfl (by decide) ?_
  generalize hMb : updM (updM Ma 13 0 (M 7 0 8 + 1) row) 14 0 (M 7 0 8 + 1) first = Mb
  have hb : ∀ g : Nat, g ≠ 13 → g ≠ 14 → Mb g = Ma g := (fun g g1 g2 => by rw [← hMb, updM_g g2, updM_g g1]); have b1 : Mb 1 0 4 = M 1 0 4 := (by rw [hb 1 (by decide) (by decide), ha 1 (by decide)]); have b2 : Mb 2 0 row = M 2 0 row := (by rw [hb 2 (by decide) (by decide), ha 2 (by decide)])
  refine aw_aload_n dX4_grantBlock_28 rfl rfl ?_
  refine aw_getr (g := 0) rfl rfl ly_X4 rfl (k := 0) dX4_grantBlock_29 (by decide) fl_X4_10 rfl ?_
  refine aw_iload_n dX4_grantBlock_32 rfl rfl ?_
  refine aw_iload_n dX4_grantBlock_33 rfl rfl ?_
  refine aw_iload_n dX4_grantBlock_34 rfl rfl ?_
  refine aw_iload dX4_grantBlock_35 rfl ?_
  refine aw_cVn (g := 1) (As := [iV (row), iV (first), iV (seats), iV (M 7 0 8 + 1)]) (rest := []) (c_X2_give hst Mb (row) (first) (seats) (M 7 0 8 + 1) (by omega) (by omega) (by omega) (by omega) (by exact HW_g hwa (hb 1 (by decide) (by decide)) (hb 2 (by decide) (by decide)) (hb 3 (by decide) (by decide)) (hb 4 (by decide) (by decide))) (by omega) (by omega)) cv_X2_give dX4_grantBlock_37 ml_X4_81 rfl rfl rfl rfl rfl (Nat.le_of_ble_eq_true rfl) (by decide) rfl rfl (by decide) ?_
  refine aw_iload dX4_grantBlock_40 rfl ?_
  exact aw_iret dX4_grantBlock_42 rfl rfl (by decide) (by decide) ⟨congrArg (fun z => Sum.inl (some z)) (by first | rfl | omega), (by rw [← hMb, ← hMa]; rfl)⟩
set_option maxHeartbeats 4000000 in
set_option maxRecDepth 20000 in
theorem c_X4_closeTicket {K : WPar} {l : Launch} (hst : l.stackTraces = false) (M : Mem) (ticket : Int) (how : Int) (r_ticket : inR ticket) (r_how : inR how) (hw : HW M) (bw : BW M) (v_t : 1 ≤ ticket ∧ ticket ≤ M 7 0 8) : CT K l iX4_closeTicket [rV K 0 0, iV (ticket), iV (how)] M (rN (clM M ticket how)) := by
  refine aw_met [some (rV K 0 0), some (iV (ticket)), some (iV (how))] hst (by decide) rfl (Nat.le_of_ble_eq_true rfl) rfl rfl (lcat rfl) ?_
  refine aw_rng (fun hM => ?_)
  refine aw_aload_n dX4_closeTicket_0 rfl rfl ?_
  refine aw_getr (g := 0) rfl rfl ly_X4 rfl (k := 0) dX4_closeTicket_1 (by decide) fl_X4_10 rfl ?_
  refine aw_iload_n dX4_closeTicket_4 rfl rfl ?_
  refine aw_cVn (g := 1) (As := [iV (ticket)]) (rest := []) (c_X2_freeOwnedBy hst M (ticket) (by omega) (by omega)) cv_X2_freeOwnedBy dX4_closeTicket_5 ml_X4_261 rfl rfl rfl rfl rfl (Nat.le_of_ble_eq_true rfl) (by decide) rfl rfl (by decide) ?_
  refine aw_aload_n dX4_closeTicket_8 rfl rfl ?_
  refine aw_getr (g := 0) rfl rfl ly_X4 rfl (k := 1) dX4_closeTicket_9 (by decide) fl_X4_19 rfl ?_
  refine aw_iload_n dX4_closeTicket_12 rfl rfl ?_
  refine aw_iload_n dX4_closeTicket_13 rfl rfl ?_
  refine aw_cVn (g := 7) (As := [iV (ticket), iV (how)]) (rest := []) (c_X3_close hst (relM M ticket (M 1 0 4) 0) (ticket) (how) (by omega) (by omega) (by exact BW_g bw (relM_g (by decide))) (by rw [relM_g (by decide)]; exact v_t)) cv_X3_close dX4_closeTicket_14 ml_X4_264 rfl rfl rfl rfl rfl (Nat.le_of_ble_eq_true rfl) (by decide) rfl rfl (by decide) ?_
  exact aw_vret dX4_closeTicket_17 rfl (by decide) (by decide) ⟨rfl, (by rfl)⟩
set_option maxHeartbeats 4000000 in
set_option maxRecDepth 20000 in
theorem c_X4_grantSplit {K : WPar} {l : Launch} (hst : l.stackTraces = false) (M : Mem) (people : Int) (minutes : Int) (r_people : inR people) (r_minutes : inR minutes) (hw : HW M) (bw : BW M) (v_now : 0 ≤ M 0 0 4 ∧ M 0 0 4 ≤ 1000000) (v_g : M 7 0 8 < 100) (v_mi : 1 ≤ minutes ∧ minutes ≤ 200) (v_p : 2 ≤ people ∧ people ≤ 100) (v_tk : ∀ r : Int, 0 ≤ r → r < M 1 0 4 → (0 ≤ M 26 0 r ∧ M 26 0 r ≤ 20) ∧ (0 < M 26 0 r → 0 ≤ M 19 r (M 26 0 r) ∧ M 19 r (M 26 0 r) + M 26 0 r ≤ M 2 0 r)) : CT K l iX4_grantSplit [rV K 0 0, iV (people), iV (minutes)] M (rI (M 7 0 8 + 1) (gsM M people minutes)) := by
  refine aw_met [some (rV K 0 0), some (iV (people)), some (iV (minutes)), none, none, none, none, none] hst (by decide) rfl (Nat.le_of_ble_eq_true rfl) rfl rfl (lcat rfl) ?_
  refine aw_rng (fun hM => ?_)
  have n1 := hw.1; have n2 := hw.2.1; have t1 := bw.1; have u16 := hM 16 0 7
  refine aw_aload_n dX4_grantSplit_0 rfl rfl ?_
  refine aw_getr (g := 0) rfl rfl ly_X4 rfl (k := 1) dX4_grantSplit_1 (by decide) fl_X4_19 rfl ?_
  refine aw_iload_n dX4_grantSplit_4 rfl rfl ?_
  refine aw_aload_n dX4_grantSplit_5 rfl rfl ?_
  refine aw_geti (g := 0) rfl rfl ly_X4 rfl (k := 4) 4 rfl dX4_grantSplit_6 (by decide) fl_X4_41 rfl (fun r6 => ?_)
  refine aw_iload_n dX4_grantSplit_9 rfl rfl ?_
  refine aw_iadd dX4_grantSplit_10 ?_
  refine aw_cVi (g := 7) (As := [iV (people), iV ((M 0 0 4) + minutes)]) (rest := []) (c_X3_open hst M (people) ((M 0 0 4) + minutes) (by omega) (by omega) (by omega) (by omega)) cv_X3_open dX4_grantSplit_11 ml_X4_252 rfl rfl rfl rfl rfl (Nat.le_of_ble_eq_true rfl) (by decide) rfl rfl (by decide) ?_
  refine aw_istore_n (L2 := [some (rV K 0 0), some (iV (people)), some (iV (minutes)), some (iV (M 7 0 8 + 1)), none, none, none, none]) dX4_grantSplit_14 rfl (by decide) rfl ?_
  generalize hMa : openM M people ((M 0 0 4) + minutes) = Ma
  have ha : ∀ g : Nat, (g < 7 ∨ 15 < g) → Ma g = M g := (fun g hg => by rw [← hMa]; exact openM_g hg); have b7 : Ma 7 0 8 = M 7 0 8 + 1 := (by rw [← hMa]; exact openM_T); have bwa : BW Ma := (by unfold BW; omega); have hwa : HW Ma := HW_g hw (ha 1 (by decide)) (ha 2 (by decide)) (ha 3 (by decide)) (ha 4 (by decide))
  refine aw_aload_n dX4_grantSplit_15 rfl rfl ?_
  refine aw_getr (g := 0) rfl rfl ly_X4 rfl (k := 2) dX4_grantSplit_16 (by decide) fl_X4_28 rfl ?_
  refine aw_cVi (g := 16) (As := []) (rest := []) (c_X1_rowsUsed hst Ma) cv_X1_rowsUsed dX4_grantSplit_19 ml_X4_137 rfl rfl rfl rfl rfl (Nat.le_of_ble_eq_true rfl) (by decide) rfl rfl (by decide) ?_
  refine aw_st (st' := [iV (M 16 0 7)]) (by rw [show (Ma 16 0 7 : Int) = M 16 0 7 from by rw [ha 16 (by decide)]]) ?_
  refine aw_iconst dX4_grantSplit_22 ?_
  refine aw_icmp_ne (tgt := 30) dX4_grantSplit_23 (by decide) (by omega) (by omega) (fun h23 => ?_) (fun h23 => ?_)
  · refine aw_iconst dX4_grantSplit_30 ?_
    refine aw_istore (L2 := [some (rV K 0 0), some (iV (people)), some (iV (minutes)), some (iV (M 7 0 8 + 1)), some (iV 0), none, none, none]) dX4_grantSplit_31 (by decide) rfl ?_
    refine aw_iconst dX4_grantSplit_33 ?_
    refine aw_istore (L2 := [some (rV K 0 0), some (iV (people)), some (iV (minutes)), some (iV (M 7 0 8 + 1)), some (iV 0), some (iV 0), none, none]) dX4_grantSplit_34 (by decide) rfl ?_
    have lp36 : ∀ (n36 : Nat) (row : Int), (0 ≤ row ∧ row ≤ M 1 0 4) → ((M 1 0 4 - row).toNat) < n36 → AW K l iX4_grantSplit (ZM K iX4_grantSplit (rI (M 7 0 8 + 1) (gsM M people minutes))) 36 [some (rV K 0 0), some (iV (people)), some (iV (minutes)), some (iV (M 7 0 8 + 1)), some (iV 0), some (iV (row)), none, none] [] (gsS M Ma (M 7 0 8 + 1) (Int.toNat row)) 0 0 := by
      intro n36
      induction n36 with
      | zero =>
        intro row e1 hm36
        exact absurd hm36 (Nat.not_lt_zero _)
      | succ n36 ih36 =>
        intro row e1 hm36
        generalize hMc : gsS M Ma (M 7 0 8 + 1) (Int.toNat row) = Mc
        have hc : ∀ g : Nat, g ≠ 6 → g ≠ 13 → g ≠ 14 → Mc g = Ma g := (fun g g1 g2 g3 => by rw [← hMc]; exact gsS_g g1 g2 g3 _); have hwc : HW Mc := HW_g hwa (hc 1 (by decide) (by decide) (by decide)) (hc 2 (by decide) (by decide) (by decide)) (hc 3 (by decide) (by decide) (by decide)) (hc 4 (by decide) (by decide) (by decide)); have c1 : Mc 1 0 4 = M 1 0 4 := (by rw [hc 1 (by decide) (by decide) (by decide), ha 1 (by decide)]); have c2 : Mc 2 0 row = M 2 0 row := (by rw [hc 2 (by decide) (by decide) (by decide), ha 2 (by decide)]); have c26 : Mc 26 = M 26 := (by rw [hc 26 (by decide) (by decide) (by decide), ha 26 (by decide)]); have c19 : Mc 19 = M 19 := (by rw [hc 19 (by decide) (by decide) (by decide), ha 19 (by decide)]); have c7 : Mc 7 0 8 = M 7 0 8 + 1 := (by rw [hc 7 (by decide) (by decide) (by decide)]; exact b7); have vt := v_tk row e1.1
        refine aw_iload dX4_grantSplit_36 rfl ?_
        refine aw_aload_n dX4_grantSplit_38 rfl rfl ?_
        refine aw_getr (g := 0) rfl rfl ly_X4 rfl (k := 0) dX4_grantSplit_39 (by decide) fl_X4_10 rfl ?_
        refine aw_cVi (g := 1) (As := []) (rest := [iV (row)]) (c_X2_rowCount hst Mc) cv_X2_rowCount dX4_grantSplit_42 ml_X4_56 rfl rfl rfl rfl rfl (Nat.le_of_ble_eq_true rfl) (by decide) rfl rfl (by decide) ?_
        refine aw_icmp_ge (tgt := 112) dX4_grantSplit_45 (by decide) (by omega) (by omega) (fun h45 => ?_) (fun h45 => ?_)
        · refine aw_iload_n dX4_grantSplit_112 rfl rfl ?_
          exact aw_iret dX4_grantSplit_113 rfl rfl (by decide) (by decide) ⟨congrArg (fun z => Sum.inl (some z)) (by first | rfl | omega), (by have q : row = M 1 0 4 := (by omega); rw [← hMc, q, ← hMa]; rfl)⟩
        · refine aw_aload_n dX4_grantSplit_48 rfl rfl ?_
          refine aw_getr (g := 0) rfl rfl ly_X4 rfl (k := 2) dX4_grantSplit_49 (by decide) fl_X4_28 rfl ?_
          refine aw_iload dX4_grantSplit_52 rfl ?_
          refine aw_cVi (g := 16) (As := [iV (row)]) (rest := []) (c_X1_seatsFrom hst Mc (row) (by omega) (by exact hwc)) cv_X1_seatsFrom dX4_grantSplit_54 ml_X4_140 rfl rfl rfl rfl rfl (Nat.le_of_ble_eq_true rfl) (by decide) rfl rfl (by decide) ?_
          refine aw_st (st' := [iV (M 26 0 row)]) (by rw [show (if 0 ≤ row ∧ row < Mc 1 0 4 then Mc 26 0 row else 0 : Int) = M 26 0 row from by rw [c26]; exact if_pos (by omega)]) ?_
          refine aw_istore (L2 := [some (rV K 0 0), some (iV (people)), some (iV (minutes)), some (iV (M 7 0 8 + 1)), some (iV 0), some (iV (row)), some (iV (M 26 0 row)), none]) dX4_grantSplit_57 (by decide) rfl ?_
          refine aw_iload dX4_grantSplit_59 rfl ?_
          refine aw_if_le (tgt := 106) dX4_grantSplit_61 (by decide) (by omega) (fun h61 => ?_) (fun h61 => ?_)
          · refine aw_iinc (L2 := [some (rV K 0 0), some (iV (people)), some (iV (minutes)), some (iV (M 7 0 8 + 1)), some (iV 0), some (iV (row + 1)), some (iV (M 26 0 row)), none]) dX4_grantSplit_106 rfl (by decide) rfl ?_
            refine aw_goto (tgt := 36) dX4_grantSplit_109 (by decide) ?_
            refine aw_weak (L' := [some (rV K 0 0), some (iV (people)), some (iV (minutes)), some (iV (M 7 0 8 + 1)), some (iV 0), some (iV (row + 1)), none, none]) ⟨Or.inr rfl, Or.inr rfl, Or.inr rfl, Or.inr rfl, Or.inr rfl, Or.inr rfl, Or.inl rfl, Or.inr rfl, trivial⟩ ?_
            refine aw_mem (M' := gsS M Ma (M 7 0 8 + 1) (Int.toNat (row + 1))) (by first | rw [gsS_s e1.1, if_pos (by omega), if_pos h23, hMc] | rw [gsS_s e1.1, if_pos (by omega), if_neg h23, hMc] | rw [gsS_s e1.1, if_neg (by omega), hMc]) ?_
            exact ih36 (row + 1) (by omega) (by omega)
          · refine aw_aload_n dX4_grantSplit_64 rfl rfl ?_
            refine aw_getr (g := 0) rfl rfl ly_X4 rfl (k := 2) dX4_grantSplit_65 (by decide) fl_X4_28 rfl ?_
            refine aw_iload dX4_grantSplit_68 rfl ?_
            refine aw_cVi (g := 16) (As := [iV (row)]) (rest := []) (c_X1_firstIn hst Mc (row) (by omega) (by exact hwc) (by rw [c26]; intro _ _; exact (vt (by omega)).1)) cv_X1_firstIn dX4_grantSplit_70 ml_X4_258 rfl rfl rfl rfl rfl (Nat.le_of_ble_eq_true rfl) (by decide) rfl rfl (by decide) ?_
            refine aw_st (st' := [iV (M 19 row (M 26 0 row))]) (by rw [show (if 0 ≤ row ∧ row < Mc 1 0 4 then Mc 19 row (Mc 26 0 row) else -1 : Int) = M 19 row (M 26 0 row) from by rw [c26, c19]; exact if_pos (by omega)]) ?_
            have vt2 := vt (by omega); have w := hw.2.2 row e1.1 (by omega)
            refine aw_istore (L2 := [some (rV K 0 0), some (iV (people)), some (iV (minutes)), some (iV (M 7 0 8 + 1)), some (iV 0), some (iV (row)), some (iV (M 26 0 row)), some (iV (M 19 row (M 26 0 row)))]) dX4_grantSplit_73 (by decide) rfl ?_
            refine aw_aload_n dX4_grantSplit_75 rfl rfl ?_
            refine aw_getr (g := 0) rfl rfl ly_X4 rfl (k := 0) dX4_grantSplit_76 (by decide) fl_X4_10 rfl ?_
            refine aw_iload dX4_grantSplit_79 rfl ?_
            refine aw_iload dX4_grantSplit_81 rfl ?_
            refine aw_iload dX4_grantSplit_83 rfl ?_
            refine aw_iload_n dX4_grantSplit_85 rfl rfl ?_
            refine aw_cVn (g := 1) (As := [iV (row), iV (M 19 row (M 26 0 row)), iV (M 26 0 row), iV (M 7 0 8 + 1)]) (rest := []) (c_X2_give hst Mc (row) (M 19 row (M 26 0 row)) (M 26 0 row) (M 7 0 8 + 1) (by omega) (by exact ⟨by omega, by have w := hw.2.2 row e1.1 (by omega); omega⟩) (by omega) (by omega) (by exact hwc) (by omega) (by omega)) cv_X2_give dX4_grantSplit_86 ml_X4_81 rfl rfl rfl rfl rfl (Nat.le_of_ble_eq_true rfl) (by decide) rfl rfl (by decide) ?_
            refine aw_iload dX4_grantSplit_89 rfl ?_
            refine aw_if_eq (tgt := 106) dX4_grantSplit_91 (by decide) (by decide) (fun _ => ?_) (fun h => absurd (by decide) h)
            refine aw_iinc (L2 := [some (rV K 0 0), some (iV (people)), some (iV (minutes)), some (iV (M 7 0 8 + 1)), some (iV 0), some (iV (row + 1)), some (iV (M 26 0 row)), some (iV (M 19 row (M 26 0 row)))]) dX4_grantSplit_106 rfl (by decide) rfl ?_
            refine aw_goto (tgt := 36) dX4_grantSplit_109 (by decide) ?_
            refine aw_weak (L' := [some (rV K 0 0), some (iV (people)), some (iV (minutes)), some (iV (M 7 0 8 + 1)), some (iV 0), some (iV (row + 1)), none, none]) ⟨Or.inr rfl, Or.inr rfl, Or.inr rfl, Or.inr rfl, Or.inr rfl, Or.inr rfl, Or.inl rfl, Or.inl rfl, trivial⟩ ?_
            refine aw_mem (M' := gsS M Ma (M 7 0 8 + 1) (Int.toNat (row + 1))) (by first | rw [gsS_s e1.1, if_pos (by omega), if_pos h23, hMc] | rw [gsS_s e1.1, if_pos (by omega), if_neg h23, hMc] | rw [gsS_s e1.1, if_neg (by omega), hMc]) ?_
            exact ih36 (row + 1) (by omega) (by omega)
    refine aw_mem (M' := gsS M Ma (M 7 0 8 + 1) (Int.toNat 0)) (by rfl) ?_
    exact lp36 (((M 1 0 4 - 0).toNat) + 1) (0) (by omega) (Nat.lt_succ_self _)
  · refine aw_iconst dX4_grantSplit_26 ?_
    refine aw_goto (tgt := 31) dX4_grantSplit_27 (by decide) ?_
    refine aw_istore (L2 := [some (rV K 0 0), some (iV (people)), some (iV (minutes)), some (iV (M 7 0 8 + 1)), some (iV 1), none, none, none]) dX4_grantSplit_31 (by decide) rfl ?_
    refine aw_iconst dX4_grantSplit_33 ?_
    refine aw_istore (L2 := [some (rV K 0 0), some (iV (people)), some (iV (minutes)), some (iV (M 7 0 8 + 1)), some (iV 1), some (iV 0), none, none]) dX4_grantSplit_34 (by decide) rfl ?_
    have lp36 : ∀ (n36 : Nat) (row : Int), (0 ≤ row ∧ row ≤ M 1 0 4) → ((M 1 0 4 - row).toNat) < n36 → AW K l iX4_grantSplit (ZM K iX4_grantSplit (rI (M 7 0 8 + 1) (gsM M people minutes))) 36 [some (rV K 0 0), some (iV (people)), some (iV (minutes)), some (iV (M 7 0 8 + 1)), some (iV 1), some (iV (row)), none, none] [] (gsS M Ma (M 7 0 8 + 1) (Int.toNat row)) 0 0 := by
      intro n36
      induction n36 with
      | zero =>
        intro row e1 hm36
        exact absurd hm36 (Nat.not_lt_zero _)
      | succ n36 ih36 =>
        intro row e1 hm36
        generalize hMc : gsS M Ma (M 7 0 8 + 1) (Int.toNat row) = Mc
        have hc : ∀ g : Nat, g ≠ 6 → g ≠ 13 → g ≠ 14 → Mc g = Ma g := (fun g g1 g2 g3 => by rw [← hMc]; exact gsS_g g1 g2 g3 _); have hwc : HW Mc := HW_g hwa (hc 1 (by decide) (by decide) (by decide)) (hc 2 (by decide) (by decide) (by decide)) (hc 3 (by decide) (by decide) (by decide)) (hc 4 (by decide) (by decide) (by decide)); have c1 : Mc 1 0 4 = M 1 0 4 := (by rw [hc 1 (by decide) (by decide) (by decide), ha 1 (by decide)]); have c2 : Mc 2 0 row = M 2 0 row := (by rw [hc 2 (by decide) (by decide) (by decide), ha 2 (by decide)]); have c26 : Mc 26 = M 26 := (by rw [hc 26 (by decide) (by decide) (by decide), ha 26 (by decide)]); have c19 : Mc 19 = M 19 := (by rw [hc 19 (by decide) (by decide) (by decide), ha 19 (by decide)]); have c7 : Mc 7 0 8 = M 7 0 8 + 1 := (by rw [hc 7 (by decide) (by decide) (by decide)]; exact b7); have vt := v_tk row e1.1
        refine aw_iload dX4_grantSplit_36 rfl ?_
        refine aw_aload_n dX4_grantSplit_38 rfl rfl ?_
        refine aw_getr (g := 0) rfl rfl ly_X4 rfl (k := 0) dX4_grantSplit_39 (by decide) fl_X4_10 rfl ?_
        refine aw_cVi (g := 1) (As := []) (rest := [iV (row)]) (c_X2_rowCount hst Mc) cv_X2_rowCount dX4_grantSplit_42 ml_X4_56 rfl rfl rfl rfl rfl (Nat.le_of_ble_eq_true rfl) (by decide) rfl rfl (by decide) ?_
        refine aw_icmp_ge (tgt := 112) dX4_grantSplit_45 (by decide) (by omega) (by omega) (fun h45 => ?_) (fun h45 => ?_)
        · refine aw_iload_n dX4_grantSplit_112 rfl rfl ?_
          exact aw_iret dX4_grantSplit_113 rfl rfl (by decide) (by decide) ⟨congrArg (fun z => Sum.inl (some z)) (by first | rfl | omega), (by have q : row = M 1 0 4 := (by omega); rw [← hMc, q, ← hMa]; rfl)⟩
        · refine aw_aload_n dX4_grantSplit_48 rfl rfl ?_
          refine aw_getr (g := 0) rfl rfl ly_X4 rfl (k := 2) dX4_grantSplit_49 (by decide) fl_X4_28 rfl ?_
          refine aw_iload dX4_grantSplit_52 rfl ?_
          refine aw_cVi (g := 16) (As := [iV (row)]) (rest := []) (c_X1_seatsFrom hst Mc (row) (by omega) (by exact hwc)) cv_X1_seatsFrom dX4_grantSplit_54 ml_X4_140 rfl rfl rfl rfl rfl (Nat.le_of_ble_eq_true rfl) (by decide) rfl rfl (by decide) ?_
          refine aw_st (st' := [iV (M 26 0 row)]) (by rw [show (if 0 ≤ row ∧ row < Mc 1 0 4 then Mc 26 0 row else 0 : Int) = M 26 0 row from by rw [c26]; exact if_pos (by omega)]) ?_
          refine aw_istore (L2 := [some (rV K 0 0), some (iV (people)), some (iV (minutes)), some (iV (M 7 0 8 + 1)), some (iV 1), some (iV (row)), some (iV (M 26 0 row)), none]) dX4_grantSplit_57 (by decide) rfl ?_
          refine aw_iload dX4_grantSplit_59 rfl ?_
          refine aw_if_le (tgt := 106) dX4_grantSplit_61 (by decide) (by omega) (fun h61 => ?_) (fun h61 => ?_)
          · refine aw_iinc (L2 := [some (rV K 0 0), some (iV (people)), some (iV (minutes)), some (iV (M 7 0 8 + 1)), some (iV 1), some (iV (row + 1)), some (iV (M 26 0 row)), none]) dX4_grantSplit_106 rfl (by decide) rfl ?_
            refine aw_goto (tgt := 36) dX4_grantSplit_109 (by decide) ?_
            refine aw_weak (L' := [some (rV K 0 0), some (iV (people)), some (iV (minutes)), some (iV (M 7 0 8 + 1)), some (iV 1), some (iV (row + 1)), none, none]) ⟨Or.inr rfl, Or.inr rfl, Or.inr rfl, Or.inr rfl, Or.inr rfl, Or.inr rfl, Or.inl rfl, Or.inr rfl, trivial⟩ ?_
            refine aw_mem (M' := gsS M Ma (M 7 0 8 + 1) (Int.toNat (row + 1))) (by first | rw [gsS_s e1.1, if_pos (by omega), if_pos h23, hMc] | rw [gsS_s e1.1, if_pos (by omega), if_neg h23, hMc] | rw [gsS_s e1.1, if_neg (by omega), hMc]) ?_
            exact ih36 (row + 1) (by omega) (by omega)
          · refine aw_aload_n dX4_grantSplit_64 rfl rfl ?_
            refine aw_getr (g := 0) rfl rfl ly_X4 rfl (k := 2) dX4_grantSplit_65 (by decide) fl_X4_28 rfl ?_
            refine aw_iload dX4_grantSplit_68 rfl ?_
            refine aw_cVi (g := 16) (As := [iV (row)]) (rest := []) (c_X1_firstIn hst Mc (row) (by omega) (by exact hwc) (by rw [c26]; intro _ _; exact (vt (by omega)).1)) cv_X1_firstIn dX4_grantSplit_70 ml_X4_258 rfl rfl rfl rfl rfl (Nat.le_of_ble_eq_true rfl) (by decide) rfl rfl (by decide) ?_
            refine aw_st (st' := [iV (M 19 row (M 26 0 row))]) (by rw [show (if 0 ≤ row ∧ row < Mc 1 0 4 then Mc 19 row (Mc 26 0 row) else -1 : Int) = M 19 row (M 26 0 row) from by rw [c26, c19]; exact if_pos (by omega)]) ?_
            have vt2 := vt (by omega); have w := hw.2.2 row e1.1 (by omega)
            refine aw_istore (L2 := [some (rV K 0 0), some (iV (people)), some (iV (minutes)), some (iV (M 7 0 8 + 1)), some (iV 1), some (iV (row)), some (iV (M 26 0 row)), some (iV (M 19 row (M 26 0 row)))]) dX4_grantSplit_73 (by decide) rfl ?_
            refine aw_aload_n dX4_grantSplit_75 rfl rfl ?_
            refine aw_getr (g := 0) rfl rfl ly_X4 rfl (k := 0) dX4_grantSplit_76 (by decide) fl_X4_10 rfl ?_
            refine aw_iload dX4_grantSplit_79 rfl ?_
            refine aw_iload dX4_grantSplit_81 rfl ?_
            refine aw_iload dX4_grantSplit_83 rfl ?_
            refine aw_iload_n dX4_grantSplit_85 rfl rfl ?_
            refine aw_cVn (g := 1) (As := [iV (row), iV (M 19 row (M 26 0 row)), iV (M 26 0 row), iV (M 7 0 8 + 1)]) (rest := []) (c_X2_give hst Mc (row) (M 19 row (M 26 0 row)) (M 26 0 row) (M 7 0 8 + 1) (by omega) (by exact ⟨by omega, by have w := hw.2.2 row e1.1 (by omega); omega⟩) (by omega) (by omega) (by exact hwc) (by omega) (by omega)) cv_X2_give dX4_grantSplit_86 ml_X4_81 rfl rfl rfl rfl rfl (Nat.le_of_ble_eq_true rfl) (by decide) rfl rfl (by decide) ?_
            refine aw_iload dX4_grantSplit_89 rfl ?_
            refine aw_if_eq (tgt := 106) dX4_grantSplit_91 (by decide) (by decide) (fun h => absurd h (by decide)) (fun _ => ?_)
            refine aw_aload_n dX4_grantSplit_94 rfl rfl ?_
            refine aw_getr (g := 0) rfl rfl ly_X4 rfl (k := 1) dX4_grantSplit_95 (by decide) fl_X4_19 rfl ?_
            refine aw_iload_n dX4_grantSplit_98 rfl rfl ?_
            refine aw_iload dX4_grantSplit_99 rfl ?_
            refine aw_iload dX4_grantSplit_101 rfl ?_
            refine aw_cVn (g := 7) (As := [iV (M 7 0 8 + 1), iV (row), iV (M 19 row (M 26 0 row))]) (rest := []) (c_X3_putAt hst (giveM Mc row (M 19 row (M 26 0 row)) (M 26 0 row) (M 7 0 8 + 1)) (M 7 0 8 + 1) (row) (M 19 row (M 26 0 row)) (by omega) (by omega) (by exact ⟨by omega, by have w := hw.2.2 row e1.1 (by omega); omega⟩) (by exact BW_g (BW_g bwa (hc 7 (by decide) (by decide) (by decide))) (giveM_g (by decide))) (by rw [giveM_g (by decide)]; omega)) cv_X3_putAt dX4_grantSplit_103 ml_X4_255 rfl rfl rfl rfl rfl (Nat.le_of_ble_eq_true rfl) (by decide) rfl rfl (by decide) ?_
            refine aw_iinc (L2 := [some (rV K 0 0), some (iV (people)), some (iV (minutes)), some (iV (M 7 0 8 + 1)), some (iV 1), some (iV (row + 1)), some (iV (M 26 0 row)), some (iV (M 19 row (M 26 0 row)))]) dX4_grantSplit_106 rfl (by decide) rfl ?_
            refine aw_goto (tgt := 36) dX4_grantSplit_109 (by decide) ?_
            refine aw_weak (L' := [some (rV K 0 0), some (iV (people)), some (iV (minutes)), some (iV (M 7 0 8 + 1)), some (iV 1), some (iV (row + 1)), none, none]) ⟨Or.inr rfl, Or.inr rfl, Or.inr rfl, Or.inr rfl, Or.inr rfl, Or.inr rfl, Or.inl rfl, Or.inl rfl, trivial⟩ ?_
            refine aw_mem (M' := gsS M Ma (M 7 0 8 + 1) (Int.toNat (row + 1))) (by first | rw [gsS_s e1.1, if_pos (by omega), if_pos h23, hMc] | rw [gsS_s e1.1, if_pos (by omega), if_neg h23, hMc] | rw [gsS_s e1.1, if_neg (by omega), hMc]) ?_
            exact ih36 (row + 1) (by omega) (by omega)
    refine aw_mem (M' := gsS M Ma (M 7 0 8 + 1) (Int.toNat 0)) (by rfl) ?_
    exact lp36 (((M 1 0 4 - 0).toNat) + 1) (0) (by omega) (Nat.lt_succ_self _)
