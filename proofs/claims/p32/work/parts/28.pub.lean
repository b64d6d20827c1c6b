set_option maxHeartbeats 4000000 in
set_option maxRecDepth 20000 in
theorem c_X4_rows {K : WPar} {l : Launch} (hst : l.stackTraces = false) (M : Mem) : CT K l iX4_rows [rV K 0 0] M (rI (M 1 0 4) (M)) := by
  refine aw_met [some (rV K 0 0)] hst (by decide) rfl (Nat.le_of_ble_eq_true rfl) rfl rfl (lcat rfl) ?_
  refine aw_rng (fun hM => ?_)
  refine aw_aload_n dX4_rows_0 rfl rfl ?_
  refine aw_getr (g := 0) rfl rfl ly_X4 rfl (k := 0) dX4_rows_1 (by decide) fl_X4_10 rfl ?_
  refine aw_cVi (g := 1) (As := []) (rest := []) (c_X2_rowCount hst M) cv_X2_rowCount dX4_rows_4 ml_X4_56 rfl rfl rfl rfl rfl (Nat.le_of_ble_eq_true rfl) (by decide) rfl rfl (by decide) ?_
  exact aw_iret dX4_rows_7 rfl rfl (by decide) (by decide) ⟨congrArg (fun z => Sum.inl (some z)) (by first | rfl | omega), (by rfl)⟩
set_option maxHeartbeats 4000000 in
set_option maxRecDepth 20000 in
theorem c_X4_orphans {K : WPar} {l : Launch} (hst : l.stackTraces = false) (M : Mem) (hw : HW M) : CT K l iX4_orphans [rV K 0 0] M (rI (sumI (fun r => sumI (orC (M 2 0 r) (M 6 r)) (M 2 0 r)) (M 1 0 4)) (M)) := by
  refine aw_met [some (rV K 0 0)] hst (by decide) rfl (Nat.le_of_ble_eq_true rfl) rfl rfl (lcat rfl) ?_
  refine aw_rng (fun hM => ?_)
  refine aw_aload_n dX4_orphans_0 rfl rfl ?_
  refine aw_getr (g := 0) rfl rfl ly_X4 rfl (k := 0) dX4_orphans_1 (by decide) fl_X4_10 rfl ?_
  refine aw_cVi (g := 1) (As := []) (rest := []) (c_X2_countOrphans hst M (by omega)) cv_X2_countOrphans dX4_orphans_4 ml_X4_103 rfl rfl rfl rfl rfl (Nat.le_of_ble_eq_true rfl) (by decide) rfl rfl (by decide) ?_
  exact aw_iret dX4_orphans_7 rfl rfl (by decide) (by decide) ⟨congrArg (fun z => Sum.inl (some z)) (by first | rfl | omega), (by rfl)⟩
set_option maxHeartbeats 4000000 in
set_option maxRecDepth 20000 in
theorem c_X4_longestBlock {K : WPar} {l : Launch} (hst : l.stackTraces = false) (M : Mem) (hw : HW M) : CT K l iX4_longestBlock [rV K 0 0] M (rR (fun z => isLongR (M 1 0 4) (M 2 0) (M 6) z) (M)) := by
  refine aw_met [some (rV K 0 0)] hst (by decide) rfl (Nat.le_of_ble_eq_true rfl) rfl rfl (lcat rfl) ?_
  refine aw_rng (fun hM => ?_)
  refine aw_aload_n dX4_longestBlock_0 rfl rfl ?_
  refine aw_getr (g := 0) rfl rfl ly_X4 rfl (k := 0) dX4_longestBlock_1 (by decide) fl_X4_10 rfl ?_
  refine aw_cVr (g := 1) (As := []) (rest := []) (c_X2_longestFree hst M (by omega)) cv_X2_longestFree dX4_longestBlock_4 ml_X4_106 rfl rfl rfl rfl rfl (Nat.le_of_ble_eq_true rfl) (by decide) rfl rfl (by decide) (fun z4 (h4 : isLongR (M 1 0 4) (M 2 0) (M 6) z4) => ?_)
  exact aw_iret dX4_longestBlock_7 rfl rfl (by decide) (by decide) ⟨z4, rfl, (by exact h4), (by rfl)⟩
set_option maxHeartbeats 4000000 in
set_option maxRecDepth 20000 in
theorem c_X4_tickets {K : WPar} {l : Launch} (hst : l.stackTraces = false) (M : Mem) : CT K l iX4_tickets [rV K 0 0] M (rI (M 7 0 8) (M)) := by
  refine aw_met [some (rV K 0 0)] hst (by decide) rfl (Nat.le_of_ble_eq_true rfl) rfl rfl (lcat rfl) ?_
  refine aw_rng (fun hM => ?_)
  refine aw_aload_n dX4_tickets_0 rfl rfl ?_
  refine aw_getr (g := 0) rfl rfl ly_X4 rfl (k := 1) dX4_tickets_1 (by decide) fl_X4_19 rfl ?_
  refine aw_cVi (g := 7) (As := []) (rest := []) (c_X3_count hst M) cv_X3_count dX4_tickets_4 ml_X4_146 rfl rfl rfl rfl rfl (Nat.le_of_ble_eq_true rfl) (by decide) rfl rfl (by decide) ?_
  exact aw_iret dX4_tickets_7 rfl rfl (by decide) (by decide) ⟨congrArg (fun z => Sum.inl (some z)) (by first | rfl | omega), (by rfl)⟩
set_option maxHeartbeats 4000000 in
set_option maxRecDepth 20000 in
theorem c_X4_takings {K : WPar} {l : Launch} (hst : l.stackTraces = false) (M : Mem) : CT K l iX4_takings [rV K 0 0] M (rI (M 0 0 5) (M)) := by
  refine aw_met [some (rV K 0 0)] hst (by decide) rfl (Nat.le_of_ble_eq_true rfl) rfl rfl (lcat rfl) ?_
  refine aw_rng (fun hM => ?_)
  refine aw_aload_n dX4_takings_0 rfl rfl ?_
  refine aw_geti (g := 0) rfl rfl ly_X4 rfl (k := 5) 5 rfl dX4_takings_1 (by decide) fl_X4_45 rfl (fun r1 => ?_)
  exact aw_iret dX4_takings_4 rfl rfl (by decide) (by decide) ⟨congrArg (fun z => Sum.inl (some z)) (by first | rfl | omega), (by rfl)⟩
set_option maxHeartbeats 4000000 in
set_option maxRecDepth 20000 in
theorem c_X4_now {K : WPar} {l : Launch} (hst : l.stackTraces = false) (M : Mem) : CT K l iX4_now [rV K 0 0] M (rI (M 0 0 4) (M)) := by
  refine aw_met [some (rV K 0 0)] hst (by decide) rfl (Nat.le_of_ble_eq_true rfl) rfl rfl (lcat rfl) ?_
  refine aw_rng (fun hM => ?_)
  refine aw_aload_n dX4_now_0 rfl rfl ?_
  refine aw_geti (g := 0) rfl rfl ly_X4 rfl (k := 4) 4 rfl dX4_now_1 (by decide) fl_X4_41 rfl (fun r1 => ?_)
  exact aw_iret dX4_now_4 rfl rfl (by decide) (by decide) ⟨congrArg (fun z => Sum.inl (some z)) (by first | rfl | omega), (by rfl)⟩
set_option maxHeartbeats 4000000 in
set_option maxRecDepth 20000 in
theorem c_X4_addRow {K : WPar} {l : Launch} (hst : l.stackTraces = false) (M : Mem) (seats : Int) (score : Int) (price : Int) (r_seats : inR seats) (r_score : inR score) (r_price : inR price) (hw : HW M) : CT K l iX4_addRow [rV K 0 0, iV (seats), iV (score), iV (price)] M (fun o m => (o = .inr eIAE ∧ (¬ ((1 ≤ seats ∧ seats ≤ 20) ∧ (0 ≤ score ∧ score ≤ 1000) ∧ (0 ≤ price ∧ price ≤ 10000))) ∧ m = M) ∨ (o = .inr eISE ∧ (((1 ≤ seats ∧ seats ≤ 20) ∧ (0 ≤ score ∧ score ≤ 1000) ∧ (0 ≤ price ∧ price ≤ 10000)) ∧ ¬ M 1 0 4 < 12) ∧ m = M) ∨ (∃ z, o = .inl (some z) ∧ (((1 ≤ seats ∧ seats ≤ 20) ∧ (0 ≤ score ∧ score ≤ 1000) ∧ (0 ≤ price ∧ price ≤ 10000)) ∧ M 1 0 4 < 12 ∧ z = M 1 0 4 ∧ m = updM (updM (updM (updM M 2 0 (M 1 0 4) seats) 3 0 (M 1 0 4) score) 4 0 (M 1 0 4) price) 1 0 4 (M 1 0 4 + 1)))) := by
  refine aw_met [some (rV K 0 0), some (iV (seats)), some (iV (score)), some (iV (price))] hst (by decide) rfl (Nat.le_of_ble_eq_true rfl) rfl rfl (lcat rfl) ?_
  refine aw_rng (fun hM => ?_)
  refine aw_iload_n dX4_addRow_0 rfl rfl ?_
  refine aw_cSx (st2 := []) (c2 := 1) (s2 := 6) (As := [iV (seats)]) (rest := []) (c_X4_needSeats hst M (seats) (by have n1 := hw.1; have n2 := hw.2.1; omega)) cs_X4_needSeats dX4_addRow_1 ml_X4_48 rfl rfl (Nat.le_of_ble_eq_true rfl) (by decide) rfl rfl rfl (by decide) (fun h1 => ?_) (fun h1 => ?_)
  · refine aw_iload_n dX4_addRow_4 rfl rfl ?_
    refine aw_iconst dX4_addRow_5 ?_
    refine aw_sipush dX4_addRow_6 rfl ?_
    refine aw_cSx (st2 := []) (c2 := 2) (s2 := 12) (As := [iV (score), iV 0, iV 1000]) (rest := []) (c_X4_needRange hst M (score) (0) (1000) (by have n1 := hw.1; have n2 := hw.2.1; omega) (by have n1 := hw.1; have n2 := hw.2.1; omega) (by have n1 := hw.1; have n2 := hw.2.1; omega)) cs_X4_needRange dX4_addRow_9 ml_X4_52 rfl rfl (Nat.le_of_ble_eq_true rfl) (by decide) rfl rfl rfl (by decide) (fun h9 => ?_) (fun h9 => ?_)
    · refine aw_iload_n dX4_addRow_12 rfl rfl ?_
      refine aw_iconst dX4_addRow_13 ?_
      refine aw_sipush dX4_addRow_14 rfl ?_
      refine aw_cSx (st2 := []) (c2 := 3) (s2 := 18) (As := [iV (price), iV 0, iV 10000]) (rest := []) (c_X4_needRange hst M (price) (0) (10000) (by have n1 := hw.1; have n2 := hw.2.1; omega) (by have n1 := hw.1; have n2 := hw.2.1; omega) (by have n1 := hw.1; have n2 := hw.2.1; omega)) cs_X4_needRange dX4_addRow_17 ml_X4_52 rfl rfl (Nat.le_of_ble_eq_true rfl) (by decide) rfl rfl rfl (by decide) (fun h17 => ?_) (fun h17 => ?_)
      · refine aw_aload_n dX4_addRow_20 rfl rfl ?_
        refine aw_getr (g := 0) rfl rfl ly_X4 rfl (k := 0) dX4_addRow_21 (by decide) fl_X4_10 rfl ?_
        refine aw_cVi (g := 1) (As := []) (rest := []) (c_X2_rowCount hst M) cv_X2_rowCount dX4_addRow_24 ml_X4_56 rfl rfl rfl rfl rfl (Nat.le_of_ble_eq_true rfl) (by decide) rfl rfl (by decide) ?_
        refine aw_bipush dX4_addRow_27 rfl ?_
        refine aw_icmp_lt (tgt := 42) dX4_addRow_29 (by decide) (by have n1 := hw.1; have n2 := hw.2.1; omega) (by have n1 := hw.1; have n2 := hw.2.1; omega) (fun h29 => ?_) (fun h29 => ?_)
        · refine aw_aload_n dX4_addRow_42 rfl rfl ?_
          refine aw_getr (g := 0) rfl rfl ly_X4 rfl (k := 0) dX4_addRow_43 (by decide) fl_X4_10 rfl ?_
          refine aw_iload_n dX4_addRow_46 rfl rfl ?_
          refine aw_iload_n dX4_addRow_47 rfl rfl ?_
          refine aw_iload_n dX4_addRow_48 rfl rfl ?_
          refine aw_cVi (g := 1) (As := [iV (seats), iV (score), iV (price)]) (rest := []) (c_X2_append hst M (seats) (score) (price) (by have n1 := hw.1; have n2 := hw.2.1; omega) (by have n1 := hw.1; have n2 := hw.2.1; omega) (by have n1 := hw.1; have n2 := hw.2.1; omega) (by have n1 := hw.1; have n2 := hw.2.1; omega) (by have n1 := hw.1; have n2 := hw.2.1; omega)) cv_X2_append dX4_addRow_49 ml_X4_67 rfl rfl rfl rfl rfl (Nat.le_of_ble_eq_true rfl) (by decide) rfl rfl (by decide) ?_
          exact aw_iret dX4_addRow_52 rfl rfl (by decide) (by decide) (Or.inr (Or.inr ⟨_, rfl, (by exact ⟨⟨by omega, by omega, by omega⟩, by omega, rfl, rfl⟩)⟩))
        · exact aw_throw (text := "the hall has all its rows") at_ISE rfl rfl (by decide) dX4_addRow_32 dX4_addRow_35 dX4_addRow_36 dX4_addRow_38 dX4_addRow_41 (by decide) (Nat.le_of_ble_eq_true rfl) (by decide) (by decide) (Or.inr (Or.inl ⟨rfl, (by omega), (by rfl)⟩))
      · exact ax_out rfl (by decide) (by decide) (Or.inl ⟨rfl, (by omega), (by rfl)⟩)
    · exact ax_out rfl (by decide) (by decide) (Or.inl ⟨rfl, (by omega), (by rfl)⟩)
  · exact ax_out rfl (by decide) (by decide) (Or.inl ⟨rfl, (by omega), (by rfl)⟩)
set_option maxHeartbeats 4000000 in
set_option maxRecDepth 20000 in
theorem c_X4_toggleBlocked {K : WPar} {l : Launch} (hst : l.stackTraces = false) (M : Mem) (row : Int) (seat : Int) (r_row : inR row) (r_seat : inR seat) (hw : HW M) : CT K l iX4_toggleBlocked [rV K 0 0, iV (row), iV (seat)] M (fun o m => (o = .inr eIOB ∧ (¬ (0 ≤ row ∧ row < M 1 0 4 ∧ 0 ≤ seat ∧ seat < M 2 0 row)) ∧ m = M) ∨ (o = .inr eISE ∧ ((0 ≤ row ∧ row < M 1 0 4 ∧ 0 ≤ seat ∧ seat < M 2 0 row) ∧ 0 < M 6 row seat) ∧ m = M) ∨ (∃ z, o = .inl (some z) ∧ ((0 ≤ row ∧ row < M 1 0 4 ∧ 0 ≤ seat ∧ seat < M 2 0 row) ∧ M 6 row seat ≤ 0 ∧ z = (if M 6 row seat = 0 then 1 else 0) ∧ m = giveM M row seat 1 (if M 6 row seat = 0 then -1 else 0)))) := by
  refine aw_met [some (rV K 0 0), some (iV (row)), some (iV (seat)), none, none] hst (by decide) rfl (Nat.le_of_ble_eq_true rfl) rfl rfl (lcat rfl) ?_
  refine aw_rng (fun hM => ?_)
  refine aw_aload_n dX4_toggleBlocked_0 rfl rfl ?_
  refine aw_iload_n dX4_toggleBlocked_1 rfl rfl ?_
  refine aw_iload_n dX4_toggleBlocked_2 rfl rfl ?_
  refine aw_cVx (st2 := []) (c2 := 1) (s2 := 6) (g := 0) (As := [iV (row), iV (seat)]) (rest := []) (c_X4_needSeat hst M (row) (seat) (by have n1 := hw.1; have n2 := hw.2.1; omega) (by have n1 := hw.1; have n2 := hw.2.1; omega) (by have n1 := hw.1; have n2 := hw.2.1; omega)) cv_X4_needSeat dX4_toggleBlocked_3 ml_X4_71 rfl rfl rfl rfl rfl (Nat.le_of_ble_eq_true rfl) (by decide) rfl rfl rfl (by decide) (fun h3 => ?_) (fun h3 => ?_)
  · refine aw_aload_n dX4_toggleBlocked_6 rfl rfl ?_
    refine aw_getr (g := 0) rfl rfl ly_X4 rfl (k := 0) dX4_toggleBlocked_7 (by decide) fl_X4_10 rfl ?_
    refine aw_iload_n dX4_toggleBlocked_10 rfl rfl ?_
    refine aw_iload_n dX4_toggleBlocked_11 rfl rfl ?_
    refine aw_cVi (g := 1) (As := [iV (row), iV (seat)]) (rest := []) (c_X2_ownerOf hst M (row) (seat) (by have n1 := hw.1; have n2 := hw.2.1; have n3 := hw.2.2 row (by omega) (by omega); have x6 := hM 6 row seat; omega) (by have n1 := hw.1; have n2 := hw.2.1; have n3 := hw.2.2 row (by omega) (by omega); have x6 := hM 6 row seat; omega) (by have n1 := hw.1; have n2 := hw.2.1; have n3 := hw.2.2 row (by omega) (by omega); have x6 := hM 6 row seat; omega)) cv_X2_ownerOf dX4_toggleBlocked_12 ml_X4_75 rfl rfl rfl rfl rfl (Nat.le_of_ble_eq_true rfl) (by decide) rfl rfl (by decide) ?_
    refine aw_st (st' := [iV (M 6 row seat)]) (by rw [show (if 0 ≤ row ∧ row < M 1 0 4 ∧ 0 ≤ seat ∧ seat < M 2 0 row then M 6 row seat else -1 : Int) = M 6 row seat from by exact if_pos h3]) ?_
    refine aw_istore_n (L2 := [some (rV K 0 0), some (iV (row)), some (iV (seat)), some (iV (M 6 row seat)), none]) dX4_toggleBlocked_15 rfl (by decide) rfl ?_
    refine aw_iload_n dX4_toggleBlocked_16 rfl rfl ?_
    refine aw_if_le (tgt := 30) dX4_toggleBlocked_17 (by decide) (by have n1 := hw.1; have n2 := hw.2.1; have n3 := hw.2.2 row (by omega) (by omega); have x6 := hM 6 row seat; omega) (fun h17 => ?_) (fun h17 => ?_)
    · refine aw_iload_n dX4_toggleBlocked_30 rfl rfl ?_
      refine aw_if_ne (tgt := 38) dX4_toggleBlocked_31 (by decide) (by have n1 := hw.1; have n2 := hw.2.1; have n3 := hw.2.2 row (by omega) (by omega); have x6 := hM 6 row seat; omega) (fun h31 => ?_) (fun h31 => ?_)
      · refine aw_iconst dX4_toggleBlocked_38 ?_
        refine aw_istore (L2 := [some (rV K 0 0), some (iV (row)), some (iV (seat)), some (iV (M 6 row seat)), some (iV 0)]) dX4_toggleBlocked_39 (by decide) rfl ?_
        refine aw_aload_n dX4_toggleBlocked_41 rfl rfl ?_
        refine aw_getr (g := 0) rfl rfl ly_X4 rfl (k := 0) dX4_toggleBlocked_42 (by decide) fl_X4_10 rfl ?_
        refine aw_iload_n dX4_toggleBlocked_45 rfl rfl ?_
        refine aw_iload_n dX4_toggleBlocked_46 rfl rfl ?_
        refine aw_iconst dX4_toggleBlocked_47 ?_
        refine aw_iload dX4_toggleBlocked_48 rfl ?_
        refine aw_if_eq (tgt := 57) dX4_toggleBlocked_50 (by decide) (by decide) (fun _ => ?_) (fun h => absurd (by decide) h)
        refine aw_iconst dX4_toggleBlocked_57 ?_
        refine aw_cVn (g := 1) (As := [iV (row), iV (seat), iV 1, iV 0]) (rest := []) (c_X2_give hst M (row) (seat) (1) (0) (by have n1 := hw.1; have n2 := hw.2.1; have n3 := hw.2.2 row (by omega) (by omega); have x6 := hM 6 row seat; omega) (by have n1 := hw.1; have n2 := hw.2.1; have n3 := hw.2.2 row (by omega) (by omega); have x6 := hM 6 row seat; omega) (by have n1 := hw.1; have n2 := hw.2.1; have n3 := hw.2.2 row (by omega) (by omega); have x6 := hM 6 row seat; omega) (by have n1 := hw.1; have n2 := hw.2.1; have n3 := hw.2.2 row (by omega) (by omega); have x6 := hM 6 row seat; omega) (by have n1 := hw.1; have n2 := hw.2.1; have n3 := hw.2.2 row (by omega) (by omega); have x6 := hM 6 row seat; omega) (by have n1 := hw.1; have n2 := hw.2.1; have n3 := hw.2.2 row (by omega) (by omega); have x6 := hM 6 row seat; omega) (by have n1 := hw.1; have n2 := hw.2.1; have n3 := hw.2.2 row (by omega) (by omega); have x6 := hM 6 row seat; omega)) cv_X2_give dX4_toggleBlocked_58 ml_X4_81 rfl rfl rfl rfl rfl (Nat.le_of_ble_eq_true rfl) (by decide) rfl rfl (by decide) ?_
        refine aw_iload dX4_toggleBlocked_61 rfl ?_
        exact aw_iret dX4_toggleBlocked_63 rfl rfl (by decide) (by decide) (Or.inr (Or.inr ⟨_, rfl, (by first | exact ⟨h3, by omega, by rw [if_pos h31], by rw [if_pos h31]⟩ | exact ⟨h3, by omega, by rw [if_neg h31], by rw [if_neg h31]⟩)⟩))
      · refine aw_iconst dX4_toggleBlocked_34 ?_
        refine aw_goto (tgt := 39) dX4_toggleBlocked_35 (by decide) ?_
        refine aw_istore (L2 := [some (rV K 0 0), some (iV (row)), some (iV (seat)), some (iV (M 6 row seat)), some (iV 1)]) dX4_toggleBlocked_39 (by decide) rfl ?_
        refine aw_aload_n dX4_toggleBlocked_41 rfl rfl ?_
        refine aw_getr (g := 0) rfl rfl ly_X4 rfl (k := 0) dX4_toggleBlocked_42 (by decide) fl_X4_10 rfl ?_
        refine aw_iload_n dX4_toggleBlocked_45 rfl rfl ?_
        refine aw_iload_n dX4_toggleBlocked_46 rfl rfl ?_
        refine aw_iconst dX4_toggleBlocked_47 ?_
        refine aw_iload dX4_toggleBlocked_48 rfl ?_
        refine aw_if_eq (tgt := 57) dX4_toggleBlocked_50 (by decide) (by decide) (fun h => absurd h (by decide)) (fun _ => ?_)
        refine aw_iconst dX4_toggleBlocked_53 ?_
        refine aw_goto (tgt := 58) dX4_toggleBlocked_54 (by decide) ?_
        refine aw_cVn (g := 1) (As := [iV (row), iV (seat), iV 1, iV (-1)]) (rest := []) (c_X2_give hst M (row) (seat) (1) (-1) (by have n1 := hw.1; have n2 := hw.2.1; have n3 := hw.2.2 row (by omega) (by omega); have x6 := hM 6 row seat; omega) (by have n1 := hw.1; have n2 := hw.2.1; have n3 := hw.2.2 row (by omega) (by omega); have x6 := hM 6 row seat; omega) (by have n1 := hw.1; have n2 := hw.2.1; have n3 := hw.2.2 row (by omega) (by omega); have x6 := hM 6 row seat; omega) (by have n1 := hw.1; have n2 := hw.2.1; have n3 := hw.2.2 row (by omega) (by omega); have x6 := hM 6 row seat; omega) (by have n1 := hw.1; have n2 := hw.2.1; have n3 := hw.2.2 row (by omega) (by omega); have x6 := hM 6 row seat; omega) (by have n1 := hw.1; have n2 := hw.2.1; have n3 := hw.2.2 row (by omega) (by omega); have x6 := hM 6 row seat; omega) (by have n1 := hw.1; have n2 := hw.2.1; have n3 := hw.2.2 row (by omega) (by omega); have x6 := hM 6 row seat; omega)) cv_X2_give dX4_toggleBlocked_58 ml_X4_81 rfl rfl rfl rfl rfl (Nat.le_of_ble_eq_true rfl) (by decide) rfl rfl (by decide) ?_
        refine aw_iload dX4_toggleBlocked_61 rfl ?_
        exact aw_iret dX4_toggleBlocked_63 rfl rfl (by decide) (by decide) (Or.inr (Or.inr ⟨_, rfl, (by first | exact ⟨h3, by omega, by rw [if_pos h31], by rw [if_pos h31]⟩ | exact ⟨h3, by omega, by rw [if_neg h31], by rw [if_neg h31]⟩)⟩))
    · exact aw_throw (text := "the seat is held or sold") at_ISE rfl rfl (by decide) dX4_toggleBlocked_20 dX4_toggleBlocked_23 dX4_toggleBlocked_24 dX4_toggleBlocked_26 dX4_toggleBlocked_29 (by decide) (Nat.le_of_ble_eq_true rfl) (by decide) (by decide) (Or.inr (Or.inl ⟨rfl, (by exact ⟨h3, by omega⟩), (by rfl)⟩))
  · exact ax_out rfl (by decide) (by decide) (Or.inl ⟨rfl, (by omega), (by rfl)⟩)
set_option maxHeartbeats 4000000 in
set_option maxRecDepth 20000 in
theorem c_X4_state {K : WPar} {l : Launch} (hst : l.stackTraces = false) (M : Mem) (row : Int) (seat : Int) (r_row : inR row) (r_seat : inR seat) (hw : HW M) (bw : BW M) (v_o : ∀ r s : Int, 0 ≤ r → r < M 1 0 4 → 0 ≤ s → s < M 2 0 r → M 6 r s = 0 ∨ M 6 r s = -1 ∨ (1 ≤ M 6 r s ∧ M 6 r s ≤ M 7 0 8)) : CT K l iX4_state [rV K 0 0, iV (row), iV (seat)] M (fun o m => (o = .inr eIOB ∧ (¬ (0 ≤ row ∧ row < M 1 0 4 ∧ 0 ≤ seat ∧ seat < M 2 0 row)) ∧ m = M) ∨ (∃ z, o = .inl (some z) ∧ ((0 ≤ row ∧ row < M 1 0 4 ∧ 0 ≤ seat ∧ seat < M 2 0 row) ∧ z = (if M 6 row seat = 0 then 0 else if M 6 row seat = -1 then 3 else if M 8 0 (M 6 row seat) = 0 then 1 else 2) ∧ m = M))) := by
  refine aw_met [some (rV K 0 0), some (iV (row)), some (iV (seat)), none] hst (by decide) rfl (Nat.le_of_ble_eq_true rfl) rfl rfl (lcat rfl) ?_
  refine aw_rng (fun hM => ?_)
  refine aw_aload_n dX4_state_0 rfl rfl ?_
  refine aw_iload_n dX4_state_1 rfl rfl ?_
  refine aw_iload_n dX4_state_2 rfl rfl ?_
  refine aw_cVx (st2 := []) (c2 := 1) (s2 := 6) (g := 0) (As := [iV (row), iV (seat)]) (rest := []) (c_X4_needSeat hst M (row) (seat) (by have n1 := hw.1; have n2 := hw.2.1; omega) (by have n1 := hw.1; have n2 := hw.2.1; omega) (by have n1 := hw.1; have n2 := hw.2.1; omega)) cv_X4_needSeat dX4_state_3 ml_X4_71 rfl rfl rfl rfl rfl (Nat.le_of_ble_eq_true rfl) (by decide) rfl rfl rfl (by decide) (fun h3 => ?_) (fun h3 => ?_)
  · refine aw_aload_n dX4_state_6 rfl rfl ?_
    refine aw_getr (g := 0) rfl rfl ly_X4 rfl (k := 0) dX4_state_7 (by decide) fl_X4_10 rfl ?_
    refine aw_iload_n dX4_state_10 rfl rfl ?_
    refine aw_iload_n dX4_state_11 rfl rfl ?_
    refine aw_cVi (g := 1) (As := [iV (row), iV (seat)]) (rest := []) (c_X2_ownerOf hst M (row) (seat) (by have ow := v_o row seat (by omega) (by omega) (by omega) (by omega); have x6 := hM 6 row seat; have n1 := hw.1; have n2 := hw.2.1; have t1 := bw.1; have t2 := bw.2; omega) (by have ow := v_o row seat (by omega) (by omega) (by omega) (by omega); have x6 := hM 6 row seat; have n1 := hw.1; have n2 := hw.2.1; have t1 := bw.1; have t2 := bw.2; omega) (by have ow := v_o row seat (by omega) (by omega) (by omega) (by omega); have x6 := hM 6 row seat; have n1 := hw.1; have n2 := hw.2.1; have t1 := bw.1; have t2 := bw.2; omega)) cv_X2_ownerOf dX4_state_12 ml_X4_75 rfl rfl rfl rfl rfl (Nat.le_of_ble_eq_true rfl) (by decide) rfl rfl (by decide) ?_
    refine aw_st (st' := [iV (M 6 row seat)]) (by rw [show (if 0 ≤ row ∧ row < M 1 0 4 ∧ 0 ≤ seat ∧ seat < M 2 0 row then M 6 row seat else -1 : Int) = M 6 row seat from by exact if_pos h3]) ?_
    refine aw_istore_n (L2 := [some (rV K 0 0), some (iV (row)), some (iV (seat)), some (iV (M 6 row seat))]) dX4_state_15 rfl (by decide) rfl ?_
    refine aw_iload_n dX4_state_16 rfl rfl ?_
    refine aw_if_ne (tgt := 22) dX4_state_17 (by decide) (by have ow := v_o row seat (by omega) (by omega) (by omega) (by omega); have x6 := hM 6 row seat; have n1 := hw.1; have n2 := hw.2.1; have t1 := bw.1; have t2 := bw.2; omega) (fun h17 => ?_) (fun h17 => ?_)
    · refine aw_iload_n dX4_state_22 rfl rfl ?_
      refine aw_iconst dX4_state_23 ?_
      refine aw_icmp_ne (tgt := 29) dX4_state_24 (by decide) (by have ow := v_o row seat (by omega) (by omega) (by omega) (by omega); have x6 := hM 6 row seat; have n1 := hw.1; have n2 := hw.2.1; have t1 := bw.1; have t2 := bw.2; omega) (by have ow := v_o row seat (by omega) (by omega) (by omega) (by omega); have x6 := hM 6 row seat; have n1 := hw.1; have n2 := hw.2.1; have t1 := bw.1; have t2 := bw.2; omega) (fun h24 => ?_) (fun h24 => ?_)
      · refine aw_aload_n dX4_state_29 rfl rfl ?_
        refine aw_getr (g := 0) rfl rfl ly_X4 rfl (k := 1) dX4_state_30 (by decide) fl_X4_19 rfl ?_
        refine aw_iload_n dX4_state_33 rfl rfl ?_
        refine aw_cVi (g := 7) (As := [iV (M 6 row seat)]) (rest := []) (c_X3_stateOf hst M (M 6 row seat) (by have ow := v_o row seat (by omega) (by omega) (by omega) (by omega); have x6 := hM 6 row seat; have n1 := hw.1; have n2 := hw.2.1; have t1 := bw.1; have t2 := bw.2; omega) (by have ow := v_o row seat (by omega) (by omega) (by omega) (by omega); have x6 := hM 6 row seat; have n1 := hw.1; have n2 := hw.2.1; have t1 := bw.1; have t2 := bw.2; omega)) cv_X3_stateOf dX4_state_34 ml_X4_85 rfl rfl rfl rfl rfl (Nat.le_of_ble_eq_true rfl) (by decide) rfl rfl (by decide) ?_
        refine aw_st (st' := [iV (M 8 0 (M 6 row seat))]) (by rw [show (if 1 ≤ (M 6 row seat) ∧ (M 6 row seat) ≤ M 7 0 8 then M 8 0 (M 6 row seat) else 3 : Int) = M 8 0 (M 6 row seat) from by have ow := v_o row seat (by omega) (by omega) (by omega) (by omega); exact if_pos (by omega)]) ?_
        refine aw_if_ne (tgt := 44) dX4_state_37 (by decide) (by exact hM 8 0 (M 6 row seat)) (fun h37 => ?_) (fun h37 => ?_)
        · refine aw_iconst dX4_state_44 ?_
          exact aw_iret dX4_state_45 rfl rfl (by decide) (by decide) (Or.inr ⟨_, rfl, (by refine ⟨h3, ?_, rfl⟩; first | rw [if_pos h17] | rw [if_neg h17, if_pos h24] | rw [if_neg h17, if_neg h24, if_pos h37] | rw [if_neg h17, if_neg h24, if_neg h37])⟩)
        · refine aw_iconst dX4_state_40 ?_
          refine aw_goto (tgt := 45) dX4_state_41 (by decide) ?_
          exact aw_iret dX4_state_45 rfl rfl (by decide) (by decide) (Or.inr ⟨_, rfl, (by refine ⟨h3, ?_, rfl⟩; first | rw [if_pos h17] | rw [if_neg h17, if_pos h24] | rw [if_neg h17, if_neg h24, if_pos h37] | rw [if_neg h17, if_neg h24, if_neg h37])⟩)
      · refine aw_iconst dX4_state_27 ?_
        exact aw_iret dX4_state_28 rfl rfl (by decide) (by decide) (Or.inr ⟨_, rfl, (by refine ⟨h3, ?_, rfl⟩; first | rw [if_pos h17] | rw [if_neg h17, if_pos h24] | rw [if_neg h17, if_neg h24, if_pos h37] | rw [if_neg h17, if_neg h24, if_neg h37])⟩)
    · refine aw_iconst dX4_state_20 ?_
      exact aw_iret dX4_state_21 rfl rfl (by decide) (by decide) (Or.inr ⟨_, rfl, (by refine ⟨h3, ?_, rfl⟩; first | rw [if_pos h17] | rw [if_neg h17, if_pos h24] | rw [if_neg h17, if_neg h24, if_pos h37] | rw [if_neg h17, if_neg h24, if_neg h37])⟩)
  · exact ax_out rfl (by decide) (by decide) (Or.inl ⟨rfl, (by omega), (by rfl)⟩)
set_option maxHeartbeats 4000000 in
set_option maxRecDepth 20000 in
theorem c_X4_ticketAt {K : WPar} {l : Launch} (hst : l.stackTraces = false) (M : Mem) (row : Int) (seat : Int) (r_row : inR row) (r_seat : inR seat) (hw : HW M) : CT K l iX4_ticketAt [rV K 0 0, iV (row), iV (seat)] M (fun o m => (o = .inr eIOB ∧ (¬ (0 ≤ row ∧ row < M 1 0 4 ∧ 0 ≤ seat ∧ seat < M 2 0 row)) ∧ m = M) ∨ (∃ z, o = .inl (some z) ∧ ((0 ≤ row ∧ row < M 1 0 4 ∧ 0 ≤ seat ∧ seat < M 2 0 row) ∧ z = max (M 6 row seat) 0 ∧ m = M))) := by
  refine aw_met [some (rV K 0 0), some (iV (row)), some (iV (seat))] hst (by decide) rfl (Nat.le_of_ble_eq_true rfl) rfl rfl (lcat rfl) ?_
  refine aw_rng (fun hM => ?_)
  refine aw_aload_n dX4_ticketAt_0 rfl rfl ?_
  refine aw_iload_n dX4_ticketAt_1 rfl rfl ?_
  refine aw_iload_n dX4_ticketAt_2 rfl rfl ?_
  refine aw_cVx (st2 := []) (c2 := 1) (s2 := 6) (g := 0) (As := [iV (row), iV (seat)]) (rest := []) (c_X4_needSeat hst M (row) (seat) (by have x6 := hM 6 row seat; have n1 := hw.1; have n2 := hw.2.1; omega) (by have x6 := hM 6 row seat; have n1 := hw.1; have n2 := hw.2.1; omega) (by have x6 := hM 6 row seat; have n1 := hw.1; have n2 := hw.2.1; omega)) cv_X4_needSeat dX4_ticketAt_3 ml_X4_71 rfl rfl rfl rfl rfl (Nat.le_of_ble_eq_true rfl) (by decide) rfl rfl rfl (by decide) (fun h3 => ?_) (fun h3 => ?_)
  · refine aw_aload_n dX4_ticketAt_6 rfl rfl ?_
    refine aw_getr (g := 0) rfl rfl ly_X4 rfl (k := 0) dX4_ticketAt_7 (by decide) fl_X4_10 rfl ?_
    refine aw_iload_n dX4_ticketAt_10 rfl rfl ?_
    refine aw_iload_n dX4_ticketAt_11 rfl rfl ?_
    refine aw_cVi (g := 1) (As := [iV (row), iV (seat)]) (rest := []) (c_X2_ownerOf hst M (row) (seat) (by have x6 := hM 6 row seat; have n1 := hw.1; have n2 := hw.2.1; omega) (by have x6 := hM 6 row seat; have n1 := hw.1; have n2 := hw.2.1; omega) (by have x6 := hM 6 row seat; have n1 := hw.1; have n2 := hw.2.1; omega)) cv_X2_ownerOf dX4_ticketAt_12 ml_X4_75 rfl rfl rfl rfl rfl (Nat.le_of_ble_eq_true rfl) (by decide) rfl rfl (by decide) ?_
    refine aw_st (st' := [iV (M 6 row seat)]) (by rw [show (if 0 ≤ row ∧ row < M 1 0 4 ∧ 0 ≤ seat ∧ seat < M 2 0 row then M 6 row seat else -1 : Int) = M 6 row seat from by exact if_pos h3]) ?_
    refine aw_iconst dX4_ticketAt_15 ?_
    refine aw_mmax (by have x6 := hM 6 row seat; have n1 := hw.1; have n2 := hw.2.1; omega) (by have x6 := hM 6 row seat; have n1 := hw.1; have n2 := hw.2.1; omega) dX4_ticketAt_16 ml_X4_89 (by decide) (Nat.le_of_ble_eq_true rfl) (by decide) (by decide) ?_
    exact aw_iret dX4_ticketAt_19 rfl rfl (by decide) (by decide) (Or.inr ⟨_, rfl, (by exact ⟨h3, rfl, rfl⟩)⟩)
  · exact ax_out rfl (by decide) (by decide) (Or.inl ⟨rfl, (by omega), (by rfl)⟩)
set_option maxHeartbeats 4000000 in
set_option maxRecDepth 20000 in
theorem c_X4_value {K : WPar} {l : Launch} (hst : l.stackTraces = false) (M : Mem) (row : Int) (seat : Int) (r_row : inR row) (r_seat : inR seat) (hw : HW M) : CT K l iX4_value [rV K 0 0, iV (row), iV (seat)] M (fun o m => (o = .inr eIOB ∧ (¬ (0 ≤ row ∧ row < M 1 0 4 ∧ 0 ≤ seat ∧ seat < M 2 0 row)) ∧ m = M) ∨ (∃ z, o = .inl (some z) ∧ ((0 ≤ row ∧ row < M 1 0 4 ∧ 0 ≤ seat ∧ seat < M 2 0 row) ∧ z = vS (M 3 0 row) (M 2 0 row) seat ∧ m = M))) := by
  refine aw_met [some (rV K 0 0), some (iV (row)), some (iV (seat))] hst (by decide) rfl (Nat.le_of_ble_eq_true rfl) rfl rfl (lcat rfl) ?_
  refine aw_rng (fun hM => ?_)
  refine aw_aload_n dX4_value_0 rfl rfl ?_
  refine aw_iload_n dX4_value_1 rfl rfl ?_
  refine aw_iload_n dX4_value_2 rfl rfl ?_
  refine aw_cVx (st2 := []) (c2 := 1) (s2 := 6) (g := 0) (As := [iV (row), iV (seat)]) (rest := []) (c_X4_needSeat hst M (row) (seat) (by have n1 := hw.1; have n2 := hw.2.1; omega) (by have n1 := hw.1; have n2 := hw.2.1; omega) (by have n1 := hw.1; have n2 := hw.2.1; omega)) cv_X4_needSeat dX4_value_3 ml_X4_71 rfl rfl rfl rfl rfl (Nat.le_of_ble_eq_true rfl) (by decide) rfl rfl rfl (by decide) (fun h3 => ?_) (fun h3 => ?_)
  · refine aw_aload_n dX4_value_6 rfl rfl ?_
    refine aw_getr (g := 0) rfl rfl ly_X4 rfl (k := 0) dX4_value_7 (by decide) fl_X4_10 rfl ?_
    refine aw_iload_n dX4_value_10 rfl rfl ?_
    refine aw_iload_n dX4_value_11 rfl rfl ?_
    refine aw_cVi (g := 1) (As := [iV (row), iV (seat)]) (rest := []) (c_X2_seatValue hst M (row) (seat) (by have n1 := hw.1; have n2 := hw.2.1; omega) (by have n1 := hw.1; have n2 := hw.2.1; omega) (by have n1 := hw.1; have n2 := hw.2.1; omega)) cv_X2_seatValue dX4_value_12 ml_X4_94 rfl rfl rfl rfl rfl (Nat.le_of_ble_eq_true rfl) (by decide) rfl rfl (by decide) ?_
    refine aw_st (st' := [iV (vS (M 3 0 row) (M 2 0 row) seat)]) (by rw [show (if 0 ≤ row ∧ row < M 1 0 4 ∧ 0 ≤ seat ∧ seat < M 2 0 row then vS (M 3 0 row) (M 2 0 row) seat else 0 : Int) = vS (M 3 0 row) (M 2 0 row) seat from by exact if_pos h3]) ?_
    exact aw_iret dX4_value_15 rfl rfl (by decide) (by decide) (Or.inr ⟨_, rfl, (by exact ⟨h3, rfl, rfl⟩)⟩)
  · exact ax_out rfl (by decide) (by decide) (Or.inl ⟨rfl, (by omega), (by rfl)⟩)
set_option maxHeartbeats 4000000 in
set_option maxRecDepth 20000 in
theorem c_X4_freeSeats {K : WPar} {l : Launch} (hst : l.stackTraces = false) (M : Mem) (row : Int) (r_row : inR row) (hw : HW M) : CT K l iX4_freeSeats [rV K 0 0, iV (row)] M (fun o m => (o = .inr eIOB ∧ (¬ (0 ≤ row ∧ row < M 1 0 4)) ∧ m = M) ∨ (∃ z, o = .inl (some z) ∧ ((0 ≤ row ∧ row < M 1 0 4) ∧ z = sumI (fun s => if M 6 row s = 0 then 1 else 0) (M 2 0 row) ∧ m = M))) := by
  refine aw_met [some (rV K 0 0), some (iV (row))] hst (by decide) rfl (Nat.le_of_ble_eq_true rfl) rfl rfl (lcat rfl) ?_
  refine aw_rng (fun hM => ?_)
  refine aw_aload_n dX4_freeSeats_0 rfl rfl ?_
  refine aw_iload_n dX4_freeSeats_1 rfl rfl ?_
  refine aw_cVx (st2 := []) (c2 := 1) (s2 := 6) (g := 0) (As := [iV (row)]) (rest := []) (c_X4_needRow hst M (row) (by have n1 := hw.1; have n2 := hw.2.1; omega) (by have n1 := hw.1; have n2 := hw.2.1; omega)) cv_X4_needRow dX4_freeSeats_2 ml_X4_97 rfl rfl rfl rfl rfl (Nat.le_of_ble_eq_true rfl) (by decide) rfl rfl rfl (by decide) (fun h2 => ?_) (fun h2 => ?_)
  · refine aw_aload_n dX4_freeSeats_5 rfl rfl ?_
    refine aw_getr (g := 0) rfl rfl ly_X4 rfl (k := 0) dX4_freeSeats_6 (by decide) fl_X4_10 rfl ?_
    refine aw_iload_n dX4_freeSeats_9 rfl rfl ?_
    refine aw_cVi (g := 1) (As := [iV (row)]) (rest := []) (c_X2_countFree hst M (row) (by have n1 := hw.1; have n2 := hw.2.1; omega) (by have n1 := hw.1; have n2 := hw.2.1; omega) (by have n1 := hw.1; have n2 := hw.2.1; omega)) cv_X2_countFree dX4_freeSeats_10 ml_X4_100 rfl rfl rfl rfl rfl (Nat.le_of_ble_eq_true rfl) (by decide) rfl rfl (by decide) ?_
    exact aw_iret dX4_freeSeats_13 rfl rfl (by decide) (by decide) (Or.inr ⟨_, rfl, (by exact ⟨h2, rfl, rfl⟩)⟩)
  · exact ax_out rfl (by decide) (by decide) (Or.inl ⟨rfl, (by omega), (by rfl)⟩)
set_option maxHeartbeats 4000000 in
set_option maxRecDepth 20000 in
theorem c_X4_bestBlock {K : WPar} {l : Launch} (hst : l.stackTraces = false) (M : Mem) (seats : Int) (r_seats : inR seats) (hw : HW M) : CT K l iX4_bestBlock [rV K 0 0, iV (seats)] M (fun o m => (o = .inr eIAE ∧ (¬ (1 ≤ seats ∧ seats ≤ 20)) ∧ m = M) ∨ (o = .inr eISE ∧ ((1 ≤ seats ∧ seats ≤ 20) ∧ bestM M seats (-1)) ∧ m = M) ∨ (∃ z, o = .inl (some z) ∧ ((1 ≤ seats ∧ seats ≤ 20) ∧ (bestM M seats z ∧ z ≠ -1) ∧ m = M))) := by
  refine aw_met [some (rV K 0 0), some (iV (seats))] hst (by decide) rfl (Nat.le_of_ble_eq_true rfl) rfl rfl (lcat rfl) ?_
  refine aw_rng (fun hM => ?_)
  refine aw_iload_n dX4_bestBlock_0 rfl rfl ?_
  refine aw_cSx (st2 := []) (c2 := 1) (s2 := 6) (As := [iV (seats)]) (rest := []) (c_X4_needSeats hst M (seats) (by have n1 := hw.1; have n2 := hw.2.1; omega)) cs_X4_needSeats dX4_bestBlock_1 ml_X4_48 rfl rfl (Nat.le_of_ble_eq_true rfl) (by decide) rfl rfl rfl (by decide) (fun h1 => ?_) (fun h1 => ?_)
  · refine aw_aload_n dX4_bestBlock_4 rfl rfl ?_
    refine aw_iload_n dX4_bestBlock_5 rfl rfl ?_
    refine aw_cVz (c2 := 2) (s2 := 12) (g := 0) (As := [iV (seats)]) (rest := []) (c_X4_needBest hst M (seats) (by have n1 := hw.1; have n2 := hw.2.1; omega) (by have n1 := hw.1; have n2 := hw.2.1; omega) (by have n1 := hw.1; have n2 := hw.2.1; omega)) cv_X4_needBest dX4_bestBlock_6 ml_X4_109 rfl rfl rfl rfl rfl (Nat.le_of_ble_eq_true rfl) (by decide) rfl rfl (by decide) (fun z6 (h6 : bestM M seats z6 ∧ z6 ≠ -1) => ?_) (fun h6 => ?_)
    · exact aw_iret dX4_bestBlock_9 rfl rfl (by decide) (by decide) (Or.inr (Or.inr ⟨_, rfl, (by exact ⟨h1, h6, rfl⟩)⟩))
    · exact ax_out rfl (by decide) (by decide) (Or.inr (Or.inl ⟨rfl, (by exact ⟨h1, h6⟩), (by rfl)⟩))
  · exact ax_out rfl (by decide) (by decide) (Or.inl ⟨rfl, (by omega), (by rfl)⟩)
set_option maxHeartbeats 4000000 in
set_option maxRecDepth 20000 in
theorem c_X4_leavesOrphan {K : WPar} {l : Launch} (hst : l.stackTraces = false) (M : Mem) (seats : Int) (r_seats : inR seats) (hw : HW M) : CT K l iX4_leavesOrphan [rV K 0 0, iV (seats)] M (fun o m => (o = .inr eIAE ∧ (¬ (1 ≤ seats ∧ seats ≤ 20)) ∧ m = M) ∨ (o = .inr eISE ∧ ((1 ≤ seats ∧ seats ≤ 20) ∧ bestM M seats (-1)) ∧ m = M) ∨ (∃ z, o = .inl (some z) ∧ ((1 ≤ seats ∧ seats ≤ 20) ∧ ∃ b, (bestM M seats b ∧ b ≠ -1) ∧ ((z = 1 ∧ hasO (M 2 0 (b / 100)) (M 6 (b / 100)) (b % 100) seats) ∨ (z = 0 ∧ ¬ (hasO (M 2 0 (b / 100)) (M 6 (b / 100)) (b % 100) seats))) ∧ m = M))) := by
  refine aw_met [some (rV K 0 0), some (iV (seats)), none] hst (by decide) rfl (Nat.le_of_ble_eq_true rfl) rfl rfl (lcat rfl) ?_
  refine aw_rng (fun hM => ?_)
  refine aw_iload_n dX4_leavesOrphan_0 rfl rfl ?_
  refine aw_cSx (st2 := []) (c2 := 1) (s2 := 6) (As := [iV (seats)]) (rest := []) (c_X4_needSeats hst M (seats) (by have n1 := hw.1; have n2 := hw.2.1; omega)) cs_X4_needSeats dX4_leavesOrphan_1 ml_X4_48 rfl rfl (Nat.le_of_ble_eq_true rfl) (by decide) rfl rfl rfl (by decide) (fun h1 => ?_) (fun h1 => ?_)
  · refine aw_aload_n dX4_leavesOrphan_4 rfl rfl ?_
    refine aw_iload_n dX4_leavesOrphan_5 rfl rfl ?_
    refine aw_cVz (c2 := 2) (s2 := 12) (g := 0) (As := [iV (seats)]) (rest := []) (c_X4_needBest hst M (seats) (by have n1 := hw.1; have n2 := hw.2.1; omega) (by have n1 := hw.1; have n2 := hw.2.1; omega) (by have n1 := hw.1; have n2 := hw.2.1; omega)) cv_X4_needBest dX4_leavesOrphan_6 ml_X4_109 rfl rfl rfl rfl rfl (Nat.le_of_ble_eq_true rfl) (by decide) rfl rfl (by decide) (fun z6 (h6 : bestM M seats z6 ∧ z6 ≠ -1) => ?_) (fun h6 => ?_)
    · refine aw_istore_n (L2 := [some (rV K 0 0), some (iV (seats)), some (iV (z6))]) dX4_leavesOrphan_9 rfl (by decide) rfl ?_
      refine aw_aload_n dX4_leavesOrphan_10 rfl rfl ?_
      refine aw_getr (g := 0) rfl rfl ly_X4 rfl (k := 0) dX4_leavesOrphan_11 (by decide) fl_X4_10 rfl ?_
      refine aw_iload_n dX4_leavesOrphan_14 rfl rfl ?_
      refine aw_bipush dX4_leavesOrphan_15 rfl ?_
      refine aw_idiv dX4_leavesOrphan_17 (by have ba := bestG_at (by omega) (fun r r0 r1 => (hw.2.2 r r0 r1).2.1) h6.1 h6.2; have nr := hw.2.2 (z6 / 100) ba.1 ba.2.1; have n1 := hw.1; have n2 := hw.2.1; omega) (by have ba := bestG_at (by omega) (fun r r0 r1 => (hw.2.2 r r0 r1).2.1) h6.1 h6.2; have nr := hw.2.2 (z6 / 100) ba.1 ba.2.1; have n1 := hw.1; have n2 := hw.2.1; omega) ?_
      refine aw_iload_n dX4_leavesOrphan_18 rfl rfl ?_
      refine aw_bipush dX4_leavesOrphan_19 rfl ?_
      refine aw_irem dX4_leavesOrphan_21 (by have ba := bestG_at (by omega) (fun r r0 r1 => (hw.2.2 r r0 r1).2.1) h6.1 h6.2; have nr := hw.2.2 (z6 / 100) ba.1 ba.2.1; have n1 := hw.1; have n2 := hw.2.1; omega) (by have ba := bestG_at (by omega) (fun r r0 r1 => (hw.2.2 r r0 r1).2.1) h6.1 h6.2; have nr := hw.2.2 (z6 / 100) ba.1 ba.2.1; have n1 := hw.1; have n2 := hw.2.1; omega) ?_
      refine aw_iload_n dX4_leavesOrphan_22 rfl rfl ?_
      refine aw_cVb (g := 1) (As := [iV (z6 / 100), iV (z6 % 100), iV (seats)]) (rest := []) (c_X2_orphanBeside hst M (z6 / 100) (z6 % 100) (seats) (by have ba := bestG_at (by omega) (fun r r0 r1 => (hw.2.2 r r0 r1).2.1) h6.1 h6.2; have nr := hw.2.2 (z6 / 100) ba.1 ba.2.1; have n1 := hw.1; have n2 := hw.2.1; omega) (by have ba := bestG_at (by omega) (fun r r0 r1 => (hw.2.2 r r0 r1).2.1) h6.1 h6.2; have nr := hw.2.2 (z6 / 100) ba.1 ba.2.1; have n1 := hw.1; have n2 := hw.2.1; omega) (by have ba := bestG_at (by omega) (fun r r0 r1 => (hw.2.2 r r0 r1).2.1) h6.1 h6.2; have nr := hw.2.2 (z6 / 100) ba.1 ba.2.1; have n1 := hw.1; have n2 := hw.2.1; omega) (by have ba := bestG_at (by omega) (fun r r0 r1 => (hw.2.2 r r0 r1).2.1) h6.1 h6.2; have nr := hw.2.2 (z6 / 100) ba.1 ba.2.1; have n1 := hw.1; have n2 := hw.2.1; omega) (by have ba := bestG_at (by omega) (fun r r0 r1 => (hw.2.2 r r0 r1).2.1) h6.1 h6.2; have nr := hw.2.2 (z6 / 100) ba.1 ba.2.1; have n1 := hw.1; have n2 := hw.2.1; omega) (by have ba := bestG_at (by omega) (fun r r0 r1 => (hw.2.2 r r0 r1).2.1) h6.1 h6.2; have nr := hw.2.2 (z6 / 100) ba.1 ba.2.1; have n1 := hw.1; have n2 := hw.2.1; omega)) cv_X2_orphanBeside dX4_leavesOrphan_23 ml_X4_112 rfl rfl rfl rfl rfl (Nat.le_of_ble_eq_true rfl) (by decide) rfl rfl (by decide) (fun h23 => ?_) (fun h23 => ?_)
      · exact aw_iret dX4_leavesOrphan_26 rfl rfl (by decide) (by decide) (Or.inr (Or.inr ⟨_, rfl, (by first | exact ⟨h1, z6, h6, Or.inl ⟨rfl, h23⟩, rfl⟩ | exact ⟨h1, z6, h6, Or.inr ⟨rfl, h23⟩, rfl⟩)⟩))
      · exact aw_iret dX4_leavesOrphan_26 rfl rfl (by decide) (by decide) (Or.inr (Or.inr ⟨_, rfl, (by first | exact ⟨h1, z6, h6, Or.inl ⟨rfl, h23⟩, rfl⟩ | exact ⟨h1, z6, h6, Or.inr ⟨rfl, h23⟩, rfl⟩)⟩))
    · exact ax_out rfl (by decide) (by decide) (Or.inr (Or.inl ⟨rfl, (by exact ⟨h1, h6⟩), (by rfl)⟩))
  · exact ax_out rfl (by decide) (by decide) (Or.inl ⟨rfl, (by omega), (by rfl)⟩)
set_option maxHeartbeats 4000000 in
set_option maxRecDepth 20000 in
theorem c_X4_hold {K : WPar} {l : Launch} (hst : l.stackTraces = false) (M : Mem) (seats : Int) (minutes : Int) (r_seats : inR seats) (r_minutes : inR minutes) (hw : HW M) (bw : BW M) (v_now : 0 ≤ M 0 0 4 ∧ M 0 0 4 ≤ 1000000) : CT K l iX4_hold [rV K 0 0, iV (seats), iV (minutes)] M (fun o m => (o = .inr eIAE ∧ (¬ ((1 ≤ seats ∧ seats ≤ 20) ∧ (1 ≤ minutes ∧ minutes ≤ 200))) ∧ m = M) ∨ (o = .inr eISE ∧ (((1 ≤ seats ∧ seats ≤ 20) ∧ (1 ≤ minutes ∧ minutes ≤ 200)) ∧ (bestM M seats (-1) ∨ ¬ M 7 0 8 < 100)) ∧ m = M) ∨ (∃ z, o = .inl (some z) ∧ (((1 ≤ seats ∧ seats ≤ 20) ∧ (1 ≤ minutes ∧ minutes ≤ 200)) ∧ M 7 0 8 < 100 ∧ ∃ b, (bestM M seats b ∧ b ≠ -1) ∧ z = M 7 0 8 + 1 ∧ m = grM M (b / 100) (b % 100) seats minutes))) := by
  refine aw_met [some (rV K 0 0), some (iV (seats)), some (iV (minutes)), none] hst (by decide) rfl (Nat.le_of_ble_eq_true rfl) rfl rfl (lcat rfl) ?_
  refine aw_rng (fun hM => ?_)
  refine aw_iload_n dX4_hold_0 rfl rfl ?_
  refine aw_cSx (st2 := []) (c2 := 1) (s2 := 6) (As := [iV (seats)]) (rest := []) (c_X4_needSeats hst M (seats) (by have n1 := hw.1; have n2 := hw.2.1; have t1 := bw.1; have t2 := bw.2; omega)) cs_X4_needSeats dX4_hold_1 ml_X4_48 rfl rfl (Nat.le_of_ble_eq_true rfl) (by decide) rfl rfl rfl (by decide) (fun h1 => ?_) (fun h1 => ?_)
  · refine aw_iload_n dX4_hold_4 rfl rfl ?_
    refine aw_cSx (st2 := []) (c2 := 2) (s2 := 12) (As := [iV (minutes)]) (rest := []) (c_X4_needMinutes hst M (minutes) (by have n1 := hw.1; have n2 := hw.2.1; have t1 := bw.1; have t2 := bw.2; omega)) cs_X4_needMinutes dX4_hold_5 ml_X4_116 rfl rfl (Nat.le_of_ble_eq_true rfl) (by decide) rfl rfl rfl (by decide) (fun h5 => ?_) (fun h5 => ?_)
    · refine aw_aload_n dX4_hold_8 rfl rfl ?_
      refine aw_iload_n dX4_hold_9 rfl rfl ?_
      refine aw_cVz (c2 := 3) (s2 := 18) (g := 0) (As := [iV (seats)]) (rest := []) (c_X4_needBest hst M (seats) (by have n1 := hw.1; have n2 := hw.2.1; have t1 := bw.1; have t2 := bw.2; omega) (by have n1 := hw.1; have n2 := hw.2.1; have t1 := bw.1; have t2 := bw.2; omega) (by have n1 := hw.1; have n2 := hw.2.1; have t1 := bw.1; have t2 := bw.2; omega)) cv_X4_needBest dX4_hold_10 ml_X4_109 rfl rfl rfl rfl rfl (Nat.le_of_ble_eq_true rfl) (by decide) rfl rfl (by decide) (fun z10 (h10 : bestM M seats z10 ∧ z10 ≠ -1) => ?_) (fun h10 => ?_)
      · refine aw_istore_n (L2 := [some (rV K 0 0), some (iV (seats)), some (iV (minutes)), some (iV (z10))]) dX4_hold_13 rfl (by decide) rfl ?_
        refine aw_aload_n dX4_hold_14 rfl rfl ?_
        refine aw_cVx (st2 := []) (c2 := 4) (s2 := 24) (g := 0) (As := []) (rest := []) (c_X4_needTicketLeft hst M (by have n1 := hw.1; have n2 := hw.2.1; have t1 := bw.1; have t2 := bw.2; omega)) cv_X4_needTicketLeft dX4_hold_15 ml_X4_119 rfl rfl rfl rfl rfl (Nat.le_of_ble_eq_true rfl) (by decide) rfl rfl rfl (by decide) (fun h15 => ?_) (fun h15 => ?_)
        · refine aw_aload_n dX4_hold_18 rfl rfl ?_
          refine aw_iload_n dX4_hold_19 rfl rfl ?_
          refine aw_bipush dX4_hold_20 rfl ?_
          refine aw_idiv dX4_hold_22 (by have ba := bestG_at (by omega) (fun r r0 r1 => (hw.2.2 r r0 r1).2.1) h10.1 h10.2; have nr := hw.2.2 (z10 / 100) ba.1 ba.2.1; have n1 := hw.1; have n2 := hw.2.1; have t1 := bw.1; have t2 := bw.2; omega) (by have ba := bestG_at (by omega) (fun r r0 r1 => (hw.2.2 r r0 r1).2.1) h10.1 h10.2; have nr := hw.2.2 (z10 / 100) ba.1 ba.2.1; have n1 := hw.1; have n2 := hw.2.1; have t1 := bw.1; have t2 := bw.2; omega) ?_
          refine aw_iload_n dX4_hold_23 rfl rfl ?_
          refine aw_bipush dX4_hold_24 rfl ?_
          refine aw_irem dX4_hold_26 (by have ba := bestG_at (by omega) (fun r r0 r1 => (hw.2.2 r r0 r1).2.1) h10.1 h10.2; have nr := hw.2.2 (z10 / 100) ba.1 ba.2.1; have n1 := hw.1; have n2 := hw.2.1; have t1 := bw.1; have t2 := bw.2; omega) (by have ba := bestG_at (by omega) (fun r r0 r1 => (hw.2.2 r r0 r1).2.1) h10.1 h10.2; have nr := hw.2.2 (z10 / 100) ba.1 ba.2.1; have n1 := hw.1; have n2 := hw.2.1; have t1 := bw.1; have t2 := bw.2; omega) ?_
          refine aw_iload_n dX4_hold_27 rfl rfl ?_
          refine aw_iload_n dX4_hold_28 rfl rfl ?_
          refine aw_cVi (g := 0) (As := [iV (z10 / 100), iV (z10 % 100), iV (seats), iV (minutes)]) (rest := []) (c_X4_grantBlock hst M (z10 / 100) (z10 % 100) (seats) (minutes) (by have ba := bestG_at (by omega) (fun r r0 r1 => (hw.2.2 r r0 r1).2.1) h10.1 h10.2; have nr := hw.2.2 (z10 / 100) ba.1 ba.2.1; have n1 := hw.1; have n2 := hw.2.1; have t1 := bw.1; have t2 := bw.2; omega) (by have ba := bestG_at (by omega) (fun r r0 r1 => (hw.2.2 r r0 r1).2.1) h10.1 h10.2; have nr := hw.2.2 (z10 / 100) ba.1 ba.2.1; have n1 := hw.1; have n2 := hw.2.1; have t1 := bw.1; have t2 := bw.2; omega) (by have ba := bestG_at (by omega) (fun r r0 r1 => (hw.2.2 r r0 r1).2.1) h10.1 h10.2; have nr := hw.2.2 (z10 / 100) ba.1 ba.2.1; have n1 := hw.1; have n2 := hw.2.1; have t1 := bw.1; have t2 := bw.2; omega) (by have ba := bestG_at (by omega) (fun r r0 r1 => (hw.2.2 r r0 r1).2.1) h10.1 h10.2; have nr := hw.2.2 (z10 / 100) ba.1 ba.2.1; have n1 := hw.1; have n2 := hw.2.1; have t1 := bw.1; have t2 := bw.2; omega) (by have ba := bestG_at (by omega) (fun r r0 r1 => (hw.2.2 r r0 r1).2.1) h10.1 h10.2; have nr := hw.2.2 (z10 / 100) ba.1 ba.2.1; have n1 := hw.1; have n2 := hw.2.1; have t1 := bw.1; have t2 := bw.2; omega) (by have ba := bestG_at (by omega) (fun r r0 r1 => (hw.2.2 r r0 r1).2.1) h10.1 h10.2; have nr := hw.2.2 (z10 / 100) ba.1 ba.2.1; have n1 := hw.1; have n2 := hw.2.1; have t1 := bw.1; have t2 := bw.2; omega) (by have ba := bestG_at (by omega) (fun r r0 r1 => (hw.2.2 r r0 r1).2.1) h10.1 h10.2; have nr := hw.2.2 (z10 / 100) ba.1 ba.2.1; have n1 := hw.1; have n2 := hw.2.1; have t1 := bw.1; have t2 := bw.2; omega) (by have ba := bestG_at (by omega) (fun r r0 r1 => (hw.2.2 r r0 r1).2.1) h10.1 h10.2; have nr := hw.2.2 (z10 / 100) ba.1 ba.2.1; have n1 := hw.1; have n2 := hw.2.1; have t1 := bw.1; have t2 := bw.2; omega) (by have ba := bestG_at (by omega) (fun r r0 r1 => (hw.2.2 r r0 r1).2.1) h10.1 h10.2; have nr := hw.2.2 (z10 / 100) ba.1 ba.2.1; have n1 := hw.1; have n2 := hw.2.1; have t1 := bw.1; have t2 := bw.2; omega) (by have ba := bestG_at (by omega) (fun r r0 r1 => (hw.2.2 r r0 r1).2.1) h10.1 h10.2; exact ⟨ba.1, ba.2.1, ba.2.2.1, h1.1, ba.2.2.2.1⟩)) cv_X4_grantBlock dX4_hold_29 ml_X4_122 rfl rfl rfl rfl rfl (Nat.le_of_ble_eq_true rfl) (by decide) rfl rfl (by decide) ?_
          exact aw_iret dX4_hold_32 rfl rfl (by decide) (by decide) (Or.inr (Or.inr ⟨_, rfl, (by exact ⟨⟨h1, h5⟩, h15, z10, h10, rfl, rfl⟩)⟩))
        · exact ax_out rfl (by decide) (by decide) (Or.inr (Or.inl ⟨rfl, (by exact ⟨⟨h1, h5⟩, Or.inr h15⟩), (by rfl)⟩))
      · exact ax_out rfl (by decide) (by decide) (Or.inr (Or.inl ⟨rfl, (by exact ⟨⟨h1, h5⟩, Or.inl h10⟩), (by rfl)⟩))
    · exact ax_out rfl (by decide) (by decide) (Or.inl ⟨rfl, (by omega), (by rfl)⟩)
  · exact ax_out rfl (by decide) (by decide) (Or.inl ⟨rfl, (by omega), (by rfl)⟩)
set_option maxHeartbeats 4000000 in
set_option maxRecDepth 20000 in
theorem c_X4_holdAt {K : WPar} {l : Launch} (hst : l.stackTraces = false) (M : Mem) (row : Int) (first : Int) (seats : Int) (minutes : Int) (r_row : inR row) (r_first : inR first) (r_seats : inR seats) (r_minutes : inR minutes) (hw : HW M) (bw : BW M) (v_now : 0 ≤ M 0 0 4 ∧ M 0 0 4 ≤ 1000000) : CT K l iX4_holdAt [rV K 0 0, iV (row), iV (first), iV (seats), iV (minutes)] M (fun o m => (o = .inr eIOB ∧ (¬ (0 ≤ row ∧ row < M 1 0 4 ∧ 0 ≤ first ∧ first < M 2 0 row)) ∧ m = M) ∨ (o = .inr eIAE ∧ ((0 ≤ row ∧ row < M 1 0 4 ∧ 0 ≤ first ∧ first < M 2 0 row) ∧ ¬ ((1 ≤ seats ∧ seats ≤ 20) ∧ (1 ≤ minutes ∧ minutes ≤ 200))) ∧ m = M) ∨ (o = .inr eISE ∧ (((0 ≤ row ∧ row < M 1 0 4 ∧ 0 ≤ first ∧ first < M 2 0 row) ∧ ((1 ≤ seats ∧ seats ≤ 20) ∧ (1 ≤ minutes ∧ minutes ≤ 200))) ∧ (¬ (1 ≤ seats ∧ 0 ≤ first ∧ first + seats ≤ M 2 0 row ∧ allF (M 6 row) first seats) ∨ ¬ M 7 0 8 < 100)) ∧ m = M) ∨ (∃ z, o = .inl (some z) ∧ (((0 ≤ row ∧ row < M 1 0 4 ∧ 0 ≤ first ∧ first < M 2 0 row) ∧ ((1 ≤ seats ∧ seats ≤ 20) ∧ (1 ≤ minutes ∧ minutes ≤ 200))) ∧ (1 ≤ seats ∧ 0 ≤ first ∧ first + seats ≤ M 2 0 row ∧ allF (M 6 row) first seats) ∧ M 7 0 8 < 100 ∧ z = M 7 0 8 + 1 ∧ m = grM M row first seats minutes))) := by
  refine aw_met [some (rV K 0 0), some (iV (row)), some (iV (first)), some (iV (seats)), some (iV (minutes))] hst (by decide) rfl (Nat.le_of_ble_eq_true rfl) rfl rfl (lcat rfl) ?_
  refine aw_rng (fun hM => ?_)
  refine aw_aload_n dX4_holdAt_0 rfl rfl ?_
  refine aw_iload_n dX4_holdAt_1 rfl rfl ?_
  refine aw_iload_n dX4_holdAt_2 rfl rfl ?_
  refine aw_cVx (st2 := []) (c2 := 1) (s2 := 6) (g := 0) (As := [iV (row), iV (first)]) (rest := []) (c_X4_needSeat hst M (row) (first) (by have n1 := hw.1; have n2 := hw.2.1; have t1 := bw.1; have t2 := bw.2; omega) (by have n1 := hw.1; have n2 := hw.2.1; have t1 := bw.1; have t2 := bw.2; omega) (by have n1 := hw.1; have n2 := hw.2.1; have t1 := bw.1; have t2 := bw.2; omega)) cv_X4_needSeat dX4_holdAt_3 ml_X4_71 rfl rfl rfl rfl rfl (Nat.le_of_ble_eq_true rfl) (by decide) rfl rfl rfl (by decide) (fun h3 => ?_) (fun h3 => ?_)
  · refine aw_iload_n dX4_holdAt_6 rfl rfl ?_
    refine aw_cSx (st2 := []) (c2 := 2) (s2 := 12) (As := [iV (seats)]) (rest := []) (c_X4_needSeats hst M (seats) (by have n1 := hw.1; have n2 := hw.2.1; have t1 := bw.1; have t2 := bw.2; omega)) cs_X4_needSeats dX4_holdAt_7 ml_X4_48 rfl rfl (Nat.le_of_ble_eq_true rfl) (by decide) rfl rfl rfl (by decide) (fun h7 => ?_) (fun h7 => ?_)
    · refine aw_iload dX4_holdAt_10 rfl ?_
      refine aw_cSx (st2 := []) (c2 := 3) (s2 := 18) (As := [iV (minutes)]) (rest := []) (c_X4_needMinutes hst M (minutes) (by have n1 := hw.1; have n2 := hw.2.1; have t1 := bw.1; have t2 := bw.2; omega)) cs_X4_needMinutes dX4_holdAt_12 ml_X4_116 rfl rfl (Nat.le_of_ble_eq_true rfl) (by decide) rfl rfl rfl (by decide) (fun h12 => ?_) (fun h12 => ?_)
      · refine aw_aload_n dX4_holdAt_15 rfl rfl ?_
        refine aw_getr (g := 0) rfl rfl ly_X4 rfl (k := 0) dX4_holdAt_16 (by decide) fl_X4_10 rfl ?_
        refine aw_iload_n dX4_holdAt_19 rfl rfl ?_
        refine aw_iload_n dX4_holdAt_20 rfl rfl ?_
        refine aw_iload_n dX4_holdAt_21 rfl rfl ?_
        refine aw_cVb (g := 1) (As := [iV (row), iV (first), iV (seats)]) (rest := []) (c_X2_isPossible hst M (row) (first) (seats) (by have n1 := hw.1; have n2 := hw.2.1; have t1 := bw.1; have t2 := bw.2; omega) (by have n1 := hw.1; have n2 := hw.2.1; have t1 := bw.1; have t2 := bw.2; omega) (by have n1 := hw.1; have n2 := hw.2.1; have t1 := bw.1; have t2 := bw.2; omega) (by have n1 := hw.1; have n2 := hw.2.1; have t1 := bw.1; have t2 := bw.2; omega) (by have n1 := hw.1; have n2 := hw.2.1; have t1 := bw.1; have t2 := bw.2; omega) (by have n1 := hw.1; have n2 := hw.2.1; have t1 := bw.1; have t2 := bw.2; omega)) cv_X2_isPossible dX4_holdAt_22 ml_X4_126 rfl rfl rfl rfl rfl (Nat.le_of_ble_eq_true rfl) (by decide) rfl rfl (by decide) (fun h22 => ?_) (fun h22 => ?_)
        · refine aw_if_ne (tgt := 38) dX4_holdAt_25 (by decide) (by decide) (fun _ => ?_) (fun h => absurd h (by decide))
          refine aw_aload_n dX4_holdAt_38 rfl rfl ?_
          refine aw_cVx (st2 := []) (c2 := 4) (s2 := 24) (g := 0) (As := []) (rest := []) (c_X4_needTicketLeft hst M (by have n1 := hw.1; have n2 := hw.2.1; have t1 := bw.1; have t2 := bw.2; omega)) cv_X4_needTicketLeft dX4_holdAt_39 ml_X4_119 rfl rfl rfl rfl rfl (Nat.le_of_ble_eq_true rfl) (by decide) rfl rfl rfl (by decide) (fun h39 => ?_) (fun h39 => ?_)
          · refine aw_aload_n dX4_holdAt_42 rfl rfl ?_
            refine aw_iload_n dX4_holdAt_43 rfl rfl ?_
            refine aw_iload_n dX4_holdAt_44 rfl rfl ?_
            refine aw_iload_n dX4_holdAt_45 rfl rfl ?_
            refine aw_iload dX4_holdAt_46 rfl ?_
            refine aw_cVi (g := 0) (As := [iV (row), iV (first), iV (seats), iV (minutes)]) (rest := []) (c_X4_grantBlock hst M (row) (first) (seats) (minutes) (by have n1 := hw.1; have n2 := hw.2.1; have t1 := bw.1; have t2 := bw.2; omega) (by have n1 := hw.1; have n2 := hw.2.1; have t1 := bw.1; have t2 := bw.2; omega) (by have n1 := hw.1; have n2 := hw.2.1; have t1 := bw.1; have t2 := bw.2; omega) (by have n1 := hw.1; have n2 := hw.2.1; have t1 := bw.1; have t2 := bw.2; omega) (by have n1 := hw.1; have n2 := hw.2.1; have t1 := bw.1; have t2 := bw.2; omega) (by have n1 := hw.1; have n2 := hw.2.1; have t1 := bw.1; have t2 := bw.2; omega) (by have n1 := hw.1; have n2 := hw.2.1; have t1 := bw.1; have t2 := bw.2; omega) (by have n1 := hw.1; have n2 := hw.2.1; have t1 := bw.1; have t2 := bw.2; omega) (by have n1 := hw.1; have n2 := hw.2.1; have t1 := bw.1; have t2 := bw.2; omega) (by exact ⟨h3.1, h3.2.1, h22.2.1, h22.1, h22.2.2.1⟩)) cv_X4_grantBlock dX4_holdAt_48 ml_X4_122 rfl rfl rfl rfl rfl (Nat.le_of_ble_eq_true rfl) (by decide) rfl rfl (by decide) ?_
            exact aw_iret dX4_holdAt_51 rfl rfl (by decide) (by decide) (Or.inr (Or.inr (Or.inr ⟨_, rfl, (by exact ⟨⟨h3, h7, h12⟩, h22, h39, rfl, rfl⟩)⟩)))
          · exact ax_out rfl (by decide) (by decide) (Or.inr (Or.inr (Or.inl ⟨rfl, (by exact ⟨⟨h3, h7, h12⟩, Or.inr h39⟩), (by rfl)⟩)))
        · refine aw_if_ne (tgt := 38) dX4_holdAt_25 (by decide) (by decide) (fun h => absurd h (by decide)) (fun _ => ?_)
          exact aw_throw (text := "the block is not possible") at_ISE rfl rfl (by decide) dX4_holdAt_28 dX4_holdAt_31 dX4_holdAt_32 dX4_holdAt_34 dX4_holdAt_37 (by decide) (Nat.le_of_ble_eq_true rfl) (by decide) (by decide) (Or.inr (Or.inr (Or.inl ⟨rfl, (by exact ⟨⟨h3, h7, h12⟩, Or.inl h22⟩), (by rfl)⟩)))
      · exact ax_out rfl (by decide) (by decide) (Or.inr (Or.inl ⟨rfl, (by exact ⟨h3, fun q => h12 q.2⟩), (by rfl)⟩))
    · exact ax_out rfl (by decide) (by decide) (Or.inr (Or.inl ⟨rfl, (by exact ⟨h3, fun q => h7 q.1⟩), (by rfl)⟩))
  · exact ax_out rfl (by decide) (by decide) (Or.inl ⟨rfl, (by omega), (by rfl)⟩)
set_option maxHeartbeats 4000000 in
set_option maxRecDepth 20000 in
theorem c_X4_rowsForGroup {K : WPar} {l : Launch} (hst : l.stackTraces = false) (M : Mem) (people : Int) (r_people : inR people) (hw : HW M) : CT K l iX4_rowsForGroup [rV K 0 0, iV (people)] M (fun o m => (o = .inr eIAE ∧ (¬ (2 ≤ people ∧ people ≤ 100)) ∧ m = M) ∨ (o = .inr eISE ∧ ((2 ≤ people ∧ people ≤ 100) ∧ ∀ b v : Int, ¬ cM M 0 b people v) ∧ SF M m) ∨ (∃ z, o = .inl (some z) ∧ ((2 ≤ people ∧ people ≤ 100) ∧ SF M m ∧ FOUND M m people ∧ z = m 16 0 7))) := by
  refine aw_met [some (rV K 0 0), some (iV (people))] hst (by decide) rfl (Nat.le_of_ble_eq_true rfl) rfl rfl (lcat rfl) ?_
  refine aw_rng (fun hM => ?_)
  refine aw_iload_n dX4_rowsForGroup_0 rfl rfl ?_
  refine aw_cSx (st2 := []) (c2 := 1) (s2 := 6) (As := [iV (people)]) (rest := []) (c_X4_needPeople hst M (people) (by have n1 := hw.1; have n2 := hw.2.1; omega)) cs_X4_needPeople dX4_rowsForGroup_1 ml_X4_131 rfl rfl (Nat.le_of_ble_eq_true rfl) (by decide) rfl rfl rfl (by decide) (fun h1 => ?_) (fun h1 => ?_)
  · refine aw_aload_n dX4_rowsForGroup_4 rfl rfl ?_
    refine aw_iload_n dX4_rowsForGroup_5 rfl rfl ?_
    refine aw_cVy (c2 := 2) (s2 := 12) (g := 0) (As := [iV (people)]) (rest := []) (c_X4_needSplit hst M (people) (by have n1 := hw.1; have n2 := hw.2.1; omega) (by have n1 := hw.1; have n2 := hw.2.1; omega) (by have n1 := hw.1; have n2 := hw.2.1; omega)) cv_X4_needSplit dX4_rowsForGroup_6 ml_X4_134 rfl rfl rfl rfl rfl (Nat.le_of_ble_eq_true rfl) (by decide) rfl rfl (by decide) (fun M6 (h6 : SF M M6 ∧ FOUND M M6 people) => ?_) (fun M6 (h6 : SF M M6 ∧ ∀ b v : Int, ¬ cM M 0 b people v) => ?_)
    · refine aw_aload_n dX4_rowsForGroup_9 rfl rfl ?_
      refine aw_getr (g := 0) rfl rfl ly_X4 rfl (k := 2) dX4_rowsForGroup_10 (by decide) fl_X4_28 rfl ?_
      refine aw_cVi (g := 16) (As := []) (rest := []) (c_X1_rowsUsed hst M6) cv_X1_rowsUsed dX4_rowsForGroup_13 ml_X4_137 rfl rfl rfl rfl rfl (Nat.le_of_ble_eq_true rfl) (by decide) rfl rfl (by decide) ?_
      exact aw_iret dX4_rowsForGroup_16 rfl rfl (by decide) (by decide) (Or.inr (Or.inr ⟨_, rfl, (by exact ⟨h1, h6.1, h6.2, rfl⟩)⟩))
    · exact ax_out rfl (by decide) (by decide) (Or.inr (Or.inl ⟨rfl, (by exact ⟨h1, h6.2⟩), (by exact h6.1)⟩))
  · exact ax_out rfl (by decide) (by decide) (Or.inl ⟨rfl, (by omega), (by rfl)⟩)
set_option maxHeartbeats 4000000 in
set_option maxRecDepth 20000 in
theorem c_X4_seatsForGroup {K : WPar} {l : Launch} (hst : l.stackTraces = false) (M : Mem) (people : Int) (row : Int) (r_people : inR people) (r_row : inR row) (hw : HW M) : CT K l iX4_seatsForGroup [rV K 0 0, iV (people), iV (row)] M (fun o m => (o = .inr eIOB ∧ (¬ (0 ≤ row ∧ row < M 1 0 4)) ∧ m = M) ∨ (o = .inr eIAE ∧ ((0 ≤ row ∧ row < M 1 0 4) ∧ ¬ (2 ≤ people ∧ people ≤ 100)) ∧ m = M) ∨ (o = .inr eISE ∧ (((0 ≤ row ∧ row < M 1 0 4) ∧ (2 ≤ people ∧ people ≤ 100)) ∧ ∀ b v : Int, ¬ cM M 0 b people v) ∧ SF M m) ∨ (∃ z, o = .inl (some z) ∧ (((0 ≤ row ∧ row < M 1 0 4) ∧ (2 ≤ people ∧ people ≤ 100)) ∧ SF M m ∧ FOUND M m people ∧ z = m 26 0 row))) := by
  refine aw_met [some (rV K 0 0), some (iV (people)), some (iV (row))] hst (by decide) rfl (Nat.le_of_ble_eq_true rfl) rfl rfl (lcat rfl) ?_
  refine aw_rng (fun hM => ?_)
  refine aw_aload_n dX4_seatsForGroup_0 rfl rfl ?_
  refine aw_iload_n dX4_seatsForGroup_1 rfl rfl ?_
  refine aw_cVx (st2 := []) (c2 := 1) (s2 := 6) (g := 0) (As := [iV (row)]) (rest := []) (c_X4_needRow hst M (row) (by have n1 := hw.1; have n2 := hw.2.1; omega) (by have n1 := hw.1; have n2 := hw.2.1; omega)) cv_X4_needRow dX4_seatsForGroup_2 ml_X4_97 rfl rfl rfl rfl rfl (Nat.le_of_ble_eq_true rfl) (by decide) rfl rfl rfl (by decide) (fun h2 => ?_) (fun h2 => ?_)
  · refine aw_iload_n dX4_seatsForGroup_5 rfl rfl ?_
    refine aw_cSx (st2 := []) (c2 := 2) (s2 := 12) (As := [iV (people)]) (rest := []) (c_X4_needPeople hst M (people) (by have n1 := hw.1; have n2 := hw.2.1; omega)) cs_X4_needPeople dX4_seatsForGroup_6 ml_X4_131 rfl rfl (Nat.le_of_ble_eq_true rfl) (by decide) rfl rfl rfl (by decide) (fun h6 => ?_) (fun h6 => ?_)
    · refine aw_aload_n dX4_seatsForGroup_9 rfl rfl ?_
      refine aw_iload_n dX4_seatsForGroup_10 rfl rfl ?_
      refine aw_cVy (c2 := 3) (s2 := 18) (g := 0) (As := [iV (people)]) (rest := []) (c_X4_needSplit hst M (people) (by have n1 := hw.1; have n2 := hw.2.1; omega) (by have n1 := hw.1; have n2 := hw.2.1; omega) (by have n1 := hw.1; have n2 := hw.2.1; omega)) cv_X4_needSplit dX4_seatsForGroup_11 ml_X4_134 rfl rfl rfl rfl rfl (Nat.le_of_ble_eq_true rfl) (by decide) rfl rfl (by decide) (fun M11 (h11 : SF M M11 ∧ FOUND M M11 people) => ?_) (fun M11 (h11 : SF M M11 ∧ ∀ b v : Int, ¬ cM M 0 b people v) => ?_)
      · refine aw_aload_n dX4_seatsForGroup_14 rfl rfl ?_
        refine aw_getr (g := 0) rfl rfl ly_X4 rfl (k := 2) dX4_seatsForGroup_15 (by decide) fl_X4_28 rfl ?_
        refine aw_iload_n dX4_seatsForGroup_18 rfl rfl ?_
        refine aw_cVi (g := 16) (As := [iV (row)]) (rest := []) (c_X1_seatsFrom hst M11 (row) (by have n1 := hw.1; have n2 := hw.2.1; omega) (by exact h11.1.hw hw)) cv_X1_seatsFrom dX4_seatsForGroup_19 ml_X4_140 rfl rfl rfl rfl rfl (Nat.le_of_ble_eq_true rfl) (by decide) rfl rfl (by decide) ?_
        refine aw_st (st' := [iV (M11 26 0 row)]) (by rw [show (if 0 ≤ row ∧ row < M11 1 0 4 then M11 26 0 row else 0 : Int) = M11 26 0 row from by have q : M11 1 0 4 = M 1 0 4 := (by rw [h11.1 1 (by decide)]); exact if_pos (by omega)]) ?_
        exact aw_iret dX4_seatsForGroup_22 rfl rfl (by decide) (by decide) (Or.inr (Or.inr (Or.inr ⟨_, rfl, (by exact ⟨⟨h2, h6⟩, h11.1, h11.2, rfl⟩)⟩)))
      · exact ax_out rfl (by decide) (by decide) (Or.inr (Or.inr (Or.inl ⟨rfl, (by exact ⟨⟨h2, h6⟩, h11.2⟩), (by exact h11.1)⟩)))
    · exact ax_out rfl (by decide) (by decide) (Or.inr (Or.inl ⟨rfl, (by exact ⟨h2, h6⟩), (by rfl)⟩))
  · exact ax_out rfl (by decide) (by decide) (Or.inl ⟨rfl, (by omega), (by rfl)⟩)
set_option maxHeartbeats 4000000 in
set_option maxRecDepth 20000 in
theorem c_X4_holdGroup {K : WPar} {l : Launch} (hst : l.stackTraces = false) (M : Mem) (people : Int) (minutes : Int) (r_people : inR people) (r_minutes : inR minutes) (hw : HW M) (bw : BW M) (v_now : 0 ≤ M 0 0 4 ∧ M 0 0 4 ≤ 1000000) : CT K l iX4_holdGroup [rV K 0 0, iV (people), iV (minutes)] M (fun o m => (o = .inr eIAE ∧ (¬ ((2 ≤ people ∧ people ≤ 100) ∧ (1 ≤ minutes ∧ minutes ≤ 200))) ∧ m = M) ∨ (o = .inr eISE ∧ (((2 ≤ people ∧ people ≤ 100) ∧ (1 ≤ minutes ∧ minutes ≤ 200)) ∧ ((∀ b v : Int, ¬ cM M 0 b people v) ∨ ((∃ b v : Int, cM M 0 b people v) ∧ ¬ M 7 0 8 < 100))) ∧ SF M m) ∨ (∃ z, o = .inl (some z) ∧ (((2 ≤ people ∧ people ≤ 100) ∧ (1 ≤ minutes ∧ minutes ≤ 200)) ∧ M 7 0 8 < 100 ∧ ∃ m1, SF M m1 ∧ FOUND M m1 people ∧ z = M 7 0 8 + 1 ∧ m = gsM m1 people minutes))) := by
  refine aw_met [some (rV K 0 0), some (iV (people)), some (iV (minutes))] hst (by decide) rfl (Nat.le_of_ble_eq_true rfl) rfl rfl (lcat rfl) ?_
  refine aw_rng (fun hM => ?_)
  refine aw_iload_n dX4_holdGroup_0 rfl rfl ?_
  refine aw_cSx (st2 := []) (c2 := 1) (s2 := 6) (As := [iV (people)]) (rest := []) (c_X4_needPeople hst M (people) (by have n1 := hw.1; have n2 := hw.2.1; have t1 := bw.1; have t2 := bw.2; omega)) cs_X4_needPeople dX4_holdGroup_1 ml_X4_131 rfl rfl (Nat.le_of_ble_eq_true rfl) (by decide) rfl rfl rfl (by decide) (fun h1 => ?_) (fun h1 => ?_)
  · refine aw_iload_n dX4_holdGroup_4 rfl rfl ?_
    refine aw_cSx (st2 := []) (c2 := 2) (s2 := 12) (As := [iV (minutes)]) (rest := []) (c_X4_needMinutes hst M (minutes) (by have n1 := hw.1; have n2 := hw.2.1; have t1 := bw.1; have t2 := bw.2; omega)) cs_X4_needMinutes dX4_holdGroup_5 ml_X4_116 rfl rfl (Nat.le_of_ble_eq_true rfl) (by decide) rfl rfl rfl (by decide) (fun h5 => ?_) (fun h5 => ?_)
    · refine aw_aload_n dX4_holdGroup_8 rfl rfl ?_
      refine aw_iload_n dX4_holdGroup_9 rfl rfl ?_
      refine aw_cVy (c2 := 3) (s2 := 18) (g := 0) (As := [iV (people)]) (rest := []) (c_X4_needSplit hst M (people) (by have n1 := hw.1; have n2 := hw.2.1; have t1 := bw.1; have t2 := bw.2; omega) (by have n1 := hw.1; have n2 := hw.2.1; have t1 := bw.1; have t2 := bw.2; omega) (by have n1 := hw.1; have n2 := hw.2.1; have t1 := bw.1; have t2 := bw.2; omega)) cv_X4_needSplit dX4_holdGroup_10 ml_X4_134 rfl rfl rfl rfl rfl (Nat.le_of_ble_eq_true rfl) (by decide) rfl rfl (by decide) (fun M10 (h10 : SF M M10 ∧ FOUND M M10 people) => ?_) (fun M10 (h10 : SF M M10 ∧ ∀ b v : Int, ¬ cM M 0 b people v) => ?_)
      · have hw1 : HW M10 := h10.1.hw hw; have k7 : M10 7 0 8 = M 7 0 8 := (by rw [h10.1 7 (by decide)]); have bw1 : BW M10 := BW_g bw (h10.1 7 (by decide)); have k0 : M10 0 0 4 = M 0 0 4 := (by rw [h10.1 0 (by decide)])
        refine aw_aload_n dX4_holdGroup_13 rfl rfl ?_
        refine aw_cVx (st2 := []) (c2 := 4) (s2 := 24) (g := 0) (As := []) (rest := []) (c_X4_needTicketLeft hst M10 (by exact bw1)) cv_X4_needTicketLeft dX4_holdGroup_14 ml_X4_119 rfl rfl rfl rfl rfl (Nat.le_of_ble_eq_true rfl) (by decide) rfl rfl rfl (by decide) (fun h14 => ?_) (fun h14 => ?_)
        · refine aw_aload_n dX4_holdGroup_17 rfl rfl ?_
          refine aw_iload_n dX4_holdGroup_18 rfl rfl ?_
          refine aw_iload_n dX4_holdGroup_19 rfl rfl ?_
          refine aw_cVi (g := 0) (As := [iV (people), iV (minutes)]) (rest := []) (c_X4_grantSplit hst M10 (people) (minutes) (by have n1 := hw.1; have n2 := hw.2.1; have t1 := bw.1; have t2 := bw.2; omega) (by have n1 := hw.1; have n2 := hw.2.1; have t1 := bw.1; have t2 := bw.2; omega) (by exact hw1) (by exact bw1) (by have n1 := hw.1; have n2 := hw.2.1; have t1 := bw.1; have t2 := bw.2; omega) (by have n1 := hw.1; have n2 := hw.2.1; have t1 := bw.1; have t2 := bw.2; omega) (by have n1 := hw.1; have n2 := hw.2.1; have t1 := bw.1; have t2 := bw.2; omega) (by have n1 := hw.1; have n2 := hw.2.1; have t1 := bw.1; have t2 := bw.2; omega) (by exact FOUND_tk hw h10.1 h10.2)) cv_X4_grantSplit dX4_holdGroup_20 ml_X4_143 rfl rfl rfl rfl rfl (Nat.le_of_ble_eq_true rfl) (by decide) rfl rfl (by decide) ?_
          exact aw_iret dX4_holdGroup_23 rfl rfl (by decide) (by decide) (Or.inr (Or.inr ⟨_, rfl, (by exact ⟨⟨h1, h5⟩, by rw [← k7]; exact h14, M10, h10.1, h10.2, by rw [k7], rfl⟩)⟩))
        · exact ax_out rfl (by decide) (by decide) (Or.inr (Or.inl ⟨rfl, (by exact ⟨⟨h1, h5⟩, Or.inr ⟨FOUND_can h10.2, by rw [← k7]; exact h14⟩⟩), (by exact h10.1)⟩))
      · exact ax_out rfl (by decide) (by decide) (Or.inr (Or.inl ⟨rfl, (by exact ⟨⟨h1, h5⟩, Or.inl h10.2⟩), (by exact h10.1)⟩))
    · exact ax_out rfl (by decide) (by decide) (Or.inl ⟨rfl, (by omega), (by rfl)⟩)
  · exact ax_out rfl (by decide) (by decide) (Or.inl ⟨rfl, (by omega), (by rfl)⟩)
set_option maxHeartbeats 4000000 in
set_option maxRecDepth 20000 in
theorem c_X4_ticketState {K : WPar} {l : Launch} (hst : l.stackTraces = false) (M : Mem) (ticket : Int) (r_ticket : inR ticket) (bw : BW M) : CT K l iX4_ticketState [rV K 0 0, iV (ticket)] M (fun o m => (o = .inr eIOB ∧ (¬ (1 ≤ ticket ∧ ticket ≤ M 7 0 8)) ∧ m = M) ∨ (∃ z, o = .inl (some z) ∧ ((1 ≤ ticket ∧ ticket ≤ M 7 0 8) ∧ z = M 8 0 ticket ∧ m = M))) := by
  refine aw_met [some (rV K 0 0), some (iV (ticket))] hst (by decide) rfl (Nat.le_of_ble_eq_true rfl) rfl rfl (lcat rfl) ?_
  refine aw_rng (fun hM => ?_)
  refine aw_aload_n dX4_ticketState_0 rfl rfl ?_
  refine aw_iload_n dX4_ticketState_1 rfl rfl ?_
  refine aw_cVx (st2 := []) (c2 := 1) (s2 := 6) (g := 0) (As := [iV (ticket)]) (rest := []) (c_X4_needTicket hst M (ticket) (by have h1 := bw.1; have h2 := bw.2; omega) (by have h1 := bw.1; have h2 := bw.2; omega)) cv_X4_needTicket dX4_ticketState_2 ml_X4_149 rfl rfl rfl rfl rfl (Nat.le_of_ble_eq_true rfl) (by decide) rfl rfl rfl (by decide) (fun h2 => ?_) (fun h2 => ?_)
  · refine aw_aload_n dX4_ticketState_5 rfl rfl ?_
    refine aw_getr (g := 0) rfl rfl ly_X4 rfl (k := 1) dX4_ticketState_6 (by decide) fl_X4_19 rfl ?_
    refine aw_iload_n dX4_ticketState_9 rfl rfl ?_
    refine aw_cVi (g := 7) (As := [iV (ticket)]) (rest := []) (c_X3_stateOf hst M (ticket) (by have h1 := bw.1; have h2 := bw.2; omega) (by have h1 := bw.1; have h2 := bw.2; omega)) cv_X3_stateOf dX4_ticketState_10 ml_X4_85 rfl rfl rfl rfl rfl (Nat.le_of_ble_eq_true rfl) (by decide) rfl rfl (by decide) ?_
    refine aw_st (st' := [iV (M 8 0 ticket)]) (by rw [show (if 1 ≤ ticket ∧ ticket ≤ M 7 0 8 then M 8 0 ticket else 3 : Int) = M 8 0 ticket from by exact if_pos h2]) ?_
    exact aw_iret dX4_ticketState_13 rfl rfl (by decide) (by decide) (Or.inr ⟨_, rfl, (by exact ⟨h2, rfl, rfl⟩)⟩)
  · exact ax_out rfl (by decide) (by decide) (Or.inl ⟨rfl, (by omega), (by rfl)⟩)
set_option maxHeartbeats 4000000 in
set_option maxRecDepth 20000 in
theorem c_X4_seatsOf {K : WPar} {l : Launch} (hst : l.stackTraces = false) (M : Mem) (ticket : Int) (r_ticket : inR ticket) (bw : BW M) : CT K l iX4_seatsOf [rV K 0 0, iV (ticket)] M (fun o m => (o = .inr eIOB ∧ (¬ (1 ≤ ticket ∧ ticket ≤ M 7 0 8)) ∧ m = M) ∨ (∃ z, o = .inl (some z) ∧ ((1 ≤ ticket ∧ ticket ≤ M 7 0 8) ∧ z = (if (M 8 0 ticket = 0 ∨ M 8 0 ticket = 1) then M 9 0 ticket else 0) ∧ m = M))) := by
  refine aw_met [some (rV K 0 0), some (iV (ticket))] hst (by decide) rfl (Nat.le_of_ble_eq_true rfl) rfl rfl (lcat rfl) ?_
  refine aw_rng (fun hM => ?_)
  refine aw_aload_n dX4_seatsOf_0 rfl rfl ?_
  refine aw_iload_n dX4_seatsOf_1 rfl rfl ?_
  refine aw_cVx (st2 := []) (c2 := 1) (s2 := 6) (g := 0) (As := [iV (ticket)]) (rest := []) (c_X4_needTicket hst M (ticket) (by have h1 := bw.1; have h2 := bw.2; omega) (by have h1 := bw.1; have h2 := bw.2; omega)) cv_X4_needTicket dX4_seatsOf_2 ml_X4_149 rfl rfl rfl rfl rfl (Nat.le_of_ble_eq_true rfl) (by decide) rfl rfl rfl (by decide) (fun h2 => ?_) (fun h2 => ?_)
  · refine aw_aload_n dX4_seatsOf_5 rfl rfl ?_
    refine aw_getr (g := 0) rfl rfl ly_X4 rfl (k := 1) dX4_seatsOf_6 (by decide) fl_X4_19 rfl ?_
    refine aw_iload_n dX4_seatsOf_9 rfl rfl ?_
    refine aw_cVb (g := 7) (As := [iV (ticket)]) (rest := []) (c_X3_isOpen hst M (ticket) (by have h1 := bw.1; have h2 := bw.2; omega) (by have h1 := bw.1; have h2 := bw.2; omega)) cv_X3_isOpen dX4_seatsOf_10 ml_X4_152 rfl rfl rfl rfl rfl (Nat.le_of_ble_eq_true rfl) (by decide) rfl rfl (by decide) (fun h10 => ?_) (fun h10 => ?_)
    · refine aw_if_eq (tgt := 27) dX4_seatsOf_13 (by decide) (by decide) (fun h => absurd h (by decide)) (fun _ => ?_)
      refine aw_aload_n dX4_seatsOf_16 rfl rfl ?_
      refine aw_getr (g := 0) rfl rfl ly_X4 rfl (k := 1) dX4_seatsOf_17 (by decide) fl_X4_19 rfl ?_
      refine aw_iload_n dX4_seatsOf_20 rfl rfl ?_
      refine aw_cVi (g := 7) (As := [iV (ticket)]) (rest := []) (c_X3_sizeOf hst M (ticket) (by have h1 := bw.1; have h2 := bw.2; omega) (by have h1 := bw.1; have h2 := bw.2; omega)) cv_X3_sizeOf dX4_seatsOf_21 ml_X4_156 rfl rfl rfl rfl rfl (Nat.le_of_ble_eq_true rfl) (by decide) rfl rfl (by decide) ?_
      refine aw_st (st' := [iV (M 9 0 ticket)]) (by rw [show (if 1 ≤ ticket ∧ ticket ≤ M 7 0 8 then M 9 0 ticket else 0 : Int) = M 9 0 ticket from by exact if_pos h2]) ?_
      refine aw_goto (tgt := 28) dX4_seatsOf_24 (by decide) ?_
      exact aw_iret dX4_seatsOf_28 rfl rfl (by decide) (by decide) (Or.inr ⟨_, rfl, (by first | exact ⟨h2, by rw [if_pos h10.2.2], rfl⟩ | exact ⟨h2, by rw [if_neg (fun q => h10 ⟨h2.1, h2.2, q⟩)], rfl⟩)⟩)
    · refine aw_if_eq (tgt := 27) dX4_seatsOf_13 (by decide) (by decide) (fun _ => ?_) (fun h => absurd (by decide) h)
      refine aw_iconst dX4_seatsOf_27 ?_
      exact aw_iret dX4_seatsOf_28 rfl rfl (by decide) (by decide) (Or.inr ⟨_, rfl, (by first | exact ⟨h2, by rw [if_pos h10.2.2], rfl⟩ | exact ⟨h2, by rw [if_neg (fun q => h10 ⟨h2.1, h2.2, q⟩)], rfl⟩)⟩)
  · exact ax_out rfl (by decide) (by decide) (Or.inl ⟨rfl, (by omega), (by rfl)⟩)
set_option maxHeartbeats 4000000 in
set_option maxRecDepth 20000 in
theorem c_X4_priceOf {K : WPar} {l : Launch} (hst : l.stackTraces = false) (M : Mem) (ticket : Int) (r_ticket : inR ticket) (hw : HW M) (bw : BW M) : CT K l iX4_priceOf [rV K 0 0, iV (ticket)] M (fun o m => (o = .inr eIOB ∧ (¬ (1 ≤ ticket ∧ ticket ≤ M 7 0 8)) ∧ m = M) ∨ (∃ z, o = .inl (some z) ∧ ((1 ≤ ticket ∧ ticket ≤ M 7 0 8) ∧ z = priceM M ticket ∧ m = M))) := by
  refine aw_met [some (rV K 0 0), some (iV (ticket))] hst (by decide) rfl (Nat.le_of_ble_eq_true rfl) rfl rfl (lcat rfl) ?_
  refine aw_rng (fun hM => ?_)
  refine aw_aload_n dX4_priceOf_0 rfl rfl ?_
  refine aw_iload_n dX4_priceOf_1 rfl rfl ?_
  refine aw_cVx (st2 := []) (c2 := 1) (s2 := 6) (g := 0) (As := [iV (ticket)]) (rest := []) (c_X4_needTicket hst M (ticket) (by have n1 := hw.1; have n2 := hw.2.1; have t1 := bw.1; have t2 := bw.2; omega) (by have n1 := hw.1; have n2 := hw.2.1; have t1 := bw.1; have t2 := bw.2; omega)) cv_X4_needTicket dX4_priceOf_2 ml_X4_149 rfl rfl rfl rfl rfl (Nat.le_of_ble_eq_true rfl) (by decide) rfl rfl rfl (by decide) (fun h2 => ?_) (fun h2 => ?_)
  · refine aw_aload_n dX4_priceOf_5 rfl rfl ?_
    refine aw_getr (g := 0) rfl rfl ly_X4 rfl (k := 0) dX4_priceOf_6 (by decide) fl_X4_10 rfl ?_
    refine aw_iload_n dX4_priceOf_9 rfl rfl ?_
    refine aw_cVi (g := 1) (As := [iV (ticket)]) (rest := []) (c_X2_priceOwnedBy hst M (ticket) (by have n1 := hw.1; have n2 := hw.2.1; have t1 := bw.1; have t2 := bw.2; omega) (by have n1 := hw.1; have n2 := hw.2.1; have t1 := bw.1; have t2 := bw.2; omega)) cv_X2_priceOwnedBy dX4_priceOf_10 ml_X4_159 rfl rfl rfl rfl rfl (Nat.le_of_ble_eq_true rfl) (by decide) rfl rfl (by decide) ?_
    exact aw_iret dX4_priceOf_13 rfl rfl (by decide) (by decide) (Or.inr ⟨_, rfl, (by exact ⟨h2, rfl, rfl⟩)⟩)
  · exact ax_out rfl (by decide) (by decide) (Or.inl ⟨rfl, (by omega), (by rfl)⟩)
set_option maxHeartbeats 4000000 in
set_option maxRecDepth 20000 in
theorem c_X4_extend {K : WPar} {l : Launch} (hst : l.stackTraces = false) (M : Mem) (ticket : Int) (minutes : Int) (r_ticket : inR ticket) (r_minutes : inR minutes) (bw : BW M) (v_now : 0 ≤ M 0 0 4 ∧ M 0 0 4 ≤ 1000000) : CT K l iX4_extend [rV K 0 0, iV (ticket), iV (minutes)] M (fun o m => (o = .inr eIOB ∧ (¬ (1 ≤ ticket ∧ ticket ≤ M 7 0 8)) ∧ m = M) ∨ (o = .inr eIAE ∧ ((1 ≤ ticket ∧ ticket ≤ M 7 0 8) ∧ ¬ (1 ≤ minutes ∧ minutes ≤ 200)) ∧ m = M) ∨ (o = .inr eISE ∧ (((1 ≤ ticket ∧ ticket ≤ M 7 0 8) ∧ (1 ≤ minutes ∧ minutes ≤ 200)) ∧ ¬ (M 8 0 ticket = 0 ∧ M 11 0 ticket < 2)) ∧ m = M) ∨ (∃ z, o = .inl (some z) ∧ (((1 ≤ ticket ∧ ticket ≤ M 7 0 8) ∧ (1 ≤ minutes ∧ minutes ≤ 200)) ∧ (M 8 0 ticket = 0 ∧ M 11 0 ticket < 2) ∧ z = M 0 0 4 + minutes ∧ m = updM (updM M 10 0 ticket (M 0 0 4 + minutes)) 11 0 ticket (M 11 0 ticket + 1)))) := by
  refine aw_met [some (rV K 0 0), some (iV (ticket)), some (iV (minutes))] hst (by decide) rfl (Nat.le_of_ble_eq_true rfl) rfl rfl (lcat rfl) ?_
  refine aw_rng (fun hM => ?_)
  have x11 := hM 11 0 ticket
  refine aw_aload_n dX4_extend_0 rfl rfl ?_
  refine aw_iload_n dX4_extend_1 rfl rfl ?_
  refine aw_cVx (st2 := []) (c2 := 1) (s2 := 6) (g := 0) (As := [iV (ticket)]) (rest := []) (c_X4_needTicket hst M (ticket) (by have h1 := bw.1; have h2 := bw.2; omega) (by have h1 := bw.1; have h2 := bw.2; omega)) cv_X4_needTicket dX4_extend_2 ml_X4_149 rfl rfl rfl rfl rfl (Nat.le_of_ble_eq_true rfl) (by decide) rfl rfl rfl (by decide) (fun h2 => ?_) (fun h2 => ?_)
  · refine aw_iload_n dX4_extend_5 rfl rfl ?_
    refine aw_cSx (st2 := []) (c2 := 2) (s2 := 12) (As := [iV (minutes)]) (rest := []) (c_X4_needMinutes hst M (minutes) (by have h1 := bw.1; have h2 := bw.2; omega)) cs_X4_needMinutes dX4_extend_6 ml_X4_116 rfl rfl (Nat.le_of_ble_eq_true rfl) (by decide) rfl rfl rfl (by decide) (fun h6 => ?_) (fun h6 => ?_)
    · refine aw_aload_n dX4_extend_9 rfl rfl ?_
      refine aw_iload_n dX4_extend_10 rfl rfl ?_
      refine aw_cVx (st2 := []) (c2 := 3) (s2 := 18) (g := 0) (As := [iV (ticket)]) (rest := []) (c_X4_needHold hst M (ticket) (by have h1 := bw.1; have h2 := bw.2; omega) (by have h1 := bw.1; have h2 := bw.2; omega) (by have h1 := bw.1; have h2 := bw.2; omega)) cv_X4_needHold dX4_extend_11 ml_X4_162 rfl rfl rfl rfl rfl (Nat.le_of_ble_eq_true rfl) (by decide) rfl rfl rfl (by decide) (fun h11 => ?_) (fun h11 => ?_)
      · refine aw_aload_n dX4_extend_14 rfl rfl ?_
        refine aw_getr (g := 0) rfl rfl ly_X4 rfl (k := 1) dX4_extend_15 (by decide) fl_X4_19 rfl ?_
        refine aw_iload_n dX4_extend_18 rfl rfl ?_
        refine aw_cVi (g := 7) (As := [iV (ticket)]) (rest := []) (c_X3_extensionsOf hst M (ticket) (by have h1 := bw.1; have h2 := bw.2; omega) (by have h1 := bw.1; have h2 := bw.2; omega)) cv_X3_extensionsOf dX4_extend_19 ml_X4_165 rfl rfl rfl rfl rfl (Nat.le_of_ble_eq_true rfl) (by decide) rfl rfl (by decide) ?_
        refine aw_st (st' := [iV (M 11 0 ticket)]) (by rw [show (if 1 ≤ ticket ∧ ticket ≤ M 7 0 8 then M 11 0 ticket else 2 : Int) = M 11 0 ticket from by exact if_pos h2]) ?_
        refine aw_iconst dX4_extend_22 ?_
        refine aw_icmp_lt (tgt := 36) dX4_extend_23 (by decide) (by have h1 := bw.1; have h2 := bw.2; omega) (by have h1 := bw.1; have h2 := bw.2; omega) (fun h23 => ?_) (fun h23 => ?_)
        · refine aw_aload_n dX4_extend_36 rfl rfl ?_
          refine aw_getr (g := 0) rfl rfl ly_X4 rfl (k := 1) dX4_extend_37 (by decide) fl_X4_19 rfl ?_
          refine aw_iload_n dX4_extend_40 rfl rfl ?_
          refine aw_aload_n dX4_extend_41 rfl rfl ?_
          refine aw_geti (g := 0) rfl rfl ly_X4 rfl (k := 4) 4 rfl dX4_extend_42 (by decide) fl_X4_41 rfl (fun r42 => ?_)
          refine aw_iload_n dX4_extend_45 rfl rfl ?_
          refine aw_iadd dX4_extend_46 ?_
          refine aw_cVn (g := 7) (As := [iV (ticket), iV ((M 0 0 4) + minutes)]) (rest := []) (c_X3_prolong hst M (ticket) ((M 0 0 4) + minutes) (by have h1 := bw.1; have h2 := bw.2; omega) (by have h1 := bw.1; have h2 := bw.2; omega) (by have h1 := bw.1; have h2 := bw.2; omega) (by have h1 := bw.1; have h2 := bw.2; omega) (by have h1 := bw.1; have h2 := bw.2; omega)) cv_X3_prolong dX4_extend_47 ml_X4_170 rfl rfl rfl rfl rfl (Nat.le_of_ble_eq_true rfl) (by decide) rfl rfl (by decide) ?_
          refine aw_aload_n dX4_extend_50 rfl rfl ?_
          refine aw_geti (g := 0) rfl rfl ly_X4 rfl (k := 4) 4 rfl dX4_extend_51 (by decide) fl_X4_41 rfl (fun r51 => ?_)
          refine aw_st (st' := [iV (M 0 0 4)]) (by rw [show ((updM (updM M 10 0 ticket ((M 0 0 4) + minutes)) 11 0 ticket (M 11 0 ticket + 1)) 0 0 4 : Int) = M 0 0 4 from by simp [updM_g, updM_same]]) ?_
          refine aw_iload_n dX4_extend_54 rfl rfl ?_
          refine aw_iadd dX4_extend_55 ?_
          exact aw_iret dX4_extend_56 rfl rfl (by decide) (by decide) (Or.inr (Or.inr (Or.inr ⟨_, rfl, (by exact ⟨⟨h2, h6⟩, ⟨h11, by omega⟩, rfl, rfl⟩)⟩)))
        · exact aw_throw (text := "the hold has been extended twice") at_ISE rfl rfl (by decide) dX4_extend_26 dX4_extend_29 dX4_extend_30 dX4_extend_32 dX4_extend_35 (by decide) (Nat.le_of_ble_eq_true rfl) (by decide) (by decide) (Or.inr (Or.inr (Or.inl ⟨rfl, (by exact ⟨⟨h2, h6⟩, fun q => by omega⟩), (by rfl)⟩)))
      · exact ax_out rfl (by decide) (by decide) (Or.inr (Or.inr (Or.inl ⟨rfl, (by exact ⟨⟨h2, h6⟩, fun q => h11 q.1⟩), (by rfl)⟩)))
    · exact ax_out rfl (by decide) (by decide) (Or.inr (Or.inl ⟨rfl, (by exact ⟨h2, h6⟩), (by rfl)⟩))
  · exact ax_out rfl (by decide) (by decide) (Or.inl ⟨rfl, (by omega), (by rfl)⟩)
set_option maxHeartbeats 4000000 in
set_option maxRecDepth 20000 in
theorem c_X4_pay {K : WPar} {l : Launch} (hst : l.stackTraces = false) (M : Mem) (ticket : Int) (r_ticket : inR ticket) (hw : HW M) (bw : BW M) (v_bal : -1300000000 ≤ M 0 0 5 ∧ M 0 0 5 ≤ 1300000000) : CT K l iX4_pay [rV K 0 0, iV (ticket)] M (fun o m => (o = .inr eIOB ∧ (¬ (1 ≤ ticket ∧ ticket ≤ M 7 0 8)) ∧ m = M) ∨ (o = .inr eISE ∧ ((1 ≤ ticket ∧ ticket ≤ M 7 0 8) ∧ ¬ M 8 0 ticket = 0) ∧ m = M) ∨ (∃ z, o = .inl (some z) ∧ ((1 ≤ ticket ∧ ticket ≤ M 7 0 8) ∧ M 8 0 ticket = 0 ∧ z = priceM M ticket ∧ m = updM (updM (updM M 8 0 ticket 1) 12 0 ticket (priceM M ticket)) 0 0 5 (M 0 0 5 + priceM M ticket)))) := by
  refine aw_met [some (rV K 0 0), some (iV (ticket)), none] hst (by decide) rfl (Nat.le_of_ble_eq_true rfl) rfl rfl (lcat rfl) ?_
  refine aw_rng (fun hM => ?_)
  refine aw_aload_n dX4_pay_0 rfl rfl ?_
  refine aw_iload_n dX4_pay_1 rfl rfl ?_
  refine aw_cVx (st2 := []) (c2 := 1) (s2 := 6) (g := 0) (As := [iV (ticket)]) (rest := []) (c_X4_needTicket hst M (ticket) (by have pb := price_bd hw ticket; have n1 := hw.1; have n2 := hw.2.1; have t1 := bw.1; have t2 := bw.2; omega) (by have pb := price_bd hw ticket; have n1 := hw.1; have n2 := hw.2.1; have t1 := bw.1; have t2 := bw.2; omega)) cv_X4_needTicket dX4_pay_2 ml_X4_149 rfl rfl rfl rfl rfl (Nat.le_of_ble_eq_true rfl) (by decide) rfl rfl rfl (by decide) (fun h2 => ?_) (fun h2 => ?_)
  · refine aw_aload_n dX4_pay_5 rfl rfl ?_
    refine aw_iload_n dX4_pay_6 rfl rfl ?_
    refine aw_cVx (st2 := []) (c2 := 2) (s2 := 12) (g := 0) (As := [iV (ticket)]) (rest := []) (c_X4_needHold hst M (ticket) (by have pb := price_bd hw ticket; have n1 := hw.1; have n2 := hw.2.1; have t1 := bw.1; have t2 := bw.2; omega) (by have pb := price_bd hw ticket; have n1 := hw.1; have n2 := hw.2.1; have t1 := bw.1; have t2 := bw.2; omega) (by have pb := price_bd hw ticket; have n1 := hw.1; have n2 := hw.2.1; have t1 := bw.1; have t2 := bw.2; omega)) cv_X4_needHold dX4_pay_7 ml_X4_162 rfl rfl rfl rfl rfl (Nat.le_of_ble_eq_true rfl) (by decide) rfl rfl rfl (by decide) (fun h7 => ?_) (fun h7 => ?_)
    · refine aw_aload_n dX4_pay_10 rfl rfl ?_
      refine aw_getr (g := 0) rfl rfl ly_X4 rfl (k := 0) dX4_pay_11 (by decide) fl_X4_10 rfl ?_
      refine aw_iload_n dX4_pay_14 rfl rfl ?_
      refine aw_cVi (g := 1) (As := [iV (ticket)]) (rest := []) (c_X2_priceOwnedBy hst M (ticket) (by have pb := price_bd hw ticket; have n1 := hw.1; have n2 := hw.2.1; have t1 := bw.1; have t2 := bw.2; omega) (by have pb := price_bd hw ticket; have n1 := hw.1; have n2 := hw.2.1; have t1 := bw.1; have t2 := bw.2; omega)) cv_X2_priceOwnedBy dX4_pay_15 ml_X4_159 rfl rfl rfl rfl rfl (Nat.le_of_ble_eq_true rfl) (by decide) rfl rfl (by decide) ?_
      refine aw_istore_n (L2 := [some (rV K 0 0), some (iV (ticket)), some (iV (sumI (fun r => sumI (fun s => if M 6 r s = ticket then M 4 0 r else 0) (M 2 0 r)) (M 1 0 4)))]) dX4_pay_18 rfl (by decide) rfl ?_
      refine aw_aload_n dX4_pay_19 rfl rfl ?_
      refine aw_getr (g := 0) rfl rfl ly_X4 rfl (k := 1) dX4_pay_20 (by decide) fl_X4_19 rfl ?_
      refine aw_iload_n dX4_pay_23 rfl rfl ?_
      refine aw_iload_n dX4_pay_24 rfl rfl ?_
      refine aw_cVn (g := 7) (As := [iV (ticket), iV (sumI (fun r => sumI (fun s => if M 6 r s = ticket then M 4 0 r else 0) (M 2 0 r)) (M 1 0 4))]) (rest := []) (c_X3_turnIntoBooking hst M (ticket) (sumI (fun r => sumI (fun s => if M 6 r s = ticket then M 4 0 r else 0) (M 2 0 r)) (M 1 0 4)) (by have pb := price_bd hw ticket; have n1 := hw.1; have n2 := hw.2.1; have t1 := bw.1; have t2 := bw.2; omega) (by have pb := price_bd hw ticket; have n1 := hw.1; have n2 := hw.2.1; have t1 := bw.1; have t2 := bw.2; omega) (by have pb := price_bd hw ticket; have n1 := hw.1; have n2 := hw.2.1; have t1 := bw.1; have t2 := bw.2; omega) (by have pb := price_bd hw ticket; have n1 := hw.1; have n2 := hw.2.1; have t1 := bw.1; have t2 := bw.2; omega)) cv_X3_turnIntoBooking dX4_pay_25 ml_X4_173 rfl rfl rfl rfl rfl (Nat.le_of_ble_eq_true rfl) (by decide) rfl rfl (by decide) ?_
      refine aw_aload_n dX4_pay_28 rfl rfl ?_
      refine aw_dup dX4_pay_29 rfl ?_
      refine aw_geti (g := 0) rfl rfl ly_X4 rfl (k := 5) 5 rfl dX4_pay_30 (by decide) fl_X4_45 rfl (fun r30 => ?_)
      refine aw_st (st' := [iV (M 0 0 5), rV K 0 0]) (by rw [show ((updM (updM M 8 0 ticket 1) 12 0 ticket (sumI (fun r => sumI (fun s => if M 6 r s = ticket then M 4 0 r else 0) (M 2 0 r)) (M 1 0 4))) 0 0 5 : Int) = M 0 0 5 from by simp [updM_g, updM_same]]) ?_
      refine aw_iload_n dX4_pay_33 rfl rfl ?_
      refine aw_iadd dX4_pay_34 ?_
      refine aw_puti (g := 0) tyX4 tyX4_ok nmX4 rfl rfl ly_X4 rfl (k := 5) 5 rfl (M' := updM (updM (updM M 8 0 ticket 1) 12 0 ticket (sumI (fun r => sumI (fun s => if M 6 r s = ticket then M 4 0 r else 0) (M 2 0 r)) (M 1 0 4))) 0 0 5 ((M 0 0 5) + (sumI (fun r => sumI (fun s => if M 6 r s = ticket then M 4 0 r else 0) (M 2 0 r)) (M 1 0 4)))) dX4_pay_35 (by decide) fl_X4_45 rfl rfl (by decide +kernel) (by have pb := price_bd hw ticket; have n1 := hw.1; have n2 := hw.2.1; have t1 := bw.1; have t2 := bw.2; omega) rfl ?_
      refine aw_iload_n dX4_pay_38 rfl rfl ?_
      exact aw_iret dX4_pay_39 rfl rfl (by decide) (by decide) (Or.inr (Or.inr ⟨_, rfl, (by exact ⟨h2, h7, rfl, rfl⟩)⟩))
    · exact ax_out rfl (by decide) (by decide) (Or.inr (Or.inl ⟨rfl, (by exact ⟨h2, h7⟩), (by rfl)⟩))
  · exact ax_out rfl (by decide) (by decide) (Or.inl ⟨rfl, (by omega), (by rfl)⟩)
set_option maxHeartbeats 4000000 in
set_option maxRecDepth 20000 in
theorem c_X4_cancel {K : WPar} {l : Launch} (hst : l.stackTraces = false) (M : Mem) (ticket : Int) (r_ticket : inR ticket) (hw : HW M) (bw : BW M) (v_bal : -1300000000 ≤ M 0 0 5 ∧ M 0 0 5 ≤ 1300000000) (v_pd : 1 ≤ ticket → ticket ≤ M 7 0 8 → 0 ≤ M 12 0 ticket ∧ M 12 0 ticket ≤ 2400000) : CT K l iX4_cancel [rV K 0 0, iV (ticket)] M (fun o m => (o = .inr eIOB ∧ (¬ (1 ≤ ticket ∧ ticket ≤ M 7 0 8)) ∧ m = M) ∨ (o = .inr eISE ∧ ((1 ≤ ticket ∧ ticket ≤ M 7 0 8) ∧ ¬ (M 8 0 ticket = 0 ∨ M 8 0 ticket = 1)) ∧ m = M) ∨ (∃ z, o = .inl (some z) ∧ ((1 ≤ ticket ∧ ticket ≤ M 7 0 8) ∧ (M 8 0 ticket = 0 ∨ M 8 0 ticket = 1) ∧ z = M 12 0 ticket ∧ m = updM (clM M ticket 3) 0 0 5 (M 0 0 5 - M 12 0 ticket)))) := by
  refine aw_met [some (rV K 0 0), some (iV (ticket)), none] hst (by decide) rfl (Nat.le_of_ble_eq_true rfl) rfl rfl (lcat rfl) ?_
  refine aw_rng (fun hM => ?_)
  refine aw_aload_n dX4_cancel_0 rfl rfl ?_
  refine aw_iload_n dX4_cancel_1 rfl rfl ?_
  refine aw_cVx (st2 := []) (c2 := 1) (s2 := 6) (g := 0) (As := [iV (ticket)]) (rest := []) (c_X4_needTicket hst M (ticket) (by have n1 := hw.1; have n2 := hw.2.1; have t1 := bw.1; have t2 := bw.2; omega) (by have n1 := hw.1; have n2 := hw.2.1; have t1 := bw.1; have t2 := bw.2; omega)) cv_X4_needTicket dX4_cancel_2 ml_X4_149 rfl rfl rfl rfl rfl (Nat.le_of_ble_eq_true rfl) (by decide) rfl rfl rfl (by decide) (fun h2 => ?_) (fun h2 => ?_)
  · refine aw_aload_n dX4_cancel_5 rfl rfl ?_
    refine aw_getr (g := 0) rfl rfl ly_X4 rfl (k := 1) dX4_cancel_6 (by decide) fl_X4_19 rfl ?_
    refine aw_iload_n dX4_cancel_9 rfl rfl ?_
    refine aw_cVb (g := 7) (As := [iV (ticket)]) (rest := []) (c_X3_isOpen hst M (ticket) (by have n1 := hw.1; have n2 := hw.2.1; have t1 := bw.1; have t2 := bw.2; omega) (by have n1 := hw.1; have n2 := hw.2.1; have t1 := bw.1; have t2 := bw.2; omega)) cv_X3_isOpen dX4_cancel_10 ml_X4_152 rfl rfl rfl rfl rfl (Nat.le_of_ble_eq_true rfl) (by decide) rfl rfl (by decide) (fun h10 => ?_) (fun h10 => ?_)
    · refine aw_if_ne (tgt := 26) dX4_cancel_13 (by decide) (by decide) (fun _ => ?_) (fun h => absurd h (by decide))
      refine aw_aload_n dX4_cancel_26 rfl rfl ?_
      refine aw_getr (g := 0) rfl rfl ly_X4 rfl (k := 1) dX4_cancel_27 (by decide) fl_X4_19 rfl ?_
      refine aw_iload_n dX4_cancel_30 rfl rfl ?_
      refine aw_cVi (g := 7) (As := [iV (ticket)]) (rest := []) (c_X3_paidFor hst M (ticket) (by have n1 := hw.1; have n2 := hw.2.1; have t1 := bw.1; have t2 := bw.2; omega) (by have n1 := hw.1; have n2 := hw.2.1; have t1 := bw.1; have t2 := bw.2; omega)) cv_X3_paidFor dX4_cancel_31 ml_X4_178 rfl rfl rfl rfl rfl (Nat.le_of_ble_eq_true rfl) (by decide) rfl rfl (by decide) ?_
      refine aw_st (st' := [iV (M 12 0 ticket)]) (by rw [show (if 1 ≤ ticket ∧ ticket ≤ M 7 0 8 then M 12 0 ticket else 0 : Int) = M 12 0 ticket from by exact if_pos h2]) ?_
      refine aw_istore_n (L2 := [some (rV K 0 0), some (iV (ticket)), some (iV (M 12 0 ticket))]) dX4_cancel_34 rfl (by decide) rfl ?_
      refine aw_aload_n dX4_cancel_35 rfl rfl ?_
      refine aw_iload_n dX4_cancel_36 rfl rfl ?_
      refine aw_iconst dX4_cancel_37 ?_
      refine aw_cVn (g := 0) (As := [iV (ticket), iV 3]) (rest := []) (c_X4_closeTicket hst M (ticket) (3) (by have n1 := hw.1; have n2 := hw.2.1; have t1 := bw.1; have t2 := bw.2; omega) (by have n1 := hw.1; have n2 := hw.2.1; have t1 := bw.1; have t2 := bw.2; omega) (by have n1 := hw.1; have n2 := hw.2.1; have t1 := bw.1; have t2 := bw.2; omega) (by have n1 := hw.1; have n2 := hw.2.1; have t1 := bw.1; have t2 := bw.2; omega) (by have n1 := hw.1; have n2 := hw.2.1; have t1 := bw.1; have t2 := bw.2; omega)) cv_X4_closeTicket dX4_cancel_38 ml_X4_181 rfl rfl rfl rfl rfl (Nat.le_of_ble_eq_true rfl) (by decide) rfl rfl (by decide) ?_
      refine aw_aload_n dX4_cancel_41 rfl rfl ?_
      refine aw_dup dX4_cancel_42 rfl ?_
      refine aw_geti (g := 0) rfl rfl ly_X4 rfl (k := 5) 5 rfl dX4_cancel_43 (by decide) fl_X4_45 rfl (fun r43 => ?_)
      refine aw_st (st' := [iV (M 0 0 5), rV K 0 0]) (by rw [show ((clM M ticket 3) 0 0 5 : Int) = M 0 0 5 from by rw [clM_g (by decide) (by decide) (by decide)]]) ?_
      refine aw_iload_n dX4_cancel_46 rfl rfl ?_
      refine aw_isub dX4_cancel_47 ?_
      refine aw_puti (g := 0) tyX4 tyX4_ok nmX4 rfl rfl ly_X4 rfl (k := 5) 5 rfl (M' := updM (clM M ticket 3) 0 0 5 ((M 0 0 5) - (M 12 0 ticket))) dX4_cancel_48 (by decide) fl_X4_45 rfl rfl (by decide +kernel) (by have n1 := hw.1; have n2 := hw.2.1; have t1 := bw.1; have t2 := bw.2; omega) rfl ?_
      refine aw_iload_n dX4_cancel_51 rfl rfl ?_
      exact aw_iret dX4_cancel_52 rfl rfl (by decide) (by decide) (Or.inr (Or.inr ⟨_, rfl, (by exact ⟨h2, h10.2.2, rfl, rfl⟩)⟩))
    · refine aw_if_ne (tgt := 26) dX4_cancel_13 (by decide) (by decide) (fun h => absurd h (by decide)) (fun _ => ?_)
      exact aw_throw (text := "the ticket is closed") at_ISE rfl rfl (by decide) dX4_cancel_16 dX4_cancel_19 dX4_cancel_20 dX4_cancel_22 dX4_cancel_25 (by decide) (Nat.le_of_ble_eq_true rfl) (by decide) (by decide) (Or.inr (Or.inl ⟨rfl, (by exact ⟨h2, fun q => h10 ⟨h2.1, h2.2, q⟩⟩), (by rfl)⟩))
  · exact ax_out rfl (by decide) (by decide) (Or.inl ⟨rfl, (by omega), (by rfl)⟩)
set_option maxHeartbeats 4000000 in
set_option maxRecDepth 20000 in
theorem c_X4_pass {K : WPar} {l : Launch} (hst : l.stackTraces = false) (M : Mem) (minutes : Int) (r_minutes : inR minutes) (hw : HW M) (bw : BW M) (v_now : 0 ≤ M 0 0 4 ∧ M 0 0 4 ≤ 1000000) : CT K l iX4_pass [rV K 0 0, iV (minutes)] M (fun o m => (o = .inr eIAE ∧ (¬ (1 ≤ minutes ∧ minutes ≤ 1000)) ∧ m = M) ∨ (∃ z, o = .inl (some z) ∧ ((1 ≤ minutes ∧ minutes ≤ 1000) ∧ z = passC M minutes ∧ m = passM M minutes))) := by
  refine aw_met [some (rV K 0 0), some (iV (minutes)), none, none] hst (by decide) rfl (Nat.le_of_ble_eq_true rfl) rfl rfl (lcat rfl) ?_
  refine aw_rng (fun hM => ?_)
  refine aw_iload_n dX4_pass_0 rfl rfl ?_
  refine aw_iconst dX4_pass_1 ?_
  refine aw_sipush dX4_pass_2 rfl ?_
  refine aw_cSx (st2 := []) (c2 := 1) (s2 := 6) (As := [iV (minutes), iV 1, iV 1000]) (rest := []) (c_X4_needRange hst M (minutes) (1) (1000) (by have n1 := hw.1; have n2 := hw.2.1; have t1 := bw.1; have t2 := bw.2; omega) (by have n1 := hw.1; have n2 := hw.2.1; have t1 := bw.1; have t2 := bw.2; omega) (by have n1 := hw.1; have n2 := hw.2.1; have t1 := bw.1; have t2 := bw.2; omega)) cs_X4_needRange dX4_pass_5 ml_X4_52 rfl rfl (Nat.le_of_ble_eq_true rfl) (by decide) rfl rfl rfl (by decide) (fun h5 => ?_) (fun h5 => ?_)
  · refine aw_aload_n dX4_pass_8 rfl rfl ?_
    refine aw_dup dX4_pass_9 rfl ?_
    refine aw_geti (g := 0) rfl rfl ly_X4 rfl (k := 4) 4 rfl dX4_pass_10 (by decide) fl_X4_41 rfl (fun r10 => ?_)
    refine aw_iload_n dX4_pass_13 rfl rfl ?_
    refine aw_iadd dX4_pass_14 ?_
    refine aw_puti (g := 0) tyX4 tyX4_ok nmX4 rfl rfl ly_X4 rfl (k := 4) 4 rfl (M' := updM M 0 0 4 ((M 0 0 4) + minutes)) dX4_pass_15 (by decide) fl_X4_41 rfl rfl (by decide +kernel) (by have n1 := hw.1; have n2 := hw.2.1; have t1 := bw.1; have t2 := bw.2; omega) rfl ?_
    generalize hMa : updM M 0 0 4 ((M 0 0 4) + minutes) = Ma
    have ha : ∀ g : Nat, g ≠ 0 → Ma g = M g := (fun g hg => by rw [← hMa, updM_g hg]); have hwa : HW Ma := HW_g hw (ha 1 (by decide)) (ha 2 (by decide)) (ha 3 (by decide)) (ha 4 (by decide)); have bwa : BW Ma := BW_g bw (ha 7 (by decide)); have b7 : Ma 7 0 8 = M 7 0 8 := (by rw [ha 7 (by decide)]); have b04 : Ma 0 0 4 = M 0 0 4 + minutes := (by rw [← hMa, updM_same])
    refine aw_iconst dX4_pass_18 ?_
    refine aw_istore_n (L2 := [some (rV K 0 0), some (iV (minutes)), some (iV 0), none]) dX4_pass_19 rfl (by decide) rfl ?_
    refine aw_iconst dX4_pass_20 ?_
    refine aw_istore_n (L2 := [some (rV K 0 0), some (iV (minutes)), some (iV 0), some (iV 1)]) dX4_pass_21 rfl (by decide) rfl ?_
    have lp22 : ∀ (n22 : Nat) (cnt t : Int), (1 ≤ t ∧ t ≤ M 7 0 8 + 1) → (cnt = psC Ma (Int.toNat (t - 1))) → ((M 7 0 8 + 1 - t).toNat) < n22 → AW K l iX4_pass (ZM K iX4_pass (fun o m => (o = .inr eIAE ∧ (¬ (1 ≤ minutes ∧ minutes ≤ 1000)) ∧ m = M) ∨ (∃ z, o = .inl (some z) ∧ ((1 ≤ minutes ∧ minutes ≤ 1000) ∧ z = passC M minutes ∧ m = passM M minutes)))) 22 [some (rV K 0 0), some (iV (minutes)), some (iV (cnt)), some (iV (t))] [] (psS Ma (Int.toNat (t - 1))) 1 6 := by
      intro n22
      induction n22 with
      | zero =>
        intro cnt t e1 e2 hm22
        exact absurd hm22 (Nat.not_lt_zero _)
      | succ n22 ih22 =>
        intro cnt t e1 e2 hm22
        generalize hMc : psS Ma (Int.toNat (t - 1)) = Mc
        have hc : ∀ g : Nat, g ≠ 6 → g ≠ 8 → g ≠ 15 → Mc g = Ma g := (fun g g1 g2 g3 => by rw [← hMc]; exact psS_g g1 g2 g3 _); have hwc : HW Mc := HW_g hwa (hc 1 (by decide) (by decide) (by decide)) (hc 2 (by decide) (by decide) (by decide)) (hc 3 (by decide) (by decide) (by decide)) (hc 4 (by decide) (by decide) (by decide)); have c7 : Mc 7 0 8 = M 7 0 8 := (by rw [hc 7 (by decide) (by decide) (by decide)]; exact b7); have bwc : BW Mc := BW_g bwa (hc 7 (by decide) (by decide) (by decide)); have c10 : Mc 10 0 t = Ma 10 0 t := (by rw [hc 10 (by decide) (by decide) (by decide)]); have c04 : Mc 0 0 4 = M 0 0 4 + minutes := (by rw [hc 0 (by decide) (by decide) (by decide)]; exact b04); have pst := psS_s (M := Ma) e1.1; have pbd := psC_bd Ma (t - 1).toNat; rw [hMc, b04] at pst; refine aw_rng (fun hM_c => ?_)
        refine aw_iload_n dX4_pass_22 rfl rfl ?_
        refine aw_aload_n dX4_pass_23 rfl rfl ?_
        refine aw_getr (g := 0) rfl rfl ly_X4 rfl (k := 1) dX4_pass_24 (by decide) fl_X4_19 rfl ?_
        refine aw_cVi (g := 7) (As := []) (rest := [iV (t)]) (c_X3_count hst Mc) cv_X3_count dX4_pass_27 ml_X4_146 rfl rfl rfl rfl rfl (Nat.le_of_ble_eq_true rfl) (by decide) rfl rfl (by decide) ?_
        refine aw_icmp_gt (tgt := 74) dX4_pass_30 (by decide) (by have n1 := hw.1; have n2 := hw.2.1; have t1 := bw.1; have t2 := bw.2; omega) (by have n1 := hw.1; have n2 := hw.2.1; have t1 := bw.1; have t2 := bw.2; omega) (fun h30 => ?_) (fun h30 => ?_)
        · refine aw_iload_n dX4_pass_74 rfl rfl ?_
          exact aw_iret dX4_pass_75 rfl rfl (by decide) (by decide) (Or.inr ⟨_, rfl, (by have q : t - 1 = M 7 0 8 := (by omega); exact ⟨h5, by rw [e2, q, ← hMa]; rfl, by rw [← hMc, q, ← hMa]; rfl⟩)⟩)
        · refine aw_aload_n dX4_pass_33 rfl rfl ?_
          refine aw_getr (g := 0) rfl rfl ly_X4 rfl (k := 1) dX4_pass_34 (by decide) fl_X4_19 rfl ?_
          refine aw_iload_n dX4_pass_37 rfl rfl ?_
          refine aw_cVi (g := 7) (As := [iV (t)]) (rest := []) (c_X3_stateOf hst Mc (t) (by have n1 := hw.1; have n2 := hw.2.1; have t1 := bw.1; have t2 := bw.2; omega) (by exact bwc)) cv_X3_stateOf dX4_pass_38 ml_X4_85 rfl rfl rfl rfl rfl (Nat.le_of_ble_eq_true rfl) (by decide) rfl rfl (by decide) ?_
          refine aw_st (st' := [iV (Mc 8 0 t)]) (by rw [show (if 1 ≤ t ∧ t ≤ Mc 7 0 8 then Mc 8 0 t else 3 : Int) = Mc 8 0 t from by exact if_pos (by omega)]) ?_
          refine aw_if_ne (tgt := 68) dX4_pass_41 (by decide) (by exact hM_c 8 0 t) (fun h41 => ?_) (fun h41 => ?_)
          · refine aw_iinc (L2 := [some (rV K 0 0), some (iV (minutes)), some (iV (cnt)), some (iV (t + 1))]) dX4_pass_68 rfl (by decide) rfl ?_
            refine aw_goto (tgt := 22) dX4_pass_71 (by decide) ?_
            refine aw_mem (M' := psS Ma (Int.toNat ((t + 1) - 1))) (by first | rw [pst.1, if_neg (by omega)] | rw [pst.1, if_pos (by omega)]) ?_
            exact ih22 (cnt) (t + 1) (by have n1 := hw.1; have n2 := hw.2.1; have t1 := bw.1; have t2 := bw.2; omega) (by first | rw [pst.2, if_neg (by omega), e2] | rw [pst.2, if_pos (by omega), e2]) (by omega)
          · refine aw_aload_n dX4_pass_44 rfl rfl ?_
            refine aw_getr (g := 0) rfl rfl ly_X4 rfl (k := 1) dX4_pass_45 (by decide) fl_X4_19 rfl ?_
            refine aw_iload_n dX4_pass_48 rfl rfl ?_
            refine aw_cVi (g := 7) (As := [iV (t)]) (rest := []) (c_X3_endOf hst Mc (t) (by have n1 := hw.1; have n2 := hw.2.1; have t1 := bw.1; have t2 := bw.2; omega) (by exact bwc)) cv_X3_endOf dX4_pass_49 ml_X4_184 rfl rfl rfl rfl rfl (Nat.le_of_ble_eq_true rfl) (by decide) rfl rfl (by decide) ?_
            refine aw_st (st' := [iV (Mc 10 0 t)]) (by rw [show (if 1 ≤ t ∧ t ≤ Mc 7 0 8 then Mc 10 0 t else -1 : Int) = Mc 10 0 t from by exact if_pos (by omega)]) ?_
            refine aw_aload_n dX4_pass_52 rfl rfl ?_
            refine aw_geti (g := 0) rfl rfl ly_X4 rfl (k := 4) 4 rfl dX4_pass_53 (by decide) fl_X4_41 rfl (fun r53 => ?_)
            refine aw_icmp_gt (tgt := 68) dX4_pass_56 (by decide) (by exact hM_c 10 0 t) (by omega) (fun h56 => ?_) (fun h56 => ?_)
            · refine aw_iinc (L2 := [some (rV K 0 0), some (iV (minutes)), some (iV (cnt)), some (iV (t + 1))]) dX4_pass_68 rfl (by decide) rfl ?_
              refine aw_goto (tgt := 22) dX4_pass_71 (by decide) ?_
              refine aw_mem (M' := psS Ma (Int.toNat ((t + 1) - 1))) (by first | rw [pst.1, if_neg (by omega)] | rw [pst.1, if_pos (by omega)]) ?_
              exact ih22 (cnt) (t + 1) (by have n1 := hw.1; have n2 := hw.2.1; have t1 := bw.1; have t2 := bw.2; omega) (by first | rw [pst.2, if_neg (by omega), e2] | rw [pst.2, if_pos (by omega), e2]) (by omega)
            · refine aw_aload_n dX4_pass_59 rfl rfl ?_
              refine aw_iload_n dX4_pass_60 rfl rfl ?_
              refine aw_iconst dX4_pass_61 ?_
              refine aw_cVn (g := 0) (As := [iV (t), iV 2]) (rest := []) (c_X4_closeTicket hst Mc (t) (2) (by have n1 := hw.1; have n2 := hw.2.1; have t1 := bw.1; have t2 := bw.2; omega) (by have n1 := hw.1; have n2 := hw.2.1; have t1 := bw.1; have t2 := bw.2; omega) (by exact hwc) (by exact bwc) (by have n1 := hw.1; have n2 := hw.2.1; have t1 := bw.1; have t2 := bw.2; omega)) cv_X4_closeTicket dX4_pass_62 ml_X4_181 rfl rfl rfl rfl rfl (Nat.le_of_ble_eq_true rfl) (by decide) rfl rfl (by decide) ?_
              refine aw_iinc (L2 := [some (rV K 0 0), some (iV (minutes)), some (iV (cnt + 1)), some (iV (t))]) dX4_pass_65 rfl (by decide) rfl ?_
              refine aw_iinc (L2 := [some (rV K 0 0), some (iV (minutes)), some (iV (cnt + 1)), some (iV (t + 1))]) dX4_pass_68 rfl (by decide) rfl ?_
              refine aw_goto (tgt := 22) dX4_pass_71 (by decide) ?_
              refine aw_mem (M' := psS Ma (Int.toNat ((t + 1) - 1))) (by first | rw [pst.1, if_neg (by omega)] | rw [pst.1, if_pos (by omega)]) ?_
              exact ih22 (cnt + 1) (t + 1) (by have n1 := hw.1; have n2 := hw.2.1; have t1 := bw.1; have t2 := bw.2; omega) (by first | rw [pst.2, if_neg (by omega), e2] | rw [pst.2, if_pos (by omega), e2]) (by omega)
    refine aw_mem (M' := psS Ma (Int.toNat (1 - 1))) (by rfl) ?_
    exact lp22 (((M 7 0 8 + 1 - 1).toNat) + 1) (0) (1) (by have n1 := hw.1; have n2 := hw.2.1; have t1 := bw.1; have t2 := bw.2; omega) (by rfl) (Nat.lt_succ_self _)
  · exact ax_out rfl (by decide) (by decide) (Or.inl ⟨rfl, (by omega), (by rfl)⟩)
set_option maxHeartbeats 4000000 in
set_option maxRecDepth 20000 in
theorem c_X4_nextExpiry {K : WPar} {l : Launch} (hst : l.stackTraces = false) (M : Mem) (bw : BW M) (v_en : ∀ t : Int, 1 ≤ t → t ≤ M 7 0 8 → 0 ≤ M 10 0 t) : CT K l iX4_nextExpiry [rV K 0 0] M (fun o m => (o = .inr eISE ∧ (isEarl (M 7 0 8) (M 8 0) (M 10 0) (-1)) ∧ m = M) ∨ (∃ z, o = .inl (some z) ∧ (isEarl (M 7 0 8) (M 8 0) (M 10 0) z ∧ z ≠ -1 ∧ m = M))) := by
  refine aw_met [some (rV K 0 0), none] hst (by decide) rfl (Nat.le_of_ble_eq_true rfl) rfl rfl (lcat rfl) ?_
  refine aw_rng (fun hM => ?_)
  refine aw_aload_n dX4_nextExpiry_0 rfl rfl ?_
  refine aw_getr (g := 0) rfl rfl ly_X4 rfl (k := 1) dX4_nextExpiry_1 (by decide) fl_X4_19 rfl ?_
  refine aw_cVr (g := 7) (As := []) (rest := []) (c_X3_earliestEnd hst M (by have h1 := bw.1; have h2 := bw.2; omega) (by exact v_en)) cv_X3_earliestEnd dX4_nextExpiry_4 ml_X4_187 rfl rfl rfl rfl rfl (Nat.le_of_ble_eq_true rfl) (by decide) rfl rfl (by decide) (fun z4 (h4 : isEarl (M 7 0 8) (M 8 0) (M 10 0) z4) => ?_)
  refine aw_istore_n (L2 := [some (rV K 0 0), some (iV (z4))]) dX4_nextExpiry_7 rfl (by decide) rfl ?_
  refine aw_iload_n dX4_nextExpiry_8 rfl rfl ?_
  refine aw_iconst dX4_nextExpiry_9 ?_
  refine aw_icmp_ne (tgt := 23) dX4_nextExpiry_10 (by decide) (by rcases h4 with ⟨a, _⟩ | ⟨a, ⟨t, t1, t2, t3, t4⟩, _⟩; omega; (have x := hM 10 0 t; omega)) (by have h1 := bw.1; have h2 := bw.2; omega) (fun h10 => ?_) (fun h10 => ?_)
  · refine aw_iload_n dX4_nextExpiry_23 rfl rfl ?_
    exact aw_iret dX4_nextExpiry_24 rfl rfl (by decide) (by decide) (Or.inr ⟨_, rfl, (by exact ⟨h4, h10, rfl⟩)⟩)
  · exact aw_throw (text := "there are no holds") at_ISE rfl rfl (by decide) dX4_nextExpiry_13 dX4_nextExpiry_16 dX4_nextExpiry_17 dX4_nextExpiry_19 dX4_nextExpiry_22 (by decide) (Nat.le_of_ble_eq_true rfl) (by decide) (by decide) (Or.inl ⟨rfl, (by exact h10 ▸ h4), (by rfl)⟩)
set_option maxHeartbeats 4000000 in
set_option maxRecDepth 20000 in
theorem c_X4_wish {K : WPar} {l : Launch} (hst : l.stackTraces = false) (M : Mem) (ticket : Int) (row : Int) (r_ticket : inR ticket) (r_row : inR row) (hw : HW M) (bw : BW M) : CT K l iX4_wish [rV K 0 0, iV (ticket), iV (row)] M (fun o m => (o = .inr eIOB ∧ (¬ ((1 ≤ ticket ∧ ticket ≤ M 7 0 8) ∧ (0 ≤ row ∧ row < M 1 0 4))) ∧ m = M) ∨ (o = .inr eISE ∧ (((1 ≤ ticket ∧ ticket ≤ M 7 0 8) ∧ (0 ≤ row ∧ row < M 1 0 4)) ∧ ¬ (M 8 0 ticket = 1 ∧ M 13 0 ticket ≠ -1 ∧ M 13 0 ticket ≠ row)) ∧ m = M) ∨ (∃ z, o = .inl (some z) ∧ (((1 ≤ ticket ∧ ticket ≤ M 7 0 8) ∧ (0 ≤ row ∧ row < M 1 0 4)) ∧ (M 8 0 ticket = 1 ∧ M 13 0 ticket ≠ -1 ∧ M 13 0 ticket ≠ row) ∧ z = M 15 0 ticket ∧ m = updM M 15 0 ticket row))) := by
  refine aw_met [some (rV K 0 0), some (iV (ticket)), some (iV (row)), none, none] hst (by decide) rfl (Nat.le_of_ble_eq_true rfl) rfl rfl (lcat rfl) ?_
  refine aw_rng (fun hM => ?_)
  have x8 := hM 8 0 ticket; have x13 := hM 13 0 ticket
  refine aw_aload_n dX4_wish_0 rfl rfl ?_
  refine aw_iload_n dX4_wish_1 rfl rfl ?_
  refine aw_cVx (st2 := []) (c2 := 1) (s2 := 6) (g := 0) (As := [iV (ticket)]) (rest := []) (c_X4_needTicket hst M (ticket) (by have n1 := hw.1; have n2 := hw.2.1; have t1 := bw.1; have t2 := bw.2; omega) (by have n1 := hw.1; have n2 := hw.2.1; have t1 := bw.1; have t2 := bw.2; omega)) cv_X4_needTicket dX4_wish_2 ml_X4_149 rfl rfl rfl rfl rfl (Nat.le_of_ble_eq_true rfl) (by decide) rfl rfl rfl (by decide) (fun h2 => ?_) (fun h2 => ?_)
  · refine aw_aload_n dX4_wish_5 rfl rfl ?_
    refine aw_iload_n dX4_wish_6 rfl rfl ?_
    refine aw_cVx (st2 := []) (c2 := 2) (s2 := 12) (g := 0) (As := [iV (row)]) (rest := []) (c_X4_needRow hst M (row) (by have n1 := hw.1; have n2 := hw.2.1; have t1 := bw.1; have t2 := bw.2; omega) (by have n1 := hw.1; have n2 := hw.2.1; have t1 := bw.1; have t2 := bw.2; omega)) cv_X4_needRow dX4_wish_7 ml_X4_97 rfl rfl rfl rfl rfl (Nat.le_of_ble_eq_true rfl) (by decide) rfl rfl rfl (by decide) (fun h7 => ?_) (fun h7 => ?_)
    · refine aw_aload_n dX4_wish_10 rfl rfl ?_
      refine aw_getr (g := 0) rfl rfl ly_X4 rfl (k := 1) dX4_wish_11 (by decide) fl_X4_19 rfl ?_
      refine aw_iload_n dX4_wish_14 rfl rfl ?_
      refine aw_cVi (g := 7) (As := [iV (ticket)]) (rest := []) (c_X3_stateOf hst M (ticket) (by have n1 := hw.1; have n2 := hw.2.1; have t1 := bw.1; have t2 := bw.2; omega) (by have n1 := hw.1; have n2 := hw.2.1; have t1 := bw.1; have t2 := bw.2; omega)) cv_X3_stateOf dX4_wish_15 ml_X4_85 rfl rfl rfl rfl rfl (Nat.le_of_ble_eq_true rfl) (by decide) rfl rfl (by decide) ?_
      refine aw_st (st' := [iV (M 8 0 ticket)]) (by rw [show (if 1 ≤ ticket ∧ ticket ≤ M 7 0 8 then M 8 0 ticket else 3 : Int) = M 8 0 ticket from by exact if_pos h2]) ?_
      refine aw_iconst dX4_wish_18 ?_
      refine aw_icmp_eq (tgt := 32) dX4_wish_19 (by decide) (by have n1 := hw.1; have n2 := hw.2.1; have t1 := bw.1; have t2 := bw.2; omega) (by have n1 := hw.1; have n2 := hw.2.1; have t1 := bw.1; have t2 := bw.2; omega) (fun h19 => ?_) (fun h19 => ?_)
      · refine aw_aload_n dX4_wish_32 rfl rfl ?_
        refine aw_getr (g := 0) rfl rfl ly_X4 rfl (k := 1) dX4_wish_33 (by decide) fl_X4_19 rfl ?_
        refine aw_iload_n dX4_wish_36 rfl rfl ?_
        refine aw_cVi (g := 7) (As := [iV (ticket)]) (rest := []) (c_X3_rowOf hst M (ticket) (by have n1 := hw.1; have n2 := hw.2.1; have t1 := bw.1; have t2 := bw.2; omega) (by have n1 := hw.1; have n2 := hw.2.1; have t1 := bw.1; have t2 := bw.2; omega)) cv_X3_rowOf dX4_wish_37 ml_X4_194 rfl rfl rfl rfl rfl (Nat.le_of_ble_eq_true rfl) (by decide) rfl rfl (by decide) ?_
        refine aw_st (st' := [iV (M 13 0 ticket)]) (by rw [show (if 1 ≤ ticket ∧ ticket ≤ M 7 0 8 then M 13 0 ticket else -1 : Int) = M 13 0 ticket from by exact if_pos h2]) ?_
        refine aw_istore_n (L2 := [some (rV K 0 0), some (iV (ticket)), some (iV (row)), some (iV (M 13 0 ticket)), none]) dX4_wish_40 rfl (by decide) rfl ?_
        refine aw_iload_n dX4_wish_41 rfl rfl ?_
        refine aw_iconst dX4_wish_42 ?_
        refine aw_icmp_eq (tgt := 51) dX4_wish_43 (by decide) (by have n1 := hw.1; have n2 := hw.2.1; have t1 := bw.1; have t2 := bw.2; omega) (by have n1 := hw.1; have n2 := hw.2.1; have t1 := bw.1; have t2 := bw.2; omega) (fun h43 => ?_) (fun h43 => ?_)
        · exact aw_throw (text := "the booking has several rows or sits in that row") at_ISE rfl rfl (by decide) dX4_wish_51 dX4_wish_54 dX4_wish_55 dX4_wish_57 dX4_wish_60 (by decide) (Nat.le_of_ble_eq_true rfl) (by decide) (by decide) (Or.inr (Or.inl ⟨rfl, (by first | exact ⟨⟨h2, h7⟩, fun q => q.2.1 h43⟩ | exact ⟨⟨h2, h7⟩, fun q => q.2.2 h48⟩), (by rfl)⟩))
        · refine aw_iload_n dX4_wish_46 rfl rfl ?_
          refine aw_iload_n dX4_wish_47 rfl rfl ?_
          refine aw_icmp_ne (tgt := 61) dX4_wish_48 (by decide) (by have n1 := hw.1; have n2 := hw.2.1; have t1 := bw.1; have t2 := bw.2; omega) (by have n1 := hw.1; have n2 := hw.2.1; have t1 := bw.1; have t2 := bw.2; omega) (fun h48 => ?_) (fun h48 => ?_)
          · refine aw_aload_n dX4_wish_61 rfl rfl ?_
            refine aw_getr (g := 0) rfl rfl ly_X4 rfl (k := 1) dX4_wish_62 (by decide) fl_X4_19 rfl ?_
            refine aw_iload_n dX4_wish_65 rfl rfl ?_
            refine aw_cVi (g := 7) (As := [iV (ticket)]) (rest := []) (c_X3_wishOf hst M (ticket) (by have n1 := hw.1; have n2 := hw.2.1; have t1 := bw.1; have t2 := bw.2; omega) (by have n1 := hw.1; have n2 := hw.2.1; have t1 := bw.1; have t2 := bw.2; omega)) cv_X3_wishOf dX4_wish_66 ml_X4_199 rfl rfl rfl rfl rfl (Nat.le_of_ble_eq_true rfl) (by decide) rfl rfl (by decide) ?_
            refine aw_st (st' := [iV (M 15 0 ticket)]) (by rw [show (if 1 ≤ ticket ∧ ticket ≤ M 7 0 8 then M 15 0 ticket else -1 : Int) = M 15 0 ticket from by exact if_pos h2]) ?_
            refine aw_istore (L2 := [some (rV K 0 0), some (iV (ticket)), some (iV (row)), some (iV (M 13 0 ticket)), some (iV (M 15 0 ticket))]) dX4_wish_69 (by decide) rfl ?_
            refine aw_aload_n dX4_wish_71 rfl rfl ?_
            refine aw_getr (g := 0) rfl rfl ly_X4 rfl (k := 1) dX4_wish_72 (by decide) fl_X4_19 rfl ?_
            refine aw_iload_n dX4_wish_75 rfl rfl ?_
            refine aw_iload_n dX4_wish_76 rfl rfl ?_
            refine aw_cVn (g := 7) (As := [iV (ticket), iV (row)]) (rest := []) (c_X3_setWish hst M (ticket) (row) (by have n1 := hw.1; have n2 := hw.2.1; have t1 := bw.1; have t2 := bw.2; omega) (by have n1 := hw.1; have n2 := hw.2.1; have t1 := bw.1; have t2 := bw.2; omega) (by have n1 := hw.1; have n2 := hw.2.1; have t1 := bw.1; have t2 := bw.2; omega) (by have n1 := hw.1; have n2 := hw.2.1; have t1 := bw.1; have t2 := bw.2; omega)) cv_X3_setWish dX4_wish_77 ml_X4_202 rfl rfl rfl rfl rfl (Nat.le_of_ble_eq_true rfl) (by decide) rfl rfl (by decide) ?_
            refine aw_iload dX4_wish_80 rfl ?_
            exact aw_iret dX4_wish_82 rfl rfl (by decide) (by decide) (Or.inr (Or.inr ⟨_, rfl, (by exact ⟨⟨h2, h7⟩, ⟨h19, h43, h48⟩, rfl, rfl⟩)⟩))
          · exact aw_throw (text := "the booking has several rows or sits in that row") at_ISE rfl rfl (by decide) dX4_wish_51 dX4_wish_54 dX4_wish_55 dX4_wish_57 dX4_wish_60 (by decide) (Nat.le_of_ble_eq_true rfl) (by decide) (by decide) (Or.inr (Or.inl ⟨rfl, (by first | exact ⟨⟨h2, h7⟩, fun q => q.2.1 h43⟩ | exact ⟨⟨h2, h7⟩, fun q => q.2.2 h48⟩), (by rfl)⟩))
      · exact aw_throw (text := "the ticket is no booking") at_ISE rfl rfl (by decide) dX4_wish_22 dX4_wish_25 dX4_wish_26 dX4_wish_28 dX4_wish_31 (by decide) (Nat.le_of_ble_eq_true rfl) (by decide) (by decide) (Or.inr (Or.inl ⟨rfl, (by exact ⟨⟨h2, h7⟩, fun q => h19 q.1⟩), (by rfl)⟩))
    · exact ax_out rfl (by decide) (by decide) (Or.inl ⟨rfl, (by omega), (by rfl)⟩)
  · exact ax_out rfl (by decide) (by decide) (Or.inl ⟨rfl, (by omega), (by rfl)⟩)
set_option maxHeartbeats 4000000 in
set_option maxRecDepth 20000 in
theorem c_X4_exchange {K : WPar} {l : Launch} (hst : l.stackTraces = false) (M : Mem) (ticket : Int) (r_ticket : inR ticket) (hw : HW M) (bw : BW M) (xw : XW M) (v_pl : ∀ t : Int, 1 ≤ t → t ≤ M 7 0 8 → M 15 0 t ≠ -1 → vpl M (M 9 0 t) (M 13 0 t) (M 14 0 t) ∧ 1 ≤ M 9 0 t ∧ M 9 0 t ≤ 20) : CT K l iX4_exchange [rV K 0 0, iV (ticket)] M (fun o m => (o = .inr eIOB ∧ (¬ (1 ≤ ticket ∧ ticket ≤ M 7 0 8)) ∧ m = M) ∨ (o = .inr eISE ∧ ((1 ≤ ticket ∧ ticket ≤ M 7 0 8) ∧ (M 15 0 ticket = -1 ∨ (M 15 0 ticket ≠ -1 ∧ ∀ k : Nat, ¬ RM M (M 9 0 ticket) (M 13 0 ticket) k (M 15 0 ticket)))) ∧ XF M m) ∨ (∃ z, o = .inl (some z) ∧ ((1 ≤ ticket ∧ ticket ≤ M 7 0 8) ∧ M 15 0 ticket ≠ -1 ∧ ∃ m1, XF M m1 ∧ XFOUND M m1 ticket (M 9 0 ticket) (M 13 0 ticket) ∧ z = m1 27 0 4 ∧ m = exM m1))) := by
  refine aw_met [some (rV K 0 0), some (iV (ticket))] hst (by decide) rfl (Nat.le_of_ble_eq_true rfl) rfl rfl (lcat rfl) ?_
  refine aw_rng (fun hM => ?_)
  have x15 := hM 15 0 ticket
  refine aw_aload_n dX4_exchange_0 rfl rfl ?_
  refine aw_iload_n dX4_exchange_1 rfl rfl ?_
  refine aw_cVx (st2 := []) (c2 := 1) (s2 := 6) (g := 0) (As := [iV (ticket)]) (rest := []) (c_X4_needTicket hst M (ticket) (by have n1 := hw.1; have n2 := hw.2.1; have t1 := bw.1; have t2 := bw.2; omega) (by have n1 := hw.1; have n2 := hw.2.1; have t1 := bw.1; have t2 := bw.2; omega)) cv_X4_needTicket dX4_exchange_2 ml_X4_149 rfl rfl rfl rfl rfl (Nat.le_of_ble_eq_true rfl) (by decide) rfl rfl rfl (by decide) (fun h2 => ?_) (fun h2 => ?_)
  · refine aw_aload_n dX4_exchange_5 rfl rfl ?_
    refine aw_getr (g := 0) rfl rfl ly_X4 rfl (k := 1) dX4_exchange_6 (by decide) fl_X4_19 rfl ?_
    refine aw_iload_n dX4_exchange_9 rfl rfl ?_
    refine aw_cVi (g := 7) (As := [iV (ticket)]) (rest := []) (c_X3_wishOf hst M (ticket) (by have n1 := hw.1; have n2 := hw.2.1; have t1 := bw.1; have t2 := bw.2; omega) (by have n1 := hw.1; have n2 := hw.2.1; have t1 := bw.1; have t2 := bw.2; omega)) cv_X3_wishOf dX4_exchange_10 ml_X4_199 rfl rfl rfl rfl rfl (Nat.le_of_ble_eq_true rfl) (by decide) rfl rfl (by decide) ?_
    refine aw_st (st' := [iV (M 15 0 ticket)]) (by rw [show (if 1 ≤ ticket ∧ ticket ≤ M 7 0 8 then M 15 0 ticket else -1 : Int) = M 15 0 ticket from by exact if_pos h2]) ?_
    refine aw_iconst dX4_exchange_13 ?_
    refine aw_icmp_ne (tgt := 27) dX4_exchange_14 (by decide) (by have n1 := hw.1; have n2 := hw.2.1; have t1 := bw.1; have t2 := bw.2; omega) (by have n1 := hw.1; have n2 := hw.2.1; have t1 := bw.1; have t2 := bw.2; omega) (fun h14 => ?_) (fun h14 => ?_)
    · refine aw_aload_n dX4_exchange_27 rfl rfl ?_
      refine aw_getr (g := 0) rfl rfl ly_X4 rfl (k := 3) dX4_exchange_28 (by decide) fl_X4_37 rfl ?_
      refine aw_iload_n dX4_exchange_31 rfl rfl ?_
      refine aw_cVf (g := 27) (As := [iV (ticket)]) (rest := []) (c_X0_find hst M (ticket) (by have n1 := hw.1; have n2 := hw.2.1; have t1 := bw.1; have t2 := bw.2; omega) (by have n1 := hw.1; have n2 := hw.2.1; have t1 := bw.1; have t2 := bw.2; omega) (by have n1 := hw.1; have n2 := hw.2.1; have t1 := bw.1; have t2 := bw.2; omega) (by have n1 := hw.1; have n2 := hw.2.1; have t1 := bw.1; have t2 := bw.2; omega) (by have n1 := hw.1; have n2 := hw.2.1; have t1 := bw.1; have t2 := bw.2; omega) (by have n1 := hw.1; have n2 := hw.2.1; have t1 := bw.1; have t2 := bw.2; omega) (by have q := v_pl ticket h2.1 h2.2 h14; omega)) cv_X0_find dX4_exchange_32 ml_X4_207 rfl rfl rfl rfl rfl (Nat.le_of_ble_eq_true rfl) (by decide) rfl rfl (by decide) (fun M32 (h32 : XF M M32 ∧ XFOUND M M32 ticket (M 9 0 ticket) (M 13 0 ticket)) => ?_) (fun M32 (h32 : XF M M32 ∧ ∀ k : Nat, ¬ RM M (M 9 0 ticket) (M 13 0 ticket) k (M 15 0 ticket)) => ?_)
      · refine aw_if_ne (tgt := 48) dX4_exchange_35 (by decide) (by decide) (fun _ => ?_) (fun h => absurd h (by decide))
        refine aw_aload_n dX4_exchange_48 rfl rfl ?_
        have xe := xf_pre hw bw xw v_pl h2 h14 h32.1 h32.2
        refine aw_getr (g := 0) rfl rfl ly_X4 rfl (k := 3) dX4_exchange_49 (by decide) fl_X4_37 rfl ?_
        refine aw_cVi (g := 27) (As := []) (rest := []) (c_X0_carryOut hst M32 (by exact xe.1) (by exact xe.2.1) (by exact xe.2.2.1) (by exact xe.2.2.2.1) (by exact xe.2.2.2.2.1) (by exact xe.2.2.2.2.2)) cv_X0_carryOut dX4_exchange_52 ml_X4_212 rfl rfl rfl rfl rfl (Nat.le_of_ble_eq_true rfl) (by decide) rfl rfl (by decide) ?_
        exact aw_iret dX4_exchange_55 rfl rfl (by decide) (by decide) (Or.inr (Or.inr ⟨_, rfl, (by exact ⟨h2, h14, M32, h32.1, h32.2, rfl, rfl⟩)⟩))
      · refine aw_if_ne (tgt := 48) dX4_exchange_35 (by decide) (by decide) (fun h => absurd h (by decide)) (fun _ => ?_)
        exact aw_throw (text := "there is no chain") at_ISE rfl rfl (by decide) dX4_exchange_38 dX4_exchange_41 dX4_exchange_42 dX4_exchange_44 dX4_exchange_47 (by decide) (Nat.le_of_ble_eq_true rfl) (by decide) (by decide) (Or.inr (Or.inl ⟨rfl, (by exact ⟨h2, Or.inr ⟨h14, h32.2⟩⟩), (by exact h32.1)⟩))
    · exact aw_throw (text := "the ticket has no wish") at_ISE rfl rfl (by decide) dX4_exchange_17 dX4_exchange_20 dX4_exchange_21 dX4_exchange_23 dX4_exchange_26 (by decide) (Nat.le_of_ble_eq_true rfl) (by decide) (by decide) (Or.inr (Or.inl ⟨rfl, (by exact ⟨h2, Or.inl h14⟩), (by exact fun _ _ _ _ => rfl)⟩))
  · exact ax_out rfl (by decide) (by decide) (Or.inl ⟨rfl, (by omega), (by rfl)⟩)
