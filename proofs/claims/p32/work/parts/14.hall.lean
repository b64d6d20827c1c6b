set_option maxHeartbeats 4000000 in
set_option maxRecDepth 20000 in
theorem c_X2_rowCount {K : WPar} {l : Launch} (hst : l.stackTraces = false) (M : Mem) : CT K l iX2_rowCount [rV K 1 0] M (rI (M 1 0 4) (M)) := by
  refine aw_met [some (rV K 1 0)] hst (by decide) rfl (Nat.le_of_ble_eq_true rfl) rfl rfl (lcat rfl) ?_
  refine aw_rng (fun hM => ?_)
  refine aw_aload_n dX2_rowCount_0 rfl rfl ?_
  refine aw_geti (g := 1) rfl rfl ly_X2 rfl (k := 4) 4 rfl dX2_rowCount_1 (by decide) fl_X2_26 rfl (fun r1 => ?_)
  exact aw_iret dX2_rowCount_4 rfl rfl (by decide) (by decide) ⟨congrArg (fun z => Sum.inl (some z)) (by first | rfl | omega), (by rfl)⟩
set_option maxHeartbeats 4000000 in
set_option maxRecDepth 20000 in
theorem c_X2_hasRow {K : WPar} {l : Launch} (hst : l.stackTraces = false) (M : Mem) (row : Int) (r_row : inR row) : CT K l iX2_hasRow [rV K 1 0, iV (row)] M (rB (0 ≤ row ∧ row < M 1 0 4) (M)) := by
  refine aw_met [some (rV K 1 0), some (iV (row))] hst (by decide) rfl (Nat.le_of_ble_eq_true rfl) rfl rfl (lcat rfl) ?_
  refine aw_rng (fun hM => ?_)
  refine aw_iload_n dX2_hasRow_0 rfl rfl ?_
  refine aw_if_lt (tgt := 16) dX2_hasRow_1 (by decide) (by omega) (fun h1 => ?_) (fun h1 => ?_)
  · refine aw_iconst dX2_hasRow_16 ?_
    exact aw_iret dX2_hasRow_17 rfl rfl (by decide) (by decide) ⟨Or.inr ⟨rfl, by omega⟩, (by rfl)⟩
  · refine aw_iload_n dX2_hasRow_4 rfl rfl ?_
    refine aw_aload_n dX2_hasRow_5 rfl rfl ?_
    refine aw_geti (g := 1) rfl rfl ly_X2 rfl (k := 4) 4 rfl dX2_hasRow_6 (by decide) fl_X2_26 rfl (fun r6 => ?_)
    refine aw_icmp_ge (tgt := 16) dX2_hasRow_9 (by decide) (by omega) (by omega) (fun h9 => ?_) (fun h9 => ?_)
    · refine aw_iconst dX2_hasRow_16 ?_
      exact aw_iret dX2_hasRow_17 rfl rfl (by decide) (by decide) ⟨Or.inr ⟨rfl, by omega⟩, (by rfl)⟩
    · refine aw_iconst dX2_hasRow_12 ?_
      refine aw_goto (tgt := 17) dX2_hasRow_13 (by decide) ?_
      exact aw_iret dX2_hasRow_17 rfl rfl (by decide) (by decide) ⟨Or.inl ⟨rfl, by omega⟩, (by rfl)⟩
set_option maxHeartbeats 4000000 in
set_option maxRecDepth 20000 in
theorem c_X2_seatsIn {K : WPar} {l : Launch} (hst : l.stackTraces = false) (M : Mem) (row : Int) (r_row : inR row) (hw : HW M) : CT K l iX2_seatsIn [rV K 1 0, iV (row)] M (rI (if 0 ≤ row ∧ row < M 1 0 4 then M 2 0 row else 0) (M)) := by
  refine aw_met [some (rV K 1 0), some (iV (row))] hst (by decide) rfl (Nat.le_of_ble_eq_true rfl) rfl rfl (lcat rfl) ?_
  refine aw_rng (fun hM => ?_)
  refine aw_iload_n dX2_seatsIn_0 rfl rfl ?_
  refine aw_if_lt (tgt := 21) dX2_seatsIn_1 (by decide) (by have h1 := hw.1; have h2 := hw.2.1; have h3 := hw.2.2 row; omega) (fun h1 => ?_) (fun h1 => ?_)
  · refine aw_iconst dX2_seatsIn_21 ?_
    exact aw_iret dX2_seatsIn_22 rfl rfl (by decide) (by decide) ⟨congrArg (fun z => Sum.inl (some z)) (by first | rfl | omega), (by rfl)⟩
  · refine aw_iload_n dX2_seatsIn_4 rfl rfl ?_
    refine aw_aload_n dX2_seatsIn_5 rfl rfl ?_
    refine aw_geti (g := 1) rfl rfl ly_X2 rfl (k := 4) 4 rfl dX2_seatsIn_6 (by decide) fl_X2_26 rfl (fun r6 => ?_)
    refine aw_icmp_ge (tgt := 21) dX2_seatsIn_9 (by decide) (by have h1 := hw.1; have h2 := hw.2.1; have h3 := hw.2.2 row; omega) (by have h1 := hw.1; have h2 := hw.2.1; have h3 := hw.2.2 row; omega) (fun h9 => ?_) (fun h9 => ?_)
    · refine aw_iconst dX2_seatsIn_21 ?_
      exact aw_iret dX2_seatsIn_22 rfl rfl (by decide) (by decide) ⟨congrArg (fun z => Sum.inl (some z)) (by first | rfl | omega), (by rfl)⟩
    · refine aw_aload_n dX2_seatsIn_12 rfl rfl ?_
      refine aw_getr (g := 1) rfl rfl ly_X2 rfl (k := 0) dX2_seatsIn_13 (by decide) fl_X2_9 rfl ?_
      refine aw_iload_n dX2_seatsIn_16 rfl rfl ?_
      refine aw_iald (g := 2) (n := 12) rfl (by decide) dX2_seatsIn_17 (by decide) (by show 0 ≤ row ∧ row < (12 : Int); have h1 := hw.1; have h2 := hw.2.1; have h3 := hw.2.2 row; omega) (fun r17 => ?_)
      refine aw_goto (tgt := 22) dX2_seatsIn_18 (by decide) ?_
      exact aw_iret dX2_seatsIn_22 rfl rfl (by decide) (by decide) ⟨congrArg (fun z => Sum.inl (some z)) (by first | rfl | omega), (by rfl)⟩
set_option maxHeartbeats 4000000 in
set_option maxRecDepth 20000 in
theorem c_X2_hasSeat {K : WPar} {l : Launch} (hst : l.stackTraces = false) (M : Mem) (row : Int) (seat : Int) (r_row : inR row) (r_seat : inR seat) (hw : HW M) : CT K l iX2_hasSeat [rV K 1 0, iV (row), iV (seat)] M (rB (0 ≤ row ∧ row < M 1 0 4 ∧ 0 ≤ seat ∧ seat < M 2 0 row) (M)) := by
  refine aw_met [some (rV K 1 0), some (iV (row)), some (iV (seat))] hst (by decide) rfl (Nat.le_of_ble_eq_true rfl) rfl rfl (lcat rfl) ?_
  refine aw_rng (fun hM => ?_)
  refine aw_iload_n dX2_hasSeat_0 rfl rfl ?_
  refine aw_if_lt (tgt := 30) dX2_hasSeat_1 (by decide) (by have h1 := hw.1; have h2 := hw.2.1; have h3 := hw.2.2 row; omega) (fun h1 => ?_) (fun h1 => ?_)
  · refine aw_iconst dX2_hasSeat_30 ?_
    exact aw_iret dX2_hasSeat_31 rfl rfl (by decide) (by decide) ⟨Or.inr ⟨rfl, by have h1 := hw.1; have h2 := hw.2.1; have h3 := hw.2.2 row; omega⟩, (by rfl)⟩
  · refine aw_iload_n dX2_hasSeat_4 rfl rfl ?_
    refine aw_aload_n dX2_hasSeat_5 rfl rfl ?_
    refine aw_geti (g := 1) rfl rfl ly_X2 rfl (k := 4) 4 rfl dX2_hasSeat_6 (by decide) fl_X2_26 rfl (fun r6 => ?_)
    refine aw_icmp_ge (tgt := 30) dX2_hasSeat_9 (by decide) (by have h1 := hw.1; have h2 := hw.2.1; have h3 := hw.2.2 row; omega) (by have h1 := hw.1; have h2 := hw.2.1; have h3 := hw.2.2 row; omega) (fun h9 => ?_) (fun h9 => ?_)
    · refine aw_iconst dX2_hasSeat_30 ?_
      exact aw_iret dX2_hasSeat_31 rfl rfl (by decide) (by decide) ⟨Or.inr ⟨rfl, by have h1 := hw.1; have h2 := hw.2.1; have h3 := hw.2.2 row; omega⟩, (by rfl)⟩
    · refine aw_iload_n dX2_hasSeat_12 rfl rfl ?_
      refine aw_if_lt (tgt := 30) dX2_hasSeat_13 (by decide) (by have h1 := hw.1; have h2 := hw.2.1; have h3 := hw.2.2 row; omega) (fun h13 => ?_) (fun h13 => ?_)
      · refine aw_iconst dX2_hasSeat_30 ?_
        exact aw_iret dX2_hasSeat_31 rfl rfl (by decide) (by decide) ⟨Or.inr ⟨rfl, by have h1 := hw.1; have h2 := hw.2.1; have h3 := hw.2.2 row; omega⟩, (by rfl)⟩
      · refine aw_iload_n dX2_hasSeat_16 rfl rfl ?_
        refine aw_aload_n dX2_hasSeat_17 rfl rfl ?_
        refine aw_getr (g := 1) rfl rfl ly_X2 rfl (k := 0) dX2_hasSeat_18 (by decide) fl_X2_9 rfl ?_
        refine aw_iload_n dX2_hasSeat_21 rfl rfl ?_
        refine aw_iald (g := 2) (n := 12) rfl (by decide) dX2_hasSeat_22 (by decide) (by show 0 ≤ row ∧ row < (12 : Int); have h1 := hw.1; have h2 := hw.2.1; have h3 := hw.2.2 row; omega) (fun r22 => ?_)
        refine aw_icmp_ge (tgt := 30) dX2_hasSeat_23 (by decide) (by have h1 := hw.1; have h2 := hw.2.1; have h3 := hw.2.2 row; omega) (by have h1 := hw.1; have h2 := hw.2.1; have h3 := hw.2.2 row; omega) (fun h23 => ?_) (fun h23 => ?_)
        · refine aw_iconst dX2_hasSeat_30 ?_
          exact aw_iret dX2_hasSeat_31 rfl rfl (by decide) (by decide) ⟨Or.inr ⟨rfl, by have h1 := hw.1; have h2 := hw.2.1; have h3 := hw.2.2 row; omega⟩, (by rfl)⟩
        · refine aw_iconst dX2_hasSeat_26 ?_
          refine aw_goto (tgt := 31) dX2_hasSeat_27 (by decide) ?_
          exact aw_iret dX2_hasSeat_31 rfl rfl (by decide) (by decide) ⟨Or.inl ⟨rfl, by have h1 := hw.1; have h2 := hw.2.1; have h3 := hw.2.2 row; omega⟩, (by rfl)⟩
set_option maxHeartbeats 4000000 in
set_option maxRecDepth 20000 in
theorem c_X2_ownerOf {K : WPar} {l : Launch} (hst : l.stackTraces = false) (M : Mem) (row : Int) (seat : Int) (r_row : inR row) (r_seat : inR seat) (hw : HW M) : CT K l iX2_ownerOf [rV K 1 0, iV (row), iV (seat)] M (rI (if 0 ≤ row ∧ row < M 1 0 4 ∧ 0 ≤ seat ∧ seat < M 2 0 row then M 6 row seat else -1) (M)) := by
  refine aw_met [some (rV K 1 0), some (iV (row)), some (iV (seat))] hst (by decide) rfl (Nat.le_of_ble_eq_true rfl) rfl rfl (lcat rfl) ?_
  refine aw_rng (fun hM => ?_)
  refine aw_aload_n dX2_ownerOf_0 rfl rfl ?_
  refine aw_iload_n dX2_ownerOf_1 rfl rfl ?_
  refine aw_iload_n dX2_ownerOf_2 rfl rfl ?_
  refine aw_cVb (g := 1) (As := [iV (row), iV (seat)]) (rest := []) (c_X2_hasSeat hst M (row) (seat) (by have h1 := hw.1; have h2 := hw.2.1; have h3 := hw.2.2 row; omega) (by have h1 := hw.1; have h2 := hw.2.1; have h3 := hw.2.2 row; omega) (by have h1 := hw.1; have h2 := hw.2.1; have h3 := hw.2.2 row; omega)) cv_X2_hasSeat dX2_ownerOf_3 ml_X2_30 rfl rfl rfl rfl rfl (Nat.le_of_ble_eq_true rfl) (by decide) rfl rfl (by decide) (fun h3 => ?_) (fun h3 => ?_)
  · refine aw_if_eq (tgt := 20) dX2_ownerOf_6 (by decide) (by decide) (fun h => absurd h (by decide)) (fun _ => ?_)
    refine aw_aload_n dX2_ownerOf_9 rfl rfl ?_
    refine aw_getr (g := 1) rfl rfl ly_X2 rfl (k := 3) dX2_ownerOf_10 (by decide) fl_X2_23 rfl ?_
    refine aw_iload_n dX2_ownerOf_13 rfl rfl ?_
    refine aw_aald (g := 5) (n := 12) rfl (by decide) rfl dX2_ownerOf_14 (by show 0 ≤ row ∧ row < (12 : Int); have h1 := hw.1; have h2 := hw.2.1; have h3 := hw.2.2 row; omega) ?_
    refine aw_iload_n dX2_ownerOf_15 rfl rfl ?_
    refine aw_iald (g := 6) (n := 20) rfl (by decide) dX2_ownerOf_16 (by show 0 ≤ row ∧ row < (12 : Int); have h1 := hw.1; have h2 := hw.2.1; have h3 := hw.2.2 row; omega) (by show 0 ≤ seat ∧ seat < (20 : Int); have h1 := hw.1; have h2 := hw.2.1; have h3 := hw.2.2 row; omega) (fun r16 => ?_)
    refine aw_goto (tgt := 21) dX2_ownerOf_17 (by decide) ?_
    exact aw_iret dX2_ownerOf_21 rfl rfl (by decide) (by decide) ⟨congrArg (fun z => Sum.inl (some z)) (by first | rfl | omega), (by rfl)⟩
  · refine aw_if_eq (tgt := 20) dX2_ownerOf_6 (by decide) (by decide) (fun _ => ?_) (fun h => absurd (by decide) h)
    refine aw_iconst dX2_ownerOf_20 ?_
    exact aw_iret dX2_ownerOf_21 rfl rfl (by decide) (by decide) ⟨congrArg (fun z => Sum.inl (some z)) (by first | rfl | omega), (by rfl)⟩
set_option maxHeartbeats 4000000 in
set_option maxRecDepth 20000 in
theorem c_X2_isFree {K : WPar} {l : Launch} (hst : l.stackTraces = false) (M : Mem) (row : Int) (seat : Int) (r_row : inR row) (r_seat : inR seat) (hw : HW M) : CT K l iX2_isFree [rV K 1 0, iV (row), iV (seat)] M (rB (0 ≤ row ∧ row < M 1 0 4 ∧ fr (M 2 0 row) (M 6 row) seat) (M)) := by
  refine aw_met [some (rV K 1 0), some (iV (row)), some (iV (seat))] hst (by decide) rfl (Nat.le_of_ble_eq_true rfl) rfl rfl (lcat rfl) ?_
  refine aw_rng (fun hM => ?_)
  refine aw_aload_n dX2_isFree_0 rfl rfl ?_
  refine aw_iload_n dX2_isFree_1 rfl rfl ?_
  refine aw_iload_n dX2_isFree_2 rfl rfl ?_
  refine aw_cVb (g := 1) (As := [iV (row), iV (seat)]) (rest := []) (c_X2_hasSeat hst M (row) (seat) (by have h1 := hw.1; have h2 := hw.2.1; have h3 := hw.2.2 row; omega) (by have h1 := hw.1; have h2 := hw.2.1; have h3 := hw.2.2 row; omega) (by have h1 := hw.1; have h2 := hw.2.1; have h3 := hw.2.2 row; omega)) cv_X2_hasSeat dX2_isFree_3 ml_X2_30 rfl rfl rfl rfl rfl (Nat.le_of_ble_eq_true rfl) (by decide) rfl rfl (by decide) (fun h3 => ?_) (fun h3 => ?_)
  · refine aw_if_eq (tgt := 24) dX2_isFree_6 (by decide) (by decide) (fun h => absurd h (by decide)) (fun _ => ?_)
    refine aw_aload_n dX2_isFree_9 rfl rfl ?_
    refine aw_getr (g := 1) rfl rfl ly_X2 rfl (k := 3) dX2_isFree_10 (by decide) fl_X2_23 rfl ?_
    refine aw_iload_n dX2_isFree_13 rfl rfl ?_
    refine aw_aald (g := 5) (n := 12) rfl (by decide) rfl dX2_isFree_14 (by show 0 ≤ row ∧ row < (12 : Int); have h1 := hw.1; have h2 := hw.2.1; have h3 := hw.2.2 row; omega) ?_
    refine aw_iload_n dX2_isFree_15 rfl rfl ?_
    refine aw_iald (g := 6) (n := 20) rfl (by decide) dX2_isFree_16 (by show 0 ≤ row ∧ row < (12 : Int); have h1 := hw.1; have h2 := hw.2.1; have h3 := hw.2.2 row; omega) (by show 0 ≤ seat ∧ seat < (20 : Int); have h1 := hw.1; have h2 := hw.2.1; have h3 := hw.2.2 row; omega) (fun r16 => ?_)
    refine aw_if_ne (tgt := 24) dX2_isFree_17 (by decide) (by have h1 := hw.1; have h2 := hw.2.1; have h3 := hw.2.2 row; omega) (fun h17 => ?_) (fun h17 => ?_)
    · refine aw_iconst dX2_isFree_24 ?_
      exact aw_iret dX2_isFree_25 rfl rfl (by decide) (by decide) ⟨Or.inr ⟨rfl, by have h1 := hw.1; have h2 := hw.2.1; have h3 := hw.2.2 row; omega⟩, (by rfl)⟩
    · refine aw_iconst dX2_isFree_20 ?_
      refine aw_goto (tgt := 25) dX2_isFree_21 (by decide) ?_
      exact aw_iret dX2_isFree_25 rfl rfl (by decide) (by decide) ⟨Or.inl ⟨rfl, by have h1 := hw.1; have h2 := hw.2.1; have h3 := hw.2.2 row; omega⟩, (by rfl)⟩
  · refine aw_if_eq (tgt := 24) dX2_isFree_6 (by decide) (by decide) (fun _ => ?_) (fun h => absurd (by decide) h)
    refine aw_iconst dX2_isFree_24 ?_
    exact aw_iret dX2_isFree_25 rfl rfl (by decide) (by decide) ⟨Or.inr ⟨rfl, by have h1 := hw.1; have h2 := hw.2.1; have h3 := hw.2.2 row; omega⟩, (by rfl)⟩
set_option maxHeartbeats 4000000 in
set_option maxRecDepth 20000 in
theorem c_X2_seatValue {K : WPar} {l : Launch} (hst : l.stackTraces = false) (M : Mem) (row : Int) (seat : Int) (r_row : inR row) (r_seat : inR seat) (hw : HW M) : CT K l iX2_seatValue [rV K 1 0, iV (row), iV (seat)] M (rI (if 0 ≤ row ∧ row < M 1 0 4 ∧ 0 ≤ seat ∧ seat < M 2 0 row then vS (M 3 0 row) (M 2 0 row) seat else 0) (M)) := by
  refine aw_met [some (rV K 1 0), some (iV (row)), some (iV (seat))] hst (by decide) rfl (Nat.le_of_ble_eq_true rfl) rfl rfl (lcat rfl) ?_
  refine aw_rng (fun hM => ?_)
  refine aw_aload_n dX2_seatValue_0 rfl rfl ?_
  refine aw_iload_n dX2_seatValue_1 rfl rfl ?_
  refine aw_iload_n dX2_seatValue_2 rfl rfl ?_
  refine aw_cVb (g := 1) (As := [iV (row), iV (seat)]) (rest := []) (c_X2_hasSeat hst M (row) (seat) (by have h1 := hw.1; have h2 := hw.2.1; have h3 := hw.2.2 row; omega) (by have h1 := hw.1; have h2 := hw.2.1; have h3 := hw.2.2 row; omega) (by have h1 := hw.1; have h2 := hw.2.1; have h3 := hw.2.2 row; omega)) cv_X2_hasSeat dX2_seatValue_3 ml_X2_30 rfl rfl rfl rfl rfl (Nat.le_of_ble_eq_true rfl) (by decide) rfl rfl (by decide) (fun h3 => ?_) (fun h3 => ?_)
  · refine aw_if_eq (tgt := 34) dX2_seatValue_6 (by decide) (by decide) (fun h => absurd h (by decide)) (fun _ => ?_)
    refine aw_aload_n dX2_seatValue_9 rfl rfl ?_
    refine aw_getr (g := 1) rfl rfl ly_X2 rfl (k := 1) dX2_seatValue_10 (by decide) fl_X2_15 rfl ?_
    refine aw_iload_n dX2_seatValue_13 rfl rfl ?_
    refine aw_iald (g := 3) (n := 12) rfl (by decide) dX2_seatValue_14 (by decide) (by show 0 ≤ row ∧ row < (12 : Int); have h1 := hw.1; have h2 := hw.2.1; have h3 := hw.2.2 row; omega) (fun r14 => ?_)
    refine aw_iconst dX2_seatValue_15 ?_
    refine aw_iload_n dX2_seatValue_16 rfl rfl ?_
    refine aw_imul dX2_seatValue_17 ?_
    refine aw_aload_n dX2_seatValue_18 rfl rfl ?_
    refine aw_getr (g := 1) rfl rfl ly_X2 rfl (k := 0) dX2_seatValue_19 (by decide) fl_X2_9 rfl ?_
    refine aw_iload_n dX2_seatValue_22 rfl rfl ?_
    refine aw_iald (g := 2) (n := 12) rfl (by decide) dX2_seatValue_23 (by decide) (by show 0 ≤ row ∧ row < (12 : Int); have h1 := hw.1; have h2 := hw.2.1; have h3 := hw.2.2 row; omega) (fun r23 => ?_)
    refine aw_iconst dX2_seatValue_24 ?_
    refine aw_isub dX2_seatValue_25 ?_
    refine aw_isub dX2_seatValue_26 ?_
    refine aw_mabs (by have h1 := hw.1; have h2 := hw.2.1; have h3 := hw.2.2 row; omega) dX2_seatValue_27 ml_X2_34 (by decide) (Nat.le_of_ble_eq_true rfl) (by decide) (by decide) ?_
    refine aw_isub dX2_seatValue_30 ?_
    refine aw_goto (tgt := 35) dX2_seatValue_31 (by decide) ?_
    exact aw_iret dX2_seatValue_35 rfl rfl (by decide) (by decide) ⟨congrArg (fun z => Sum.inl (some z)) (by unfold vS; have h1 := hw.1; have h2 := hw.2.1; have h3 := hw.2.2 row; omega), (by rfl)⟩
  · refine aw_if_eq (tgt := 34) dX2_seatValue_6 (by decide) (by decide) (fun _ => ?_) (fun h => absurd (by decide) h)
    refine aw_iconst dX2_seatValue_34 ?_
    exact aw_iret dX2_seatValue_35 rfl rfl (by decide) (by decide) ⟨congrArg (fun z => Sum.inl (some z)) (by unfold vS; have h1 := hw.1; have h2 := hw.2.1; have h3 := hw.2.2 row; omega), (by rfl)⟩
set_option maxHeartbeats 4000000 in
set_option maxRecDepth 20000 in
theorem c_X2_append {K : WPar} {l : Launch} (hst : l.stackTraces = false) (M : Mem) (seats : Int) (score : Int) (price : Int) (r_seats : inR seats) (r_score : inR score) (r_price : inR price) (hw : HW M) (v_app : M 1 0 4 < 12 ∧ 1 ≤ seats ∧ seats ≤ 20) : CT K l iX2_append [rV K 1 0, iV (seats), iV (score), iV (price)] M (rI (M 1 0 4) (updM (updM (updM (updM M 2 0 (M 1 0 4) seats) 3 0 (M 1 0 4) score) 4 0 (M 1 0 4) price) 1 0 4 (M 1 0 4 + 1))) := by
  refine aw_met [some (rV K 1 0), some (iV (seats)), some (iV (score)), some (iV (price))] hst (by decide) rfl (Nat.le_of_ble_eq_true rfl) rfl rfl (lcat rfl) ?_
  refine aw_rng (fun hM => ?_)
  refine aw_aload_n dX2_append_0 rfl rfl ?_
  refine aw_geti (g := 1) rfl rfl ly_X2 rfl (k := 4) 4 rfl dX2_append_1 (by decide) fl_X2_26 rfl (fun r1 => ?_)
  refine aw_bipush dX2_append_4 rfl ?_
  refine aw_icmp_ge (tgt := 20) dX2_append_6 (by decide) (by have h1 := hw.1; omega) (by have h1 := hw.1; omega) (fun h6 => absurd h6 (by have h1 := hw.1; omega)) (fun h6 => ?_)
  refine aw_iload_n dX2_append_9 rfl rfl ?_
  refine aw_iconst dX2_append_10 ?_
  refine aw_icmp_lt (tgt := 20) dX2_append_11 (by decide) (by have h1 := hw.1; omega) (by have h1 := hw.1; omega) (fun h11 => absurd h11 (by have h1 := hw.1; omega)) (fun h11 => ?_)
  refine aw_iload_n dX2_append_14 rfl rfl ?_
  refine aw_bipush dX2_append_15 rfl ?_
  refine aw_icmp_le (tgt := 22) dX2_append_17 (by decide) (by have h1 := hw.1; omega) (by have h1 := hw.1; omega) (fun h17 => ?_) (fun h17 => absurd (by have h1 := hw.1; omega) h17)
  refine aw_aload_n dX2_append_22 rfl rfl ?_
  refine aw_getr (g := 1) rfl rfl ly_X2 rfl (k := 0) dX2_append_23 (by decide) fl_X2_9 rfl ?_
  refine aw_aload_n dX2_append_26 rfl rfl ?_
  refine aw_geti (g := 1) rfl rfl ly_X2 rfl (k := 4) 4 rfl dX2_append_27 (by decide) fl_X2_26 rfl (fun r27 => ?_)
  refine aw_iload_n dX2_append_30 rfl rfl ?_
  refine aw_iast (g := 2) (n := 12) (M' := updM M 2 0 (M 1 0 4) seats) rfl (by decide) dX2_append_31 (by decide) (by show 0 ≤ (M 1 0 4) ∧ (M 1 0 4) < (12 : Int); have h1 := hw.1; omega) (by have h1 := hw.1; omega) rfl ?_
  refine aw_aload_n dX2_append_32 rfl rfl ?_
  refine aw_getr (g := 1) rfl rfl ly_X2 rfl (k := 1) dX2_append_33 (by decide) fl_X2_15 rfl ?_
  refine aw_aload_n dX2_append_36 rfl rfl ?_
  refine aw_geti (g := 1) rfl rfl ly_X2 rfl (k := 4) 4 rfl dX2_append_37 (by decide) fl_X2_26 rfl (fun r37 => ?_)
  refine aw_st (st' := [iV (M 1 0 4), rV K 3 0]) (by rw [show ((updM M 2 0 (M 1 0 4) seats) 1 0 4 : Int) = M 1 0 4 from by simp [updM_g, updM_same]]) ?_
  refine aw_iload_n dX2_append_40 rfl rfl ?_
  refine aw_iast (g := 3) (n := 12) (M' := updM (updM M 2 0 (M 1 0 4) seats) 3 0 (M 1 0 4) score) rfl (by decide) dX2_append_41 (by decide) (by show 0 ≤ (M 1 0 4) ∧ (M 1 0 4) < (12 : Int); have h1 := hw.1; omega) (by have h1 := hw.1; omega) rfl ?_
  refine aw_aload_n dX2_append_42 rfl rfl ?_
  refine aw_getr (g := 1) rfl rfl ly_X2 rfl (k := 2) dX2_append_43 (by decide) fl_X2_18 rfl ?_
  refine aw_aload_n dX2_append_46 rfl rfl ?_
  refine aw_geti (g := 1) rfl rfl ly_X2 rfl (k := 4) 4 rfl dX2_append_47 (by decide) fl_X2_26 rfl (fun r47 => ?_)
  refine aw_st (st' := [iV (M 1 0 4), rV K 4 0]) (by rw [show ((updM (updM M 2 0 (M 1 0 4) seats) 3 0 (M 1 0 4) score) 1 0 4 : Int) = M 1 0 4 from by simp [updM_g, updM_same]]) ?_
  refine aw_iload_n dX2_append_50 rfl rfl ?_
  refine aw_iast (g := 4) (n := 12) (M' := updM (updM (updM M 2 0 (M 1 0 4) seats) 3 0 (M 1 0 4) score) 4 0 (M 1 0 4) price) rfl (by decide) dX2_append_51 (by decide) (by show 0 ≤ (M 1 0 4) ∧ (M 1 0 4) < (12 : Int); have h1 := hw.1; omega) (by have h1 := hw.1; omega) rfl ?_
  refine aw_aload_n dX2_append_52 rfl rfl ?_
  refine aw_dup dX2_append_53 rfl ?_
  refine aw_geti (g := 1) rfl rfl ly_X2 rfl (k := 4) 4 rfl dX2_append_54 (by decide) fl_X2_26 rfl (fun r54 => ?_)
  refine aw_st (st' := [iV (M 1 0 4), rV K 1 0]) (by rw [show ((updM (updM (updM M 2 0 (M 1 0 4) seats) 3 0 (M 1 0 4) score) 4 0 (M 1 0 4) price) 1 0 4 : Int) = M 1 0 4 from by simp [updM_g, updM_same]]) ?_
  refine aw_iconst dX2_append_57 ?_
  refine aw_iadd dX2_append_58 ?_
  refine aw_puti (g := 1) tyX2 tyX2_ok nmX2 rfl rfl ly_X2 rfl (k := 4) 4 rfl (M' := updM (updM (updM (updM M 2 0 (M 1 0 4) seats) 3 0 (M 1 0 4) score) 4 0 (M 1 0 4) price) 1 0 4 ((M 1 0 4) + 1)) dX2_append_59 (by decide) fl_X2_26 rfl rfl (by decide +kernel) (by have h1 := hw.1; omega) rfl ?_
  refine aw_aload_n dX2_append_62 rfl rfl ?_
  refine aw_geti (g := 1) rfl rfl ly_X2 rfl (k := 4) 4 rfl dX2_append_63 (by decide) fl_X2_26 rfl (fun r63 => ?_)
  refine aw_st (st' := [iV (M 1 0 4 + 1)]) (by rw [show ((updM (updM (updM (updM M 2 0 (M 1 0 4) seats) 3 0 (M 1 0 4) score) 4 0 (M 1 0 4) price) 1 0 4 ((M 1 0 4) + 1)) 1 0 4 : Int) = M 1 0 4 + 1 from by simp [updM_g, updM_same]]) ?_
  refine aw_iconst dX2_append_66 ?_
  refine aw_isub dX2_append_67 ?_
  exact aw_iret dX2_append_68 rfl rfl (by decide) (by decide) ⟨congrArg (fun z => Sum.inl (some z)) (by first | rfl | omega), (by rfl)⟩
set_option maxHeartbeats 4000000 in
set_option maxRecDepth 20000 in
theorem c_X2_countFree {K : WPar} {l : Launch} (hst : l.stackTraces = false) (M : Mem) (row : Int) (r_row : inR row) (hw : HW M) (v_row : 0 ≤ row ∧ row < M 1 0 4) : CT K l iX2_countFree [rV K 1 0, iV (row)] M (rI (sumI (fun s => if M 6 row s = 0 then 1 else 0) (M 2 0 row)) (M)) := by
  refine aw_met [some (rV K 1 0), some (iV (row)), none, none] hst (by decide) rfl (Nat.le_of_ble_eq_true rfl) rfl rfl (lcat rfl) ?_
  refine aw_rng (fun hM => ?_)
  refine aw_iconst dX2_countFree_0 ?_
  refine aw_istore_n (L2 := [some (rV K 1 0), some (iV (row)), some (iV 0), none]) dX2_countFree_1 rfl (by decide) rfl ?_
  refine aw_iconst dX2_countFree_2 ?_
  refine aw_istore_n (L2 := [some (rV K 1 0), some (iV (row)), some (iV 0), some (iV 0)]) dX2_countFree_3 rfl (by decide) rfl ?_
  have lp4 : ∀ (n4 : Nat) (acc seat : Int), (0 ≤ seat ∧ seat ≤ M 2 0 row) → (acc = sumI (fun s => if M 6 row s = 0 then 1 else 0) seat) → ((M 2 0 row - seat).toNat) < n4 → AW K l iX2_countFree (ZM K iX2_countFree (rI (sumI (fun s => if M 6 row s = 0 then 1 else 0) (M 2 0 row)) (M))) 4 [some (rV K 1 0), some (iV (row)), some (iV (acc)), some (iV (seat))] [] (M) 0 0 := by
    intro n4
    induction n4 with
    | zero =>
      intro acc seat e1 e2 hm4
      exact absurd hm4 (Nat.not_lt_zero _)
    | succ n4 ih4 =>
      intro acc seat e1 e2 hm4
      refine aw_iload_n dX2_countFree_4 rfl rfl ?_
      refine aw_aload_n dX2_countFree_5 rfl rfl ?_
      refine aw_iload_n dX2_countFree_6 rfl rfl ?_
      refine aw_cVi (g := 1) (As := [iV (row)]) (rest := [iV (seat)]) (c_X2_seatsIn hst M (row) (by have h1 := hw.1; have h2 := hw.2.1; have h3 := hw.2.2 row v_row.1 v_row.2; omega) (by have h1 := hw.1; have h2 := hw.2.1; have h3 := hw.2.2 row v_row.1 v_row.2; omega)) cv_X2_seatsIn dX2_countFree_7 ml_X2_40 rfl rfl rfl rfl rfl (Nat.le_of_ble_eq_true rfl) (by decide) rfl rfl (by decide) ?_
      refine aw_icmp_ge (tgt := 31) dX2_countFree_10 (by decide) (by have h1 := hw.1; have h2 := hw.2.1; have h3 := hw.2.2 row v_row.1 v_row.2; omega) (by have h1 := hw.1; have h2 := hw.2.1; have h3 := hw.2.2 row v_row.1 v_row.2; omega) (fun h10 => ?_) (fun h10 => ?_)
      · refine aw_iload_n dX2_countFree_31 rfl rfl ?_
        exact aw_iret dX2_countFree_32 rfl rfl (by decide) (by decide) ⟨congrArg (fun z => Sum.inl (some z)) (by have q : seat = M 2 0 row := (by have h1 := hw.1; have h2 := hw.2.1; have h3 := hw.2.2 row v_row.1 v_row.2; omega); rw [e2, q]), (by rfl)⟩
      · refine aw_aload_n dX2_countFree_13 rfl rfl ?_
        refine aw_iload_n dX2_countFree_14 rfl rfl ?_
        refine aw_iload_n dX2_countFree_15 rfl rfl ?_
        refine aw_cVb (g := 1) (As := [iV (row), iV (seat)]) (rest := []) (c_X2_isFree hst M (row) (seat) (by have h1 := hw.1; have h2 := hw.2.1; have h3 := hw.2.2 row v_row.1 v_row.2; omega) (by have h1 := hw.1; have h2 := hw.2.1; have h3 := hw.2.2 row v_row.1 v_row.2; omega) (by have h1 := hw.1; have h2 := hw.2.1; have h3 := hw.2.2 row v_row.1 v_row.2; omega)) cv_X2_isFree dX2_countFree_16 ml_X2_43 rfl rfl rfl rfl rfl (Nat.le_of_ble_eq_true rfl) (by decide) rfl rfl (by decide) (fun h16 => ?_) (fun h16 => ?_)
        · refine aw_if_eq (tgt := 25) dX2_countFree_19 (by decide) (by decide) (fun h => absurd h (by decide)) (fun _ => ?_)
          refine aw_iinc (L2 := [some (rV K 1 0), some (iV (row)), some (iV (acc + 1)), some (iV (seat))]) dX2_countFree_22 rfl (by decide) rfl ?_
          refine aw_iinc (L2 := [some (rV K 1 0), some (iV (row)), some (iV (acc + 1)), some (iV (seat + 1))]) dX2_countFree_25 rfl (by decide) rfl ?_
          refine aw_goto (tgt := 4) dX2_countFree_28 (by decide) ?_
          exact ih4 (acc + 1) (seat + 1) (by have h1 := hw.1; have h2 := hw.2.1; have h3 := hw.2.2 row v_row.1 v_row.2; omega) (by rw [sumI_s e1.1, e2]; have h1 := hw.1; have h2 := hw.2.1; have h3 := hw.2.2 row v_row.1 v_row.2; omega) (by have h1 := hw.1; have h2 := hw.2.1; have h3 := hw.2.2 row v_row.1 v_row.2; omega)
        · refine aw_if_eq (tgt := 25) dX2_countFree_19 (by decide) (by decide) (fun _ => ?_) (fun h => absurd (by decide) h)
          refine aw_iinc (L2 := [some (rV K 1 0), some (iV (row)), some (iV (acc)), some (iV (seat + 1))]) dX2_countFree_25 rfl (by decide) rfl ?_
          refine aw_goto (tgt := 4) dX2_countFree_28 (by decide) ?_
          exact ih4 (acc) (seat + 1) (by have h1 := hw.1; have h2 := hw.2.1; have h3 := hw.2.2 row v_row.1 v_row.2; omega) (by rw [sumI_s e1.1, e2]; have h1 := hw.1; have h2 := hw.2.1; have h3 := hw.2.2 row v_row.1 v_row.2; omega) (by have h1 := hw.1; have h2 := hw.2.1; have h3 := hw.2.2 row v_row.1 v_row.2; omega)
  exact lp4 (((M 2 0 row - 0).toNat) + 1) (0) (0) (by have h1 := hw.1; have h2 := hw.2.1; have h3 := hw.2.2 row v_row.1 v_row.2; omega) (by rfl) (Nat.lt_succ_self _)
set_option maxHeartbeats 4000000 in
set_option maxRecDepth 20000 in
theorem c_X2_countOrphans {K : WPar} {l : Launch} (hst : l.stackTraces = false) (M : Mem) (hw : HW M) : CT K l iX2_countOrphans [rV K 1 0] M (rI (sumI (fun r => sumI (orC (M 2 0 r) (M 6 r)) (M 2 0 r)) (M 1 0 4)) (M)) := by
  refine aw_met [some (rV K 1 0), none, none, none] hst (by decide) rfl (Nat.le_of_ble_eq_true rfl) rfl rfl (lcat rfl) ?_
  refine aw_rng (fun hM => ?_)
  refine aw_iconst dX2_countOrphans_0 ?_
  refine aw_istore_n (L2 := [some (rV K 1 0), some (iV 0), none, none]) dX2_countOrphans_1 rfl (by decide) rfl ?_
  refine aw_iconst dX2_countOrphans_2 ?_
  refine aw_istore_n (L2 := [some (rV K 1 0), some (iV 0), some (iV 0), none]) dX2_countOrphans_3 rfl (by decide) rfl ?_
  have lp4 : ∀ (n4 : Nat) (acc row : Int), (0 ≤ row ∧ row ≤ M 1 0 4) → (acc = sumI (fun r => sumI (orC (M 2 0 r) (M 6 r)) (M 2 0 r)) row) → ((M 1 0 4 - row).toNat) < n4 → AW K l iX2_countOrphans (ZM K iX2_countOrphans (rI (sumI (fun r => sumI (orC (M 2 0 r) (M 6 r)) (M 2 0 r)) (M 1 0 4)) (M))) 4 [some (rV K 1 0), some (iV (acc)), some (iV (row)), none] [] (M) 0 0 := by
    intro n4
    induction n4 with
    | zero =>
      intro acc row e1 e2 hm4
      exact absurd hm4 (Nat.not_lt_zero _)
    | succ n4 ih4 =>
      intro acc row e1 e2 hm4
      refine aw_iload_n dX2_countOrphans_4 rfl rfl ?_
      refine aw_aload_n dX2_countOrphans_5 rfl rfl ?_
      refine aw_geti (g := 1) rfl rfl ly_X2 rfl (k := 4) 4 rfl dX2_countOrphans_6 (by decide) fl_X2_26 rfl (fun r6 => ?_)
      refine aw_icmp_ge (tgt := 69) dX2_countOrphans_9 (by decide) (by have h1 := hw.1; have h2 := hw.2.1; omega) (by have h1 := hw.1; have h2 := hw.2.1; omega) (fun h9 => ?_) (fun h9 => ?_)
      · refine aw_iload_n dX2_countOrphans_69 rfl rfl ?_
        exact aw_iret dX2_countOrphans_70 rfl rfl (by decide) (by decide) ⟨congrArg (fun z => Sum.inl (some z)) (by have q : row = M 1 0 4 := (by omega); rw [e2, q]), (by rfl)⟩
      · refine aw_iconst dX2_countOrphans_12 ?_
        refine aw_istore_n (L2 := [some (rV K 1 0), some (iV (acc)), some (iV (row)), some (iV 0)]) dX2_countOrphans_13 rfl (by decide) rfl ?_
        have lp14 : ∀ (n14 : Nat) (ac2 seat : Int), (0 ≤ seat ∧ seat ≤ M 2 0 row) → (ac2 = acc + sumI (orC (M 2 0 row) (M 6 row)) seat) → ((M 2 0 row - seat).toNat) < n14 → AW K l iX2_countOrphans (ZM K iX2_countOrphans (rI (sumI (fun r => sumI (orC (M 2 0 r) (M 6 r)) (M 2 0 r)) (M 1 0 4)) (M))) 14 [some (rV K 1 0), some (iV (ac2)), some (iV (row)), some (iV (seat))] [] (M) 0 0 := by
          intro n14
          induction n14 with
          | zero =>
            intro ac2 seat f1 f2 hm14
            exact absurd hm14 (Nat.not_lt_zero _)
          | succ n14 ih14 =>
            intro ac2 seat f1 f2 hm14
            refine aw_iload_n dX2_countOrphans_14 rfl rfl ?_
            refine aw_aload_n dX2_countOrphans_15 rfl rfl ?_
            refine aw_iload_n dX2_countOrphans_16 rfl rfl ?_
            refine aw_cVi (g := 1) (As := [iV (row)]) (rest := [iV (seat)]) (c_X2_seatsIn hst M (row) (by have h1 := hw.1; have h2 := hw.2.1; have h3 := hw.2.2 row (by omega) (by omega); omega) (by have h1 := hw.1; have h2 := hw.2.1; have h3 := hw.2.2 row (by omega) (by omega); omega)) cv_X2_seatsIn dX2_countOrphans_17 ml_X2_40 rfl rfl rfl rfl rfl (Nat.le_of_ble_eq_true rfl) (by decide) rfl rfl (by decide) ?_
            refine aw_icmp_ge (tgt := 63) dX2_countOrphans_20 (by decide) (by have h1 := hw.1; have h2 := hw.2.1; have h3 := hw.2.2 row (by omega) (by omega); omega) (by have h1 := hw.1; have h2 := hw.2.1; have h3 := hw.2.2 row (by omega) (by omega); omega) (fun h20 => ?_) (fun h20 => ?_)
            · refine aw_iinc (L2 := [some (rV K 1 0), some (iV (ac2)), some (iV (row + 1)), some (iV (seat))]) dX2_countOrphans_63 rfl (by decide) rfl ?_
              refine aw_goto (tgt := 4) dX2_countOrphans_66 (by decide) ?_
              refine aw_weak (L' := [some (rV K 1 0), some (iV (ac2)), some (iV (row + 1)), none]) ⟨Or.inr rfl, Or.inr rfl, Or.inr rfl, Or.inl rfl, trivial⟩ ?_
              exact ih4 (ac2) (row + 1) (by omega) (by have q : seat = M 2 0 row := (by have h1 := hw.1; have h2 := hw.2.1; have h3 := hw.2.2 row (by omega) (by omega); omega); rw [sumI_s e1.1, f2, q, ← e2]) (by omega)
            · refine aw_aload_n dX2_countOrphans_23 rfl rfl ?_
              refine aw_iload_n dX2_countOrphans_24 rfl rfl ?_
              refine aw_iload_n dX2_countOrphans_25 rfl rfl ?_
              refine aw_cVb (g := 1) (As := [iV (row), iV (seat)]) (rest := []) (c_X2_isFree hst M (row) (seat) (by have h1 := hw.1; have h2 := hw.2.1; have h3 := hw.2.2 row (by omega) (by omega); omega) (by have h1 := hw.1; have h2 := hw.2.1; have h3 := hw.2.2 row (by omega) (by omega); omega) (by have h1 := hw.1; have h2 := hw.2.1; have h3 := hw.2.2 row (by omega) (by omega); omega)) cv_X2_isFree dX2_countOrphans_26 ml_X2_43 rfl rfl rfl rfl rfl (Nat.le_of_ble_eq_true rfl) (by decide) rfl rfl (by decide) (fun h26 => ?_) (fun h26 => ?_)
              · refine aw_if_eq (tgt := 57) dX2_countOrphans_29 (by decide) (by decide) (fun h => absurd h (by decide)) (fun _ => ?_)
                refine aw_aload_n dX2_countOrphans_32 rfl rfl ?_
                refine aw_iload_n dX2_countOrphans_33 rfl rfl ?_
                refine aw_iload_n dX2_countOrphans_34 rfl rfl ?_
                refine aw_iconst dX2_countOrphans_35 ?_
                refine aw_isub dX2_countOrphans_36 ?_
                refine aw_cVb (g := 1) (As := [iV (row), iV (seat - 1)]) (rest := []) (c_X2_isFree hst M (row) (seat - 1) (by have h1 := hw.1; have h2 := hw.2.1; have h3 := hw.2.2 row (by omega) (by omega); omega) (by have h1 := hw.1; have h2 := hw.2.1; have h3 := hw.2.2 row (by omega) (by omega); omega) (by have h1 := hw.1; have h2 := hw.2.1; have h3 := hw.2.2 row (by omega) (by omega); omega)) cv_X2_isFree dX2_countOrphans_37 ml_X2_43 rfl rfl rfl rfl rfl (Nat.le_of_ble_eq_true rfl) (by decide) rfl rfl (by decide) (fun h37 => ?_) (fun h37 => ?_)
                · refine aw_if_ne (tgt := 57) dX2_countOrphans_40 (by decide) (by decide) (fun _ => ?_) (fun h => absurd h (by decide))
                  refine aw_iinc (L2 := [some (rV K 1 0), some (iV (ac2)), some (iV (row)), some (iV (seat + 1))]) dX2_countOrphans_57 rfl (by decide) rfl ?_
                  refine aw_goto (tgt := 14) dX2_countOrphans_60 (by decide) ?_
                  exact ih14 (ac2) (seat + 1) (by have h1 := hw.1; have h2 := hw.2.1; have h3 := hw.2.2 row (by omega) (by omega); omega) (by rw [sumI_s f1.1, f2]; unfold orC; have h1 := hw.1; have h2 := hw.2.1; have h3 := hw.2.2 row (by omega) (by omega); omega) (by have h1 := hw.1; have h2 := hw.2.1; have h3 := hw.2.2 row (by omega) (by omega); omega)
                · refine aw_if_ne (tgt := 57) dX2_countOrphans_40 (by decide) (by decide) (fun h => absurd h (by decide)) (fun _ => ?_)
                  refine aw_aload_n dX2_countOrphans_43 rfl rfl ?_
                  refine aw_iload_n dX2_countOrphans_44 rfl rfl ?_
                  refine aw_iload_n dX2_countOrphans_45 rfl rfl ?_
                  refine aw_iconst dX2_countOrphans_46 ?_
                  refine aw_iadd dX2_countOrphans_47 ?_
                  refine aw_cVb (g := 1) (As := [iV (row), iV (seat + 1)]) (rest := []) (c_X2_isFree hst M (row) (seat + 1) (by have h1 := hw.1; have h2 := hw.2.1; have h3 := hw.2.2 row (by omega) (by omega); omega) (by have h1 := hw.1; have h2 := hw.2.1; have h3 := hw.2.2 row (by omega) (by omega); omega) (by have h1 := hw.1; have h2 := hw.2.1; have h3 := hw.2.2 row (by omega) (by omega); omega)) cv_X2_isFree dX2_countOrphans_48 ml_X2_43 rfl rfl rfl rfl rfl (Nat.le_of_ble_eq_true rfl) (by decide) rfl rfl (by decide) (fun h48 => ?_) (fun h48 => ?_)
                  · refine aw_if_ne (tgt := 57) dX2_countOrphans_51 (by decide) (by decide) (fun _ => ?_) (fun h => absurd h (by decide))
                    refine aw_iinc (L2 := [some (rV K 1 0), some (iV (ac2)), some (iV (row)), some (iV (seat + 1))]) dX2_countOrphans_57 rfl (by decide) rfl ?_
                    refine aw_goto (tgt := 14) dX2_countOrphans_60 (by decide) ?_
                    exact ih14 (ac2) (seat + 1) (by have h1 := hw.1; have h2 := hw.2.1; have h3 := hw.2.2 row (by omega) (by omega); omega) (by rw [sumI_s f1.1, f2]; unfold orC; have h1 := hw.1; have h2 := hw.2.1; have h3 := hw.2.2 row (by omega) (by omega); omega) (by have h1 := hw.1; have h2 := hw.2.1; have h3 := hw.2.2 row (by omega) (by omega); omega)
                  · refine aw_if_ne (tgt := 57) dX2_countOrphans_51 (by decide) (by decide) (fun h => absurd h (by decide)) (fun _ => ?_)
                    refine aw_iinc (L2 := [some (rV K 1 0), some (iV (ac2 + 1)), some (iV (row)), some (iV (seat))]) dX2_countOrphans_54 rfl (by decide) rfl ?_
                    refine aw_iinc (L2 := [some (rV K 1 0), some (iV (ac2 + 1)), some (iV (row)), some (iV (seat + 1))]) dX2_countOrphans_57 rfl (by decide) rfl ?_
                    refine aw_goto (tgt := 14) dX2_countOrphans_60 (by decide) ?_
                    exact ih14 (ac2 + 1) (seat + 1) (by have h1 := hw.1; have h2 := hw.2.1; have h3 := hw.2.2 row (by omega) (by omega); omega) (by rw [sumI_s f1.1, f2]; unfold orC; have h1 := hw.1; have h2 := hw.2.1; have h3 := hw.2.2 row (by omega) (by omega); omega) (by have h1 := hw.1; have h2 := hw.2.1; have h3 := hw.2.2 row (by omega) (by omega); omega)
              · refine aw_if_eq (tgt := 57) dX2_countOrphans_29 (by decide) (by decide) (fun _ => ?_) (fun h => absurd (by decide) h)
                refine aw_iinc (L2 := [some (rV K 1 0), some (iV (ac2)), some (iV (row)), some (iV (seat + 1))]) dX2_countOrphans_57 rfl (by decide) rfl ?_
                refine aw_goto (tgt := 14) dX2_countOrphans_60 (by decide) ?_
                exact ih14 (ac2) (seat + 1) (by have h1 := hw.1; have h2 := hw.2.1; have h3 := hw.2.2 row (by omega) (by omega); omega) (by rw [sumI_s f1.1, f2]; unfold orC; have h1 := hw.1; have h2 := hw.2.1; have h3 := hw.2.2 row (by omega) (by omega); omega) (by have h1 := hw.1; have h2 := hw.2.1; have h3 := hw.2.2 row (by omega) (by omega); omega)
        exact lp14 (((M 2 0 row - 0).toNat) + 1) (acc) (0) (by have h1 := hw.1; have h2 := hw.2.1; have h3 := hw.2.2 row (by omega) (by omega); omega) (by rw [sumI_0]; omega) (Nat.lt_succ_self _)
  exact lp4 (((M 1 0 4 - 0).toNat) + 1) (0) (0) (by exact ⟨Int.le_refl 0, hw.1⟩) (by rfl) (Nat.lt_succ_self _)
set_option maxHeartbeats 4000000 in
set_option maxRecDepth 20000 in
theorem c_X2_longestFreeIn {K : WPar} {l : Launch} (hst : l.stackTraces = false) (M : Mem) (row : Int) (r_row : inR row) (hw : HW M) (v_row : 0 ≤ row ∧ row < M 1 0 4) : CT K l iX2_longestFreeIn [rV K 1 0, iV (row)] M (rR (fun z => isLong (M 6 row) (M 2 0 row) z) (M)) := by
  refine aw_met [some (rV K 1 0), some (iV (row)), none, none, none] hst (by decide) rfl (Nat.le_of_ble_eq_true rfl) rfl rfl (lcat rfl) ?_
  refine aw_rng (fun hM => ?_)
  refine aw_iconst dX2_longestFreeIn_0 ?_
  refine aw_istore_n (L2 := [some (rV K 1 0), some (iV (row)), some (iV 0), none, none]) dX2_longestFreeIn_1 rfl (by decide) rfl ?_
  refine aw_iconst dX2_longestFreeIn_2 ?_
  refine aw_istore_n (L2 := [some (rV K 1 0), some (iV (row)), some (iV 0), some (iV 0), none]) dX2_longestFreeIn_3 rfl (by decide) rfl ?_
  refine aw_iconst dX2_longestFreeIn_4 ?_
  refine aw_istore (L2 := [some (rV K 1 0), some (iV (row)), some (iV 0), some (iV 0), some (iV 0)]) dX2_longestFreeIn_5 (by decide) rfl ?_
  have lp7 : ∀ (n7 : Nat) (lon rn seat : Int), (0 ≤ seat ∧ seat ≤ M 2 0 row) → (isLong (M 6 row) seat lon) → (isRun (M 6 row) seat rn) → ((M 2 0 row - seat).toNat) < n7 → AW K l iX2_longestFreeIn (ZM K iX2_longestFreeIn (rR (fun z => isLong (M 6 row) (M 2 0 row) z) (M))) 7 [some (rV K 1 0), some (iV (row)), some (iV (lon)), some (iV (rn)), some (iV (seat))] [] (M) 0 0 := by
    intro n7
    induction n7 with
    | zero =>
      intro lon rn seat e1 e2 e3 hm7
      exact absurd hm7 (Nat.not_lt_zero _)
    | succ n7 ih7 =>
      intro lon rn seat e1 e2 e3 hm7
      have b2 := isLong_bd e2; have b3 := e3.1; have b4 := e3.2.1
      refine aw_iload dX2_longestFreeIn_7 rfl ?_
      refine aw_aload_n dX2_longestFreeIn_9 rfl rfl ?_
      refine aw_iload_n dX2_longestFreeIn_10 rfl rfl ?_
      refine aw_cVi (g := 1) (As := [iV (row)]) (rest := [iV (seat)]) (c_X2_seatsIn hst M (row) (by have h1 := hw.1; have h2 := hw.2.1; have h3 := hw.2.2 row v_row.1 v_row.2; omega) (by have h1 := hw.1; have h2 := hw.2.1; have h3 := hw.2.2 row v_row.1 v_row.2; omega)) cv_X2_seatsIn dX2_longestFreeIn_11 ml_X2_40 rfl rfl rfl rfl rfl (Nat.le_of_ble_eq_true rfl) (by decide) rfl rfl (by decide) ?_
      refine aw_icmp_ge (tgt := 47) dX2_longestFreeIn_14 (by decide) (by have h1 := hw.1; have h2 := hw.2.1; have h3 := hw.2.2 row v_row.1 v_row.2; omega) (by have h1 := hw.1; have h2 := hw.2.1; have h3 := hw.2.2 row v_row.1 v_row.2; omega) (fun h14 => ?_) (fun h14 => ?_)
      · refine aw_iload_n dX2_longestFreeIn_47 rfl rfl ?_
        exact aw_iret dX2_longestFreeIn_48 rfl rfl (by decide) (by decide) ⟨lon, rfl, (by have q : seat = M 2 0 row := (by have h1 := hw.1; have h2 := hw.2.1; have h3 := hw.2.2 row v_row.1 v_row.2; omega); rw [← q]; exact e2), (by rfl)⟩
      · refine aw_aload_n dX2_longestFreeIn_17 rfl rfl ?_
        refine aw_iload_n dX2_longestFreeIn_18 rfl rfl ?_
        refine aw_iload dX2_longestFreeIn_19 rfl ?_
        refine aw_cVb (g := 1) (As := [iV (row), iV (seat)]) (rest := []) (c_X2_isFree hst M (row) (seat) (by have h1 := hw.1; have h2 := hw.2.1; have h3 := hw.2.2 row v_row.1 v_row.2; omega) (by have h1 := hw.1; have h2 := hw.2.1; have h3 := hw.2.2 row v_row.1 v_row.2; omega) (by have h1 := hw.1; have h2 := hw.2.1; have h3 := hw.2.2 row v_row.1 v_row.2; omega)) cv_X2_isFree dX2_longestFreeIn_21 ml_X2_43 rfl rfl rfl rfl rfl (Nat.le_of_ble_eq_true rfl) (by decide) rfl rfl (by decide) (fun h21 => ?_) (fun h21 => ?_)
        · refine aw_if_eq (tgt := 33) dX2_longestFreeIn_24 (by decide) (by decide) (fun h => absurd h (by decide)) (fun _ => ?_)
          refine aw_iload_n dX2_longestFreeIn_27 rfl rfl ?_
          refine aw_iconst dX2_longestFreeIn_28 ?_
          refine aw_iadd dX2_longestFreeIn_29 ?_
          refine aw_goto (tgt := 34) dX2_longestFreeIn_30 (by decide) ?_
          refine aw_istore_n (L2 := [some (rV K 1 0), some (iV (row)), some (iV (lon)), some (iV (rn + 1)), some (iV (seat))]) dX2_longestFreeIn_34 rfl (by decide) rfl ?_
          refine aw_iload_n dX2_longestFreeIn_35 rfl rfl ?_
          refine aw_iload_n dX2_longestFreeIn_36 rfl rfl ?_
          refine aw_mmax (by have h1 := hw.1; have h2 := hw.2.1; have h3 := hw.2.2 row v_row.1 v_row.2; omega) (by have h1 := hw.1; have h2 := hw.2.1; have h3 := hw.2.2 row v_row.1 v_row.2; omega) dX2_longestFreeIn_37 ml_X2_49 (by decide) (Nat.le_of_ble_eq_true rfl) (by decide) (by decide) ?_
          refine aw_istore_n (L2 := [some (rV K 1 0), some (iV (row)), some (iV (max lon (rn + 1))), some (iV (rn + 1)), some (iV (seat))]) dX2_longestFreeIn_40 rfl (by decide) rfl ?_
          refine aw_iinc (L2 := [some (rV K 1 0), some (iV (row)), some (iV (max lon (rn + 1))), some (iV (rn + 1)), some (iV (seat + 1))]) dX2_longestFreeIn_41 rfl (by decide) rfl ?_
          refine aw_goto (tgt := 7) dX2_longestFreeIn_44 (by decide) ?_
          exact ih7 (max lon (rn + 1)) (rn + 1) (seat + 1) (by have h1 := hw.1; have h2 := hw.2.1; have h3 := hw.2.2 row v_row.1 v_row.2; omega) (by first | exact (isLong_st e1.1 e2 e3 (by have h1 := hw.1; have h2 := hw.2.1; have h3 := hw.2.2 row v_row.1 v_row.2; omega)).1 | exact (isLong_sf e1.1 e2 e3 (by have h1 := hw.1; have h2 := hw.2.1; have h3 := hw.2.2 row v_row.1 v_row.2; omega)).1) (by first | exact (isLong_st e1.1 e2 e3 (by have h1 := hw.1; have h2 := hw.2.1; have h3 := hw.2.2 row v_row.1 v_row.2; omega)).2 | exact (isLong_sf e1.1 e2 e3 (by have h1 := hw.1; have h2 := hw.2.1; have h3 := hw.2.2 row v_row.1 v_row.2; omega)).2) (by have h1 := hw.1; have h2 := hw.2.1; have h3 := hw.2.2 row v_row.1 v_row.2; omega)
        · refine aw_if_eq (tgt := 33) dX2_longestFreeIn_24 (by decide) (by decide) (fun _ => ?_) (fun h => absurd (by decide) h)
          refine aw_iconst dX2_longestFreeIn_33 ?_
          refine aw_istore_n (L2 := [some (rV K 1 0), some (iV (row)), some (iV (lon)), some (iV 0), some (iV (seat))]) dX2_longestFreeIn_34 rfl (by decide) rfl ?_
          refine aw_iload_n dX2_longestFreeIn_35 rfl rfl ?_
          refine aw_iload_n dX2_longestFreeIn_36 rfl rfl ?_
          refine aw_mmax (by have h1 := hw.1; have h2 := hw.2.1; have h3 := hw.2.2 row v_row.1 v_row.2; omega) (by have h1 := hw.1; have h2 := hw.2.1; have h3 := hw.2.2 row v_row.1 v_row.2; omega) dX2_longestFreeIn_37 ml_X2_49 (by decide) (Nat.le_of_ble_eq_true rfl) (by decide) (by decide) ?_
          refine aw_istore_n (L2 := [some (rV K 1 0), some (iV (row)), some (iV (max lon 0)), some (iV 0), some (iV (seat))]) dX2_longestFreeIn_40 rfl (by decide) rfl ?_
          refine aw_iinc (L2 := [some (rV K 1 0), some (iV (row)), some (iV (max lon 0)), some (iV 0), some (iV (seat + 1))]) dX2_longestFreeIn_41 rfl (by decide) rfl ?_
          refine aw_goto (tgt := 7) dX2_longestFreeIn_44 (by decide) ?_
          exact ih7 (max lon 0) (0) (seat + 1) (by have h1 := hw.1; have h2 := hw.2.1; have h3 := hw.2.2 row v_row.1 v_row.2; omega) (by first | exact (isLong_st e1.1 e2 e3 (by have h1 := hw.1; have h2 := hw.2.1; have h3 := hw.2.2 row v_row.1 v_row.2; omega)).1 | exact (isLong_sf e1.1 e2 e3 (by have h1 := hw.1; have h2 := hw.2.1; have h3 := hw.2.2 row v_row.1 v_row.2; omega)).1) (by first | exact (isLong_st e1.1 e2 e3 (by have h1 := hw.1; have h2 := hw.2.1; have h3 := hw.2.2 row v_row.1 v_row.2; omega)).2 | exact (isLong_sf e1.1 e2 e3 (by have h1 := hw.1; have h2 := hw.2.1; have h3 := hw.2.2 row v_row.1 v_row.2; omega)).2) (by have h1 := hw.1; have h2 := hw.2.1; have h3 := hw.2.2 row v_row.1 v_row.2; omega)
  exact lp7 (((M 2 0 row - 0).toNat) + 1) (0) (0) (0) (by have h1 := hw.1; have h2 := hw.2.1; have h3 := hw.2.2 row v_row.1 v_row.2; omega) (by exact isLong_0 _) (by exact isRun_0 _) (Nat.lt_succ_self _)
set_option maxHeartbeats 4000000 in
set_option maxRecDepth 20000 in
theorem c_X2_longestFree {K : WPar} {l : Launch} (hst : l.stackTraces = false) (M : Mem) (hw : HW M) : CT K l iX2_longestFree [rV K 1 0] M (rR (fun z => isLongR (M 1 0 4) (M 2 0) (M 6) z) (M)) := by
  refine aw_met [some (rV K 1 0), none, none] hst (by decide) rfl (Nat.le_of_ble_eq_true rfl) rfl rfl (lcat rfl) ?_
  refine aw_rng (fun hM => ?_)
  refine aw_iconst dX2_longestFree_0 ?_
  refine aw_istore_n (L2 := [some (rV K 1 0), some (iV 0), none]) dX2_longestFree_1 rfl (by decide) rfl ?_
  refine aw_iconst dX2_longestFree_2 ?_
  refine aw_istore_n (L2 := [some (rV K 1 0), some (iV 0), some (iV 0)]) dX2_longestFree_3 rfl (by decide) rfl ?_
  have lp4 : ∀ (n4 : Nat) (lon row : Int), (0 ≤ row ∧ row ≤ M 1 0 4) → (isLongR row (M 2 0) (M 6) lon) → (lon ≤ 20) → ((M 1 0 4 - row).toNat) < n4 → AW K l iX2_longestFree (ZM K iX2_longestFree (rR (fun z => isLongR (M 1 0 4) (M 2 0) (M 6) z) (M))) 4 [some (rV K 1 0), some (iV (lon)), some (iV (row))] [] (M) 0 0 := by
    intro n4
    induction n4 with
    | zero =>
      intro lon row e1 e2 e3 hm4
      exact absurd hm4 (Nat.not_lt_zero _)
    | succ n4 ih4 =>
      intro lon row e1 e2 e3 hm4
      have b2 := e2.1
      refine aw_iload_n dX2_longestFree_4 rfl rfl ?_
      refine aw_aload_n dX2_longestFree_5 rfl rfl ?_
      refine aw_geti (g := 1) rfl rfl ly_X2 rfl (k := 4) 4 rfl dX2_longestFree_6 (by decide) fl_X2_26 rfl (fun r6 => ?_)
      refine aw_icmp_ge (tgt := 28) dX2_longestFree_9 (by decide) (by have h1 := hw.1; have h2 := hw.2.1; omega) (by have h1 := hw.1; have h2 := hw.2.1; omega) (fun h9 => ?_) (fun h9 => ?_)
      · refine aw_iload_n dX2_longestFree_28 rfl rfl ?_
        exact aw_iret dX2_longestFree_29 rfl rfl (by decide) (by decide) ⟨lon, rfl, (by have q : row = M 1 0 4 := (by omega); rw [← q]; exact e2), (by rfl)⟩
      · refine aw_iload_n dX2_longestFree_12 rfl rfl ?_
        refine aw_aload_n dX2_longestFree_13 rfl rfl ?_
        refine aw_iload_n dX2_longestFree_14 rfl rfl ?_
        refine aw_cVr (g := 1) (As := [iV (row)]) (rest := [iV (lon)]) (c_X2_longestFreeIn hst M (row) (by have h1 := hw.1; have h2 := hw.2.1; have h3 := hw.2.2 row (by omega) (by omega); omega) (by have h1 := hw.1; have h2 := hw.2.1; have h3 := hw.2.2 row (by omega) (by omega); omega) (by have h1 := hw.1; have h2 := hw.2.1; have h3 := hw.2.2 row (by omega) (by omega); omega)) cv_X2_longestFreeIn dX2_longestFree_15 ml_X2_46 rfl rfl rfl rfl rfl (Nat.le_of_ble_eq_true rfl) (by decide) rfl rfl (by decide) (fun z15 (h15 : isLong (M 6 row) (M 2 0 row) z15) => ?_)
        refine aw_mmax (by have h1 := hw.1; have h2 := hw.2.1; have h3 := hw.2.2 row (by omega) (by omega); omega) (by have b := isLong_bd h15; have h1 := hw.1; have h2 := hw.2.1; have h3 := hw.2.2 row (by omega) (by omega); omega) dX2_longestFree_18 ml_X2_49 (by decide) (Nat.le_of_ble_eq_true rfl) (by decide) (by decide) ?_
        refine aw_istore_n (L2 := [some (rV K 1 0), some (iV (max lon z15)), some (iV (row))]) dX2_longestFree_21 rfl (by decide) rfl ?_
        refine aw_iinc (L2 := [some (rV K 1 0), some (iV (max lon z15)), some (iV (row + 1))]) dX2_longestFree_22 rfl (by decide) rfl ?_
        refine aw_goto (tgt := 4) dX2_longestFree_25 (by decide) ?_
        exact ih4 (max lon z15) (row + 1) (by omega) (by exact isLongR_s e1.1 e2 h15) (by have b := isLong_bd h15; have h1 := hw.1; have h2 := hw.2.1; have h3 := hw.2.2 row (by omega) (by omega); omega) (by omega)
  exact lp4 (((M 1 0 4 - 0).toNat) + 1) (0) (0) (by exact ⟨Int.le_refl 0, hw.1⟩) (by exact isLongR_0 _ _) (by omega) (Nat.lt_succ_self _)
set_option maxHeartbeats 4000000 in
set_option maxRecDepth 20000 in
theorem c_X2_isPossible {K : WPar} {l : Launch} (hst : l.stackTraces = false) (M : Mem) (row : Int) (first : Int) (seats : Int) (r_row : inR row) (r_first : inR first) (r_seats : inR seats) (hw : HW M) (v_row : 0 ≤ row ∧ row < M 1 0 4) (v_s : -1000 ≤ seats ∧ seats ≤ 1000) : CT K l iX2_isPossible [rV K 1 0, iV (row), iV (first), iV (seats)] M (rB (1 ≤ seats ∧ 0 ≤ first ∧ first + seats ≤ M 2 0 row ∧ allF (M 6 row) first seats) (M)) := by
  refine aw_met [some (rV K 1 0), some (iV (row)), some (iV (first)), some (iV (seats)), none] hst (by decide) rfl (Nat.le_of_ble_eq_true rfl) rfl rfl (lcat rfl) ?_
  refine aw_rng (fun hM => ?_)
  refine aw_iload_n dX2_isPossible_0 rfl rfl ?_
  refine aw_iconst dX2_isPossible_1 ?_
  refine aw_icmp_lt (tgt := 20) dX2_isPossible_2 (by decide) (by have h1 := hw.1; have h2 := hw.2.1; have h3 := hw.2.2 row v_row.1 v_row.2; omega) (by have h1 := hw.1; have h2 := hw.2.1; have h3 := hw.2.2 row v_row.1 v_row.2; omega) (fun h2 => ?_) (fun h2 => ?_)
  · refine aw_iconst dX2_isPossible_20 ?_
    exact aw_iret dX2_isPossible_21 rfl rfl (by decide) (by decide) ⟨Or.inr ⟨rfl, by intro q; have h1 := hw.1; have h2 := hw.2.1; have h3 := hw.2.2 row v_row.1 v_row.2; omega⟩, (by rfl)⟩
  · refine aw_iload_n dX2_isPossible_5 rfl rfl ?_
    refine aw_if_lt (tgt := 20) dX2_isPossible_6 (by decide) (by have h1 := hw.1; have h2 := hw.2.1; have h3 := hw.2.2 row v_row.1 v_row.2; omega) (fun h6 => ?_) (fun h6 => ?_)
    · refine aw_iconst dX2_isPossible_20 ?_
      exact aw_iret dX2_isPossible_21 rfl rfl (by decide) (by decide) ⟨Or.inr ⟨rfl, by intro q; have h1 := hw.1; have h2 := hw.2.1; have h3 := hw.2.2 row v_row.1 v_row.2; omega⟩, (by rfl)⟩
    · refine aw_iload_n dX2_isPossible_9 rfl rfl ?_
      refine aw_aload_n dX2_isPossible_10 rfl rfl ?_
      refine aw_iload_n dX2_isPossible_11 rfl rfl ?_
      refine aw_cVi (g := 1) (As := [iV (row)]) (rest := [iV (first)]) (c_X2_seatsIn hst M (row) (by have h1 := hw.1; have h2 := hw.2.1; have h3 := hw.2.2 row v_row.1 v_row.2; omega) (by have h1 := hw.1; have h2 := hw.2.1; have h3 := hw.2.2 row v_row.1 v_row.2; omega)) cv_X2_seatsIn dX2_isPossible_12 ml_X2_40 rfl rfl rfl rfl rfl (Nat.le_of_ble_eq_true rfl) (by decide) rfl rfl (by decide) ?_
      refine aw_iload_n dX2_isPossible_15 rfl rfl ?_
      refine aw_isub dX2_isPossible_16 ?_
      refine aw_icmp_le (tgt := 22) dX2_isPossible_17 (by decide) (by have h1 := hw.1; have h2 := hw.2.1; have h3 := hw.2.2 row v_row.1 v_row.2; omega) (by have h1 := hw.1; have h2 := hw.2.1; have h3 := hw.2.2 row v_row.1 v_row.2; omega) (fun h17 => ?_) (fun h17 => ?_)
      · refine aw_iload_n dX2_isPossible_22 rfl rfl ?_
        refine aw_istore (L2 := [some (rV K 1 0), some (iV (row)), some (iV (first)), some (iV (seats)), some (iV (first))]) dX2_isPossible_23 (by decide) rfl ?_
        have lp25 : ∀ (n25 : Nat) (seat : Int), (first ≤ seat ∧ seat ≤ first + seats) → (allF (M 6 row) first (seat - first)) → ((first + seats - seat).toNat) < n25 → AW K l iX2_isPossible (ZM K iX2_isPossible (rB (1 ≤ seats ∧ 0 ≤ first ∧ first + seats ≤ M 2 0 row ∧ allF (M 6 row) first seats) (M))) 25 [some (rV K 1 0), some (iV (row)), some (iV (first)), some (iV (seats)), some (iV (seat))] [] (M) 0 0 := by
          intro n25
          induction n25 with
          | zero =>
            intro seat e1 e2 hm25
            exact absurd hm25 (Nat.not_lt_zero _)
          | succ n25 ih25 =>
            intro seat e1 e2 hm25
            refine aw_iload dX2_isPossible_25 rfl ?_
            refine aw_iload_n dX2_isPossible_27 rfl rfl ?_
            refine aw_iload_n dX2_isPossible_28 rfl rfl ?_
            refine aw_iadd dX2_isPossible_29 ?_
            refine aw_icmp_ge (tgt := 53) dX2_isPossible_30 (by decide) (by have h1 := hw.1; have h2 := hw.2.1; have h3 := hw.2.2 row v_row.1 v_row.2; omega) (by have h1 := hw.1; have h2 := hw.2.1; have h3 := hw.2.2 row v_row.1 v_row.2; omega) (fun h30 => ?_) (fun h30 => ?_)
            · refine aw_iconst dX2_isPossible_53 ?_
              exact aw_iret dX2_isPossible_54 rfl rfl (by decide) (by decide) ⟨Or.inl ⟨rfl, by refine ⟨by omega, by omega, by have h1 := hw.1; have h2 := hw.2.1; have h3 := hw.2.2 row v_row.1 v_row.2; omega, ?_⟩; have q : seat - first = seats := (by omega); rw [← q]; exact e2⟩, (by rfl)⟩
            · refine aw_aload_n dX2_isPossible_33 rfl rfl ?_
              refine aw_getr (g := 1) rfl rfl ly_X2 rfl (k := 3) dX2_isPossible_34 (by decide) fl_X2_23 rfl ?_
              refine aw_iload_n dX2_isPossible_37 rfl rfl ?_
              refine aw_aald (g := 5) (n := 12) rfl (by decide) rfl dX2_isPossible_38 (by show 0 ≤ row ∧ row < (12 : Int); have h1 := hw.1; have h2 := hw.2.1; have h3 := hw.2.2 row v_row.1 v_row.2; omega) ?_
              refine aw_iload dX2_isPossible_39 rfl ?_
              refine aw_iald (g := 6) (n := 20) rfl (by decide) dX2_isPossible_41 (by show 0 ≤ row ∧ row < (12 : Int); have h1 := hw.1; have h2 := hw.2.1; have h3 := hw.2.2 row v_row.1 v_row.2; omega) (by show 0 ≤ seat ∧ seat < (20 : Int); have h1 := hw.1; have h2 := hw.2.1; have h3 := hw.2.2 row v_row.1 v_row.2; omega) (fun r41 => ?_)
              refine aw_if_eq (tgt := 47) dX2_isPossible_42 (by decide) (by have h1 := hw.1; have h2 := hw.2.1; have h3 := hw.2.2 row v_row.1 v_row.2; omega) (fun h42 => ?_) (fun h42 => ?_)
              · refine aw_iinc (L2 := [some (rV K 1 0), some (iV (row)), some (iV (first)), some (iV (seats)), some (iV (seat + 1))]) dX2_isPossible_47 rfl (by decide) rfl ?_
                refine aw_goto (tgt := 25) dX2_isPossible_50 (by decide) ?_
                exact ih25 (seat + 1) (by have h1 := hw.1; have h2 := hw.2.1; have h3 := hw.2.2 row v_row.1 v_row.2; omega) (by exact allF_s e2 h42) (by omega)
              · refine aw_iconst dX2_isPossible_45 ?_
                exact aw_iret dX2_isPossible_46 rfl rfl (by decide) (by decide) ⟨Or.inr ⟨rfl, by intro q; exact h42 (q.2.2.2 seat (by omega) (by omega))⟩, (by rfl)⟩
        exact lp25 (((first + seats - first).toNat) + 1) (first) (by have h1 := hw.1; have h2 := hw.2.1; have h3 := hw.2.2 row v_row.1 v_row.2; omega) (by exact allF_0 _ _) (Nat.lt_succ_self _)
      · refine aw_iconst dX2_isPossible_20 ?_
        exact aw_iret dX2_isPossible_21 rfl rfl (by decide) (by decide) ⟨Or.inr ⟨rfl, by intro q; have h1 := hw.1; have h2 := hw.2.1; have h3 := hw.2.2 row v_row.1 v_row.2; omega⟩, (by rfl)⟩
set_option maxHeartbeats 4000000 in
set_option maxRecDepth 20000 in
theorem c_X2_blockValue {K : WPar} {l : Launch} (hst : l.stackTraces = false) (M : Mem) (row : Int) (first : Int) (seats : Int) (r_row : inR row) (r_first : inR first) (r_seats : inR seats) (hw : HW M) (v_row : 0 ≤ row ∧ row < M 1 0 4) (v_b : 0 ≤ first ∧ 1 ≤ seats ∧ first + seats ≤ M 2 0 row) : CT K l iX2_blockValue [rV K 1 0, iV (row), iV (first), iV (seats)] M (rI (vB (M 3 0 row) (M 2 0 row) first seats) (M)) := by
  refine aw_met [some (rV K 1 0), some (iV (row)), some (iV (first)), some (iV (seats)), none, none] hst (by decide) rfl (Nat.le_of_ble_eq_true rfl) rfl rfl (lcat rfl) ?_
  refine aw_rng (fun hM => ?_)
  refine aw_iconst dX2_blockValue_0 ?_
  refine aw_istore (L2 := [some (rV K 1 0), some (iV (row)), some (iV (first)), some (iV (seats)), some (iV 0), none]) dX2_blockValue_1 (by decide) rfl ?_
  refine aw_iload_n dX2_blockValue_3 rfl rfl ?_
  refine aw_istore (L2 := [some (rV K 1 0), some (iV (row)), some (iV (first)), some (iV (seats)), some (iV 0), some (iV (first))]) dX2_blockValue_4 (by decide) rfl ?_
  have lp6 : ∀ (n6 : Nat) (acc seat : Int), (first ≤ seat ∧ seat ≤ first + seats) → (acc = vB (M 3 0 row) (M 2 0 row) first (seat - first)) → ((first + seats - seat).toNat) < n6 → AW K l iX2_blockValue (ZM K iX2_blockValue (rI (vB (M 3 0 row) (M 2 0 row) first seats) (M))) 6 [some (rV K 1 0), some (iV (row)), some (iV (first)), some (iV (seats)), some (iV (acc)), some (iV (seat))] [] (M) 0 0 := by
    intro n6
    induction n6 with
    | zero =>
      intro acc seat e1 e2 hm6
      exact absurd hm6 (Nat.not_lt_zero _)
    | succ n6 ih6 =>
      intro acc seat e1 e2 hm6
      refine aw_iload dX2_blockValue_6 rfl ?_
      refine aw_iload_n dX2_blockValue_8 rfl rfl ?_
      refine aw_iload_n dX2_blockValue_9 rfl rfl ?_
      refine aw_iadd dX2_blockValue_10 ?_
      refine aw_icmp_ge (tgt := 32) dX2_blockValue_11 (by decide) (by have h1 := hw.1; have h2 := hw.2.1; have h3 := hw.2.2 row v_row.1 v_row.2; omega) (by have h1 := hw.1; have h2 := hw.2.1; have h3 := hw.2.2 row v_row.1 v_row.2; omega) (fun h11 => ?_) (fun h11 => ?_)
      · refine aw_iload dX2_blockValue_32 rfl ?_
        exact aw_iret dX2_blockValue_34 rfl rfl (by decide) (by decide) ⟨congrArg (fun z => Sum.inl (some z)) (by have q : seat - first = seats := (by omega); rw [e2, q]), (by rfl)⟩
      · refine aw_iload dX2_blockValue_14 rfl ?_
        refine aw_aload_n dX2_blockValue_16 rfl rfl ?_
        refine aw_iload_n dX2_blockValue_17 rfl rfl ?_
        refine aw_iload dX2_blockValue_18 rfl ?_
        refine aw_cVi (g := 1) (As := [iV (row), iV (seat)]) (rest := [iV (acc)]) (c_X2_seatValue hst M (row) (seat) (by have h1 := hw.1; have h2 := hw.2.1; have h3 := hw.2.2 row v_row.1 v_row.2; omega) (by have h1 := hw.1; have h2 := hw.2.1; have h3 := hw.2.2 row v_row.1 v_row.2; omega) (by have h1 := hw.1; have h2 := hw.2.1; have h3 := hw.2.2 row v_row.1 v_row.2; omega)) cv_X2_seatValue dX2_blockValue_20 ml_X2_53 rfl rfl rfl rfl rfl (Nat.le_of_ble_eq_true rfl) (by decide) rfl rfl (by decide) ?_
        refine aw_iadd dX2_blockValue_23 ?_
        refine aw_istore (L2 := [some (rV K 1 0), some (iV (row)), some (iV (first)), some (iV (seats)), some (iV (acc + (if 0 ≤ row ∧ row < M 1 0 4 ∧ 0 ≤ seat ∧ seat < M 2 0 row then vS (M 3 0 row) (M 2 0 row) seat else 0))), some (iV (seat))]) dX2_blockValue_24 (by decide) rfl ?_
        refine aw_iinc (L2 := [some (rV K 1 0), some (iV (row)), some (iV (first)), some (iV (seats)), some (iV (acc + (if 0 ≤ row ∧ row < M 1 0 4 ∧ 0 ≤ seat ∧ seat < M 2 0 row then vS (M 3 0 row) (M 2 0 row) seat else 0))), some (iV (seat + 1))]) dX2_blockValue_26 rfl (by decide) rfl ?_
        refine aw_goto (tgt := 6) dX2_blockValue_29 (by decide) ?_
        exact ih6 (acc + (if 0 ≤ row ∧ row < M 1 0 4 ∧ 0 ≤ seat ∧ seat < M 2 0 row then vS (M 3 0 row) (M 2 0 row) seat else 0)) (seat + 1) (by have h1 := hw.1; have h2 := hw.2.1; have h3 := hw.2.2 row v_row.1 v_row.2; omega) (by rw [vB_s e1.1, e2, if_pos (by have h1 := hw.1; have h2 := hw.2.1; have h3 := hw.2.2 row v_row.1 v_row.2; omega)]) (by omega)
  exact lp6 (((first + seats - first).toNat) + 1) (0) (first) (by have h1 := hw.1; have h2 := hw.2.1; have h3 := hw.2.2 row v_row.1 v_row.2; omega) (by rw [vB_0]) (Nat.lt_succ_self _)
set_option maxHeartbeats 4000000 in
set_option maxRecDepth 20000 in
theorem c_X2_orphanBeside {K : WPar} {l : Launch} (hst : l.stackTraces = false) (M : Mem) (row : Int) (first : Int) (seats : Int) (r_row : inR row) (r_first : inR first) (r_seats : inR seats) (hw : HW M) (v_row : 0 ≤ row ∧ row < M 1 0 4) (v_b2 : 0 ≤ first ∧ first ≤ 100 ∧ 1 ≤ seats ∧ seats ≤ 100) : CT K l iX2_orphanBeside [rV K 1 0, iV (row), iV (first), iV (seats)] M (rB (hasO (M 2 0 row) (M 6 row) first seats) (M)) := by
  refine aw_met [some (rV K 1 0), some (iV (row)), some (iV (first)), some (iV (seats)), none, none] hst (by decide) rfl (Nat.le_of_ble_eq_true rfl) rfl rfl (lcat rfl) ?_
  refine aw_rng (fun hM => ?_)
  refine aw_iload_n dX2_orphanBeside_0 rfl rfl ?_
  refine aw_iconst dX2_orphanBeside_1 ?_
  refine aw_isub dX2_orphanBeside_2 ?_
  refine aw_istore (L2 := [some (rV K 1 0), some (iV (row)), some (iV (first)), some (iV (seats)), some (iV (first - 1)), none]) dX2_orphanBeside_3 (by decide) rfl ?_
  refine aw_iload_n dX2_orphanBeside_5 rfl rfl ?_
  refine aw_iload_n dX2_orphanBeside_6 rfl rfl ?_
  refine aw_iadd dX2_orphanBeside_7 ?_
  refine aw_istore (L2 := [some (rV K 1 0), some (iV (row)), some (iV (first)), some (iV (seats)), some (iV (first - 1)), some (iV (first + seats))]) dX2_orphanBeside_8 (by decide) rfl ?_
  refine aw_aload_n dX2_orphanBeside_10 rfl rfl ?_
  refine aw_iload_n dX2_orphanBeside_11 rfl rfl ?_
  refine aw_iload dX2_orphanBeside_12 rfl ?_
  refine aw_cVb (g := 1) (As := [iV (row), iV (first - 1)]) (rest := []) (c_X2_isFree hst M (row) (first - 1) (by have h1 := hw.1; have h2 := hw.2.1; have h3 := hw.2.2 row v_row.1 v_row.2; omega) (by have h1 := hw.1; have h2 := hw.2.1; have h3 := hw.2.2 row v_row.1 v_row.2; omega) (by have h1 := hw.1; have h2 := hw.2.1; have h3 := hw.2.2 row v_row.1 v_row.2; omega)) cv_X2_isFree dX2_orphanBeside_14 ml_X2_43 rfl rfl rfl rfl rfl (Nat.le_of_ble_eq_true rfl) (by decide) rfl rfl (by decide) (fun h14 => ?_) (fun h14 => ?_)
  · refine aw_if_eq (tgt := 32) dX2_orphanBeside_17 (by decide) (by decide) (fun h => absurd h (by decide)) (fun _ => ?_)
    refine aw_aload_n dX2_orphanBeside_20 rfl rfl ?_
    refine aw_iload_n dX2_orphanBeside_21 rfl rfl ?_
    refine aw_iload dX2_orphanBeside_22 rfl ?_
    refine aw_iconst dX2_orphanBeside_24 ?_
    refine aw_isub dX2_orphanBeside_25 ?_
    refine aw_st (st' := [iV (first - 2), iV (row), rV K 1 0]) (by rw [show ((first - 1) - 1 : Int) = first - 2 from by omega]) ?_
    refine aw_cVb (g := 1) (As := [iV (row), iV (first - 2)]) (rest := []) (c_X2_isFree hst M (row) (first - 2) (by have h1 := hw.1; have h2 := hw.2.1; have h3 := hw.2.2 row v_row.1 v_row.2; omega) (by have h1 := hw.1; have h2 := hw.2.1; have h3 := hw.2.2 row v_row.1 v_row.2; omega) (by have h1 := hw.1; have h2 := hw.2.1; have h3 := hw.2.2 row v_row.1 v_row.2; omega)) cv_X2_isFree dX2_orphanBeside_26 ml_X2_43 rfl rfl rfl rfl rfl (Nat.le_of_ble_eq_true rfl) (by decide) rfl rfl (by decide) (fun h26 => ?_) (fun h26 => ?_)
    · refine aw_if_eq (tgt := 54) dX2_orphanBeside_29 (by decide) (by decide) (fun h => absurd h (by decide)) (fun _ => ?_)
      refine aw_aload_n dX2_orphanBeside_32 rfl rfl ?_
      refine aw_iload_n dX2_orphanBeside_33 rfl rfl ?_
      refine aw_iload dX2_orphanBeside_34 rfl ?_
      refine aw_cVb (g := 1) (As := [iV (row), iV (first + seats)]) (rest := []) (c_X2_isFree hst M (row) (first + seats) (by have h1 := hw.1; have h2 := hw.2.1; have h3 := hw.2.2 row v_row.1 v_row.2; omega) (by have h1 := hw.1; have h2 := hw.2.1; have h3 := hw.2.2 row v_row.1 v_row.2; omega) (by have h1 := hw.1; have h2 := hw.2.1; have h3 := hw.2.2 row v_row.1 v_row.2; omega)) cv_X2_isFree dX2_orphanBeside_36 ml_X2_43 rfl rfl rfl rfl rfl (Nat.le_of_ble_eq_true rfl) (by decide) rfl rfl (by decide) (fun h36 => ?_) (fun h36 => ?_)
      · refine aw_if_eq (tgt := 58) dX2_orphanBeside_39 (by decide) (by decide) (fun h => absurd h (by decide)) (fun _ => ?_)
        refine aw_aload_n dX2_orphanBeside_42 rfl rfl ?_
        refine aw_iload_n dX2_orphanBeside_43 rfl rfl ?_
        refine aw_iload dX2_orphanBeside_44 rfl ?_
        refine aw_iconst dX2_orphanBeside_46 ?_
        refine aw_iadd dX2_orphanBeside_47 ?_
        refine aw_cVb (g := 1) (As := [iV (row), iV ((first + seats) + 1)]) (rest := []) (c_X2_isFree hst M (row) ((first + seats) + 1) (by have h1 := hw.1; have h2 := hw.2.1; have h3 := hw.2.2 row v_row.1 v_row.2; omega) (by have h1 := hw.1; have h2 := hw.2.1; have h3 := hw.2.2 row v_row.1 v_row.2; omega) (by have h1 := hw.1; have h2 := hw.2.1; have h3 := hw.2.2 row v_row.1 v_row.2; omega)) cv_X2_isFree dX2_orphanBeside_48 ml_X2_43 rfl rfl rfl rfl rfl (Nat.le_of_ble_eq_true rfl) (by decide) rfl rfl (by decide) (fun h48 => ?_) (fun h48 => ?_)
        · refine aw_if_ne (tgt := 58) dX2_orphanBeside_51 (by decide) (by decide) (fun _ => ?_) (fun h => absurd h (by decide))
          refine aw_iconst dX2_orphanBeside_58 ?_
          exact aw_iret dX2_orphanBeside_59 rfl rfl (by decide) (by decide) ⟨Or.inr ⟨rfl, by have h1 := hw.1; have h2 := hw.2.1; have h3 := hw.2.2 row v_row.1 v_row.2; omega⟩, (by rfl)⟩
        · refine aw_if_ne (tgt := 58) dX2_orphanBeside_51 (by decide) (by decide) (fun h => absurd h (by decide)) (fun _ => ?_)
          refine aw_iconst dX2_orphanBeside_54 ?_
          refine aw_goto (tgt := 59) dX2_orphanBeside_55 (by decide) ?_
          exact aw_iret dX2_orphanBeside_59 rfl rfl (by decide) (by decide) ⟨Or.inl ⟨rfl, by have h1 := hw.1; have h2 := hw.2.1; have h3 := hw.2.2 row v_row.1 v_row.2; omega⟩, (by rfl)⟩
      · refine aw_if_eq (tgt := 58) dX2_orphanBeside_39 (by decide) (by decide) (fun _ => ?_) (fun h => absurd (by decide) h)
        refine aw_iconst dX2_orphanBeside_58 ?_
        exact aw_iret dX2_orphanBeside_59 rfl rfl (by decide) (by decide) ⟨Or.inr ⟨rfl, by have h1 := hw.1; have h2 := hw.2.1; have h3 := hw.2.2 row v_row.1 v_row.2; omega⟩, (by rfl)⟩
    · refine aw_if_eq (tgt := 54) dX2_orphanBeside_29 (by decide) (by decide) (fun _ => ?_) (fun h => absurd (by decide) h)
      refine aw_iconst dX2_orphanBeside_54 ?_
      refine aw_goto (tgt := 59) dX2_orphanBeside_55 (by decide) ?_
      exact aw_iret dX2_orphanBeside_59 rfl rfl (by decide) (by decide) ⟨Or.inl ⟨rfl, by have h1 := hw.1; have h2 := hw.2.1; have h3 := hw.2.2 row v_row.1 v_row.2; omega⟩, (by rfl)⟩
  · refine aw_if_eq (tgt := 32) dX2_orphanBeside_17 (by decide) (by decide) (fun _ => ?_) (fun h => absurd (by decide) h)
    refine aw_aload_n dX2_orphanBeside_32 rfl rfl ?_
    refine aw_iload_n dX2_orphanBeside_33 rfl rfl ?_
    refine aw_iload dX2_orphanBeside_34 rfl ?_
    refine aw_cVb (g := 1) (As := [iV (row), iV (first + seats)]) (rest := []) (c_X2_isFree hst M (row) (first + seats) (by have h1 := hw.1; have h2 := hw.2.1; have h3 := hw.2.2 row v_row.1 v_row.2; omega) (by have h1 := hw.1; have h2 := hw.2.1; have h3 := hw.2.2 row v_row.1 v_row.2; omega) (by have h1 := hw.1; have h2 := hw.2.1; have h3 := hw.2.2 row v_row.1 v_row.2; omega)) cv_X2_isFree dX2_orphanBeside_36 ml_X2_43 rfl rfl rfl rfl rfl (Nat.le_of_ble_eq_true rfl) (by decide) rfl rfl (by decide) (fun h36 => ?_) (fun h36 => ?_)
    · refine aw_if_eq (tgt := 58) dX2_orphanBeside_39 (by decide) (by decide) (fun h => absurd h (by decide)) (fun _ => ?_)
      refine aw_aload_n dX2_orphanBeside_42 rfl rfl ?_
      refine aw_iload_n dX2_orphanBeside_43 rfl rfl ?_
      refine aw_iload dX2_orphanBeside_44 rfl ?_
      refine aw_iconst dX2_orphanBeside_46 ?_
      refine aw_iadd dX2_orphanBeside_47 ?_
      refine aw_cVb (g := 1) (As := [iV (row), iV ((first + seats) + 1)]) (rest := []) (c_X2_isFree hst M (row) ((first + seats) + 1) (by have h1 := hw.1; have h2 := hw.2.1; have h3 := hw.2.2 row v_row.1 v_row.2; omega) (by have h1 := hw.1; have h2 := hw.2.1; have h3 := hw.2.2 row v_row.1 v_row.2; omega) (by have h1 := hw.1; have h2 := hw.2.1; have h3 := hw.2.2 row v_row.1 v_row.2; omega)) cv_X2_isFree dX2_orphanBeside_48 ml_X2_43 rfl rfl rfl rfl rfl (Nat.le_of_ble_eq_true rfl) (by decide) rfl rfl (by decide) (fun h48 => ?_) (fun h48 => ?_)
      · refine aw_if_ne (tgt := 58) dX2_orphanBeside_51 (by decide) (by decide) (fun _ => ?_) (fun h => absurd h (by decide))
        refine aw_iconst dX2_orphanBeside_58 ?_
        exact aw_iret dX2_orphanBeside_59 rfl rfl (by decide) (by decide) ⟨Or.inr ⟨rfl, by have h1 := hw.1; have h2 := hw.2.1; have h3 := hw.2.2 row v_row.1 v_row.2; omega⟩, (by rfl)⟩
      · refine aw_if_ne (tgt := 58) dX2_orphanBeside_51 (by decide) (by decide) (fun h => absurd h (by decide)) (fun _ => ?_)
        refine aw_iconst dX2_orphanBeside_54 ?_
        refine aw_goto (tgt := 59) dX2_orphanBeside_55 (by decide) ?_
        exact aw_iret dX2_orphanBeside_59 rfl rfl (by decide) (by decide) ⟨Or.inl ⟨rfl, by have h1 := hw.1; have h2 := hw.2.1; have h3 := hw.2.2 row v_row.1 v_row.2; omega⟩, (by rfl)⟩
    · refine aw_if_eq (tgt := 58) dX2_orphanBeside_39 (by decide) (by decide) (fun _ => ?_) (fun h => absurd (by decide) h)
      refine aw_iconst dX2_orphanBeside_58 ?_
      exact aw_iret dX2_orphanBeside_59 rfl rfl (by decide) (by decide) ⟨Or.inr ⟨rfl, by have h1 := hw.1; have h2 := hw.2.1; have h3 := hw.2.2 row v_row.1 v_row.2; omega⟩, (by rfl)⟩
set_option maxHeartbeats 4000000 in
set_option maxRecDepth 20000 in
theorem c_X2_greatestIn {K : WPar} {l : Launch} (hst : l.stackTraces = false) (M : Mem) (row : Int) (seats : Int) (al : Int) (r_row : inR row) (r_seats : inR seats) (r_al : inR al) (hw : HW M) (v_row : 0 ≤ row ∧ row < M 1 0 4) (v_se : 1 ≤ seats ∧ seats ≤ 20) : CT K l iX2_greatestIn [rV K 1 0, iV (row), iV (seats), iV (al)] M (rR (fun z => isBest (cB (M 2 0) (M 6) seats (al ≠ 0) row) (vBR (M 3 0) (M 2 0) seats row) z) (M)) := by
  refine aw_met [some (rV K 1 0), some (iV (row)), some (iV (seats)), some (iV (al)), none, none, none, none, none] hst (by decide) rfl (Nat.le_of_ble_eq_true rfl) rfl rfl (lcat rfl) ?_
  refine aw_rng (fun hM => ?_)
  refine aw_iconst dX2_greatestIn_0 ?_
  refine aw_istore (L2 := [some (rV K 1 0), some (iV (row)), some (iV (seats)), some (iV (al)), some (iV (-1)), none, none, none, none]) dX2_greatestIn_1 (by decide) rfl ?_
  refine aw_iconst dX2_greatestIn_3 ?_
  refine aw_istore (L2 := [some (rV K 1 0), some (iV (row)), some (iV (seats)), some (iV (al)), some (iV (-1)), some (iV 0), none, none, none]) dX2_greatestIn_4 (by decide) rfl ?_
  refine aw_aload_n dX2_greatestIn_6 rfl rfl ?_
  refine aw_iload_n dX2_greatestIn_7 rfl rfl ?_
  refine aw_cVi (g := 1) (As := [iV (row)]) (rest := []) (c_X2_seatsIn hst M (row) (by have h1 := hw.1; have h2 := hw.2.1; have h3 := hw.2.2 row v_row.1 v_row.2; omega) (by have h1 := hw.1; have h2 := hw.2.1; have h3 := hw.2.2 row v_row.1 v_row.2; omega)) cv_X2_seatsIn dX2_greatestIn_8 ml_X2_40 rfl rfl rfl rfl rfl (Nat.le_of_ble_eq_true rfl) (by decide) rfl rfl (by decide) ?_
  refine aw_iload_n dX2_greatestIn_11 rfl rfl ?_
  refine aw_isub dX2_greatestIn_12 ?_
  refine aw_istore (L2 := [some (rV K 1 0), some (iV (row)), some (iV (seats)), some (iV (al)), some (iV (-1)), some (iV 0), some (iV ((if 0 ≤ row ∧ row < M 1 0 4 then M 2 0 row else 0) - seats)), none, none]) dX2_greatestIn_13 (by decide) rfl ?_
  refine aw_iconst dX2_greatestIn_15 ?_
  refine aw_istore (L2 := [some (rV K 1 0), some (iV (row)), some (iV (seats)), some (iV (al)), some (iV (-1)), some (iV 0), some (iV ((if 0 ≤ row ∧ row < M 1 0 4 then M 2 0 row else 0) - seats)), some (iV 0), none]) dX2_greatestIn_16 (by decide) rfl ?_
  have lp18 : ∀ (n18 : Nat) (best bv first : Int), (0 ≤ first) → (isBest (fun g => g < first ∧ cB (M 2 0) (M 6) seats (al ≠ 0) row g) (vBR (M 3 0) (M 2 0) seats row) best) → (best ≠ -1 → bv = vBR (M 3 0) (M 2 0) seats row best) → (first ≤ 21) → (-1 ≤ best ∧ best ≤ 20 ∧ -400 ≤ bv ∧ bv ≤ 20000) → ((M 2 0 row - seats - first + 1).toNat) < n18 → AW K l iX2_greatestIn (ZM K iX2_greatestIn (rR (fun z => isBest (cB (M 2 0) (M 6) seats (al ≠ 0) row) (vBR (M 3 0) (M 2 0) seats row) z) (M))) 18 [some (rV K 1 0), some (iV (row)), some (iV (seats)), some (iV (al)), some (iV (best)), some (iV (bv)), some (iV ((if 0 ≤ row ∧ row < M 1 0 4 then M 2 0 row else 0) - seats)), some (iV (first)), none] [] (M) 0 0 := by
    intro n18
    induction n18 with
    | zero =>
      intro best bv first e1 e2 e3 e5 e4 hm18
      exact absurd hm18 (Nat.not_lt_zero _)
    | succ n18 ih18 =>
      intro best bv first e1 e2 e3 e5 e4 hm18
      refine aw_iload dX2_greatestIn_18 rfl ?_
      refine aw_iload dX2_greatestIn_20 rfl ?_
      refine aw_icmp_gt (tgt := 88) dX2_greatestIn_22 (by decide) (by have h1 := hw.1; have h2 := hw.2.1; have h3 := hw.2.2 row v_row.1 v_row.2; omega) (by have h1 := hw.1; have h2 := hw.2.1; have h3 := hw.2.2 row v_row.1 v_row.2; omega) (fun h22 => ?_) (fun h22 => ?_)
      · refine aw_iload dX2_greatestIn_88 rfl ?_
        exact aw_iret dX2_greatestIn_90 rfl rfl (by decide) (by decide) ⟨best, rfl, (by exact isBest_all e2 (fun g q => by have q1 := q.1; have h1 := hw.1; have h2 := hw.2.1; have h3 := hw.2.2 row v_row.1 v_row.2; omega)), (by rfl)⟩
      · refine aw_aload_n dX2_greatestIn_25 rfl rfl ?_
        refine aw_iload_n dX2_greatestIn_26 rfl rfl ?_
        refine aw_iload dX2_greatestIn_27 rfl ?_
        refine aw_iload_n dX2_greatestIn_29 rfl rfl ?_
        refine aw_cVb (g := 1) (As := [iV (row), iV (first), iV (seats)]) (rest := []) (c_X2_isPossible hst M (row) (first) (seats) (by have h1 := hw.1; have h2 := hw.2.1; have h3 := hw.2.2 row v_row.1 v_row.2; omega) (by have h1 := hw.1; have h2 := hw.2.1; have h3 := hw.2.2 row v_row.1 v_row.2; omega) (by have h1 := hw.1; have h2 := hw.2.1; have h3 := hw.2.2 row v_row.1 v_row.2; omega) (by have h1 := hw.1; have h2 := hw.2.1; have h3 := hw.2.2 row v_row.1 v_row.2; omega) (by have h1 := hw.1; have h2 := hw.2.1; have h3 := hw.2.2 row v_row.1 v_row.2; omega) (by have h1 := hw.1; have h2 := hw.2.1; have h3 := hw.2.2 row v_row.1 v_row.2; omega)) cv_X2_isPossible dX2_greatestIn_30 ml_X2_56 rfl rfl rfl rfl rfl (Nat.le_of_ble_eq_true rfl) (by decide) rfl rfl (by decide) (fun h30 => ?_) (fun h30 => ?_)
        · refine aw_if_eq (tgt := 82) dX2_greatestIn_33 (by decide) (by decide) (fun h => absurd h (by decide)) (fun _ => ?_)
          refine aw_iload_n dX2_greatestIn_36 rfl rfl ?_
          refine aw_if_ne (tgt := 51) dX2_greatestIn_37 (by decide) (by have h1 := hw.1; have h2 := hw.2.1; have h3 := hw.2.2 row v_row.1 v_row.2; omega) (fun h37 => ?_) (fun h37 => ?_)
          · refine aw_aload_n dX2_greatestIn_51 rfl rfl ?_
            refine aw_iload_n dX2_greatestIn_52 rfl rfl ?_
            refine aw_iload dX2_greatestIn_53 rfl ?_
            refine aw_iload_n dX2_greatestIn_55 rfl rfl ?_
            refine aw_cVi (g := 1) (As := [iV (row), iV (first), iV (seats)]) (rest := []) (c_X2_blockValue hst M (row) (first) (seats) (by have h1 := hw.1; have h2 := hw.2.1; have h3 := hw.2.2 row v_row.1 v_row.2; omega) (by have h1 := hw.1; have h2 := hw.2.1; have h3 := hw.2.2 row v_row.1 v_row.2; omega) (by have h1 := hw.1; have h2 := hw.2.1; have h3 := hw.2.2 row v_row.1 v_row.2; omega) (by have h1 := hw.1; have h2 := hw.2.1; have h3 := hw.2.2 row v_row.1 v_row.2; omega) (by have h1 := hw.1; have h2 := hw.2.1; have h3 := hw.2.2 row v_row.1 v_row.2; omega) (by exact ⟨e1, by omega, h30.2.2.1⟩)) cv_X2_blockValue dX2_greatestIn_56 ml_X2_63 rfl rfl rfl rfl rfl (Nat.le_of_ble_eq_true rfl) (by decide) rfl rfl (by decide) ?_
            refine aw_istore (L2 := [some (rV K 1 0), some (iV (row)), some (iV (seats)), some (iV (al)), some (iV (best)), some (iV (bv)), some (iV ((if 0 ≤ row ∧ row < M 1 0 4 then M 2 0 row else 0) - seats)), some (iV (first)), some (iV (vB (M 3 0 row) (M 2 0 row) first seats))]) dX2_greatestIn_59 (by decide) rfl ?_
            refine aw_iload dX2_greatestIn_61 rfl ?_
            refine aw_iconst dX2_greatestIn_63 ?_
            refine aw_icmp_eq (tgt := 74) dX2_greatestIn_64 (by decide) (by have h1 := hw.1; have h2 := hw.2.1; have h3 := hw.2.2 row v_row.1 v_row.2; omega) (by have h1 := hw.1; have h2 := hw.2.1; have h3 := hw.2.2 row v_row.1 v_row.2; omega) (fun h64 => ?_) (fun h64 => ?_)
            · refine aw_iload dX2_greatestIn_74 rfl ?_
              refine aw_istore (L2 := [some (rV K 1 0), some (iV (row)), some (iV (seats)), some (iV (al)), some (iV (first)), some (iV (bv)), some (iV ((if 0 ≤ row ∧ row < M 1 0 4 then M 2 0 row else 0) - seats)), some (iV (first)), some (iV (vB (M 3 0 row) (M 2 0 row) first seats))]) dX2_greatestIn_76 (by decide) rfl ?_
              refine aw_iload dX2_greatestIn_78 rfl ?_
              refine aw_istore (L2 := [some (rV K 1 0), some (iV (row)), some (iV (seats)), some (iV (al)), some (iV (first)), some (iV (vB (M 3 0 row) (M 2 0 row) first seats)), some (iV ((if 0 ≤ row ∧ row < M 1 0 4 then M 2 0 row else 0) - seats)), some (iV (first)), some (iV (vB (M 3 0 row) (M 2 0 row) first seats))]) dX2_greatestIn_80 (by decide) rfl ?_
              refine aw_iinc (L2 := [some (rV K 1 0), some (iV (row)), some (iV (seats)), some (iV (al)), some (iV (first)), some (iV (vB (M 3 0 row) (M 2 0 row) first seats)), some (iV ((if 0 ≤ row ∧ row < M 1 0 4 then M 2 0 row else 0) - seats)), some (iV (first + 1)), some (iV (vB (M 3 0 row) (M 2 0 row) first seats))]) dX2_greatestIn_82 rfl (by decide) rfl ?_
              refine aw_goto (tgt := 18) dX2_greatestIn_85 (by decide) ?_
              refine aw_weak (L' := [some (rV K 1 0), some (iV (row)), some (iV (seats)), some (iV (al)), some (iV (first)), some (iV (vB (M 3 0 row) (M 2 0 row) first seats)), some (iV ((if 0 ≤ row ∧ row < M 1 0 4 then M 2 0 row else 0) - seats)), some (iV (first + 1)), none]) ⟨Or.inr rfl, Or.inr rfl, Or.inr rfl, Or.inr rfl, Or.inr rfl, Or.inr rfl, Or.inr rfl, Or.inr rfl, Or.inl rfl, trivial⟩ ?_
              exact ih18 (first) (vB (M 3 0 row) (M 2 0 row) first seats) (first + 1) (by have h1 := hw.1; have h2 := hw.2.1; have h3 := hw.2.2 row v_row.1 v_row.2; omega) (by first | exact isBest_skip e2 (fun q => h30 ⟨by omega, e1, q.1, q.2.1⟩) | exact isBest_skip e2 (fun q => q.2.2.elim (fun a => a h37) (fun a => a h45)) | exact isBest_take e2 e1 ⟨h30.2.2.1, h30.2.2.2, Or.inl h37⟩ (Or.inl h64) | exact isBest_take e2 e1 ⟨h30.2.2.1, h30.2.2.2, Or.inr h45⟩ (Or.inl h64) | exact isBest_keep e2 h64 (by rw [← e3 h64]; exact h71) | exact isBest_take e2 e1 ⟨h30.2.2.1, h30.2.2.2, Or.inl h37⟩ (Or.inr (by rw [← e3 h64]; exact Int.not_le.mp h71)) | exact isBest_take e2 e1 ⟨h30.2.2.1, h30.2.2.2, Or.inr h45⟩ (Or.inr (by rw [← e3 h64]; exact Int.not_le.mp h71))) (by first | exact e3 | exact fun _ => rfl) (by have h1 := hw.1; have h2 := hw.2.1; have h3 := hw.2.2 row v_row.1 v_row.2; omega) (by first | exact e4 | (have b := vB_bd (sc := M 3 0 row) (w := M 2 0 row) (f := first) (k := seats) (by have h1 := hw.1; have h2 := hw.2.1; have h3 := hw.2.2 row v_row.1 v_row.2; omega) (by have h1 := hw.1; have h2 := hw.2.1; have h3 := hw.2.2 row v_row.1 v_row.2; omega) (by have h1 := hw.1; have h2 := hw.2.1; have h3 := hw.2.2 row v_row.1 v_row.2; omega) e1 (by omega) h30.2.2.1; have h1 := hw.1; have h2 := hw.2.1; have h3 := hw.2.2 row v_row.1 v_row.2; omega)) (by have h1 := hw.1; have h2 := hw.2.1; have h3 := hw.2.2 row v_row.1 v_row.2; omega)
            · refine aw_iload dX2_greatestIn_67 rfl ?_
              refine aw_iload dX2_greatestIn_69 rfl ?_
              refine aw_icmp_le (tgt := 82) dX2_greatestIn_71 (by decide) (by have b := vB_bd (sc := M 3 0 row) (w := M 2 0 row) (f := first) (k := seats) (by have h1 := hw.1; have h2 := hw.2.1; have h3 := hw.2.2 row v_row.1 v_row.2; omega) (by have h1 := hw.1; have h2 := hw.2.1; have h3 := hw.2.2 row v_row.1 v_row.2; omega) (by have h1 := hw.1; have h2 := hw.2.1; have h3 := hw.2.2 row v_row.1 v_row.2; omega) e1 (by omega) h30.2.2.1; omega) (by have h1 := hw.1; have h2 := hw.2.1; have h3 := hw.2.2 row v_row.1 v_row.2; omega) (fun h71 => ?_) (fun h71 => ?_)
              · refine aw_iinc (L2 := [some (rV K 1 0), some (iV (row)), some (iV (seats)), some (iV (al)), some (iV (best)), some (iV (bv)), some (iV ((if 0 ≤ row ∧ row < M 1 0 4 then M 2 0 row else 0) - seats)), some (iV (first + 1)), some (iV (vB (M 3 0 row) (M 2 0 row) first seats))]) dX2_greatestIn_82 rfl (by decide) rfl ?_
                refine aw_goto (tgt := 18) dX2_greatestIn_85 (by decide) ?_
                refine aw_weak (L' := [some (rV K 1 0), some (iV (row)), some (iV (seats)), some (iV (al)), some (iV (best)), some (iV (bv)), some (iV ((if 0 ≤ row ∧ row < M 1 0 4 then M 2 0 row else 0) - seats)), some (iV (first + 1)), none]) ⟨Or.inr rfl, Or.inr rfl, Or.inr rfl, Or.inr rfl, Or.inr rfl, Or.inr rfl, Or.inr rfl, Or.inr rfl, Or.inl rfl, trivial⟩ ?_
                exact ih18 (best) (bv) (first + 1) (by have h1 := hw.1; have h2 := hw.2.1; have h3 := hw.2.2 row v_row.1 v_row.2; omega) (by first | exact isBest_skip e2 (fun q => h30 ⟨by omega, e1, q.1, q.2.1⟩) | exact isBest_skip e2 (fun q => q.2.2.elim (fun a => a h37) (fun a => a h45)) | exact isBest_take e2 e1 ⟨h30.2.2.1, h30.2.2.2, Or.inl h37⟩ (Or.inl h64) | exact isBest_take e2 e1 ⟨h30.2.2.1, h30.2.2.2, Or.inr h45⟩ (Or.inl h64) | exact isBest_keep e2 h64 (by rw [← e3 h64]; exact h71) | exact isBest_take e2 e1 ⟨h30.2.2.1, h30.2.2.2, Or.inl h37⟩ (Or.inr (by rw [← e3 h64]; exact Int.not_le.mp h71)) | exact isBest_take e2 e1 ⟨h30.2.2.1, h30.2.2.2, Or.inr h45⟩ (Or.inr (by rw [← e3 h64]; exact Int.not_le.mp h71))) (by first | exact e3 | exact fun _ => rfl) (by have h1 := hw.1; have h2 := hw.2.1; have h3 := hw.2.2 row v_row.1 v_row.2; omega) (by first | exact e4 | (have b := vB_bd (sc := M 3 0 row) (w := M 2 0 row) (f := first) (k := seats) (by have h1 := hw.1; have h2 := hw.2.1; have h3 := hw.2.2 row v_row.1 v_row.2; omega) (by have h1 := hw.1; have h2 := hw.2.1; have h3 := hw.2.2 row v_row.1 v_row.2; omega) (by have h1 := hw.1; have h2 := hw.2.1; have h3 := hw.2.2 row v_row.1 v_row.2; omega) e1 (by omega) h30.2.2.1; have h1 := hw.1; have h2 := hw.2.1; have h3 := hw.2.2 row v_row.1 v_row.2; omega)) (by have h1 := hw.1; have h2 := hw.2.1; have h3 := hw.2.2 row v_row.1 v_row.2; omega)
              · refine aw_iload dX2_greatestIn_74 rfl ?_
                refine aw_istore (L2 := [some (rV K 1 0), some (iV (row)), some (iV (seats)), some (iV (al)), some (iV (first)), some (iV (bv)), some (iV ((if 0 ≤ row ∧ row < M 1 0 4 then M 2 0 row else 0) - seats)), some (iV (first)), some (iV (vB (M 3 0 row) (M 2 0 row) first seats))]) dX2_greatestIn_76 (by decide) rfl ?_
                refine aw_iload dX2_greatestIn_78 rfl ?_
                refine aw_istore (L2 := [some (rV K 1 0), some (iV (row)), some (iV (seats)), some (iV (al)), some (iV (first)), some (iV (vB (M 3 0 row) (M 2 0 row) first seats)), some (iV ((if 0 ≤ row ∧ row < M 1 0 4 then M 2 0 row else 0) - seats)), some (iV (first)), some (iV (vB (M 3 0 row) (M 2 0 row) first seats))]) dX2_greatestIn_80 (by decide) rfl ?_
                refine aw_iinc (L2 := [some (rV K 1 0), some (iV (row)), some (iV (seats)), some (iV (al)), some (iV (first)), some (iV (vB (M 3 0 row) (M 2 0 row) first seats)), some (iV ((if 0 ≤ row ∧ row < M 1 0 4 then M 2 0 row else 0) - seats)), some (iV (first + 1)), some (iV (vB (M 3 0 row) (M 2 0 row) first seats))]) dX2_greatestIn_82 rfl (by decide) rfl ?_
                refine aw_goto (tgt := 18) dX2_greatestIn_85 (by decide) ?_
                refine aw_weak (L' := [some (rV K 1 0), some (iV (row)), some (iV (seats)), some (iV (al)), some (iV (first)), some (iV (vB (M 3 0 row) (M 2 0 row) first seats)), some (iV ((if 0 ≤ row ∧ row < M 1 0 4 then M 2 0 row else 0) - seats)), some (iV (first + 1)), none]) ⟨Or.inr rfl, Or.inr rfl, Or.inr rfl, Or.inr rfl, Or.inr rfl, Or.inr rfl, Or.inr rfl, Or.inr rfl, Or.inl rfl, trivial⟩ ?_
                exact ih18 (first) (vB (M 3 0 row) (M 2 0 row) first seats) (first + 1) (by have h1 := hw.1; have h2 := hw.2.1; have h3 := hw.2.2 row v_row.1 v_row.2; omega) (by first | exact isBest_skip e2 (fun q => h30 ⟨by omega, e1, q.1, q.2.1⟩) | exact isBest_skip e2 (fun q => q.2.2.elim (fun a => a h37) (fun a => a h45)) | exact isBest_take e2 e1 ⟨h30.2.2.1, h30.2.2.2, Or.inl h37⟩ (Or.inl h64) | exact isBest_take e2 e1 ⟨h30.2.2.1, h30.2.2.2, Or.inr h45⟩ (Or.inl h64) | exact isBest_keep e2 h64 (by rw [← e3 h64]; exact h71) | exact isBest_take e2 e1 ⟨h30.2.2.1, h30.2.2.2, Or.inl h37⟩ (Or.inr (by rw [← e3 h64]; exact Int.not_le.mp h71)) | exact isBest_take e2 e1 ⟨h30.2.2.1, h30.2.2.2, Or.inr h45⟩ (Or.inr (by rw [← e3 h64]; exact Int.not_le.mp h71))) (by first | exact e3 | exact fun _ => rfl) (by have h1 := hw.1; have h2 := hw.2.1; have h3 := hw.2.2 row v_row.1 v_row.2; omega) (by first | exact e4 | (have b := vB_bd (sc := M 3 0 row) (w := M 2 0 row) (f := first) (k := seats) (by have h1 := hw.1; have h2 := hw.2.1; have h3 := hw.2.2 row v_row.1 v_row.2; omega) (by have h1 := hw.1; have h2 := hw.2.1; have h3 := hw.2.2 row v_row.1 v_row.2; omega) (by have h1 := hw.1; have h2 := hw.2.1; have h3 := hw.2.2 row v_row.1 v_row.2; omega) e1 (by omega) h30.2.2.1; have h1 := hw.1; have h2 := hw.2.1; have h3 := hw.2.2 row v_row.1 v_row.2; omega)) (by have h1 := hw.1; have h2 := hw.2.1; have h3 := hw.2.2 row v_row.1 v_row.2; omega)
          · refine aw_aload_n dX2_greatestIn_40 rfl rfl ?_
            refine aw_iload_n dX2_greatestIn_41 rfl rfl ?_
            refine aw_iload dX2_greatestIn_42 rfl ?_
            refine aw_iload_n dX2_greatestIn_44 rfl rfl ?_
            refine aw_cVb (g := 1) (As := [iV (row), iV (first), iV (seats)]) (rest := []) (c_X2_orphanBeside hst M (row) (first) (seats) (by have h1 := hw.1; have h2 := hw.2.1; have h3 := hw.2.2 row v_row.1 v_row.2; omega) (by have h1 := hw.1; have h2 := hw.2.1; have h3 := hw.2.2 row v_row.1 v_row.2; omega) (by have h1 := hw.1; have h2 := hw.2.1; have h3 := hw.2.2 row v_row.1 v_row.2; omega) (by have h1 := hw.1; have h2 := hw.2.1; have h3 := hw.2.2 row v_row.1 v_row.2; omega) (by have h1 := hw.1; have h2 := hw.2.1; have h3 := hw.2.2 row v_row.1 v_row.2; omega) (by have h1 := hw.1; have h2 := hw.2.1; have h3 := hw.2.2 row v_row.1 v_row.2; omega)) cv_X2_orphanBeside dX2_greatestIn_45 ml_X2_60 rfl rfl rfl rfl rfl (Nat.le_of_ble_eq_true rfl) (by decide) rfl rfl (by decide) (fun h45 => ?_) (fun h45 => ?_)
            · refine aw_if_ne (tgt := 82) dX2_greatestIn_48 (by decide) (by decide) (fun _ => ?_) (fun h => absurd h (by decide))
              refine aw_iinc (L2 := [some (rV K 1 0), some (iV (row)), some (iV (seats)), some (iV (al)), some (iV (best)), some (iV (bv)), some (iV ((if 0 ≤ row ∧ row < M 1 0 4 then M 2 0 row else 0) - seats)), some (iV (first + 1)), none]) dX2_greatestIn_82 rfl (by decide) rfl ?_
              refine aw_goto (tgt := 18) dX2_greatestIn_85 (by decide) ?_
              exact ih18 (best) (bv) (first + 1) (by have h1 := hw.1; have h2 := hw.2.1; have h3 := hw.2.2 row v_row.1 v_row.2; omega) (by first | exact isBest_skip e2 (fun q => h30 ⟨by omega, e1, q.1, q.2.1⟩) | exact isBest_skip e2 (fun q => q.2.2.elim (fun a => a h37) (fun a => a h45)) | exact isBest_take e2 e1 ⟨h30.2.2.1, h30.2.2.2, Or.inl h37⟩ (Or.inl h64) | exact isBest_take e2 e1 ⟨h30.2.2.1, h30.2.2.2, Or.inr h45⟩ (Or.inl h64) | exact isBest_keep e2 h64 (by rw [← e3 h64]; exact h71) | exact isBest_take e2 e1 ⟨h30.2.2.1, h30.2.2.2, Or.inl h37⟩ (Or.inr (by rw [← e3 h64]; exact Int.not_le.mp h71)) | exact isBest_take e2 e1 ⟨h30.2.2.1, h30.2.2.2, Or.inr h45⟩ (Or.inr (by rw [← e3 h64]; exact Int.not_le.mp h71))) (by first | exact e3 | exact fun _ => rfl) (by have h1 := hw.1; have h2 := hw.2.1; have h3 := hw.2.2 row v_row.1 v_row.2; omega) (by first | exact e4 | (have b := vB_bd (sc := M 3 0 row) (w := M 2 0 row) (f := first) (k := seats) (by have h1 := hw.1; have h2 := hw.2.1; have h3 := hw.2.2 row v_row.1 v_row.2; omega) (by have h1 := hw.1; have h2 := hw.2.1; have h3 := hw.2.2 row v_row.1 v_row.2; omega) (by have h1 := hw.1; have h2 := hw.2.1; have h3 := hw.2.2 row v_row.1 v_row.2; omega) e1 (by omega) h30.2.2.1; have h1 := hw.1; have h2 := hw.2.1; have h3 := hw.2.2 row v_row.1 v_row.2; omega)) (by have h1 := hw.1; have h2 := hw.2.1; have h3 := hw.2.2 row v_row.1 v_row.2; omega)
            · refine aw_if_ne (tgt := 82) dX2_greatestIn_48 (by decide) (by decide) (fun h => absurd h (by decide)) (fun _ => ?_)
              refine aw_aload_n dX2_greatestIn_51 rfl rfl ?_
              refine aw_iload_n dX2_greatestIn_52 rfl rfl ?_
              refine aw_iload dX2_greatestIn_53 rfl ?_
              refine aw_iload_n dX2_greatestIn_55 rfl rfl ?_
              refine aw_cVi (g := 1) (As := [iV (row), iV (first), iV (seats)]) (rest := []) (c_X2_blockValue hst M (row) (first) (seats) (by have h1 := hw.1; have h2 := hw.2.1; have h3 := hw.2.2 row v_row.1 v_row.2; omega) (by have h1 := hw.1; have h2 := hw.2.1; have h3 := hw.2.2 row v_row.1 v_row.2; omega) (by have h1 := hw.1; have h2 := hw.2.1; have h3 := hw.2.2 row v_row.1 v_row.2; omega) (by have h1 := hw.1; have h2 := hw.2.1; have h3 := hw.2.2 row v_row.1 v_row.2; omega) (by have h1 := hw.1; have h2 := hw.2.1; have h3 := hw.2.2 row v_row.1 v_row.2; omega) (by exact ⟨e1, by omega, h30.2.2.1⟩)) cv_X2_blockValue dX2_greatestIn_56 ml_X2_63 rfl rfl rfl rfl rfl (Nat.le_of_ble_eq_true rfl) (by decide) rfl rfl (by decide) ?_
              refine aw_istore (L2 := [some (rV K 1 0), some (iV (row)), some (iV (seats)), some (iV (al)), some (iV (best)), some (iV (bv)), some (iV ((if 0 ≤ row ∧ row < M 1 0 4 then M 2 0 row else 0) - seats)), some (iV (first)), some (iV (vB (M 3 0 row) (M 2 0 row) first seats))]) dX2_greatestIn_59 (by decide) rfl ?_
              refine aw_iload dX2_greatestIn_61 rfl ?_
              refine aw_iconst dX2_greatestIn_63 ?_
              refine aw_icmp_eq (tgt := 74) dX2_greatestIn_64 (by decide) (by have h1 := hw.1; have h2 := hw.2.1; have h3 := hw.2.2 row v_row.1 v_row.2; omega) (by have h1 := hw.1; have h2 := hw.2.1; have h3 := hw.2.2 row v_row.1 v_row.2; omega) (fun h64 => ?_) (fun h64 => ?_)
              · refine aw_iload dX2_greatestIn_74 rfl ?_
                refine aw_istore (L2 := [some (rV K 1 0), some (iV (row)), some (iV (seats)), some (iV (al)), some (iV (first)), some (iV (bv)), some (iV ((if 0 ≤ row ∧ row < M 1 0 4 then M 2 0 row else 0) - seats)), some (iV (first)), some (iV (vB (M 3 0 row) (M 2 0 row) first seats))]) dX2_greatestIn_76 (by decide) rfl ?_
                refine aw_iload dX2_greatestIn_78 rfl ?_
                refine aw_istore (L2 := [some (rV K 1 0), some (iV (row)), some (iV (seats)), some (iV (al)), some (iV (first)), some (iV (vB (M 3 0 row) (M 2 0 row) first seats)), some (iV ((if 0 ≤ row ∧ row < M 1 0 4 then M 2 0 row else 0) - seats)), some (iV (first)), some (iV (vB (M 3 0 row) (M 2 0 row) first seats))]) dX2_greatestIn_80 (by decide) rfl ?_
                refine aw_iinc (L2 := [some (rV K 1 0), some (iV (row)), some (iV (seats)), some (iV (al)), some (iV (first)), some (iV (vB (M 3 0 row) (M 2 0 row) first seats)), some (iV ((if 0 ≤ row ∧ row < M 1 0 4 then M 2 0 row else 0) - seats)), some (iV (first + 1)), some (iV (vB (M 3 0 row) (M 2 0 row) first seats))]) dX2_greatestIn_82 rfl (by decide) rfl ?_
                refine aw_goto (tgt := 18) dX2_greatestIn_85 (by decide) ?_
                refine aw_weak (L' := [some (rV K 1 0), some (iV (row)), some (iV (seats)), some (iV (al)), some (iV (first)), some (iV (vB (M 3 0 row) (M 2 0 row) first seats)), some (iV ((if 0 ≤ row ∧ row < M 1 0 4 then M 2 0 row else 0) - seats)), some (iV (first + 1)), none]) ⟨Or.inr rfl, Or.inr rfl, Or.inr rfl, Or.inr rfl, Or.inr rfl, Or.inr rfl, Or.inr rfl, Or.inr rfl, Or.inl rfl, trivial⟩ ?_
                exact ih18 (first) (vB (M 3 0 row) (M 2 0 row) first seats) (first + 1) (by have h1 := hw.1; have h2 := hw.2.1; have h3 := hw.2.2 row v_row.1 v_row.2; omega) (by first | exact isBest_skip e2 (fun q => h30 ⟨by omega, e1, q.1, q.2.1⟩) | exact isBest_skip e2 (fun q => q.2.2.elim (fun a => a h37) (fun a => a h45)) | exact isBest_take e2 e1 ⟨h30.2.2.1, h30.2.2.2, Or.inl h37⟩ (Or.inl h64) | exact isBest_take e2 e1 ⟨h30.2.2.1, h30.2.2.2, Or.inr h45⟩ (Or.inl h64) | exact isBest_keep e2 h64 (by rw [← e3 h64]; exact h71) | exact isBest_take e2 e1 ⟨h30.2.2.1, h30.2.2.2, Or.inl h37⟩ (Or.inr (by rw [← e3 h64]; exact Int.not_le.mp h71)) | exact isBest_take e2 e1 ⟨h30.2.2.1, h30.2.2.2, Or.inr h45⟩ (Or.inr (by rw [← e3 h64]; exact Int.not_le.mp h71))) (by first | exact e3 | exact fun _ => rfl) (by have h1 := hw.1; have h2 := hw.2.1; have h3 := hw.2.2 row v_row.1 v_row.2; omega) (by first | exact e4 | (have b := vB_bd (sc := M 3 0 row) (w := M 2 0 row) (f := first) (k := seats) (by have h1 := hw.1; have h2 := hw.2.1; have h3 := hw.2.2 row v_row.1 v_row.2; omega) (by have h1 := hw.1; have h2 := hw.2.1; have h3 := hw.2.2 row v_row.1 v_row.2; omega) (by have h1 := hw.1; have h2 := hw.2.1; have h3 := hw.2.2 row v_row.1 v_row.2; omega) e1 (by omega) h30.2.2.1; have h1 := hw.1; have h2 := hw.2.1; have h3 := hw.2.2 row v_row.1 v_row.2; omega)) (by have h1 := hw.1; have h2 := hw.2.1; have h3 := hw.2.2 row v_row.1 v_row.2; omega)
              · refine aw_iload dX2_greatestIn_67 rfl ?_
                refine aw_iload dX2_greatestIn_69 rfl ?_
                refine aw_icmp_le (tgt := 82) dX2_greatestIn_71 (by decide) (by have b := vB_bd (sc := M 3 0 row) (w := M 2 0 row) (f := first) (k := seats) (by have h1 := hw.1; have h2 := hw.2.1; have h3 := hw.2.2 row v_row.1 v_row.2; omega) (by have h1 := hw.1; have h2 := hw.2.1; have h3 := hw.2.2 row v_row.1 v_row.2; omega) (by have h1 := hw.1; have h2 := hw.2.1; have h3 := hw.2.2 row v_row.1 v_row.2; omega) e1 (by omega) h30.2.2.1; omega) (by have h1 := hw.1; have h2 := hw.2.1; have h3 := hw.2.2 row v_row.1 v_row.2; omega) (fun h71 => ?_) (fun h71 => ?_)
                · refine aw_iinc (L2 := [some (rV K 1 0), some (iV (row)), some (iV (seats)), some (iV (al)), some (iV (best)), some (iV (bv)), some (iV ((if 0 ≤ row ∧ row < M 1 0 4 then M 2 0 row else 0) - seats)), some (iV (first + 1)), some (iV (vB (M 3 0 row) (M 2 0 row) first seats))]) dX2_greatestIn_82 rfl (by decide) rfl ?_
                  refine aw_goto (tgt := 18) dX2_greatestIn_85 (by decide) ?_
                  refine aw_weak (L' := [some (rV K 1 0), some (iV (row)), some (iV (seats)), some (iV (al)), some (iV (best)), some (iV (bv)), some (iV ((if 0 ≤ row ∧ row < M 1 0 4 then M 2 0 row else 0) - seats)), some (iV (first + 1)), none]) ⟨Or.inr rfl, Or.inr rfl, Or.inr rfl, Or.inr rfl, Or.inr rfl, Or.inr rfl, Or.inr rfl, Or.inr rfl, Or.inl rfl, trivial⟩ ?_
                  exact ih18 (best) (bv) (first + 1) (by have h1 := hw.1; have h2 := hw.2.1; have h3 := hw.2.2 row v_row.1 v_row.2; omega) (by first | exact isBest_skip e2 (fun q => h30 ⟨by omega, e1, q.1, q.2.1⟩) | exact isBest_skip e2 (fun q => q.2.2.elim (fun a => a h37) (fun a => a h45)) | exact isBest_take e2 e1 ⟨h30.2.2.1, h30.2.2.2, Or.inl h37⟩ (Or.inl h64) | exact isBest_take e2 e1 ⟨h30.2.2.1, h30.2.2.2, Or.inr h45⟩ (Or.inl h64) | exact isBest_keep e2 h64 (by rw [← e3 h64]; exact h71) | exact isBest_take e2 e1 ⟨h30.2.2.1, h30.2.2.2, Or.inl h37⟩ (Or.inr (by rw [← e3 h64]; exact Int.not_le.mp h71)) | exact isBest_take e2 e1 ⟨h30.2.2.1, h30.2.2.2, Or.inr h45⟩ (Or.inr (by rw [← e3 h64]; exact Int.not_le.mp h71))) (by first | exact e3 | exact fun _ => rfl) (by have h1 := hw.1; have h2 := hw.2.1; have h3 := hw.2.2 row v_row.1 v_row.2; omega) (by first | exact e4 | (have b := vB_bd (sc := M 3 0 row) (w := M 2 0 row) (f := first) (k := seats) (by have h1 := hw.1; have h2 := hw.2.1; have h3 := hw.2.2 row v_row.1 v_row.2; omega) (by have h1 := hw.1; have h2 := hw.2.1; have h3 := hw.2.2 row v_row.1 v_row.2; omega) (by have h1 := hw.1; have h2 := hw.2.1; have h3 := hw.2.2 row v_row.1 v_row.2; omega) e1 (by omega) h30.2.2.1; have h1 := hw.1; have h2 := hw.2.1; have h3 := hw.2.2 row v_row.1 v_row.2; omega)) (by have h1 := hw.1; have h2 := hw.2.1; have h3 := hw.2.2 row v_row.1 v_row.2; omega)
                · refine aw_iload dX2_greatestIn_74 rfl ?_
                  refine aw_istore (L2 := [some (rV K 1 0), some (iV (row)), some (iV (seats)), some (iV (al)), some (iV (first)), some (iV (bv)), some (iV ((if 0 ≤ row ∧ row < M 1 0 4 then M 2 0 row else 0) - seats)), some (iV (first)), some (iV (vB (M 3 0 row) (M 2 0 row) first seats))]) dX2_greatestIn_76 (by decide) rfl ?_
                  refine aw_iload dX2_greatestIn_78 rfl ?_
                  refine aw_istore (L2 := [some (rV K 1 0), some (iV (row)), some (iV (seats)), some (iV (al)), some (iV (first)), some (iV (vB (M 3 0 row) (M 2 0 row) first seats)), some (iV ((if 0 ≤ row ∧ row < M 1 0 4 then M 2 0 row else 0) - seats)), some (iV (first)), some (iV (vB (M 3 0 row) (M 2 0 row) first seats))]) dX2_greatestIn_80 (by decide) rfl ?_
                  refine aw_iinc (L2 := [some (rV K 1 0), some (iV (row)), some (iV (seats)), some (iV (al)), some (iV (first)), some (iV (vB (M 3 0 row) (M 2 0 row) first seats)), some (iV ((if 0 ≤ row ∧ row < M 1 0 4 then M 2 0 row else 0) - seats)), some (iV (first + 1)), some (iV (vB (M 3 0 row) (M 2 0 row) first seats))]) dX2_greatestIn_82 rfl (by decide) rfl ?_
                  refine aw_goto (tgt := 18) dX2_greatestIn_85 (by decide) ?_
                  refine aw_weak (L' := [some (rV K 1 0), some (iV (row)), some (iV (seats)), some (iV (al)), some (iV (first)), some (iV (vB (M 3 0 row) (M 2 0 row) first seats)), some (iV ((if 0 ≤ row ∧ row < M 1 0 4 then M 2 0 row else 0) - seats)), some (iV (first + 1)), none]) ⟨Or.inr rfl, Or.inr rfl, Or.inr rfl, Or.inr rfl, Or.inr rfl, Or.inr rfl, Or.inr rfl, Or.inr rfl, Or.inl rfl, trivial⟩ ?_
                  exact ih18 (first) (vB (M 3 0 row) (M 2 0 row) first seats) (first + 1) (by have h1 := hw.1; have h2 := hw.2.1; have h3 := hw.2.2 row v_row.1 v_row.2; omega) (by first | exact isBest_skip e2 (fun q => h30 ⟨by omega, e1, q.1, q.2.1⟩) | exact isBest_skip e2 (fun q => q.2.2.elim (fun a => a h37) (fun a => a h45)) | exact isBest_take e2 e1 ⟨h30.2.2.1, h30.2.2.2, Or.inl h37⟩ (Or.inl h64) | exact isBest_take e2 e1 ⟨h30.2.2.1, h30.2.2.2, Or.inr h45⟩ (Or.inl h64) | exact isBest_keep e2 h64 (by rw [← e3 h64]; exact h71) | exact isBest_take e2 e1 ⟨h30.2.2.1, h30.2.2.2, Or.inl h37⟩ (Or.inr (by rw [← e3 h64]; exact Int.not_le.mp h71)) | exact isBest_take e2 e1 ⟨h30.2.2.1, h30.2.2.2, Or.inr h45⟩ (Or.inr (by rw [← e3 h64]; exact Int.not_le.mp h71))) (by first | exact e3 | exact fun _ => rfl) (by have h1 := hw.1; have h2 := hw.2.1; have h3 := hw.2.2 row v_row.1 v_row.2; omega) (by first | exact e4 | (have b := vB_bd (sc := M 3 0 row) (w := M 2 0 row) (f := first) (k := seats) (by have h1 := hw.1; have h2 := hw.2.1; have h3 := hw.2.2 row v_row.1 v_row.2; omega) (by have h1 := hw.1; have h2 := hw.2.1; have h3 := hw.2.2 row v_row.1 v_row.2; omega) (by have h1 := hw.1; have h2 := hw.2.1; have h3 := hw.2.2 row v_row.1 v_row.2; omega) e1 (by omega) h30.2.2.1; have h1 := hw.1; have h2 := hw.2.1; have h3 := hw.2.2 row v_row.1 v_row.2; omega)) (by have h1 := hw.1; have h2 := hw.2.1; have h3 := hw.2.2 row v_row.1 v_row.2; omega)
        · refine aw_if_eq (tgt := 82) dX2_greatestIn_33 (by decide) (by decide) (fun _ => ?_) (fun h => absurd (by decide) h)
          refine aw_iinc (L2 := [some (rV K 1 0), some (iV (row)), some (iV (seats)), some (iV (al)), some (iV (best)), some (iV (bv)), some (iV ((if 0 ≤ row ∧ row < M 1 0 4 then M 2 0 row else 0) - seats)), some (iV (first + 1)), none]) dX2_greatestIn_82 rfl (by decide) rfl ?_
          refine aw_goto (tgt := 18) dX2_greatestIn_85 (by decide) ?_
          exact ih18 (best) (bv) (first + 1) (by have h1 := hw.1; have h2 := hw.2.1; have h3 := hw.2.2 row v_row.1 v_row.2; omega) (by first | exact isBest_skip e2 (fun q => h30 ⟨by omega, e1, q.1, q.2.1⟩) | exact isBest_skip e2 (fun q => q.2.2.elim (fun a => a h37) (fun a => a h45)) | exact isBest_take e2 e1 ⟨h30.2.2.1, h30.2.2.2, Or.inl h37⟩ (Or.inl h64) | exact isBest_take e2 e1 ⟨h30.2.2.1, h30.2.2.2, Or.inr h45⟩ (Or.inl h64) | exact isBest_keep e2 h64 (by rw [← e3 h64]; exact h71) | exact isBest_take e2 e1 ⟨h30.2.2.1, h30.2.2.2, Or.inl h37⟩ (Or.inr (by rw [← e3 h64]; exact Int.not_le.mp h71)) | exact isBest_take e2 e1 ⟨h30.2.2.1, h30.2.2.2, Or.inr h45⟩ (Or.inr (by rw [← e3 h64]; exact Int.not_le.mp h71))) (by first | exact e3 | exact fun _ => rfl) (by have h1 := hw.1; have h2 := hw.2.1; have h3 := hw.2.2 row v_row.1 v_row.2; omega) (by first | exact e4 | (have b := vB_bd (sc := M 3 0 row) (w := M 2 0 row) (f := first) (k := seats) (by have h1 := hw.1; have h2 := hw.2.1; have h3 := hw.2.2 row v_row.1 v_row.2; omega) (by have h1 := hw.1; have h2 := hw.2.1; have h3 := hw.2.2 row v_row.1 v_row.2; omega) (by have h1 := hw.1; have h2 := hw.2.1; have h3 := hw.2.2 row v_row.1 v_row.2; omega) e1 (by omega) h30.2.2.1; have h1 := hw.1; have h2 := hw.2.1; have h3 := hw.2.2 row v_row.1 v_row.2; omega)) (by have h1 := hw.1; have h2 := hw.2.1; have h3 := hw.2.2 row v_row.1 v_row.2; omega)
  exact lp18 (((M 2 0 row - seats - 0 + 1).toNat) + 1) (-1) (0) (0) (by have h1 := hw.1; have h2 := hw.2.1; have h3 := hw.2.2 row v_row.1 v_row.2; omega) (by exact isBest_none) (by intro q; omega) (by have h1 := hw.1; have h2 := hw.2.1; have h3 := hw.2.2 row v_row.1 v_row.2; omega) (by omega) (Nat.lt_succ_self _)
set_option maxHeartbeats 4000000 in
set_option maxRecDepth 20000 in
theorem c_X2_greatestOfAll {K : WPar} {l : Launch} (hst : l.stackTraces = false) (M : Mem) (seats : Int) (al : Int) (r_seats : inR seats) (r_al : inR al) (hw : HW M) (v_se : 1 ≤ seats ∧ seats ≤ 20) : CT K l iX2_greatestOfAll [rV K 1 0, iV (seats), iV (al)] M (rR (fun z => ∃ bv, isBestRV (M 1 0 4) (cB (M 2 0) (M 6) seats (al ≠ 0)) (vBR (M 3 0) (M 2 0) seats) z bv) (M)) := by
  refine aw_met [some (rV K 1 0), some (iV (seats)), some (iV (al)), none, none, none, none, none] hst (by decide) rfl (Nat.le_of_ble_eq_true rfl) rfl rfl (lcat rfl) ?_
  refine aw_rng (fun hM => ?_)
  refine aw_iconst dX2_greatestOfAll_0 ?_
  refine aw_istore_n (L2 := [some (rV K 1 0), some (iV (seats)), some (iV (al)), some (iV (-1)), none, none, none, none]) dX2_greatestOfAll_1 rfl (by decide) rfl ?_
  refine aw_iconst dX2_greatestOfAll_2 ?_
  refine aw_istore (L2 := [some (rV K 1 0), some (iV (seats)), some (iV (al)), some (iV (-1)), some (iV 0), none, none, none]) dX2_greatestOfAll_3 (by decide) rfl ?_
  refine aw_iconst dX2_greatestOfAll_5 ?_
  refine aw_istore (L2 := [some (rV K 1 0), some (iV (seats)), some (iV (al)), some (iV (-1)), some (iV 0), some (iV 0), none, none]) dX2_greatestOfAll_6 (by decide) rfl ?_
  have lp8 : ∀ (n8 : Nat) (best bv row : Int), (0 ≤ row ∧ row ≤ M 1 0 4) → (isBestRV row (cB (M 2 0) (M 6) seats (al ≠ 0)) (vBR (M 3 0) (M 2 0) seats) best bv) → (-1 ≤ best ∧ best ≤ 2000 ∧ -400 ≤ bv ∧ bv ≤ 20000) → ((M 1 0 4 - row).toNat) < n8 → AW K l iX2_greatestOfAll (ZM K iX2_greatestOfAll (rR (fun z => ∃ bv, isBestRV (M 1 0 4) (cB (M 2 0) (M 6) seats (al ≠ 0)) (vBR (M 3 0) (M 2 0) seats) z bv) (M))) 8 [some (rV K 1 0), some (iV (seats)), some (iV (al)), some (iV (best)), some (iV (bv)), some (iV (row)), none, none] [] (M) 0 0 := by
    intro n8
    induction n8 with
    | zero =>
      intro best bv row e1 e2 e4 hm8
      exact absurd hm8 (Nat.not_lt_zero _)
    | succ n8 ih8 =>
      intro best bv row e1 e2 e4 hm8
      refine aw_iload dX2_greatestOfAll_8 rfl ?_
      refine aw_aload_n dX2_greatestOfAll_10 rfl rfl ?_
      refine aw_geti (g := 1) rfl rfl ly_X2 rfl (k := 4) 4 rfl dX2_greatestOfAll_11 (by decide) fl_X2_26 rfl (fun r11 => ?_)
      refine aw_icmp_ge (tgt := 75) dX2_greatestOfAll_14 (by decide) (by have h1 := hw.1; have h2 := hw.2.1; omega) (by have h1 := hw.1; have h2 := hw.2.1; omega) (fun h14 => ?_) (fun h14 => ?_)
      · refine aw_iload_n dX2_greatestOfAll_75 rfl rfl ?_
        exact aw_iret dX2_greatestOfAll_76 rfl rfl (by decide) (by decide) ⟨best, rfl, (by have q : row = M 1 0 4 := (by omega); rw [← q]; exact ⟨bv, e2⟩), (by rfl)⟩
      · refine aw_aload_n dX2_greatestOfAll_17 rfl rfl ?_
        refine aw_iload dX2_greatestOfAll_18 rfl ?_
        refine aw_iload_n dX2_greatestOfAll_20 rfl rfl ?_
        refine aw_iload_n dX2_greatestOfAll_21 rfl rfl ?_
        refine aw_cVr (g := 1) (As := [iV (row), iV (seats), iV (al)]) (rest := []) (c_X2_greatestIn hst M (row) (seats) (al) (by have h1 := hw.1; have h2 := hw.2.1; have h3 := hw.2.2 row (by omega) (by omega); omega) (by have h1 := hw.1; have h2 := hw.2.1; have h3 := hw.2.2 row (by omega) (by omega); omega) (by have h1 := hw.1; have h2 := hw.2.1; have h3 := hw.2.2 row (by omega) (by omega); omega) (by have h1 := hw.1; have h2 := hw.2.1; have h3 := hw.2.2 row (by omega) (by omega); omega) (by have h1 := hw.1; have h2 := hw.2.1; have h3 := hw.2.2 row (by omega) (by omega); omega) (by have h1 := hw.1; have h2 := hw.2.1; have h3 := hw.2.2 row (by omega) (by omega); omega)) cv_X2_greatestIn dX2_greatestOfAll_22 ml_X2_67 rfl rfl rfl rfl rfl (Nat.le_of_ble_eq_true rfl) (by decide) rfl rfl (by decide) (fun z22 (h22 : isBest (cB (M 2 0) (M 6) seats (al ≠ 0) row) (vBR (M 3 0) (M 2 0) seats row) z22) => ?_)
        refine aw_istore (L2 := [some (rV K 1 0), some (iV (seats)), some (iV (al)), some (iV (best)), some (iV (bv)), some (iV (row)), some (iV (z22)), none]) dX2_greatestOfAll_25 (by decide) rfl ?_
        refine aw_iload dX2_greatestOfAll_27 rfl ?_
        refine aw_iconst dX2_greatestOfAll_29 ?_
        refine aw_icmp_eq (tgt := 69) dX2_greatestOfAll_30 (by decide) (by have gb := isBest_in h22; have gc : z22 = -1 ∨ (0 ≤ z22 ∧ z22 + seats ≤ M 2 0 row) := gb.elim Or.inl (fun q => Or.inr ⟨q.1, q.2.1⟩); have h1 := hw.1; have h2 := hw.2.1; have h3 := hw.2.2 row (by omega) (by omega); omega) (by have h1 := hw.1; have h2 := hw.2.1; have h3 := hw.2.2 row (by omega) (by omega); omega) (fun h30 => ?_) (fun h30 => ?_)
        · refine aw_iinc (L2 := [some (rV K 1 0), some (iV (seats)), some (iV (al)), some (iV (best)), some (iV (bv)), some (iV (row + 1)), some (iV (z22)), none]) dX2_greatestOfAll_69 rfl (by decide) rfl ?_
          refine aw_goto (tgt := 8) dX2_greatestOfAll_72 (by decide) ?_
          refine aw_weak (L' := [some (rV K 1 0), some (iV (seats)), some (iV (al)), some (iV (best)), some (iV (bv)), some (iV (row + 1)), none, none]) ⟨Or.inr rfl, Or.inr rfl, Or.inr rfl, Or.inr rfl, Or.inr rfl, Or.inr rfl, Or.inl rfl, Or.inr rfl, trivial⟩ ?_
          exact ih8 (best) (bv) (row + 1) (by omega) (by first | exact isBestRV_none e2 (h30 ▸ h22) | exact isBestRV_take e2 e1.1 h22 h30 (Or.inl h46) | exact isBestRV_keep e2 h22 h46 h53 | exact isBestRV_take e2 e1.1 h22 h30 (Or.inr (Int.not_le.mp h53))) (by first | exact e4 | (have gb := isBest_in h22; have gc : z22 = -1 ∨ (0 ≤ z22 ∧ z22 + seats ≤ M 2 0 row) := gb.elim Or.inl (fun q => Or.inr ⟨q.1, q.2.1⟩); have gd := vB_bd (sc := M 3 0 row) (w := M 2 0 row) (f := z22) (k := seats) (by have h1 := hw.1; have h2 := hw.2.1; have h3 := hw.2.2 row (by omega) (by omega); omega) (by have h1 := hw.1; have h2 := hw.2.1; have h3 := hw.2.2 row (by omega) (by omega); omega) (by have h1 := hw.1; have h2 := hw.2.1; have h3 := hw.2.2 row (by omega) (by omega); omega) (by omega) (by omega) (by omega); have ge : vBR (M 3 0) (M 2 0) seats row z22 = vB (M 3 0 row) (M 2 0 row) z22 seats := rfl; have h1 := hw.1; have h2 := hw.2.1; have h3 := hw.2.2 row (by omega) (by omega); omega)) (by omega)
        · refine aw_aload_n dX2_greatestOfAll_33 rfl rfl ?_
          refine aw_iload dX2_greatestOfAll_34 rfl ?_
          refine aw_iload dX2_greatestOfAll_36 rfl ?_
          refine aw_iload_n dX2_greatestOfAll_38 rfl rfl ?_
          refine aw_cVi (g := 1) (As := [iV (row), iV (z22), iV (seats)]) (rest := []) (c_X2_blockValue hst M (row) (z22) (seats) (by have h1 := hw.1; have h2 := hw.2.1; have h3 := hw.2.2 row (by omega) (by omega); omega) (by have gb := isBest_in h22; have gc : z22 = -1 ∨ (0 ≤ z22 ∧ z22 + seats ≤ M 2 0 row) := gb.elim Or.inl (fun q => Or.inr ⟨q.1, q.2.1⟩); have h1 := hw.1; have h2 := hw.2.1; have h3 := hw.2.2 row (by omega) (by omega); omega) (by have h1 := hw.1; have h2 := hw.2.1; have h3 := hw.2.2 row (by omega) (by omega); omega) (by have h1 := hw.1; have h2 := hw.2.1; have h3 := hw.2.2 row (by omega) (by omega); omega) (by have h1 := hw.1; have h2 := hw.2.1; have h3 := hw.2.2 row (by omega) (by omega); omega) (by have gb := isBest_in h22; have gc : z22 = -1 ∨ (0 ≤ z22 ∧ z22 + seats ≤ M 2 0 row) := gb.elim Or.inl (fun q => Or.inr ⟨q.1, q.2.1⟩); have h1 := hw.1; have h2 := hw.2.1; have h3 := hw.2.2 row (by omega) (by omega); omega)) cv_X2_blockValue dX2_greatestOfAll_39 ml_X2_63 rfl rfl rfl rfl rfl (Nat.le_of_ble_eq_true rfl) (by decide) rfl rfl (by decide) ?_
          refine aw_istore (L2 := [some (rV K 1 0), some (iV (seats)), some (iV (al)), some (iV (best)), some (iV (bv)), some (iV (row)), some (iV (z22)), some (iV (vB (M 3 0 row) (M 2 0 row) z22 seats))]) dX2_greatestOfAll_42 (by decide) rfl ?_
          refine aw_iload_n dX2_greatestOfAll_44 rfl rfl ?_
          refine aw_iconst dX2_greatestOfAll_45 ?_
          refine aw_icmp_eq (tgt := 56) dX2_greatestOfAll_46 (by decide) (by have h1 := hw.1; have h2 := hw.2.1; have h3 := hw.2.2 row (by omega) (by omega); omega) (by have h1 := hw.1; have h2 := hw.2.1; have h3 := hw.2.2 row (by omega) (by omega); omega) (fun h46 => ?_) (fun h46 => ?_)
          · refine aw_bipush dX2_greatestOfAll_56 rfl ?_
            refine aw_iload dX2_greatestOfAll_58 rfl ?_
            refine aw_imul dX2_greatestOfAll_60 ?_
            refine aw_iload dX2_greatestOfAll_61 rfl ?_
            refine aw_iadd dX2_greatestOfAll_63 ?_
            refine aw_istore_n (L2 := [some (rV K 1 0), some (iV (seats)), some (iV (al)), some (iV ((100 * row) + z22)), some (iV (bv)), some (iV (row)), some (iV (z22)), some (iV (vB (M 3 0 row) (M 2 0 row) z22 seats))]) dX2_greatestOfAll_64 rfl (by decide) rfl ?_
            refine aw_iload dX2_greatestOfAll_65 rfl ?_
            refine aw_istore (L2 := [some (rV K 1 0), some (iV (seats)), some (iV (al)), some (iV ((100 * row) + z22)), some (iV (vB (M 3 0 row) (M 2 0 row) z22 seats)), some (iV (row)), some (iV (z22)), some (iV (vB (M 3 0 row) (M 2 0 row) z22 seats))]) dX2_greatestOfAll_67 (by decide) rfl ?_
            refine aw_iinc (L2 := [some (rV K 1 0), some (iV (seats)), some (iV (al)), some (iV ((100 * row) + z22)), some (iV (vB (M 3 0 row) (M 2 0 row) z22 seats)), some (iV (row + 1)), some (iV (z22)), some (iV (vB (M 3 0 row) (M 2 0 row) z22 seats))]) dX2_greatestOfAll_69 rfl (by decide) rfl ?_
            refine aw_goto (tgt := 8) dX2_greatestOfAll_72 (by decide) ?_
            refine aw_weak (L' := [some (rV K 1 0), some (iV (seats)), some (iV (al)), some (iV ((100 * row) + z22)), some (iV (vB (M 3 0 row) (M 2 0 row) z22 seats)), some (iV (row + 1)), none, none]) ⟨Or.inr rfl, Or.inr rfl, Or.inr rfl, Or.inr rfl, Or.inr rfl, Or.inr rfl, Or.inl rfl, Or.inl rfl, trivial⟩ ?_
            exact ih8 ((100 * row) + z22) (vB (M 3 0 row) (M 2 0 row) z22 seats) (row + 1) (by omega) (by first | exact isBestRV_none e2 (h30 ▸ h22) | exact isBestRV_take e2 e1.1 h22 h30 (Or.inl h46) | exact isBestRV_keep e2 h22 h46 h53 | exact isBestRV_take e2 e1.1 h22 h30 (Or.inr (Int.not_le.mp h53))) (by first | exact e4 | (have gb := isBest_in h22; have gc : z22 = -1 ∨ (0 ≤ z22 ∧ z22 + seats ≤ M 2 0 row) := gb.elim Or.inl (fun q => Or.inr ⟨q.1, q.2.1⟩); have gd := vB_bd (sc := M 3 0 row) (w := M 2 0 row) (f := z22) (k := seats) (by have h1 := hw.1; have h2 := hw.2.1; have h3 := hw.2.2 row (by omega) (by omega); omega) (by have h1 := hw.1; have h2 := hw.2.1; have h3 := hw.2.2 row (by omega) (by omega); omega) (by have h1 := hw.1; have h2 := hw.2.1; have h3 := hw.2.2 row (by omega) (by omega); omega) (by omega) (by omega) (by omega); have ge : vBR (M 3 0) (M 2 0) seats row z22 = vB (M 3 0 row) (M 2 0 row) z22 seats := rfl; have h1 := hw.1; have h2 := hw.2.1; have h3 := hw.2.2 row (by omega) (by omega); omega)) (by omega)
          · refine aw_iload dX2_greatestOfAll_49 rfl ?_
            refine aw_iload dX2_greatestOfAll_51 rfl ?_
            refine aw_icmp_le (tgt := 69) dX2_greatestOfAll_53 (by decide) (by have gb := isBest_in h22; have gc : z22 = -1 ∨ (0 ≤ z22 ∧ z22 + seats ≤ M 2 0 row) := gb.elim Or.inl (fun q => Or.inr ⟨q.1, q.2.1⟩); have gd := vB_bd (sc := M 3 0 row) (w := M 2 0 row) (f := z22) (k := seats) (by have h1 := hw.1; have h2 := hw.2.1; have h3 := hw.2.2 row (by omega) (by omega); omega) (by have h1 := hw.1; have h2 := hw.2.1; have h3 := hw.2.2 row (by omega) (by omega); omega) (by have h1 := hw.1; have h2 := hw.2.1; have h3 := hw.2.2 row (by omega) (by omega); omega) (by omega) (by omega) (by omega); have h1 := hw.1; have h2 := hw.2.1; have h3 := hw.2.2 row (by omega) (by omega); omega) (by have h1 := hw.1; have h2 := hw.2.1; have h3 := hw.2.2 row (by omega) (by omega); omega) (fun h53 => ?_) (fun h53 => ?_)
            · refine aw_iinc (L2 := [some (rV K 1 0), some (iV (seats)), some (iV (al)), some (iV (best)), some (iV (bv)), some (iV (row + 1)), some (iV (z22)), some (iV (vB (M 3 0 row) (M 2 0 row) z22 seats))]) dX2_greatestOfAll_69 rfl (by decide) rfl ?_
              refine aw_goto (tgt := 8) dX2_greatestOfAll_72 (by decide) ?_
              refine aw_weak (L' := [some (rV K 1 0), some (iV (seats)), some (iV (al)), some (iV (best)), some (iV (bv)), some (iV (row + 1)), none, none]) ⟨Or.inr rfl, Or.inr rfl, Or.inr rfl, Or.inr rfl, Or.inr rfl, Or.inr rfl, Or.inl rfl, Or.inl rfl, trivial⟩ ?_
              exact ih8 (best) (bv) (row + 1) (by omega) (by first | exact isBestRV_none e2 (h30 ▸ h22) | exact isBestRV_take e2 e1.1 h22 h30 (Or.inl h46) | exact isBestRV_keep e2 h22 h46 h53 | exact isBestRV_take e2 e1.1 h22 h30 (Or.inr (Int.not_le.mp h53))) (by first | exact e4 | (have gb := isBest_in h22; have gc : z22 = -1 ∨ (0 ≤ z22 ∧ z22 + seats ≤ M 2 0 row) := gb.elim Or.inl (fun q => Or.inr ⟨q.1, q.2.1⟩); have gd := vB_bd (sc := M 3 0 row) (w := M 2 0 row) (f := z22) (k := seats) (by have h1 := hw.1; have h2 := hw.2.1; have h3 := hw.2.2 row (by omega) (by omega); omega) (by have h1 := hw.1; have h2 := hw.2.1; have h3 := hw.2.2 row (by omega) (by omega); omega) (by have h1 := hw.1; have h2 := hw.2.1; have h3 := hw.2.2 row (by omega) (by omega); omega) (by omega) (by omega) (by omega); have ge : vBR (M 3 0) (M 2 0) seats row z22 = vB (M 3 0 row) (M 2 0 row) z22 seats := rfl; have h1 := hw.1; have h2 := hw.2.1; have h3 := hw.2.2 row (by omega) (by omega); omega)) (by omega)
            · refine aw_bipush dX2_greatestOfAll_56 rfl ?_
              refine aw_iload dX2_greatestOfAll_58 rfl ?_
              refine aw_imul dX2_greatestOfAll_60 ?_
              refine aw_iload dX2_greatestOfAll_61 rfl ?_
              refine aw_iadd dX2_greatestOfAll_63 ?_
              refine aw_istore_n (L2 := [some (rV K 1 0), some (iV (seats)), some (iV (al)), some (iV ((100 * row) + z22)), some (iV (bv)), some (iV (row)), some (iV (z22)), some (iV (vB (M 3 0 row) (M 2 0 row) z22 seats))]) dX2_greatestOfAll_64 rfl (by decide) rfl ?_
              refine aw_iload dX2_greatestOfAll_65 rfl ?_
              refine aw_istore (L2 := [some (rV K 1 0), some (iV (seats)), some (iV (al)), some (iV ((100 * row) + z22)), some (iV (vB (M 3 0 row) (M 2 0 row) z22 seats)), some (iV (row)), some (iV (z22)), some (iV (vB (M 3 0 row) (M 2 0 row) z22 seats))]) dX2_greatestOfAll_67 (by decide) rfl ?_
              refine aw_iinc (L2 := [some (rV K 1 0), some (iV (seats)), some (iV (al)), some (iV ((100 * row) + z22)), some (iV (vB (M 3 0 row) (M 2 0 row) z22 seats)), some (iV (row + 1)), some (iV (z22)), some (iV (vB (M 3 0 row) (M 2 0 row) z22 seats))]) dX2_greatestOfAll_69 rfl (by decide) rfl ?_
              refine aw_goto (tgt := 8) dX2_greatestOfAll_72 (by decide) ?_
              refine aw_weak (L' := [some (rV K 1 0), some (iV (seats)), some (iV (al)), some (iV ((100 * row) + z22)), some (iV (vB (M 3 0 row) (M 2 0 row) z22 seats)), some (iV (row + 1)), none, none]) ⟨Or.inr rfl, Or.inr rfl, Or.inr rfl, Or.inr rfl, Or.inr rfl, Or.inr rfl, Or.inl rfl, Or.inl rfl, trivial⟩ ?_
              exact ih8 ((100 * row) + z22) (vB (M 3 0 row) (M 2 0 row) z22 seats) (row + 1) (by omega) (by first | exact isBestRV_none e2 (h30 ▸ h22) | exact isBestRV_take e2 e1.1 h22 h30 (Or.inl h46) | exact isBestRV_keep e2 h22 h46 h53 | exact isBestRV_take e2 e1.1 h22 h30 (Or.inr (Int.not_le.mp h53))) (by first | exact e4 | (have gb := isBest_in h22; have gc : z22 = -1 ∨ (0 ≤ z22 ∧ z22 + seats ≤ M 2 0 row) := gb.elim Or.inl (fun q => Or.inr ⟨q.1, q.2.1⟩); have gd := vB_bd (sc := M 3 0 row) (w := M 2 0 row) (f := z22) (k := seats) (by have h1 := hw.1; have h2 := hw.2.1; have h3 := hw.2.2 row (by omega) (by omega); omega) (by have h1 := hw.1; have h2 := hw.2.1; have h3 := hw.2.2 row (by omega) (by omega); omega) (by have h1 := hw.1; have h2 := hw.2.1; have h3 := hw.2.2 row (by omega) (by omega); omega) (by omega) (by omega) (by omega); have ge : vBR (M 3 0) (M 2 0) seats row z22 = vB (M 3 0 row) (M 2 0 row) z22 seats := rfl; have h1 := hw.1; have h2 := hw.2.1; have h3 := hw.2.2 row (by omega) (by omega); omega)) (by omega)
  exact lp8 (((M 1 0 4 - 0).toNat) + 1) (-1) (0) (0) (by exact ⟨Int.le_refl 0, hw.1⟩) (by exact isBestRV_0 _ _ _) (by omega) (Nat.lt_succ_self _)
set_option maxHeartbeats 4000000 in
set_option maxRecDepth 20000 in
theorem c_X2_give {K : WPar} {l : Launch} (hst : l.stackTraces = false) (M : Mem) (row : Int) (first : Int) (seats : Int) (owner : Int) (r_row : inR row) (r_first : inR first) (r_seats : inR seats) (r_owner : inR owner) (hw : HW M) (v_row : 0 ≤ row ∧ row < M 1 0 4) (v_b : 0 ≤ first ∧ 1 ≤ seats ∧ first + seats ≤ M 2 0 row) : CT K l iX2_give [rV K 1 0, iV (row), iV (first), iV (seats), iV (owner)] M (rN (giveM M row first seats owner)) := by
  refine aw_met [some (rV K 1 0), some (iV (row)), some (iV (first)), some (iV (seats)), some (iV (owner)), none] hst (by decide) rfl (Nat.le_of_ble_eq_true rfl) rfl rfl (lcat rfl) ?_
  refine aw_rng (fun hM => ?_)
  refine aw_iload_n dX2_give_0 rfl rfl ?_
  refine aw_istore (L2 := [some (rV K 1 0), some (iV (row)), some (iV (first)), some (iV (seats)), some (iV (owner)), some (iV (first))]) dX2_give_1 (by decide) rfl ?_
  have lp3 : ∀ (n3 : Nat) (seat : Int), (first ≤ seat ∧ seat ≤ first + seats) → ((first + seats - seat).toNat) < n3 → AW K l iX2_give (ZM K iX2_give (rN (giveM M row first seats owner))) 3 [some (rV K 1 0), some (iV (row)), some (iV (first)), some (iV (seats)), some (iV (owner)), some (iV (seat))] [] (giveM M row first (seat - first) owner) 0 0 := by
    intro n3
    induction n3 with
    | zero =>
      intro seat e1 hm3
      exact absurd hm3 (Nat.not_lt_zero _)
    | succ n3 ih3 =>
      intro seat e1 hm3
      have g1 := congrFun (congrFun (giveM_g (M := M) (row := row) (f := first) (k := seat - first) (ow := owner) (g := 1) (by decide)) 0) 4; have g2 := congrFun (congrFun (giveM_g (M := M) (row := row) (f := first) (k := seat - first) (ow := owner) (g := 2) (by decide)) 0) row
      refine aw_iload dX2_give_3 rfl ?_
      refine aw_iload_n dX2_give_5 rfl rfl ?_
      refine aw_iload_n dX2_give_6 rfl rfl ?_
      refine aw_iadd dX2_give_7 ?_
      refine aw_icmp_ge (tgt := 38) dX2_give_8 (by decide) (by have h1 := hw.1; have h2 := hw.2.1; have h3 := hw.2.2 row v_row.1 v_row.2; omega) (by have h1 := hw.1; have h2 := hw.2.1; have h3 := hw.2.2 row v_row.1 v_row.2; omega) (fun h8 => ?_) (fun h8 => ?_)
      · exact aw_vret dX2_give_38 rfl (by decide) (by decide) ⟨rfl, (by have q : seat - first = seats := (by omega); rw [q])⟩
      · refine aw_aload_n dX2_give_11 rfl rfl ?_
        refine aw_iload_n dX2_give_12 rfl rfl ?_
        refine aw_iload dX2_give_13 rfl ?_
        refine aw_cVb (g := 1) (As := [iV (row), iV (seat)]) (rest := []) (c_X2_hasSeat hst (giveM M row first (seat - first) owner) (row) (seat) (by have h1 := hw.1; have h2 := hw.2.1; have h3 := hw.2.2 row v_row.1 v_row.2; omega) (by have h1 := hw.1; have h2 := hw.2.1; have h3 := hw.2.2 row v_row.1 v_row.2; omega) (by exact HW_give hw _ _ _ _)) cv_X2_hasSeat dX2_give_15 ml_X2_30 rfl rfl rfl rfl rfl (Nat.le_of_ble_eq_true rfl) (by decide) rfl rfl (by decide) (fun h15 => ?_) (fun h15 => ?_)
        · refine aw_if_eq (tgt := 32) dX2_give_18 (by decide) (by decide) (fun h => absurd h (by decide)) (fun _ => ?_)
          refine aw_aload_n dX2_give_21 rfl rfl ?_
          refine aw_getr (g := 1) rfl rfl ly_X2 rfl (k := 3) dX2_give_22 (by decide) fl_X2_23 rfl ?_
          refine aw_iload_n dX2_give_25 rfl rfl ?_
          refine aw_aald (g := 5) (n := 12) rfl (by decide) rfl dX2_give_26 (by show 0 ≤ row ∧ row < (12 : Int); have h1 := hw.1; have h2 := hw.2.1; have h3 := hw.2.2 row v_row.1 v_row.2; omega) ?_
          refine aw_iload dX2_give_27 rfl ?_
          refine aw_iload dX2_give_29 rfl ?_
          refine aw_iast (g := 6) (n := 20) (M' := updM ((giveM M row first (seat - first) owner)) 6 row seat owner) rfl (by decide) dX2_give_31 (by show 0 ≤ row ∧ row < (12 : Int); have h1 := hw.1; have h2 := hw.2.1; have h3 := hw.2.2 row v_row.1 v_row.2; omega) (by show 0 ≤ seat ∧ seat < (20 : Int); have h1 := hw.1; have h2 := hw.2.1; have h3 := hw.2.2 row v_row.1 v_row.2; omega) (by have h1 := hw.1; have h2 := hw.2.1; have h3 := hw.2.2 row v_row.1 v_row.2; omega) rfl ?_
          refine aw_iinc (L2 := [some (rV K 1 0), some (iV (row)), some (iV (first)), some (iV (seats)), some (iV (owner)), some (iV (seat + 1))]) dX2_give_32 rfl (by decide) rfl ?_
          refine aw_goto (tgt := 3) dX2_give_35 (by decide) ?_
          refine aw_mem (M' := giveM M row first ((seat + 1) - first) owner) (by exact giveM_s e1.1) ?_
          exact ih3 (seat + 1) (by have h1 := hw.1; have h2 := hw.2.1; have h3 := hw.2.2 row v_row.1 v_row.2; omega) (by omega)
        · exact False.elim (by have h1 := hw.1; have h2 := hw.2.1; have h3 := hw.2.2 row v_row.1 v_row.2; omega)
  refine aw_mem (M' := giveM M row first (first - first) owner) (by exact (giveM_0 _ _ _ _).symm) ?_
  exact lp3 (((first + seats - first).toNat) + 1) (first) (by have h1 := hw.1; have h2 := hw.2.1; have h3 := hw.2.2 row v_row.1 v_row.2; omega) (Nat.lt_succ_self _)
set_option maxHeartbeats 4000000 in
set_option maxRecDepth 20000 in
theorem c_X2_freeOwnedBy {K : WPar} {l : Launch} (hst : l.stackTraces = false) (M : Mem) (ticket : Int) (r_ticket : inR ticket) (hw : HW M) : CT K l iX2_freeOwnedBy [rV K 1 0, iV (ticket)] M (rN (relM M ticket (M 1 0 4) 0)) := by
  refine aw_met [some (rV K 1 0), some (iV (ticket)), none, none] hst (by decide) rfl (Nat.le_of_ble_eq_true rfl) rfl rfl (lcat rfl) ?_
  refine aw_rng (fun hM => ?_)
  refine aw_iconst dX2_freeOwnedBy_0 ?_
  refine aw_istore_n (L2 := [some (rV K 1 0), some (iV (ticket)), some (iV 0), none]) dX2_freeOwnedBy_1 rfl (by decide) rfl ?_
  have lp2 : ∀ (n2 : Nat) (row : Int), (0 ≤ row ∧ row ≤ M 1 0 4) → ((M 1 0 4 - row).toNat) < n2 → AW K l iX2_freeOwnedBy (ZM K iX2_freeOwnedBy (rN (relM M ticket (M 1 0 4) 0))) 2 [some (rV K 1 0), some (iV (ticket)), some (iV (row)), none] [] (relM M ticket row 0) 0 0 := by
    intro n2
    induction n2 with
    | zero =>
      intro row e1 hm2
      exact absurd hm2 (Nat.not_lt_zero _)
    | succ n2 ih2 =>
      intro row e1 hm2
      have g1 := congrFun (congrFun (relM_g (M := M) (t := ticket) (R := row) (S := 0) (g := 1) (by decide)) 0) 4
      refine aw_iload_n dX2_freeOwnedBy_2 rfl rfl ?_
      refine aw_aload_n dX2_freeOwnedBy_3 rfl rfl ?_
      refine aw_geti (g := 1) rfl rfl ly_X2 rfl (k := 4) 4 rfl dX2_freeOwnedBy_4 (by decide) fl_X2_26 rfl (fun r4 => ?_)
      refine aw_icmp_ge (tgt := 54) dX2_freeOwnedBy_7 (by decide) (by have h1 := hw.1; have h2 := hw.2.1; omega) (by have h1 := hw.1; have h2 := hw.2.1; omega) (fun h7 => ?_) (fun h7 => ?_)
      · exact aw_vret dX2_freeOwnedBy_54 rfl (by decide) (by decide) ⟨rfl, (by have q : row = M 1 0 4 := (by omega); rw [q])⟩
      · refine aw_iconst dX2_freeOwnedBy_10 ?_
        refine aw_istore_n (L2 := [some (rV K 1 0), some (iV (ticket)), some (iV (row)), some (iV 0)]) dX2_freeOwnedBy_11 rfl (by decide) rfl ?_
        have lp12 : ∀ (n12 : Nat) (seat : Int), (0 ≤ seat ∧ seat ≤ M 2 0 row) → ((M 2 0 row - seat).toNat) < n12 → AW K l iX2_freeOwnedBy (ZM K iX2_freeOwnedBy (rN (relM M ticket (M 1 0 4) 0))) 12 [some (rV K 1 0), some (iV (ticket)), some (iV (row)), some (iV (seat))] [] (relM M ticket row seat) 0 0 := by
          intro n12
          induction n12 with
          | zero =>
            intro seat f1 hm12
            exact absurd hm12 (Nat.not_lt_zero _)
          | succ n12 ih12 =>
            intro seat f1 hm12
            have k1 := congrFun (congrFun (relM_g (M := M) (t := ticket) (R := row) (S := seat) (g := 1) (by decide)) 0) 4; have k2 := congrFun (congrFun (relM_g (M := M) (t := ticket) (R := row) (S := seat) (g := 2) (by decide)) 0) row; have k3 := relM_at (M := M) (t := ticket) (R := row) (S := seat)
            refine aw_iload_n dX2_freeOwnedBy_12 rfl rfl ?_
            refine aw_aload_n dX2_freeOwnedBy_13 rfl rfl ?_
            refine aw_iload_n dX2_freeOwnedBy_14 rfl rfl ?_
            refine aw_cVi (g := 1) (As := [iV (row)]) (rest := [iV (seat)]) (c_X2_seatsIn hst (relM M ticket row seat) (row) (by have h1 := hw.1; have h2 := hw.2.1; have h3 := hw.2.2 row (by omega) (by omega); omega) (by exact HW_rel hw _ _ _)) cv_X2_seatsIn dX2_freeOwnedBy_15 ml_X2_40 rfl rfl rfl rfl rfl (Nat.le_of_ble_eq_true rfl) (by decide) rfl rfl (by decide) ?_
            refine aw_icmp_ge (tgt := 48) dX2_freeOwnedBy_18 (by decide) (by have h1 := hw.1; have h2 := hw.2.1; have h3 := hw.2.2 row (by omega) (by omega); omega) (by have h1 := hw.1; have h2 := hw.2.1; have h3 := hw.2.2 row (by omega) (by omega); omega) (fun h18 => ?_) (fun h18 => ?_)
            · refine aw_iinc (L2 := [some (rV K 1 0), some (iV (ticket)), some (iV (row + 1)), some (iV (seat))]) dX2_freeOwnedBy_48 rfl (by decide) rfl ?_
              refine aw_goto (tgt := 2) dX2_freeOwnedBy_51 (by decide) ?_
              refine aw_weak (L' := [some (rV K 1 0), some (iV (ticket)), some (iV (row + 1)), none]) ⟨Or.inr rfl, Or.inr rfl, Or.inr rfl, Or.inl rfl, trivial⟩ ?_
              refine aw_mem (M' := relM M ticket (row + 1) 0) (by exact relM_r (by have h1 := hw.1; have h2 := hw.2.1; have h3 := hw.2.2 row (by omega) (by omega); omega)) ?_
              exact ih2 (row + 1) (by omega) (by omega)
            · refine aw_aload_n dX2_freeOwnedBy_21 rfl rfl ?_
              refine aw_getr (g := 1) rfl rfl ly_X2 rfl (k := 3) dX2_freeOwnedBy_22 (by decide) fl_X2_23 rfl ?_
              refine aw_iload_n dX2_freeOwnedBy_25 rfl rfl ?_
              refine aw_aald (g := 5) (n := 12) rfl (by decide) rfl dX2_freeOwnedBy_26 (by show 0 ≤ row ∧ row < (12 : Int); have h1 := hw.1; have h2 := hw.2.1; have h3 := hw.2.2 row (by omega) (by omega); omega) ?_
              refine aw_iload_n dX2_freeOwnedBy_27 rfl rfl ?_
              refine aw_iald (g := 6) (n := 20) rfl (by decide) dX2_freeOwnedBy_28 (by show 0 ≤ row ∧ row < (12 : Int); have h1 := hw.1; have h2 := hw.2.1; have h3 := hw.2.2 row (by omega) (by omega); omega) (by show 0 ≤ seat ∧ seat < (20 : Int); have h1 := hw.1; have h2 := hw.2.1; have h3 := hw.2.2 row (by omega) (by omega); omega) (fun r28 => ?_)
              refine aw_iload_n dX2_freeOwnedBy_29 rfl rfl ?_
              refine aw_icmp_ne (tgt := 42) dX2_freeOwnedBy_30 (by decide) (by have h1 := hw.1; have h2 := hw.2.1; have h3 := hw.2.2 row (by omega) (by omega); omega) (by have h1 := hw.1; have h2 := hw.2.1; have h3 := hw.2.2 row (by omega) (by omega); omega) (fun h30 => ?_) (fun h30 => ?_)
              · refine aw_iinc (L2 := [some (rV K 1 0), some (iV (ticket)), some (iV (row)), some (iV (seat + 1))]) dX2_freeOwnedBy_42 rfl (by decide) rfl ?_
                refine aw_goto (tgt := 12) dX2_freeOwnedBy_45 (by decide) ?_
                refine aw_mem (M' := relM M ticket row (seat + 1)) (by first | exact relM_y e1.1 f1.1 (by have h1 := hw.1; have h2 := hw.2.1; have h3 := hw.2.2 row (by omega) (by omega); omega) (k3 ▸ h30) | exact relM_n (k3 ▸ h30)) ?_
                exact ih12 (seat + 1) (by have h1 := hw.1; have h2 := hw.2.1; have h3 := hw.2.2 row (by omega) (by omega); omega) (by have h1 := hw.1; have h2 := hw.2.1; have h3 := hw.2.2 row (by omega) (by omega); omega)
              · refine aw_aload_n dX2_freeOwnedBy_33 rfl rfl ?_
                refine aw_getr (g := 1) rfl rfl ly_X2 rfl (k := 3) dX2_freeOwnedBy_34 (by decide) fl_X2_23 rfl ?_
                refine aw_iload_n dX2_freeOwnedBy_37 rfl rfl ?_
                refine aw_aald (g := 5) (n := 12) rfl (by decide) rfl dX2_freeOwnedBy_38 (by show 0 ≤ row ∧ row < (12 : Int); have h1 := hw.1; have h2 := hw.2.1; have h3 := hw.2.2 row (by omega) (by omega); omega) ?_
                refine aw_iload_n dX2_freeOwnedBy_39 rfl rfl ?_
                refine aw_iconst dX2_freeOwnedBy_40 ?_
                refine aw_iast (g := 6) (n := 20) (M' := updM ((relM M ticket row seat)) 6 row seat 0) rfl (by decide) dX2_freeOwnedBy_41 (by show 0 ≤ row ∧ row < (12 : Int); have h1 := hw.1; have h2 := hw.2.1; have h3 := hw.2.2 row (by omega) (by omega); omega) (by show 0 ≤ seat ∧ seat < (20 : Int); have h1 := hw.1; have h2 := hw.2.1; have h3 := hw.2.2 row (by omega) (by omega); omega) (by have h1 := hw.1; have h2 := hw.2.1; have h3 := hw.2.2 row (by omega) (by omega); omega) rfl ?_
                refine aw_iinc (L2 := [some (rV K 1 0), some (iV (ticket)), some (iV (row)), some (iV (seat + 1))]) dX2_freeOwnedBy_42 rfl (by decide) rfl ?_
                refine aw_goto (tgt := 12) dX2_freeOwnedBy_45 (by decide) ?_
                refine aw_mem (M' := relM M ticket row (seat + 1)) (by first | exact relM_y e1.1 f1.1 (by have h1 := hw.1; have h2 := hw.2.1; have h3 := hw.2.2 row (by omega) (by omega); omega) (k3 ▸ h30) | exact relM_n (k3 ▸ h30)) ?_
                exact ih12 (seat + 1) (by have h1 := hw.1; have h2 := hw.2.1; have h3 := hw.2.2 row (by omega) (by omega); omega) (by have h1 := hw.1; have h2 := hw.2.1; have h3 := hw.2.2 row (by omega) (by omega); omega)
        exact lp12 (((M 2 0 row - 0).toNat) + 1) (0) (by have h1 := hw.1; have h2 := hw.2.1; have h3 := hw.2.2 row (by omega) (by omega); omega) (Nat.lt_succ_self _)
  refine aw_mem (M' := relM M ticket 0 0) (by exact (relM_0 _ _).symm) ?_
  exact lp2 (((M 1 0 4 - 0).toNat) + 1) (0) (by exact ⟨Int.le_refl 0, hw.1⟩) (Nat.lt_succ_self _)
set_option maxHeartbeats 4000000 in
set_option maxRecDepth 20000 in
theorem c_X2_priceOwnedBy {K : WPar} {l : Launch} (hst : l.stackTraces = false) (M : Mem) (ticket : Int) (r_ticket : inR ticket) (hw : HW M) : CT K l iX2_priceOwnedBy [rV K 1 0, iV (ticket)] M (rI (sumI (fun r => sumI (fun s => if M 6 r s = ticket then M 4 0 r else 0) (M 2 0 r)) (M 1 0 4)) (M)) := by
  refine aw_met [some (rV K 1 0), some (iV (ticket)), none, none, none] hst (by decide) rfl (Nat.le_of_ble_eq_true rfl) rfl rfl (lcat rfl) ?_
  refine aw_rng (fun hM => ?_)
  refine aw_iconst dX2_priceOwnedBy_0 ?_
  refine aw_istore_n (L2 := [some (rV K 1 0), some (iV (ticket)), some (iV 0), none, none]) dX2_priceOwnedBy_1 rfl (by decide) rfl ?_
  refine aw_iconst dX2_priceOwnedBy_2 ?_
  refine aw_istore_n (L2 := [some (rV K 1 0), some (iV (ticket)), some (iV 0), some (iV 0), none]) dX2_priceOwnedBy_3 rfl (by decide) rfl ?_
  have lp4 : ∀ (n4 : Nat) (acc row : Int), (0 ≤ row ∧ row ≤ M 1 0 4) → (acc = sumI (fun r => sumI (fun s => if M 6 r s = ticket then M 4 0 r else 0) (M 2 0 r)) row) → ((M 1 0 4 - row).toNat) < n4 → AW K l iX2_priceOwnedBy (ZM K iX2_priceOwnedBy (rI (sumI (fun r => sumI (fun s => if M 6 r s = ticket then M 4 0 r else 0) (M 2 0 r)) (M 1 0 4)) (M))) 4 [some (rV K 1 0), some (iV (ticket)), some (iV (acc)), some (iV (row)), none] [] (M) 0 0 := by
    intro n4
    induction n4 with
    | zero =>
      intro acc row e1 e2 hm4
      exact absurd hm4 (Nat.not_lt_zero _)
    | succ n4 ih4 =>
      intro acc row e1 e2 hm4
      refine aw_iload_n dX2_priceOwnedBy_4 rfl rfl ?_
      refine aw_aload_n dX2_priceOwnedBy_5 rfl rfl ?_
      refine aw_geti (g := 1) rfl rfl ly_X2 rfl (k := 4) 4 rfl dX2_priceOwnedBy_6 (by decide) fl_X2_26 rfl (fun r6 => ?_)
      refine aw_icmp_ge (tgt := 59) dX2_priceOwnedBy_9 (by decide) (by have h1 := hw.1; have h2 := hw.2.1; omega) (by have h1 := hw.1; have h2 := hw.2.1; omega) (fun h9 => ?_) (fun h9 => ?_)
      · refine aw_iload_n dX2_priceOwnedBy_59 rfl rfl ?_
        exact aw_iret dX2_priceOwnedBy_60 rfl rfl (by decide) (by decide) ⟨congrArg (fun z => Sum.inl (some z)) (by have q : row = M 1 0 4 := (by omega); rw [e2, q]), (by rfl)⟩
      · refine aw_iconst dX2_priceOwnedBy_12 ?_
        refine aw_istore (L2 := [some (rV K 1 0), some (iV (ticket)), some (iV (acc)), some (iV (row)), some (iV 0)]) dX2_priceOwnedBy_13 (by decide) rfl ?_
        have lp15 : ∀ (n15 : Nat) (ac2 seat : Int), (0 ≤ seat ∧ seat ≤ M 2 0 row) → (ac2 = acc + sumI (fun s => if M 6 row s = ticket then M 4 0 row else 0) seat) → ((M 2 0 row - seat).toNat) < n15 → AW K l iX2_priceOwnedBy (ZM K iX2_priceOwnedBy (rI (sumI (fun r => sumI (fun s => if M 6 r s = ticket then M 4 0 r else 0) (M 2 0 r)) (M 1 0 4)) (M))) 15 [some (rV K 1 0), some (iV (ticket)), some (iV (ac2)), some (iV (row)), some (iV (seat))] [] (M) 0 0 := by
          intro n15
          induction n15 with
          | zero =>
            intro ac2 seat f1 f2 hm15
            exact absurd hm15 (Nat.not_lt_zero _)
          | succ n15 ih15 =>
            intro ac2 seat f1 f2 hm15
            refine aw_iload dX2_priceOwnedBy_15 rfl ?_
            refine aw_aload_n dX2_priceOwnedBy_17 rfl rfl ?_
            refine aw_iload_n dX2_priceOwnedBy_18 rfl rfl ?_
            refine aw_cVi (g := 1) (As := [iV (row)]) (rest := [iV (seat)]) (c_X2_seatsIn hst M (row) (by have h1 := hw.1; have h2 := hw.2.1; have h3 := hw.2.2 row (by omega) (by omega); omega) (by have h1 := hw.1; have h2 := hw.2.1; have h3 := hw.2.2 row (by omega) (by omega); omega)) cv_X2_seatsIn dX2_priceOwnedBy_19 ml_X2_40 rfl rfl rfl rfl rfl (Nat.le_of_ble_eq_true rfl) (by decide) rfl rfl (by decide) ?_
            refine aw_icmp_ge (tgt := 53) dX2_priceOwnedBy_22 (by decide) (by have h1 := hw.1; have h2 := hw.2.1; have h3 := hw.2.2 row (by omega) (by omega); omega) (by have h1 := hw.1; have h2 := hw.2.1; have h3 := hw.2.2 row (by omega) (by omega); omega) (fun h22 => ?_) (fun h22 => ?_)
            · refine aw_iinc (L2 := [some (rV K 1 0), some (iV (ticket)), some (iV (ac2)), some (iV (row + 1)), some (iV (seat))]) dX2_priceOwnedBy_53 rfl (by decide) rfl ?_
              refine aw_goto (tgt := 4) dX2_priceOwnedBy_56 (by decide) ?_
              refine aw_weak (L' := [some (rV K 1 0), some (iV (ticket)), some (iV (ac2)), some (iV (row + 1)), none]) ⟨Or.inr rfl, Or.inr rfl, Or.inr rfl, Or.inr rfl, Or.inl rfl, trivial⟩ ?_
              exact ih4 (ac2) (row + 1) (by omega) (by have q : seat = M 2 0 row := (by have h1 := hw.1; have h2 := hw.2.1; have h3 := hw.2.2 row (by omega) (by omega); omega); rw [sumI_s e1.1, f2, q, ← e2]) (by omega)
            · refine aw_aload_n dX2_priceOwnedBy_25 rfl rfl ?_
              refine aw_getr (g := 1) rfl rfl ly_X2 rfl (k := 3) dX2_priceOwnedBy_26 (by decide) fl_X2_23 rfl ?_
              refine aw_iload_n dX2_priceOwnedBy_29 rfl rfl ?_
              refine aw_aald (g := 5) (n := 12) rfl (by decide) rfl dX2_priceOwnedBy_30 (by show 0 ≤ row ∧ row < (12 : Int); have h1 := hw.1; have h2 := hw.2.1; have h3 := hw.2.2 row (by omega) (by omega); omega) ?_
              refine aw_iload dX2_priceOwnedBy_31 rfl ?_
              refine aw_iald (g := 6) (n := 20) rfl (by decide) dX2_priceOwnedBy_33 (by show 0 ≤ row ∧ row < (12 : Int); have h1 := hw.1; have h2 := hw.2.1; have h3 := hw.2.2 row (by omega) (by omega); omega) (by show 0 ≤ seat ∧ seat < (20 : Int); have h1 := hw.1; have h2 := hw.2.1; have h3 := hw.2.2 row (by omega) (by omega); omega) (fun r33 => ?_)
              refine aw_iload_n dX2_priceOwnedBy_34 rfl rfl ?_
              refine aw_icmp_ne (tgt := 47) dX2_priceOwnedBy_35 (by decide) (by have h1 := hw.1; have h2 := hw.2.1; have h3 := hw.2.2 row (by omega) (by omega); omega) (by have h1 := hw.1; have h2 := hw.2.1; have h3 := hw.2.2 row (by omega) (by omega); omega) (fun h35 => ?_) (fun h35 => ?_)
              · refine aw_iinc (L2 := [some (rV K 1 0), some (iV (ticket)), some (iV (ac2)), some (iV (row)), some (iV (seat + 1))]) dX2_priceOwnedBy_47 rfl (by decide) rfl ?_
                refine aw_goto (tgt := 15) dX2_priceOwnedBy_50 (by decide) ?_
                exact ih15 (ac2) (seat + 1) (by have h1 := hw.1; have h2 := hw.2.1; have h3 := hw.2.2 row (by omega) (by omega); omega) (by rw [sumI_s f1.1, f2]; have h1 := hw.1; have h2 := hw.2.1; have h3 := hw.2.2 row (by omega) (by omega); omega) (by have h1 := hw.1; have h2 := hw.2.1; have h3 := hw.2.2 row (by omega) (by omega); omega)
              · refine aw_iload_n dX2_priceOwnedBy_38 rfl rfl ?_
                refine aw_aload_n dX2_priceOwnedBy_39 rfl rfl ?_
                refine aw_getr (g := 1) rfl rfl ly_X2 rfl (k := 2) dX2_priceOwnedBy_40 (by decide) fl_X2_18 rfl ?_
                refine aw_iload_n dX2_priceOwnedBy_43 rfl rfl ?_
                refine aw_iald (g := 4) (n := 12) rfl (by decide) dX2_priceOwnedBy_44 (by decide) (by show 0 ≤ row ∧ row < (12 : Int); have h1 := hw.1; have h2 := hw.2.1; have h3 := hw.2.2 row (by omega) (by omega); omega) (fun r44 => ?_)
                refine aw_iadd dX2_priceOwnedBy_45 ?_
                refine aw_istore_n (L2 := [some (rV K 1 0), some (iV (ticket)), some (iV (ac2 + (M 4 0 row))), some (iV (row)), some (iV (seat))]) dX2_priceOwnedBy_46 rfl (by decide) rfl ?_
                refine aw_iinc (L2 := [some (rV K 1 0), some (iV (ticket)), some (iV (ac2 + (M 4 0 row))), some (iV (row)), some (iV (seat + 1))]) dX2_priceOwnedBy_47 rfl (by decide) rfl ?_
                refine aw_goto (tgt := 15) dX2_priceOwnedBy_50 (by decide) ?_
                exact ih15 (ac2 + (M 4 0 row)) (seat + 1) (by have h1 := hw.1; have h2 := hw.2.1; have h3 := hw.2.2 row (by omega) (by omega); omega) (by rw [sumI_s f1.1, f2]; have h1 := hw.1; have h2 := hw.2.1; have h3 := hw.2.2 row (by omega) (by omega); omega) (by have h1 := hw.1; have h2 := hw.2.1; have h3 := hw.2.2 row (by omega) (by omega); omega)
        exact lp15 (((M 2 0 row - 0).toNat) + 1) (acc) (0) (by have h1 := hw.1; have h2 := hw.2.1; have h3 := hw.2.2 row (by omega) (by omega); omega) (by rw [sumI_0]; omega) (Nat.lt_succ_self _)
  exact lp4 (((M 1 0 4 - 0).toNat) + 1) (0) (0) (by exact ⟨Int.le_refl 0, hw.1⟩) (by rfl) (Nat.lt_succ_self _)
