set_option maxHeartbeats 4000000 in
set_option maxRecDepth 20000 in
theorem c_X3_count {K : WPar} {l : Launch} (hst : l.stackTraces = false) (M : Mem) : CT K l iX3_count [rV K 7 0] M (rI (M 7 0 8) (M)) := by
  refine aw_met [some (rV K 7 0)] hst (by decide) rfl (Nat.le_of_ble_eq_true rfl) rfl rfl (lcat rfl) ?_
  refine aw_rng (fun hM => ?_)
  refine aw_aload_n dX3_count_0 rfl rfl ?_
  refine aw_geti (g := 7) rfl rfl ly_X3 rfl (k := 8) 8 rfl dX3_count_1 (by decide) fl_X3_36 rfl (fun r1 => ?_)
  exact aw_iret dX3_count_4 rfl rfl (by decide) (by decide) ⟨congrArg (fun z => Sum.inl (some z)) (by first | rfl | omega), (by rfl)⟩
set_option maxHeartbeats 4000000 in
set_option maxRecDepth 20000 in
theorem c_X3_hasTicket {K : WPar} {l : Launch} (hst : l.stackTraces = false) (M : Mem) (t : Int) (r_t : inR t) (bw : BW M) : CT K l iX3_hasTicket [rV K 7 0, iV (t)] M (rB (1 ≤ t ∧ t ≤ M 7 0 8) (M)) := by
  refine aw_met [some (rV K 7 0), some (iV (t))] hst (by decide) rfl (Nat.le_of_ble_eq_true rfl) rfl rfl (lcat rfl) ?_
  refine aw_rng (fun hM => ?_)
  refine aw_iload_n dX3_hasTicket_0 rfl rfl ?_
  refine aw_iconst dX3_hasTicket_1 ?_
  refine aw_icmp_lt (tgt := 17) dX3_hasTicket_2 (by decide) (by have h1 := bw.1; have h2 := bw.2; omega) (by have h1 := bw.1; have h2 := bw.2; omega) (fun h2 => ?_) (fun h2 => ?_)
  · refine aw_iconst dX3_hasTicket_17 ?_
    exact aw_iret dX3_hasTicket_18 rfl rfl (by decide) (by decide) ⟨Or.inr ⟨rfl, by have h1 := bw.1; have h2 := bw.2; omega⟩, (by rfl)⟩
  · refine aw_iload_n dX3_hasTicket_5 rfl rfl ?_
    refine aw_aload_n dX3_hasTicket_6 rfl rfl ?_
    refine aw_geti (g := 7) rfl rfl ly_X3 rfl (k := 8) 8 rfl dX3_hasTicket_7 (by decide) fl_X3_36 rfl (fun r7 => ?_)
    refine aw_icmp_gt (tgt := 17) dX3_hasTicket_10 (by decide) (by have h1 := bw.1; have h2 := bw.2; omega) (by have h1 := bw.1; have h2 := bw.2; omega) (fun h10 => ?_) (fun h10 => ?_)
    · refine aw_iconst dX3_hasTicket_17 ?_
      exact aw_iret dX3_hasTicket_18 rfl rfl (by decide) (by decide) ⟨Or.inr ⟨rfl, by have h1 := bw.1; have h2 := bw.2; omega⟩, (by rfl)⟩
    · refine aw_iconst dX3_hasTicket_13 ?_
      refine aw_goto (tgt := 18) dX3_hasTicket_14 (by decide) ?_
      exact aw_iret dX3_hasTicket_18 rfl rfl (by decide) (by decide) ⟨Or.inl ⟨rfl, by have h1 := bw.1; have h2 := bw.2; omega⟩, (by rfl)⟩
set_option maxHeartbeats 4000000 in
set_option maxRecDepth 20000 in
theorem c_X3_stateOf {K : WPar} {l : Launch} (hst : l.stackTraces = false) (M : Mem) (t : Int) (r_t : inR t) (bw : BW M) : CT K l iX3_stateOf [rV K 7 0, iV (t)] M (rI (if 1 ≤ t ∧ t ≤ M 7 0 8 then M 8 0 t else 3) (M)) := by
  refine aw_met [some (rV K 7 0), some (iV (t))] hst (by decide) rfl (Nat.le_of_ble_eq_true rfl) rfl rfl (lcat rfl) ?_
  refine aw_rng (fun hM => ?_)
  refine aw_aload_n dX3_stateOf_0 rfl rfl ?_
  refine aw_iload_n dX3_stateOf_1 rfl rfl ?_
  refine aw_cVb (g := 7) (As := [iV (t)]) (rest := []) (c_X3_hasTicket hst M (t) (by have h1 := bw.1; have h2 := bw.2; omega) (by have h1 := bw.1; have h2 := bw.2; omega)) cv_X3_hasTicket dX3_stateOf_2 ml_X3_40 rfl rfl rfl rfl rfl (Nat.le_of_ble_eq_true rfl) (by decide) rfl rfl (by decide) (fun h2 => ?_) (fun h2 => ?_)
  · refine aw_if_eq (tgt := 17) dX3_stateOf_5 (by decide) (by decide) (fun h => absurd h (by decide)) (fun _ => ?_)
    refine aw_aload_n dX3_stateOf_8 rfl rfl ?_
    refine aw_getr (g := 7) rfl rfl ly_X3 rfl (k := 0) dX3_stateOf_9 (by decide) fl_X3_9 rfl ?_
    refine aw_iload_n dX3_stateOf_12 rfl rfl ?_
    refine aw_iald (g := 8) (n := 101) rfl (by decide) dX3_stateOf_13 (by decide) (by show 0 ≤ t ∧ t < (101 : Int); have h1 := bw.1; have h2 := bw.2; omega) (fun r13 => ?_)
    refine aw_goto (tgt := 18) dX3_stateOf_14 (by decide) ?_
    exact aw_iret dX3_stateOf_18 rfl rfl (by decide) (by decide) ⟨congrArg (fun z => Sum.inl (some z)) (by first | rfl | omega), (by rfl)⟩
  · refine aw_if_eq (tgt := 17) dX3_stateOf_5 (by decide) (by decide) (fun _ => ?_) (fun h => absurd (by decide) h)
    refine aw_iconst dX3_stateOf_17 ?_
    exact aw_iret dX3_stateOf_18 rfl rfl (by decide) (by decide) ⟨congrArg (fun z => Sum.inl (some z)) (by first | rfl | omega), (by rfl)⟩
set_option maxHeartbeats 4000000 in
set_option maxRecDepth 20000 in
theorem c_X3_sizeOf {K : WPar} {l : Launch} (hst : l.stackTraces = false) (M : Mem) (t : Int) (r_t : inR t) (bw : BW M) : CT K l iX3_sizeOf [rV K 7 0, iV (t)] M (rI (if 1 ≤ t ∧ t ≤ M 7 0 8 then M 9 0 t else 0) (M)) := by
  refine aw_met [some (rV K 7 0), some (iV (t))] hst (by decide) rfl (Nat.le_of_ble_eq_true rfl) rfl rfl (lcat rfl) ?_
  refine aw_rng (fun hM => ?_)
  refine aw_aload_n dX3_sizeOf_0 rfl rfl ?_
  refine aw_iload_n dX3_sizeOf_1 rfl rfl ?_
  refine aw_cVb (g := 7) (As := [iV (t)]) (rest := []) (c_X3_hasTicket hst M (t) (by have h1 := bw.1; have h2 := bw.2; omega) (by have h1 := bw.1; have h2 := bw.2; omega)) cv_X3_hasTicket dX3_sizeOf_2 ml_X3_40 rfl rfl rfl rfl rfl (Nat.le_of_ble_eq_true rfl) (by decide) rfl rfl (by decide) (fun h2 => ?_) (fun h2 => ?_)
  · refine aw_if_eq (tgt := 17) dX3_sizeOf_5 (by decide) (by decide) (fun h => absurd h (by decide)) (fun _ => ?_)
    refine aw_aload_n dX3_sizeOf_8 rfl rfl ?_
    refine aw_getr (g := 7) rfl rfl ly_X3 rfl (k := 1) dX3_sizeOf_9 (by decide) fl_X3_15 rfl ?_
    refine aw_iload_n dX3_sizeOf_12 rfl rfl ?_
    refine aw_iald (g := 9) (n := 101) rfl (by decide) dX3_sizeOf_13 (by decide) (by show 0 ≤ t ∧ t < (101 : Int); have h1 := bw.1; have h2 := bw.2; omega) (fun r13 => ?_)
    refine aw_goto (tgt := 18) dX3_sizeOf_14 (by decide) ?_
    exact aw_iret dX3_sizeOf_18 rfl rfl (by decide) (by decide) ⟨congrArg (fun z => Sum.inl (some z)) (by first | rfl | omega), (by rfl)⟩
  · refine aw_if_eq (tgt := 17) dX3_sizeOf_5 (by decide) (by decide) (fun _ => ?_) (fun h => absurd (by decide) h)
    refine aw_iconst dX3_sizeOf_17 ?_
    exact aw_iret dX3_sizeOf_18 rfl rfl (by decide) (by decide) ⟨congrArg (fun z => Sum.inl (some z)) (by first | rfl | omega), (by rfl)⟩
set_option maxHeartbeats 4000000 in
set_option maxRecDepth 20000 in
theorem c_X3_endOf {K : WPar} {l : Launch} (hst : l.stackTraces = false) (M : Mem) (t : Int) (r_t : inR t) (bw : BW M) : CT K l iX3_endOf [rV K 7 0, iV (t)] M (rI (if 1 ≤ t ∧ t ≤ M 7 0 8 then M 10 0 t else -1) (M)) := by
  refine aw_met [some (rV K 7 0), some (iV (t))] hst (by decide) rfl (Nat.le_of_ble_eq_true rfl) rfl rfl (lcat rfl) ?_
  refine aw_rng (fun hM => ?_)
  refine aw_aload_n dX3_endOf_0 rfl rfl ?_
  refine aw_iload_n dX3_endOf_1 rfl rfl ?_
  refine aw_cVb (g := 7) (As := [iV (t)]) (rest := []) (c_X3_hasTicket hst M (t) (by have h1 := bw.1; have h2 := bw.2; omega) (by have h1 := bw.1; have h2 := bw.2; omega)) cv_X3_hasTicket dX3_endOf_2 ml_X3_40 rfl rfl rfl rfl rfl (Nat.le_of_ble_eq_true rfl) (by decide) rfl rfl (by decide) (fun h2 => ?_) (fun h2 => ?_)
  · refine aw_if_eq (tgt := 17) dX3_endOf_5 (by decide) (by decide) (fun h => absurd h (by decide)) (fun _ => ?_)
    refine aw_aload_n dX3_endOf_8 rfl rfl ?_
    refine aw_getr (g := 7) rfl rfl ly_X3 rfl (k := 2) dX3_endOf_9 (by decide) fl_X3_18 rfl ?_
    refine aw_iload_n dX3_endOf_12 rfl rfl ?_
    refine aw_iald (g := 10) (n := 101) rfl (by decide) dX3_endOf_13 (by decide) (by show 0 ≤ t ∧ t < (101 : Int); have h1 := bw.1; have h2 := bw.2; omega) (fun r13 => ?_)
    refine aw_goto (tgt := 18) dX3_endOf_14 (by decide) ?_
    exact aw_iret dX3_endOf_18 rfl rfl (by decide) (by decide) ⟨congrArg (fun z => Sum.inl (some z)) (by first | rfl | omega), (by rfl)⟩
  · refine aw_if_eq (tgt := 17) dX3_endOf_5 (by decide) (by decide) (fun _ => ?_) (fun h => absurd (by decide) h)
    refine aw_iconst dX3_endOf_17 ?_
    exact aw_iret dX3_endOf_18 rfl rfl (by decide) (by decide) ⟨congrArg (fun z => Sum.inl (some z)) (by first | rfl | omega), (by rfl)⟩
set_option maxHeartbeats 4000000 in
set_option maxRecDepth 20000 in
theorem c_X3_extensionsOf {K : WPar} {l : Launch} (hst : l.stackTraces = false) (M : Mem) (t : Int) (r_t : inR t) (bw : BW M) : CT K l iX3_extensionsOf [rV K 7 0, iV (t)] M (rI (if 1 ≤ t ∧ t ≤ M 7 0 8 then M 11 0 t else 2) (M)) := by
  refine aw_met [some (rV K 7 0), some (iV (t))] hst (by decide) rfl (Nat.le_of_ble_eq_true rfl) rfl rfl (lcat rfl) ?_
  refine aw_rng (fun hM => ?_)
  refine aw_aload_n dX3_extensionsOf_0 rfl rfl ?_
  refine aw_iload_n dX3_extensionsOf_1 rfl rfl ?_
  refine aw_cVb (g := 7) (As := [iV (t)]) (rest := []) (c_X3_hasTicket hst M (t) (by have h1 := bw.1; have h2 := bw.2; omega) (by have h1 := bw.1; have h2 := bw.2; omega)) cv_X3_hasTicket dX3_extensionsOf_2 ml_X3_40 rfl rfl rfl rfl rfl (Nat.le_of_ble_eq_true rfl) (by decide) rfl rfl (by decide) (fun h2 => ?_) (fun h2 => ?_)
  · refine aw_if_eq (tgt := 17) dX3_extensionsOf_5 (by decide) (by decide) (fun h => absurd h (by decide)) (fun _ => ?_)
    refine aw_aload_n dX3_extensionsOf_8 rfl rfl ?_
    refine aw_getr (g := 7) rfl rfl ly_X3 rfl (k := 3) dX3_extensionsOf_9 (by decide) fl_X3_21 rfl ?_
    refine aw_iload_n dX3_extensionsOf_12 rfl rfl ?_
    refine aw_iald (g := 11) (n := 101) rfl (by decide) dX3_extensionsOf_13 (by decide) (by show 0 ≤ t ∧ t < (101 : Int); have h1 := bw.1; have h2 := bw.2; omega) (fun r13 => ?_)
    refine aw_goto (tgt := 18) dX3_extensionsOf_14 (by decide) ?_
    exact aw_iret dX3_extensionsOf_18 rfl rfl (by decide) (by decide) ⟨congrArg (fun z => Sum.inl (some z)) (by first | rfl | omega), (by rfl)⟩
  · refine aw_if_eq (tgt := 17) dX3_extensionsOf_5 (by decide) (by decide) (fun _ => ?_) (fun h => absurd (by decide) h)
    refine aw_iconst dX3_extensionsOf_17 ?_
    exact aw_iret dX3_extensionsOf_18 rfl rfl (by decide) (by decide) ⟨congrArg (fun z => Sum.inl (some z)) (by first | rfl | omega), (by rfl)⟩
set_option maxHeartbeats 4000000 in
set_option maxRecDepth 20000 in
theorem c_X3_paidFor {K : WPar} {l : Launch} (hst : l.stackTraces = false) (M : Mem) (t : Int) (r_t : inR t) (bw : BW M) : CT K l iX3_paidFor [rV K 7 0, iV (t)] M (rI (if 1 ≤ t ∧ t ≤ M 7 0 8 then M 12 0 t else 0) (M)) := by
  refine aw_met [some (rV K 7 0), some (iV (t))] hst (by decide) rfl (Nat.le_of_ble_eq_true rfl) rfl rfl (lcat rfl) ?_
  refine aw_rng (fun hM => ?_)
  refine aw_aload_n dX3_paidFor_0 rfl rfl ?_
  refine aw_iload_n dX3_paidFor_1 rfl rfl ?_
  refine aw_cVb (g := 7) (As := [iV (t)]) (rest := []) (c_X3_hasTicket hst M (t) (by have h1 := bw.1; have h2 := bw.2; omega) (by have h1 := bw.1; have h2 := bw.2; omega)) cv_X3_hasTicket dX3_paidFor_2 ml_X3_40 rfl rfl rfl rfl rfl (Nat.le_of_ble_eq_true rfl) (by decide) rfl rfl (by decide) (fun h2 => ?_) (fun h2 => ?_)
  · refine aw_if_eq (tgt := 17) dX3_paidFor_5 (by decide) (by decide) (fun h => absurd h (by decide)) (fun _ => ?_)
    refine aw_aload_n dX3_paidFor_8 rfl rfl ?_
    refine aw_getr (g := 7) rfl rfl ly_X3 rfl (k := 4) dX3_paidFor_9 (by decide) fl_X3_24 rfl ?_
    refine aw_iload_n dX3_paidFor_12 rfl rfl ?_
    refine aw_iald (g := 12) (n := 101) rfl (by decide) dX3_paidFor_13 (by decide) (by show 0 ≤ t ∧ t < (101 : Int); have h1 := bw.1; have h2 := bw.2; omega) (fun r13 => ?_)
    refine aw_goto (tgt := 18) dX3_paidFor_14 (by decide) ?_
    exact aw_iret dX3_paidFor_18 rfl rfl (by decide) (by decide) ⟨congrArg (fun z => Sum.inl (some z)) (by first | rfl | omega), (by rfl)⟩
  · refine aw_if_eq (tgt := 17) dX3_paidFor_5 (by decide) (by decide) (fun _ => ?_) (fun h => absurd (by decide) h)
    refine aw_iconst dX3_paidFor_17 ?_
    exact aw_iret dX3_paidFor_18 rfl rfl (by decide) (by decide) ⟨congrArg (fun z => Sum.inl (some z)) (by first | rfl | omega), (by rfl)⟩
set_option maxHeartbeats 4000000 in
set_option maxRecDepth 20000 in
theorem c_X3_rowOf {K : WPar} {l : Launch} (hst : l.stackTraces = false) (M : Mem) (t : Int) (r_t : inR t) (bw : BW M) : CT K l iX3_rowOf [rV K 7 0, iV (t)] M (rI (if 1 ≤ t ∧ t ≤ M 7 0 8 then M 13 0 t else -1) (M)) := by
  refine aw_met [some (rV K 7 0), some (iV (t))] hst (by decide) rfl (Nat.le_of_ble_eq_true rfl) rfl rfl (lcat rfl) ?_
  refine aw_rng (fun hM => ?_)
  refine aw_aload_n dX3_rowOf_0 rfl rfl ?_
  refine aw_iload_n dX3_rowOf_1 rfl rfl ?_
  refine aw_cVb (g := 7) (As := [iV (t)]) (rest := []) (c_X3_hasTicket hst M (t) (by have h1 := bw.1; have h2 := bw.2; omega) (by have h1 := bw.1; have h2 := bw.2; omega)) cv_X3_hasTicket dX3_rowOf_2 ml_X3_40 rfl rfl rfl rfl rfl (Nat.le_of_ble_eq_true rfl) (by decide) rfl rfl (by decide) (fun h2 => ?_) (fun h2 => ?_)
  · refine aw_if_eq (tgt := 17) dX3_rowOf_5 (by decide) (by decide) (fun h => absurd h (by decide)) (fun _ => ?_)
    refine aw_aload_n dX3_rowOf_8 rfl rfl ?_
    refine aw_getr (g := 7) rfl rfl ly_X3 rfl (k := 5) dX3_rowOf_9 (by decide) fl_X3_27 rfl ?_
    refine aw_iload_n dX3_rowOf_12 rfl rfl ?_
    refine aw_iald (g := 13) (n := 101) rfl (by decide) dX3_rowOf_13 (by decide) (by show 0 ≤ t ∧ t < (101 : Int); have h1 := bw.1; have h2 := bw.2; omega) (fun r13 => ?_)
    refine aw_goto (tgt := 18) dX3_rowOf_14 (by decide) ?_
    exact aw_iret dX3_rowOf_18 rfl rfl (by decide) (by decide) ⟨congrArg (fun z => Sum.inl (some z)) (by first | rfl | omega), (by rfl)⟩
  · refine aw_if_eq (tgt := 17) dX3_rowOf_5 (by decide) (by decide) (fun _ => ?_) (fun h => absurd (by decide) h)
    refine aw_iconst dX3_rowOf_17 ?_
    exact aw_iret dX3_rowOf_18 rfl rfl (by decide) (by decide) ⟨congrArg (fun z => Sum.inl (some z)) (by first | rfl | omega), (by rfl)⟩
set_option maxHeartbeats 4000000 in
set_option maxRecDepth 20000 in
theorem c_X3_firstOf {K : WPar} {l : Launch} (hst : l.stackTraces = false) (M : Mem) (t : Int) (r_t : inR t) (bw : BW M) : CT K l iX3_firstOf [rV K 7 0, iV (t)] M (rI (if 1 ≤ t ∧ t ≤ M 7 0 8 then M 14 0 t else -1) (M)) := by
  refine aw_met [some (rV K 7 0), some (iV (t))] hst (by decide) rfl (Nat.le_of_ble_eq_true rfl) rfl rfl (lcat rfl) ?_
  refine aw_rng (fun hM => ?_)
  refine aw_aload_n dX3_firstOf_0 rfl rfl ?_
  refine aw_iload_n dX3_firstOf_1 rfl rfl ?_
  refine aw_cVb (g := 7) (As := [iV (t)]) (rest := []) (c_X3_hasTicket hst M (t) (by have h1 := bw.1; have h2 := bw.2; omega) (by have h1 := bw.1; have h2 := bw.2; omega)) cv_X3_hasTicket dX3_firstOf_2 ml_X3_40 rfl rfl rfl rfl rfl (Nat.le_of_ble_eq_true rfl) (by decide) rfl rfl (by decide) (fun h2 => ?_) (fun h2 => ?_)
  · refine aw_if_eq (tgt := 17) dX3_firstOf_5 (by decide) (by decide) (fun h => absurd h (by decide)) (fun _ => ?_)
    refine aw_aload_n dX3_firstOf_8 rfl rfl ?_
    refine aw_getr (g := 7) rfl rfl ly_X3 rfl (k := 6) dX3_firstOf_9 (by decide) fl_X3_30 rfl ?_
    refine aw_iload_n dX3_firstOf_12 rfl rfl ?_
    refine aw_iald (g := 14) (n := 101) rfl (by decide) dX3_firstOf_13 (by decide) (by show 0 ≤ t ∧ t < (101 : Int); have h1 := bw.1; have h2 := bw.2; omega) (fun r13 => ?_)
    refine aw_goto (tgt := 18) dX3_firstOf_14 (by decide) ?_
    exact aw_iret dX3_firstOf_18 rfl rfl (by decide) (by decide) ⟨congrArg (fun z => Sum.inl (some z)) (by first | rfl | omega), (by rfl)⟩
  · refine aw_if_eq (tgt := 17) dX3_firstOf_5 (by decide) (by decide) (fun _ => ?_) (fun h => absurd (by decide) h)
    refine aw_iconst dX3_firstOf_17 ?_
    exact aw_iret dX3_firstOf_18 rfl rfl (by decide) (by decide) ⟨congrArg (fun z => Sum.inl (some z)) (by first | rfl | omega), (by rfl)⟩
set_option maxHeartbeats 4000000 in
set_option maxRecDepth 20000 in
theorem c_X3_wishOf {K : WPar} {l : Launch} (hst : l.stackTraces = false) (M : Mem) (t : Int) (r_t : inR t) (bw : BW M) : CT K l iX3_wishOf [rV K 7 0, iV (t)] M (rI (if 1 ≤ t ∧ t ≤ M 7 0 8 then M 15 0 t else -1) (M)) := by
  refine aw_met [some (rV K 7 0), some (iV (t))] hst (by decide) rfl (Nat.le_of_ble_eq_true rfl) rfl rfl (lcat rfl) ?_
  refine aw_rng (fun hM => ?_)
  refine aw_aload_n dX3_wishOf_0 rfl rfl ?_
  refine aw_iload_n dX3_wishOf_1 rfl rfl ?_
  refine aw_cVb (g := 7) (As := [iV (t)]) (rest := []) (c_X3_hasTicket hst M (t) (by have h1 := bw.1; have h2 := bw.2; omega) (by have h1 := bw.1; have h2 := bw.2; omega)) cv_X3_hasTicket dX3_wishOf_2 ml_X3_40 rfl rfl rfl rfl rfl (Nat.le_of_ble_eq_true rfl) (by decide) rfl rfl (by decide) (fun h2 => ?_) (fun h2 => ?_)
  · refine aw_if_eq (tgt := 17) dX3_wishOf_5 (by decide) (by decide) (fun h => absurd h (by decide)) (fun _ => ?_)
    refine aw_aload_n dX3_wishOf_8 rfl rfl ?_
    refine aw_getr (g := 7) rfl rfl ly_X3 rfl (k := 7) dX3_wishOf_9 (by decide) fl_X3_33 rfl ?_
    refine aw_iload_n dX3_wishOf_12 rfl rfl ?_
    refine aw_iald (g := 15) (n := 101) rfl (by decide) dX3_wishOf_13 (by decide) (by show 0 ≤ t ∧ t < (101 : Int); have h1 := bw.1; have h2 := bw.2; omega) (fun r13 => ?_)
    refine aw_goto (tgt := 18) dX3_wishOf_14 (by decide) ?_
    exact aw_iret dX3_wishOf_18 rfl rfl (by decide) (by decide) ⟨congrArg (fun z => Sum.inl (some z)) (by first | rfl | omega), (by rfl)⟩
  · refine aw_if_eq (tgt := 17) dX3_wishOf_5 (by decide) (by decide) (fun _ => ?_) (fun h => absurd (by decide) h)
    refine aw_iconst dX3_wishOf_17 ?_
    exact aw_iret dX3_wishOf_18 rfl rfl (by decide) (by decide) ⟨congrArg (fun z => Sum.inl (some z)) (by first | rfl | omega), (by rfl)⟩
set_option maxHeartbeats 4000000 in
set_option maxRecDepth 20000 in
theorem c_X3_isOpen {K : WPar} {l : Launch} (hst : l.stackTraces = false) (M : Mem) (t : Int) (r_t : inR t) (bw : BW M) : CT K l iX3_isOpen [rV K 7 0, iV (t)] M (rB (1 ≤ t ∧ t ≤ M 7 0 8 ∧ (M 8 0 t = 0 ∨ M 8 0 t = 1)) (M)) := by
  refine aw_met [some (rV K 7 0), some (iV (t)), none] hst (by decide) rfl (Nat.le_of_ble_eq_true rfl) rfl rfl (lcat rfl) ?_
  refine aw_rng (fun hM => ?_)
  have rs := hM 8 0 t
  refine aw_aload_n dX3_isOpen_0 rfl rfl ?_
  refine aw_iload_n dX3_isOpen_1 rfl rfl ?_
  refine aw_cVi (g := 7) (As := [iV (t)]) (rest := []) (c_X3_stateOf hst M (t) (by have h1 := bw.1; have h2 := bw.2; omega) (by have h1 := bw.1; have h2 := bw.2; omega)) cv_X3_stateOf dX3_isOpen_2 ml_X3_44 rfl rfl rfl rfl rfl (Nat.le_of_ble_eq_true rfl) (by decide) rfl rfl (by decide) ?_
  refine aw_istore_n (L2 := [some (rV K 7 0), some (iV (t)), some (iV (if 1 ≤ t ∧ t ≤ M 7 0 8 then M 8 0 t else 3))]) dX3_isOpen_5 rfl (by decide) rfl ?_
  refine aw_iload_n dX3_isOpen_6 rfl rfl ?_
  refine aw_if_eq (tgt := 15) dX3_isOpen_7 (by decide) (by have h1 := bw.1; have h2 := bw.2; omega) (fun h7 => ?_) (fun h7 => ?_)
  · refine aw_iconst dX3_isOpen_15 ?_
    refine aw_goto (tgt := 20) dX3_isOpen_16 (by decide) ?_
    exact aw_iret dX3_isOpen_20 rfl rfl (by decide) (by decide) ⟨Or.inl ⟨rfl, by have h1 := bw.1; have h2 := bw.2; omega⟩, (by rfl)⟩
  · refine aw_iload_n dX3_isOpen_10 rfl rfl ?_
    refine aw_iconst dX3_isOpen_11 ?_
    refine aw_icmp_ne (tgt := 19) dX3_isOpen_12 (by decide) (by have h1 := bw.1; have h2 := bw.2; omega) (by have h1 := bw.1; have h2 := bw.2; omega) (fun h12 => ?_) (fun h12 => ?_)
    · refine aw_iconst dX3_isOpen_19 ?_
      exact aw_iret dX3_isOpen_20 rfl rfl (by decide) (by decide) ⟨Or.inr ⟨rfl, by have h1 := bw.1; have h2 := bw.2; omega⟩, (by rfl)⟩
    · refine aw_iconst dX3_isOpen_15 ?_
      refine aw_goto (tgt := 20) dX3_isOpen_16 (by decide) ?_
      exact aw_iret dX3_isOpen_20 rfl rfl (by decide) (by decide) ⟨Or.inl ⟨rfl, by have h1 := bw.1; have h2 := bw.2; omega⟩, (by rfl)⟩
set_option maxHeartbeats 4000000 in
set_option maxRecDepth 20000 in
theorem c_X3_open {K : WPar} {l : Launch} (hst : l.stackTraces = false) (M : Mem) (size : Int) (fin : Int) (r_size : inR size) (r_fin : inR fin) (bw : BW M) (v_g : M 7 0 8 < 100) : CT K l iX3_open [rV K 7 0, iV (size), iV (fin)] M (rI (M 7 0 8 + 1) (openM M size fin)) := by
  refine aw_met [some (rV K 7 0), some (iV (size)), some (iV (fin))] hst (by decide) rfl (Nat.le_of_ble_eq_true rfl) rfl rfl (lcat rfl) ?_
  refine aw_rng (fun hM => ?_)
  refine aw_aload_n dX3_open_0 rfl rfl ?_
  refine aw_geti (g := 7) rfl rfl ly_X3 rfl (k := 8) 8 rfl dX3_open_1 (by decide) fl_X3_36 rfl (fun r1 => ?_)
  refine aw_bipush dX3_open_4 rfl ?_
  refine aw_icmp_lt (tgt := 11) dX3_open_6 (by decide) (by have h1 := bw.1; have h2 := bw.2; omega) (by have h1 := bw.1; have h2 := bw.2; omega) (fun h6 => ?_) (fun h6 => absurd (by have h1 := bw.1; have h2 := bw.2; omega) h6)
  refine aw_aload_n dX3_open_11 rfl rfl ?_
  refine aw_dup dX3_open_12 rfl ?_
  refine aw_geti (g := 7) rfl rfl ly_X3 rfl (k := 8) 8 rfl dX3_open_13 (by decide) fl_X3_36 rfl (fun r13 => ?_)
  refine aw_iconst dX3_open_16 ?_
  refine aw_iadd dX3_open_17 ?_
  refine aw_puti (g := 7) tyX3 tyX3_ok nmX3 rfl rfl ly_X3 rfl (k := 8) 8 rfl (M' := updM M 7 0 8 ((M 7 0 8) + 1)) dX3_open_18 (by decide) fl_X3_36 rfl rfl (by decide +kernel) (by have h1 := bw.1; have h2 := bw.2; omega) rfl ?_
  refine aw_aload_n dX3_open_21 rfl rfl ?_
  refine aw_getr (g := 7) rfl rfl ly_X3 rfl (k := 0) dX3_open_22 (by decide) fl_X3_9 rfl ?_
  refine aw_aload_n dX3_open_25 rfl rfl ?_
  refine aw_geti (g := 7) rfl rfl ly_X3 rfl (k := 8) 8 rfl dX3_open_26 (by decide) fl_X3_36 rfl (fun r26 => ?_)
  refine aw_st (st' := [iV (M 7 0 8 + 1), rV K 8 0]) (by rw [show ((updM M 7 0 8 ((M 7 0 8) + 1)) 7 0 8 : Int) = M 7 0 8 + 1 from by simp [updM_g, updM_same]]) ?_
  refine aw_iconst dX3_open_29 ?_
  refine aw_iast (g := 8) (n := 101) (M' := updM (updM M 7 0 8 ((M 7 0 8) + 1)) 8 0 (M 7 0 8 + 1) 0) rfl (by decide) dX3_open_30 (by decide) (by show 0 ≤ (M 7 0 8 + 1) ∧ (M 7 0 8 + 1) < (101 : Int); have h1 := bw.1; have h2 := bw.2; omega) (by have h1 := bw.1; have h2 := bw.2; omega) rfl ?_
  refine aw_aload_n dX3_open_31 rfl rfl ?_
  refine aw_getr (g := 7) rfl rfl ly_X3 rfl (k := 1) dX3_open_32 (by decide) fl_X3_15 rfl ?_
  refine aw_aload_n dX3_open_35 rfl rfl ?_
  refine aw_geti (g := 7) rfl rfl ly_X3 rfl (k := 8) 8 rfl dX3_open_36 (by decide) fl_X3_36 rfl (fun r36 => ?_)
  refine aw_st (st' := [iV (M 7 0 8 + 1), rV K 9 0]) (by rw [show ((updM (updM M 7 0 8 ((M 7 0 8) + 1)) 8 0 (M 7 0 8 + 1) 0) 7 0 8 : Int) = M 7 0 8 + 1 from by simp [updM_g, updM_same]]) ?_
  refine aw_iload_n dX3_open_39 rfl rfl ?_
  refine aw_iast (g := 9) (n := 101) (M' := updM (updM (updM M 7 0 8 ((M 7 0 8) + 1)) 8 0 (M 7 0 8 + 1) 0) 9 0 (M 7 0 8 + 1) size) rfl (by decide) dX3_open_40 (by decide) (by show 0 ≤ (M 7 0 8 + 1) ∧ (M 7 0 8 + 1) < (101 : Int); have h1 := bw.1; have h2 := bw.2; omega) (by have h1 := bw.1; have h2 := bw.2; omega) rfl ?_
  refine aw_aload_n dX3_open_41 rfl rfl ?_
  refine aw_getr (g := 7) rfl rfl ly_X3 rfl (k := 2) dX3_open_42 (by decide) fl_X3_18 rfl ?_
  refine aw_aload_n dX3_open_45 rfl rfl ?_
  refine aw_geti (g := 7) rfl rfl ly_X3 rfl (k := 8) 8 rfl dX3_open_46 (by decide) fl_X3_36 rfl (fun r46 => ?_)
  refine aw_st (st' := [iV (M 7 0 8 + 1), rV K 10 0]) (by rw [show ((updM (updM (updM M 7 0 8 ((M 7 0 8) + 1)) 8 0 (M 7 0 8 + 1) 0) 9 0 (M 7 0 8 + 1) size) 7 0 8 : Int) = M 7 0 8 + 1 from by simp [updM_g, updM_same]]) ?_
  refine aw_iload_n dX3_open_49 rfl rfl ?_
  refine aw_iast (g := 10) (n := 101) (M' := updM (updM (updM (updM M 7 0 8 ((M 7 0 8) + 1)) 8 0 (M 7 0 8 + 1) 0) 9 0 (M 7 0 8 + 1) size) 10 0 (M 7 0 8 + 1) fin) rfl (by decide) dX3_open_50 (by decide) (by show 0 ≤ (M 7 0 8 + 1) ∧ (M 7 0 8 + 1) < (101 : Int); have h1 := bw.1; have h2 := bw.2; omega) (by have h1 := bw.1; have h2 := bw.2; omega) rfl ?_
  refine aw_aload_n dX3_open_51 rfl rfl ?_
  refine aw_getr (g := 7) rfl rfl ly_X3 rfl (k := 3) dX3_open_52 (by decide) fl_X3_21 rfl ?_
  refine aw_aload_n dX3_open_55 rfl rfl ?_
  refine aw_geti (g := 7) rfl rfl ly_X3 rfl (k := 8) 8 rfl dX3_open_56 (by decide) fl_X3_36 rfl (fun r56 => ?_)
  refine aw_st (st' := [iV (M 7 0 8 + 1), rV K 11 0]) (by rw [show ((updM (updM (updM (updM M 7 0 8 ((M 7 0 8) + 1)) 8 0 (M 7 0 8 + 1) 0) 9 0 (M 7 0 8 + 1) size) 10 0 (M 7 0 8 + 1) fin) 7 0 8 : Int) = M 7 0 8 + 1 from by simp [updM_g, updM_same]]) ?_
  refine aw_iconst dX3_open_59 ?_
  refine aw_iast (g := 11) (n := 101) (M' := updM (updM (updM (updM (updM M 7 0 8 ((M 7 0 8) + 1)) 8 0 (M 7 0 8 + 1) 0) 9 0 (M 7 0 8 + 1) size) 10 0 (M 7 0 8 + 1) fin) 11 0 (M 7 0 8 + 1) 0) rfl (by decide) dX3_open_60 (by decide) (by show 0 ≤ (M 7 0 8 + 1) ∧ (M 7 0 8 + 1) < (101 : Int); have h1 := bw.1; have h2 := bw.2; omega) (by have h1 := bw.1; have h2 := bw.2; omega) rfl ?_
  refine aw_aload_n dX3_open_61 rfl rfl ?_
  refine aw_getr (g := 7) rfl rfl ly_X3 rfl (k := 4) dX3_open_62 (by decide) fl_X3_24 rfl ?_
  refine aw_aload_n dX3_open_65 rfl rfl ?_
  refine aw_geti (g := 7) rfl rfl ly_X3 rfl (k := 8) 8 rfl dX3_open_66 (by decide) fl_X3_36 rfl (fun r66 => ?_)
  refine aw_st (st' := [iV (M 7 0 8 + 1), rV K 12 0]) (by rw [show ((updM (updM (updM (updM (updM M 7 0 8 ((M 7 0 8) + 1)) 8 0 (M 7 0 8 + 1) 0) 9 0 (M 7 0 8 + 1) size) 10 0 (M 7 0 8 + 1) fin) 11 0 (M 7 0 8 + 1) 0) 7 0 8 : Int) = M 7 0 8 + 1 from by simp [updM_g, updM_same]]) ?_
  refine aw_iconst dX3_open_69 ?_
  refine aw_iast (g := 12) (n := 101) (M' := updM (updM (updM (updM (updM (updM M 7 0 8 ((M 7 0 8) + 1)) 8 0 (M 7 0 8 + 1) 0) 9 0 (M 7 0 8 + 1) size) 10 0 (M 7 0 8 + 1) fin) 11 0 (M 7 0 8 + 1) 0) 12 0 (M 7 0 8 + 1) 0) rfl (by decide) dX3_open_70 (by decide) (by show 0 ≤ (M 7 0 8 + 1) ∧ (M 7 0 8 + 1) < (101 : Int); have h1 := bw.1; have h2 := bw.2; omega) (by have h1 := bw.1; have h2 := bw.2; omega) rfl ?_
  refine aw_aload_n dX3_open_71 rfl rfl ?_
  refine aw_getr (g := 7) rfl rfl ly_X3 rfl (k := 5) dX3_open_72 (by decide) fl_X3_27 rfl ?_
  refine aw_aload_n dX3_open_75 rfl rfl ?_
  refine aw_geti (g := 7) rfl rfl ly_X3 rfl (k := 8) 8 rfl dX3_open_76 (by decide) fl_X3_36 rfl (fun r76 => ?_)
  refine aw_st (st' := [iV (M 7 0 8 + 1), rV K 13 0]) (by rw [show ((updM (updM (updM (updM (updM (updM M 7 0 8 ((M 7 0 8) + 1)) 8 0 (M 7 0 8 + 1) 0) 9 0 (M 7 0 8 + 1) size) 10 0 (M 7 0 8 + 1) fin) 11 0 (M 7 0 8 + 1) 0) 12 0 (M 7 0 8 + 1) 0) 7 0 8 : Int) = M 7 0 8 + 1 from by simp [updM_g, updM_same]]) ?_
  refine aw_iconst dX3_open_79 ?_
  refine aw_iast (g := 13) (n := 101) (M' := updM (updM (updM (updM (updM (updM (updM M 7 0 8 ((M 7 0 8) + 1)) 8 0 (M 7 0 8 + 1) 0) 9 0 (M 7 0 8 + 1) size) 10 0 (M 7 0 8 + 1) fin) 11 0 (M 7 0 8 + 1) 0) 12 0 (M 7 0 8 + 1) 0) 13 0 (M 7 0 8 + 1) (-1)) rfl (by decide) dX3_open_80 (by decide) (by show 0 ≤ (M 7 0 8 + 1) ∧ (M 7 0 8 + 1) < (101 : Int); have h1 := bw.1; have h2 := bw.2; omega) (by have h1 := bw.1; have h2 := bw.2; omega) rfl ?_
  refine aw_aload_n dX3_open_81 rfl rfl ?_
  refine aw_getr (g := 7) rfl rfl ly_X3 rfl (k := 6) dX3_open_82 (by decide) fl_X3_30 rfl ?_
  refine aw_aload_n dX3_open_85 rfl rfl ?_
  refine aw_geti (g := 7) rfl rfl ly_X3 rfl (k := 8) 8 rfl dX3_open_86 (by decide) fl_X3_36 rfl (fun r86 => ?_)
  refine aw_st (st' := [iV (M 7 0 8 + 1), rV K 14 0]) (by rw [show ((updM (updM (updM (updM (updM (updM (updM M 7 0 8 ((M 7 0 8) + 1)) 8 0 (M 7 0 8 + 1) 0) 9 0 (M 7 0 8 + 1) size) 10 0 (M 7 0 8 + 1) fin) 11 0 (M 7 0 8 + 1) 0) 12 0 (M 7 0 8 + 1) 0) 13 0 (M 7 0 8 + 1) (-1)) 7 0 8 : Int) = M 7 0 8 + 1 from by simp [updM_g, updM_same]]) ?_
  refine aw_iconst dX3_open_89 ?_
  refine aw_iast (g := 14) (n := 101) (M' := updM (updM (updM (updM (updM (updM (updM (updM M 7 0 8 ((M 7 0 8) + 1)) 8 0 (M 7 0 8 + 1) 0) 9 0 (M 7 0 8 + 1) size) 10 0 (M 7 0 8 + 1) fin) 11 0 (M 7 0 8 + 1) 0) 12 0 (M 7 0 8 + 1) 0) 13 0 (M 7 0 8 + 1) (-1)) 14 0 (M 7 0 8 + 1) (-1)) rfl (by decide) dX3_open_90 (by decide) (by show 0 ≤ (M 7 0 8 + 1) ∧ (M 7 0 8 + 1) < (101 : Int); have h1 := bw.1; have h2 := bw.2; omega) (by have h1 := bw.1; have h2 := bw.2; omega) rfl ?_
  refine aw_aload_n dX3_open_91 rfl rfl ?_
  refine aw_getr (g := 7) rfl rfl ly_X3 rfl (k := 7) dX3_open_92 (by decide) fl_X3_33 rfl ?_
  refine aw_aload_n dX3_open_95 rfl rfl ?_
  refine aw_geti (g := 7) rfl rfl ly_X3 rfl (k := 8) 8 rfl dX3_open_96 (by decide) fl_X3_36 rfl (fun r96 => ?_)
  refine aw_st (st' := [iV (M 7 0 8 + 1), rV K 15 0]) (by rw [show ((updM (updM (updM (updM (updM (updM (updM (updM M 7 0 8 ((M 7 0 8) + 1)) 8 0 (M 7 0 8 + 1) 0) 9 0 (M 7 0 8 + 1) size) 10 0 (M 7 0 8 + 1) fin) 11 0 (M 7 0 8 + 1) 0) 12 0 (M 7 0 8 + 1) 0) 13 0 (M 7 0 8 + 1) (-1)) 14 0 (M 7 0 8 + 1) (-1)) 7 0 8 : Int) = M 7 0 8 + 1 from by simp [updM_g, updM_same]]) ?_
  refine aw_iconst dX3_open_99 ?_
  refine aw_iast (g := 15) (n := 101) (M' := updM (updM (updM (updM (updM (updM (updM (updM (updM M 7 0 8 ((M 7 0 8) + 1)) 8 0 (M 7 0 8 + 1) 0) 9 0 (M 7 0 8 + 1) size) 10 0 (M 7 0 8 + 1) fin) 11 0 (M 7 0 8 + 1) 0) 12 0 (M 7 0 8 + 1) 0) 13 0 (M 7 0 8 + 1) (-1)) 14 0 (M 7 0 8 + 1) (-1)) 15 0 (M 7 0 8 + 1) (-1)) rfl (by decide) dX3_open_100 (by decide) (by show 0 ≤ (M 7 0 8 + 1) ∧ (M 7 0 8 + 1) < (101 : Int); have h1 := bw.1; have h2 := bw.2; omega) (by have h1 := bw.1; have h2 := bw.2; omega) rfl ?_
  refine aw_aload_n dX3_open_101 rfl rfl ?_
  refine aw_geti (g := 7) rfl rfl ly_X3 rfl (k := 8) 8 rfl dX3_open_102 (by decide) fl_X3_36 rfl (fun r102 => ?_)
  refine aw_st (st' := [iV (M 7 0 8 + 1)]) (by rw [show ((updM (updM (updM (updM (updM (updM (updM (updM (updM M 7 0 8 ((M 7 0 8) + 1)) 8 0 (M 7 0 8 + 1) 0) 9 0 (M 7 0 8 + 1) size) 10 0 (M 7 0 8 + 1) fin) 11 0 (M 7 0 8 + 1) 0) 12 0 (M 7 0 8 + 1) 0) 13 0 (M 7 0 8 + 1) (-1)) 14 0 (M 7 0 8 + 1) (-1)) 15 0 (M 7 0 8 + 1) (-1)) 7 0 8 : Int) = M 7 0 8 + 1 from by simp [updM_g, updM_same]]) ?_
  exact aw_iret dX3_open_105 rfl rfl (by decide) (by decide) ⟨congrArg (fun z => Sum.inl (some z)) (by first | rfl | omega), (by rfl)⟩
set_option maxHeartbeats 4000000 in
set_option maxRecDepth 20000 in
theorem c_X3_putAt {K : WPar} {l : Launch} (hst : l.stackTraces = false) (M : Mem) (t : Int) (row : Int) (first : Int) (r_t : inR t) (r_row : inR row) (r_first : inR first) (bw : BW M) (v_t : 1 ≤ t ∧ t ≤ M 7 0 8) : CT K l iX3_putAt [rV K 7 0, iV (t), iV (row), iV (first)] M (rN (updM (updM M 13 0 t row) 14 0 t first)) := by
  refine aw_met [some (rV K 7 0), some (iV (t)), some (iV (row)), some (iV (first))] hst (by decide) rfl (Nat.le_of_ble_eq_true rfl) rfl rfl (lcat rfl) ?_
  refine aw_rng (fun hM => ?_)
  refine aw_aload_n dX3_putAt_0 rfl rfl ?_
  refine aw_iload_n dX3_putAt_1 rfl rfl ?_
  refine aw_cVb (g := 7) (As := [iV (t)]) (rest := []) (c_X3_hasTicket hst M (t) (by have h1 := bw.1; have h2 := bw.2; omega) (by have h1 := bw.1; have h2 := bw.2; omega)) cv_X3_hasTicket dX3_putAt_2 ml_X3_40 rfl rfl rfl rfl rfl (Nat.le_of_ble_eq_true rfl) (by decide) rfl rfl (by decide) (fun h2 => ?_) (fun h2 => ?_)
  · refine aw_if_eq (tgt := 22) dX3_putAt_5 (by decide) (by decide) (fun h => absurd h (by decide)) (fun _ => ?_)
    refine aw_aload_n dX3_putAt_8 rfl rfl ?_
    refine aw_getr (g := 7) rfl rfl ly_X3 rfl (k := 5) dX3_putAt_9 (by decide) fl_X3_27 rfl ?_
    refine aw_iload_n dX3_putAt_12 rfl rfl ?_
    refine aw_iload_n dX3_putAt_13 rfl rfl ?_
    refine aw_iast (g := 13) (n := 101) (M' := updM M 13 0 t row) rfl (by decide) dX3_putAt_14 (by decide) (by show 0 ≤ t ∧ t < (101 : Int); have h1 := bw.1; have h2 := bw.2; omega) (by have h1 := bw.1; have h2 := bw.2; omega) rfl ?_
    refine aw_aload_n dX3_putAt_15 rfl rfl ?_
    refine aw_getr (g := 7) rfl rfl ly_X3 rfl (k := 6) dX3_putAt_16 (by decide) fl_X3_30 rfl ?_
    refine aw_iload_n dX3_putAt_19 rfl rfl ?_
    refine aw_iload_n dX3_putAt_20 rfl rfl ?_
    refine aw_iast (g := 14) (n := 101) (M' := updM (updM M 13 0 t row) 14 0 t first) rfl (by decide) dX3_putAt_21 (by decide) (by show 0 ≤ t ∧ t < (101 : Int); have h1 := bw.1; have h2 := bw.2; omega) (by have h1 := bw.1; have h2 := bw.2; omega) rfl ?_
    exact aw_vret dX3_putAt_22 rfl (by decide) (by decide) ⟨rfl, (by rfl)⟩
  · exact False.elim (by have h1 := bw.1; have h2 := bw.2; omega)
set_option maxHeartbeats 4000000 in
set_option maxRecDepth 20000 in
theorem c_X3_turnIntoBooking {K : WPar} {l : Launch} (hst : l.stackTraces = false) (M : Mem) (t : Int) (price : Int) (r_t : inR t) (r_price : inR price) (bw : BW M) (v_t : 1 ≤ t ∧ t ≤ M 7 0 8) : CT K l iX3_turnIntoBooking [rV K 7 0, iV (t), iV (price)] M (rN (updM (updM M 8 0 t 1) 12 0 t price)) := by
  refine aw_met [some (rV K 7 0), some (iV (t)), some (iV (price))] hst (by decide) rfl (Nat.le_of_ble_eq_true rfl) rfl rfl (lcat rfl) ?_
  refine aw_rng (fun hM => ?_)
  refine aw_aload_n dX3_turnIntoBooking_0 rfl rfl ?_
  refine aw_iload_n dX3_turnIntoBooking_1 rfl rfl ?_
  refine aw_cVb (g := 7) (As := [iV (t)]) (rest := []) (c_X3_hasTicket hst M (t) (by have h1 := bw.1; have h2 := bw.2; omega) (by have h1 := bw.1; have h2 := bw.2; omega)) cv_X3_hasTicket dX3_turnIntoBooking_2 ml_X3_40 rfl rfl rfl rfl rfl (Nat.le_of_ble_eq_true rfl) (by decide) rfl rfl (by decide) (fun h2 => ?_) (fun h2 => ?_)
  · refine aw_if_eq (tgt := 22) dX3_turnIntoBooking_5 (by decide) (by decide) (fun h => absurd h (by decide)) (fun _ => ?_)
    refine aw_aload_n dX3_turnIntoBooking_8 rfl rfl ?_
    refine aw_getr (g := 7) rfl rfl ly_X3 rfl (k := 0) dX3_turnIntoBooking_9 (by decide) fl_X3_9 rfl ?_
    refine aw_iload_n dX3_turnIntoBooking_12 rfl rfl ?_
    refine aw_iconst dX3_turnIntoBooking_13 ?_
    refine aw_iast (g := 8) (n := 101) (M' := updM M 8 0 t 1) rfl (by decide) dX3_turnIntoBooking_14 (by decide) (by show 0 ≤ t ∧ t < (101 : Int); have h1 := bw.1; have h2 := bw.2; omega) (by have h1 := bw.1; have h2 := bw.2; omega) rfl ?_
    refine aw_aload_n dX3_turnIntoBooking_15 rfl rfl ?_
    refine aw_getr (g := 7) rfl rfl ly_X3 rfl (k := 4) dX3_turnIntoBooking_16 (by decide) fl_X3_24 rfl ?_
    refine aw_iload_n dX3_turnIntoBooking_19 rfl rfl ?_
    refine aw_iload_n dX3_turnIntoBooking_20 rfl rfl ?_
    refine aw_iast (g := 12) (n := 101) (M' := updM (updM M 8 0 t 1) 12 0 t price) rfl (by decide) dX3_turnIntoBooking_21 (by decide) (by show 0 ≤ t ∧ t < (101 : Int); have h1 := bw.1; have h2 := bw.2; omega) (by have h1 := bw.1; have h2 := bw.2; omega) rfl ?_
    exact aw_vret dX3_turnIntoBooking_22 rfl (by decide) (by decide) ⟨rfl, (by rfl)⟩
  · exact False.elim (by have h1 := bw.1; have h2 := bw.2; omega)
set_option maxHeartbeats 4000000 in
set_option maxRecDepth 20000 in
theorem c_X3_close {K : WPar} {l : Launch} (hst : l.stackTraces = false) (M : Mem) (t : Int) (how : Int) (r_t : inR t) (r_how : inR how) (bw : BW M) (v_t : 1 ≤ t ∧ t ≤ M 7 0 8) : CT K l iX3_close [rV K 7 0, iV (t), iV (how)] M (rN (updM (updM M 8 0 t how) 15 0 t (-1))) := by
  refine aw_met [some (rV K 7 0), some (iV (t)), some (iV (how))] hst (by decide) rfl (Nat.le_of_ble_eq_true rfl) rfl rfl (lcat rfl) ?_
  refine aw_rng (fun hM => ?_)
  refine aw_aload_n dX3_close_0 rfl rfl ?_
  refine aw_iload_n dX3_close_1 rfl rfl ?_
  refine aw_cVb (g := 7) (As := [iV (t)]) (rest := []) (c_X3_hasTicket hst M (t) (by have h1 := bw.1; have h2 := bw.2; omega) (by have h1 := bw.1; have h2 := bw.2; omega)) cv_X3_hasTicket dX3_close_2 ml_X3_40 rfl rfl rfl rfl rfl (Nat.le_of_ble_eq_true rfl) (by decide) rfl rfl (by decide) (fun h2 => ?_) (fun h2 => ?_)
  · refine aw_if_eq (tgt := 22) dX3_close_5 (by decide) (by decide) (fun h => absurd h (by decide)) (fun _ => ?_)
    refine aw_aload_n dX3_close_8 rfl rfl ?_
    refine aw_getr (g := 7) rfl rfl ly_X3 rfl (k := 0) dX3_close_9 (by decide) fl_X3_9 rfl ?_
    refine aw_iload_n dX3_close_12 rfl rfl ?_
    refine aw_iload_n dX3_close_13 rfl rfl ?_
    refine aw_iast (g := 8) (n := 101) (M' := updM M 8 0 t how) rfl (by decide) dX3_close_14 (by decide) (by show 0 ≤ t ∧ t < (101 : Int); have h1 := bw.1; have h2 := bw.2; omega) (by have h1 := bw.1; have h2 := bw.2; omega) rfl ?_
    refine aw_aload_n dX3_close_15 rfl rfl ?_
    refine aw_getr (g := 7) rfl rfl ly_X3 rfl (k := 7) dX3_close_16 (by decide) fl_X3_33 rfl ?_
    refine aw_iload_n dX3_close_19 rfl rfl ?_
    refine aw_iconst dX3_close_20 ?_
    refine aw_iast (g := 15) (n := 101) (M' := updM (updM M 8 0 t how) 15 0 t (-1)) rfl (by decide) dX3_close_21 (by decide) (by show 0 ≤ t ∧ t < (101 : Int); have h1 := bw.1; have h2 := bw.2; omega) (by have h1 := bw.1; have h2 := bw.2; omega) rfl ?_
    exact aw_vret dX3_close_22 rfl (by decide) (by decide) ⟨rfl, (by rfl)⟩
  · exact False.elim (by have h1 := bw.1; have h2 := bw.2; omega)
set_option maxHeartbeats 4000000 in
set_option maxRecDepth 20000 in
theorem c_X3_setWish {K : WPar} {l : Launch} (hst : l.stackTraces = false) (M : Mem) (t : Int) (row : Int) (r_t : inR t) (r_row : inR row) (bw : BW M) (v_t : 1 ≤ t ∧ t ≤ M 7 0 8) : CT K l iX3_setWish [rV K 7 0, iV (t), iV (row)] M (rN (updM M 15 0 t row)) := by
  refine aw_met [some (rV K 7 0), some (iV (t)), some (iV (row))] hst (by decide) rfl (Nat.le_of_ble_eq_true rfl) rfl rfl (lcat rfl) ?_
  refine aw_rng (fun hM => ?_)
  refine aw_aload_n dX3_setWish_0 rfl rfl ?_
  refine aw_iload_n dX3_setWish_1 rfl rfl ?_
  refine aw_cVb (g := 7) (As := [iV (t)]) (rest := []) (c_X3_hasTicket hst M (t) (by have h1 := bw.1; have h2 := bw.2; omega) (by have h1 := bw.1; have h2 := bw.2; omega)) cv_X3_hasTicket dX3_setWish_2 ml_X3_40 rfl rfl rfl rfl rfl (Nat.le_of_ble_eq_true rfl) (by decide) rfl rfl (by decide) (fun h2 => ?_) (fun h2 => ?_)
  · refine aw_if_eq (tgt := 15) dX3_setWish_5 (by decide) (by decide) (fun h => absurd h (by decide)) (fun _ => ?_)
    refine aw_aload_n dX3_setWish_8 rfl rfl ?_
    refine aw_getr (g := 7) rfl rfl ly_X3 rfl (k := 7) dX3_setWish_9 (by decide) fl_X3_33 rfl ?_
    refine aw_iload_n dX3_setWish_12 rfl rfl ?_
    refine aw_iload_n dX3_setWish_13 rfl rfl ?_
    refine aw_iast (g := 15) (n := 101) (M' := updM M 15 0 t row) rfl (by decide) dX3_setWish_14 (by decide) (by show 0 ≤ t ∧ t < (101 : Int); have h1 := bw.1; have h2 := bw.2; omega) (by have h1 := bw.1; have h2 := bw.2; omega) rfl ?_
    exact aw_vret dX3_setWish_15 rfl (by decide) (by decide) ⟨rfl, (by rfl)⟩
  · exact False.elim (by have h1 := bw.1; have h2 := bw.2; omega)
set_option maxHeartbeats 4000000 in
set_option maxRecDepth 20000 in
theorem c_X3_prolong {K : WPar} {l : Launch} (hst : l.stackTraces = false) (M : Mem) (t : Int) (fin : Int) (r_t : inR t) (r_fin : inR fin) (bw : BW M) (v_t : 1 ≤ t ∧ t ≤ M 7 0 8) (v_e : M 11 0 t ≤ 100) : CT K l iX3_prolong [rV K 7 0, iV (t), iV (fin)] M (rN (updM (updM M 10 0 t fin) 11 0 t (M 11 0 t + 1))) := by
  refine aw_met [some (rV K 7 0), some (iV (t)), some (iV (fin))] hst (by decide) rfl (Nat.le_of_ble_eq_true rfl) rfl rfl (lcat rfl) ?_
  refine aw_rng (fun hM => ?_)
  have rx := hM 11 0 t
  refine aw_aload_n dX3_prolong_0 rfl rfl ?_
  refine aw_iload_n dX3_prolong_1 rfl rfl ?_
  refine aw_cVb (g := 7) (As := [iV (t)]) (rest := []) (c_X3_hasTicket hst M (t) (by have h1 := bw.1; have h2 := bw.2; omega) (by have h1 := bw.1; have h2 := bw.2; omega)) cv_X3_hasTicket dX3_prolong_2 ml_X3_40 rfl rfl rfl rfl rfl (Nat.le_of_ble_eq_true rfl) (by decide) rfl rfl (by decide) (fun h2 => ?_) (fun h2 => ?_)
  · refine aw_if_eq (tgt := 25) dX3_prolong_5 (by decide) (by decide) (fun h => absurd h (by decide)) (fun _ => ?_)
    refine aw_aload_n dX3_prolong_8 rfl rfl ?_
    refine aw_getr (g := 7) rfl rfl ly_X3 rfl (k := 2) dX3_prolong_9 (by decide) fl_X3_18 rfl ?_
    refine aw_iload_n dX3_prolong_12 rfl rfl ?_
    refine aw_iload_n dX3_prolong_13 rfl rfl ?_
    refine aw_iast (g := 10) (n := 101) (M' := updM M 10 0 t fin) rfl (by decide) dX3_prolong_14 (by decide) (by show 0 ≤ t ∧ t < (101 : Int); have h1 := bw.1; have h2 := bw.2; omega) (by have h1 := bw.1; have h2 := bw.2; omega) rfl ?_
    refine aw_aload_n dX3_prolong_15 rfl rfl ?_
    refine aw_getr (g := 7) rfl rfl ly_X3 rfl (k := 3) dX3_prolong_16 (by decide) fl_X3_21 rfl ?_
    refine aw_iload_n dX3_prolong_19 rfl rfl ?_
    refine aw_dup2 dX3_prolong_20 rfl rfl ?_
    refine aw_iald (g := 11) (n := 101) rfl (by decide) dX3_prolong_21 (by decide) (by show 0 ≤ t ∧ t < (101 : Int); have h1 := bw.1; have h2 := bw.2; omega) (fun r21 => ?_)
    refine aw_st (st' := [iV (M 11 0 t), iV (t), rV K 11 0]) (by rw [show ((updM M 10 0 t fin) 11 0 t : Int) = M 11 0 t from by simp [updM_g, updM_same]]) ?_
    refine aw_iconst dX3_prolong_22 ?_
    refine aw_iadd dX3_prolong_23 ?_
    refine aw_iast (g := 11) (n := 101) (M' := updM (updM M 10 0 t fin) 11 0 t ((M 11 0 t) + 1)) rfl (by decide) dX3_prolong_24 (by decide) (by show 0 ≤ t ∧ t < (101 : Int); have h1 := bw.1; have h2 := bw.2; omega) (by have h1 := bw.1; have h2 := bw.2; omega) rfl ?_
    exact aw_vret dX3_prolong_25 rfl (by decide) (by decide) ⟨rfl, (by rfl)⟩
  · exact False.elim (by have h1 := bw.1; have h2 := bw.2; omega)
set_option maxHeartbeats 4000000 in
set_option maxRecDepth 20000 in
theorem c_X3_earliestEnd {K : WPar} {l : Launch} (hst : l.stackTraces = false) (M : Mem) (bw : BW M) (v_en : ∀ t : Int, 1 ≤ t → t ≤ M 7 0 8 → 0 ≤ M 10 0 t) : CT K l iX3_earliestEnd [rV K 7 0] M (rR (fun z => isEarl (M 7 0 8) (M 8 0) (M 10 0) z) (M)) := by
  refine aw_met [some (rV K 7 0), none, none] hst (by decide) rfl (Nat.le_of_ble_eq_true rfl) rfl rfl (lcat rfl) ?_
  refine aw_rng (fun hM => ?_)
  refine aw_iconst dX3_earliestEnd_0 ?_
  refine aw_istore_n (L2 := [some (rV K 7 0), some (iV (-1)), none]) dX3_earliestEnd_1 rfl (by decide) rfl ?_
  refine aw_iconst dX3_earliestEnd_2 ?_
  refine aw_istore_n (L2 := [some (rV K 7 0), some (iV (-1)), some (iV 1)]) dX3_earliestEnd_3 rfl (by decide) rfl ?_
  have lp4 : ∀ (n4 : Nat) (ear t : Int), (1 ≤ t ∧ t ≤ M 7 0 8 + 1) → (isEarl (t - 1) (M 8 0) (M 10 0) ear) → (inR ear) → ((M 7 0 8 + 1 - t).toNat) < n4 → AW K l iX3_earliestEnd (ZM K iX3_earliestEnd (rR (fun z => isEarl (M 7 0 8) (M 8 0) (M 10 0) z) (M))) 4 [some (rV K 7 0), some (iV (ear)), some (iV (t))] [] (M) 0 0 := by
    intro n4
    induction n4 with
    | zero =>
      intro ear t e1 e2 e3 hm4
      exact absurd hm4 (Nat.not_lt_zero _)
    | succ n4 ih4 =>
      intro ear t e1 e2 e3 hm4
      refine aw_iload_n dX3_earliestEnd_4 rfl rfl ?_
      refine aw_aload_n dX3_earliestEnd_5 rfl rfl ?_
      refine aw_geti (g := 7) rfl rfl ly_X3 rfl (k := 8) 8 rfl dX3_earliestEnd_6 (by decide) fl_X3_36 rfl (fun r6 => ?_)
      refine aw_icmp_gt (tgt := 49) dX3_earliestEnd_9 (by decide) (by have h1 := bw.1; have h2 := bw.2; omega) (by have h1 := bw.1; have h2 := bw.2; omega) (fun h9 => ?_) (fun h9 => ?_)
      · refine aw_iload_n dX3_earliestEnd_49 rfl rfl ?_
        exact aw_iret dX3_earliestEnd_50 rfl rfl (by decide) (by decide) ⟨ear, rfl, (by have q : t - 1 = M 7 0 8 := (by have h1 := bw.1; have h2 := bw.2; omega); rw [← q]; exact e2), (by rfl)⟩
      · refine aw_aload_n dX3_earliestEnd_12 rfl rfl ?_
        refine aw_getr (g := 7) rfl rfl ly_X3 rfl (k := 0) dX3_earliestEnd_13 (by decide) fl_X3_9 rfl ?_
        refine aw_iload_n dX3_earliestEnd_16 rfl rfl ?_
        refine aw_iald (g := 8) (n := 101) rfl (by decide) dX3_earliestEnd_17 (by decide) (by show 0 ≤ t ∧ t < (101 : Int); have h1 := bw.1; have h2 := bw.2; omega) (fun r17 => ?_)
        refine aw_if_ne (tgt := 43) dX3_earliestEnd_18 (by decide) (by have h1 := bw.1; have h2 := bw.2; omega) (fun h18 => ?_) (fun h18 => ?_)
        · refine aw_iinc (L2 := [some (rV K 7 0), some (iV (ear)), some (iV (t + 1))]) dX3_earliestEnd_43 rfl (by decide) rfl ?_
          refine aw_goto (tgt := 4) dX3_earliestEnd_46 (by decide) ?_
          exact ih4 (ear) (t + 1) (by have h1 := bw.1; have h2 := bw.2; omega) (by first | exact isEarl_skip e2 h18 | exact isEarl_take e2 e1.1 h18 (v_en t e1.1 (by omega)) (Or.inl h23) | exact isEarl_keep e2 h23 h33 | exact isEarl_take e2 e1.1 h18 (v_en t e1.1 (by omega)) (Or.inr (Int.not_le.mp h33))) (by first | exact e3 | exact r41) (by have h1 := bw.1; have h2 := bw.2; omega)
        · refine aw_iload_n dX3_earliestEnd_21 rfl rfl ?_
          refine aw_iconst dX3_earliestEnd_22 ?_
          refine aw_icmp_eq (tgt := 36) dX3_earliestEnd_23 (by decide) (by have h1 := bw.1; have h2 := bw.2; omega) (by have h1 := bw.1; have h2 := bw.2; omega) (fun h23 => ?_) (fun h23 => ?_)
          · refine aw_aload_n dX3_earliestEnd_36 rfl rfl ?_
            refine aw_getr (g := 7) rfl rfl ly_X3 rfl (k := 2) dX3_earliestEnd_37 (by decide) fl_X3_18 rfl ?_
            refine aw_iload_n dX3_earliestEnd_40 rfl rfl ?_
            refine aw_iald (g := 10) (n := 101) rfl (by decide) dX3_earliestEnd_41 (by decide) (by show 0 ≤ t ∧ t < (101 : Int); have h1 := bw.1; have h2 := bw.2; omega) (fun r41 => ?_)
            refine aw_istore_n (L2 := [some (rV K 7 0), some (iV (M 10 0 t)), some (iV (t))]) dX3_earliestEnd_42 rfl (by decide) rfl ?_
            refine aw_iinc (L2 := [some (rV K 7 0), some (iV (M 10 0 t)), some (iV (t + 1))]) dX3_earliestEnd_43 rfl (by decide) rfl ?_
            refine aw_goto (tgt := 4) dX3_earliestEnd_46 (by decide) ?_
            exact ih4 (M 10 0 t) (t + 1) (by have h1 := bw.1; have h2 := bw.2; omega) (by first | exact isEarl_skip e2 h18 | exact isEarl_take e2 e1.1 h18 (v_en t e1.1 (by omega)) (Or.inl h23) | exact isEarl_keep e2 h23 h33 | exact isEarl_take e2 e1.1 h18 (v_en t e1.1 (by omega)) (Or.inr (Int.not_le.mp h33))) (by first | exact e3 | exact r41) (by have h1 := bw.1; have h2 := bw.2; omega)
          · refine aw_aload_n dX3_earliestEnd_26 rfl rfl ?_
            refine aw_getr (g := 7) rfl rfl ly_X3 rfl (k := 2) dX3_earliestEnd_27 (by decide) fl_X3_18 rfl ?_
            refine aw_iload_n dX3_earliestEnd_30 rfl rfl ?_
            refine aw_iald (g := 10) (n := 101) rfl (by decide) dX3_earliestEnd_31 (by decide) (by show 0 ≤ t ∧ t < (101 : Int); have h1 := bw.1; have h2 := bw.2; omega) (fun r31 => ?_)
            refine aw_iload_n dX3_earliestEnd_32 rfl rfl ?_
            refine aw_icmp_ge (tgt := 43) dX3_earliestEnd_33 (by decide) (by have h1 := bw.1; have h2 := bw.2; omega) (by have h1 := bw.1; have h2 := bw.2; omega) (fun h33 => ?_) (fun h33 => ?_)
            · refine aw_iinc (L2 := [some (rV K 7 0), some (iV (ear)), some (iV (t + 1))]) dX3_earliestEnd_43 rfl (by decide) rfl ?_
              refine aw_goto (tgt := 4) dX3_earliestEnd_46 (by decide) ?_
              exact ih4 (ear) (t + 1) (by have h1 := bw.1; have h2 := bw.2; omega) (by first | exact isEarl_skip e2 h18 | exact isEarl_take e2 e1.1 h18 (v_en t e1.1 (by omega)) (Or.inl h23) | exact isEarl_keep e2 h23 h33 | exact isEarl_take e2 e1.1 h18 (v_en t e1.1 (by omega)) (Or.inr (Int.not_le.mp h33))) (by first | exact e3 | exact r41) (by have h1 := bw.1; have h2 := bw.2; omega)
            · refine aw_aload_n dX3_earliestEnd_36 rfl rfl ?_
              refine aw_getr (g := 7) rfl rfl ly_X3 rfl (k := 2) dX3_earliestEnd_37 (by decide) fl_X3_18 rfl ?_
              refine aw_iload_n dX3_earliestEnd_40 rfl rfl ?_
              refine aw_iald (g := 10) (n := 101) rfl (by decide) dX3_earliestEnd_41 (by decide) (by show 0 ≤ t ∧ t < (101 : Int); have h1 := bw.1; have h2 := bw.2; omega) (fun r41 => ?_)
              refine aw_istore_n (L2 := [some (rV K 7 0), some (iV (M 10 0 t)), some (iV (t))]) dX3_earliestEnd_42 rfl (by decide) rfl ?_
              refine aw_iinc (L2 := [some (rV K 7 0), some (iV (M 10 0 t)), some (iV (t + 1))]) dX3_earliestEnd_43 rfl (by decide) rfl ?_
              refine aw_goto (tgt := 4) dX3_earliestEnd_46 (by decide) ?_
              exact ih4 (M 10 0 t) (t + 1) (by have h1 := bw.1; have h2 := bw.2; omega) (by first | exact isEarl_skip e2 h18 | exact isEarl_take e2 e1.1 h18 (v_en t e1.1 (by omega)) (Or.inl h23) | exact isEarl_keep e2 h23 h33 | exact isEarl_take e2 e1.1 h18 (v_en t e1.1 (by omega)) (Or.inr (Int.not_le.mp h33))) (by first | exact e3 | exact r41) (by have h1 := bw.1; have h2 := bw.2; omega)
  exact lp4 (((M 7 0 8 + 1 - 1).toNat) + 1) (-1) (1) (by have h1 := bw.1; have h2 := bw.2; omega) (by exact isEarl_0 _ _) (by exact ⟨by omega, by omega⟩) (Nat.lt_succ_self _)
