set_option maxHeartbeats 4000000 in
set_option maxRecDepth 20000 in
theorem c_X1_rowsUsed {K : WPar} {l : Launch} (hst : l.stackTraces = false) (M : Mem) : CT K l iX1_rowsUsed [rV K 16 0] M (rI (M 16 0 7) (M)) := by
  refine aw_met [some (rV K 16 0)] hst (by decide) rfl (Nat.le_of_ble_eq_true rfl) rfl rfl (lcat rfl) ?_
  refine aw_rng (fun hM => ?_)
  refine aw_aload_n dX1_rowsUsed_0 rfl rfl ?_
  refine aw_geti (g := 16) rfl rfl ly_X1 rfl (k := 7) 7 rfl dX1_rowsUsed_1 (by decide) fl_X1_36 rfl (fun r1 => ?_)
  exact aw_iret dX1_rowsUsed_4 rfl rfl (by decide) (by decide) ⟨congrArg (fun z => Sum.inl (some z)) (by first | rfl | omega), (by rfl)⟩
set_option maxHeartbeats 4000000 in
set_option maxRecDepth 20000 in
theorem c_X1_seatsFrom {K : WPar} {l : Launch} (hst : l.stackTraces = false) (M : Mem) (row : Int) (r_row : inR row) (hw : HW M) : CT K l iX1_seatsFrom [rV K 16 0, iV (row)] M (rI (if 0 ≤ row ∧ row < M 1 0 4 then M 26 0 row else 0) (M)) := by
  refine aw_met [some (rV K 16 0), some (iV (row))] hst (by decide) rfl (Nat.le_of_ble_eq_true rfl) rfl rfl (lcat rfl) ?_
  refine aw_rng (fun hM => ?_)
  refine aw_aload_n dX1_seatsFrom_0 rfl rfl ?_
  refine aw_getr (g := 16) rfl rfl ly_X1 rfl (k := 0) dX1_seatsFrom_1 (by decide) fl_X1_9 rfl ?_
  refine aw_iload_n dX1_seatsFrom_4 rfl rfl ?_
  refine aw_cVb (g := 1) (As := [iV (row)]) (rest := []) (c_X2_hasRow hst M (row) (by have n1 := hw.1; have n2 := hw.2.1; omega)) cv_X2_hasRow dX1_seatsFrom_5 ml_X1_40 rfl rfl rfl rfl rfl (Nat.le_of_ble_eq_true rfl) (by decide) rfl rfl (by decide) (fun h5 => ?_) (fun h5 => ?_)
  · refine aw_if_eq (tgt := 20) dX1_seatsFrom_8 (by decide) (by decide) (fun h => absurd h (by decide)) (fun _ => ?_)
    refine aw_aload_n dX1_seatsFrom_11 rfl rfl ?_
    refine aw_getr (g := 16) rfl rfl ly_X1 rfl (k := 6) dX1_seatsFrom_12 (by decide) fl_X1_33 rfl ?_
    refine aw_iload_n dX1_seatsFrom_15 rfl rfl ?_
    refine aw_iald (g := 26) (n := 12) rfl (by decide) dX1_seatsFrom_16 (by decide) (by show 0 ≤ row ∧ row < (12 : Int); have n1 := hw.1; have n2 := hw.2.1; omega) (fun r16 => ?_)
    refine aw_goto (tgt := 21) dX1_seatsFrom_17 (by decide) ?_
    exact aw_iret dX1_seatsFrom_21 rfl rfl (by decide) (by decide) ⟨congrArg (fun z => Sum.inl (some z)) (by first | rfl | omega), (by rfl)⟩
  · refine aw_if_eq (tgt := 20) dX1_seatsFrom_8 (by decide) (by decide) (fun _ => ?_) (fun h => absurd (by decide) h)
    refine aw_iconst dX1_seatsFrom_20 ?_
    exact aw_iret dX1_seatsFrom_21 rfl rfl (by decide) (by decide) ⟨congrArg (fun z => Sum.inl (some z)) (by first | rfl | omega), (by rfl)⟩
set_option maxHeartbeats 4000000 in
set_option maxRecDepth 20000 in
theorem c_X1_firstIn {K : WPar} {l : Launch} (hst : l.stackTraces = false) (M : Mem) (row : Int) (r_row : inR row) (hw : HW M) (v_tk : 0 ≤ row → row < M 1 0 4 → 0 ≤ M 26 0 row ∧ M 26 0 row ≤ 20) : CT K l iX1_firstIn [rV K 16 0, iV (row)] M (rI (if 0 ≤ row ∧ row < M 1 0 4 then M 19 row (M 26 0 row) else -1) (M)) := by
  refine aw_met [some (rV K 16 0), some (iV (row))] hst (by decide) rfl (Nat.le_of_ble_eq_true rfl) rfl rfl (lcat rfl) ?_
  refine aw_rng (fun hM => ?_)
  refine aw_aload_n dX1_firstIn_0 rfl rfl ?_
  refine aw_getr (g := 16) rfl rfl ly_X1 rfl (k := 0) dX1_firstIn_1 (by decide) fl_X1_9 rfl ?_
  refine aw_iload_n dX1_firstIn_4 rfl rfl ?_
  refine aw_cVb (g := 1) (As := [iV (row)]) (rest := []) (c_X2_hasRow hst M (row) (by have vt := v_tk; have n1 := hw.1; have n2 := hw.2.1; omega)) cv_X2_hasRow dX1_firstIn_5 ml_X1_40 rfl rfl rfl rfl rfl (Nat.le_of_ble_eq_true rfl) (by decide) rfl rfl (by decide) (fun h5 => ?_) (fun h5 => ?_)
  · refine aw_if_eq (tgt := 27) dX1_firstIn_8 (by decide) (by decide) (fun h => absurd h (by decide)) (fun _ => ?_)
    refine aw_aload_n dX1_firstIn_11 rfl rfl ?_
    refine aw_getr (g := 16) rfl rfl ly_X1 rfl (k := 2) dX1_firstIn_12 (by decide) fl_X1_21 rfl ?_
    refine aw_iload_n dX1_firstIn_15 rfl rfl ?_
    refine aw_aald (g := 18) (n := 12) rfl (by decide) rfl dX1_firstIn_16 (by show 0 ≤ row ∧ row < (12 : Int); have vt := v_tk; have n1 := hw.1; have n2 := hw.2.1; omega) ?_
    refine aw_aload_n dX1_firstIn_17 rfl rfl ?_
    refine aw_getr (g := 16) rfl rfl ly_X1 rfl (k := 6) dX1_firstIn_18 (by decide) fl_X1_33 rfl ?_
    refine aw_iload_n dX1_firstIn_21 rfl rfl ?_
    refine aw_iald (g := 26) (n := 12) rfl (by decide) dX1_firstIn_22 (by decide) (by show 0 ≤ row ∧ row < (12 : Int); have vt := v_tk; have n1 := hw.1; have n2 := hw.2.1; omega) (fun r22 => ?_)
    refine aw_iald (g := 19) (n := 21) rfl (by decide) dX1_firstIn_23 (by show 0 ≤ row ∧ row < (12 : Int); have vt := v_tk; have n1 := hw.1; have n2 := hw.2.1; omega) (by show 0 ≤ (M 26 0 row) ∧ (M 26 0 row) < (21 : Int); have vt := v_tk; have n1 := hw.1; have n2 := hw.2.1; omega) (fun r23 => ?_)
    refine aw_goto (tgt := 28) dX1_firstIn_24 (by decide) ?_
    exact aw_iret dX1_firstIn_28 rfl rfl (by decide) (by decide) ⟨congrArg (fun z => Sum.inl (some z)) (by first | rfl | omega), (by rfl)⟩
  · refine aw_if_eq (tgt := 27) dX1_firstIn_8 (by decide) (by decide) (fun _ => ?_) (fun h => absurd (by decide) h)
    refine aw_iconst dX1_firstIn_27 ?_
    exact aw_iret dX1_firstIn_28 rfl rfl (by decide) (by decide) ⟨congrArg (fun z => Sum.inl (some z)) (by first | rfl | omega), (by rfl)⟩
set_option maxHeartbeats 4000000 in
set_option maxRecDepth 20000 in
theorem c_X1_startBehindLastRow {K : WPar} {l : Launch} (hst : l.stackTraces = false) (M : Mem) (people : Int) (r_people : inR people) (hw : HW M) (v_p : 0 ≤ people ∧ people ≤ 100) : CT K l iX1_startBehindLastRow [rV K 16 0, iV (people)] M (rN (sbM M (M 1 0 4) (people + 1))) := by
  refine aw_met [some (rV K 16 0), some (iV (people)), none, none] hst (by decide) rfl (Nat.le_of_ble_eq_true rfl) rfl rfl (lcat rfl) ?_
  refine aw_rng (fun hM => ?_)
  refine aw_aload_n dX1_startBehindLastRow_0 rfl rfl ?_
  refine aw_getr (g := 16) rfl rfl ly_X1 rfl (k := 0) dX1_startBehindLastRow_1 (by decide) fl_X1_9 rfl ?_
  refine aw_cVi (g := 1) (As := []) (rest := []) (c_X2_rowCount hst M) cv_X2_rowCount dX1_startBehindLastRow_4 ml_X1_50 rfl rfl rfl rfl rfl (Nat.le_of_ble_eq_true rfl) (by decide) rfl rfl (by decide) ?_
  refine aw_istore_n (L2 := [some (rV K 16 0), some (iV (people)), some (iV (M 1 0 4)), none]) dX1_startBehindLastRow_7 rfl (by decide) rfl ?_
  refine aw_iconst dX1_startBehindLastRow_8 ?_
  refine aw_istore_n (L2 := [some (rV K 16 0), some (iV (people)), some (iV (M 1 0 4)), some (iV 0)]) dX1_startBehindLastRow_9 rfl (by decide) rfl ?_
  have lp10 : ∀ (n10 : Nat) (lef : Int), (0 ≤ lef ∧ lef ≤ people + 1) → ((people + 1 - lef).toNat) < n10 → AW K l iX1_startBehindLastRow (ZM K iX1_startBehindLastRow (rN (sbM M (M 1 0 4) (people + 1)))) 10 [some (rV K 16 0), some (iV (people)), some (iV (M 1 0 4)), some (iV (lef))] [] (sbM M (M 1 0 4) lef) 0 0 := by
    intro n10
    induction n10 with
    | zero =>
      intro lef e1 hm10
      exact absurd hm10 (Nat.not_lt_zero _)
    | succ n10 ih10 =>
      intro lef e1 hm10
      refine aw_iload_n dX1_startBehindLastRow_10 rfl rfl ?_
      refine aw_iload_n dX1_startBehindLastRow_11 rfl rfl ?_
      refine aw_icmp_gt (tgt := 48) dX1_startBehindLastRow_12 (by decide) (by have n1 := hw.1; have n2 := hw.2.1; omega) (by have n1 := hw.1; have n2 := hw.2.1; omega) (fun h12 => ?_) (fun h12 => ?_)
      · exact aw_vret dX1_startBehindLastRow_48 rfl (by decide) (by decide) ⟨rfl, (by have q : lef = people + 1 := (by omega); rw [q])⟩
      · refine aw_aload_n dX1_startBehindLastRow_15 rfl rfl ?_
        refine aw_getr (g := 16) rfl rfl ly_X1 rfl (k := 4) dX1_startBehindLastRow_16 (by decide) fl_X1_27 rfl ?_
        refine aw_iload_n dX1_startBehindLastRow_19 rfl rfl ?_
        refine aw_aald (g := 22) (n := 13) rfl (by decide) rfl dX1_startBehindLastRow_20 (by show 0 ≤ (M 1 0 4) ∧ (M 1 0 4) < (13 : Int); have n1 := hw.1; have n2 := hw.2.1; omega) ?_
        refine aw_iload_n dX1_startBehindLastRow_21 rfl rfl ?_
        refine aw_iload_n dX1_startBehindLastRow_22 rfl rfl ?_
        refine aw_if_ne (tgt := 30) dX1_startBehindLastRow_23 (by decide) (by have n1 := hw.1; have n2 := hw.2.1; omega) (fun h23 => ?_) (fun h23 => ?_)
        · refine aw_bipush dX1_startBehindLastRow_30 rfl ?_
          refine aw_iast (g := 23) (n := 101) (M' := updM (sbM M (M 1 0 4) lef) 23 (M 1 0 4) lef 13) rfl (by decide) dX1_startBehindLastRow_32 (by show 0 ≤ (M 1 0 4) ∧ (M 1 0 4) < (13 : Int); have n1 := hw.1; have n2 := hw.2.1; omega) (by show 0 ≤ lef ∧ lef < (101 : Int); have n1 := hw.1; have n2 := hw.2.1; omega) (by have n1 := hw.1; have n2 := hw.2.1; omega) rfl ?_
          refine aw_aload_n dX1_startBehindLastRow_33 rfl rfl ?_
          refine aw_getr (g := 16) rfl rfl ly_X1 rfl (k := 5) dX1_startBehindLastRow_34 (by decide) fl_X1_30 rfl ?_
          refine aw_iload_n dX1_startBehindLastRow_37 rfl rfl ?_
          refine aw_aald (g := 24) (n := 13) rfl (by decide) rfl dX1_startBehindLastRow_38 (by show 0 ≤ (M 1 0 4) ∧ (M 1 0 4) < (13 : Int); have n1 := hw.1; have n2 := hw.2.1; omega) ?_
          refine aw_iload_n dX1_startBehindLastRow_39 rfl rfl ?_
          refine aw_iconst dX1_startBehindLastRow_40 ?_
          refine aw_iast (g := 25) (n := 101) (M' := updM (updM (sbM M (M 1 0 4) lef) 23 (M 1 0 4) lef 13) 25 (M 1 0 4) lef 0) rfl (by decide) dX1_startBehindLastRow_41 (by show 0 ≤ (M 1 0 4) ∧ (M 1 0 4) < (13 : Int); have n1 := hw.1; have n2 := hw.2.1; omega) (by show 0 ≤ lef ∧ lef < (101 : Int); have n1 := hw.1; have n2 := hw.2.1; omega) (by have n1 := hw.1; have n2 := hw.2.1; omega) rfl ?_
          refine aw_iinc (L2 := [some (rV K 16 0), some (iV (people)), some (iV (M 1 0 4)), some (iV (lef + 1))]) dX1_startBehindLastRow_42 rfl (by decide) rfl ?_
          refine aw_goto (tgt := 10) dX1_startBehindLastRow_45 (by decide) ?_
          refine aw_mem (M' := sbM M (M 1 0 4) (lef + 1)) (by exact sbM_s e1.1 (by omega)) ?_
          exact ih10 (lef + 1) (by have n1 := hw.1; have n2 := hw.2.1; omega) (by omega)
        · refine aw_iconst dX1_startBehindLastRow_26 ?_
          refine aw_goto (tgt := 32) dX1_startBehindLastRow_27 (by decide) ?_
          refine aw_iast (g := 23) (n := 101) (M' := updM (sbM M (M 1 0 4) lef) 23 (M 1 0 4) lef 0) rfl (by decide) dX1_startBehindLastRow_32 (by show 0 ≤ (M 1 0 4) ∧ (M 1 0 4) < (13 : Int); have n1 := hw.1; have n2 := hw.2.1; omega) (by show 0 ≤ lef ∧ lef < (101 : Int); have n1 := hw.1; have n2 := hw.2.1; omega) (by have n1 := hw.1; have n2 := hw.2.1; omega) rfl ?_
          refine aw_aload_n dX1_startBehindLastRow_33 rfl rfl ?_
          refine aw_getr (g := 16) rfl rfl ly_X1 rfl (k := 5) dX1_startBehindLastRow_34 (by decide) fl_X1_30 rfl ?_
          refine aw_iload_n dX1_startBehindLastRow_37 rfl rfl ?_
          refine aw_aald (g := 24) (n := 13) rfl (by decide) rfl dX1_startBehindLastRow_38 (by show 0 ≤ (M 1 0 4) ∧ (M 1 0 4) < (13 : Int); have n1 := hw.1; have n2 := hw.2.1; omega) ?_
          refine aw_iload_n dX1_startBehindLastRow_39 rfl rfl ?_
          refine aw_iconst dX1_startBehindLastRow_40 ?_
          refine aw_iast (g := 25) (n := 101) (M' := updM (updM (sbM M (M 1 0 4) lef) 23 (M 1 0 4) lef 0) 25 (M 1 0 4) lef 0) rfl (by decide) dX1_startBehindLastRow_41 (by show 0 ≤ (M 1 0 4) ∧ (M 1 0 4) < (13 : Int); have n1 := hw.1; have n2 := hw.2.1; omega) (by show 0 ≤ lef ∧ lef < (101 : Int); have n1 := hw.1; have n2 := hw.2.1; omega) (by have n1 := hw.1; have n2 := hw.2.1; omega) rfl ?_
          refine aw_iinc (L2 := [some (rV K 16 0), some (iV (people)), some (iV (M 1 0 4)), some (iV (lef + 1))]) dX1_startBehindLastRow_42 rfl (by decide) rfl ?_
          refine aw_goto (tgt := 10) dX1_startBehindLastRow_45 (by decide) ?_
          refine aw_mem (M' := sbM M (M 1 0 4) (lef + 1)) (by exact sbM_s e1.1 (by omega)) ?_
          exact ih10 (lef + 1) (by have n1 := hw.1; have n2 := hw.2.1; omega) (by omega)
  refine aw_mem (M' := sbM M (M 1 0 4) 0) (by exact (sbM_0 _ _).symm) ?_
  exact lp10 (((people + 1 - 0).toNat) + 1) (0) (by have n1 := hw.1; have n2 := hw.2.1; omega) (Nat.lt_succ_self _)
set_option maxHeartbeats 4000000 in
set_option maxRecDepth 20000 in
theorem c_X1_readBlocks {K : WPar} {l : Launch} (hst : l.stackTraces = false) (M : Mem) (row : Int) (r_row : inR row) (hw : HW M) (v_row : 0 ≤ row ∧ row < M 1 0 4) : CT K l iX1_readBlocks [rV K 16 0, iV (row)] M (rMm (fun m => rowOK M m row ∧ SF M m ∧ (∀ g : Nat, g ≠ 17 → g ≠ 19 → g ≠ 21 → m g = M g) ∧ ∀ r : Int, r ≠ row → m 17 0 r = M 17 0 r ∧ m 19 r = M 19 r ∧ m 21 r = M 21 r)) := by
  refine aw_met [some (rV K 16 0), some (iV (row)), none, none] hst (by decide) rfl (Nat.le_of_ble_eq_true rfl) rfl rfl (lcat rfl) ?_
  refine aw_rng (fun hM => ?_)
  refine aw_aload_n dX1_readBlocks_0 rfl rfl ?_
  refine aw_getr (g := 16) rfl rfl ly_X1 rfl (k := 1) dX1_readBlocks_1 (by decide) fl_X1_15 rfl ?_
  refine aw_iload_n dX1_readBlocks_4 rfl rfl ?_
  refine aw_aload_n dX1_readBlocks_5 rfl rfl ?_
  refine aw_getr (g := 16) rfl rfl ly_X1 rfl (k := 0) dX1_readBlocks_6 (by decide) fl_X1_9 rfl ?_
  refine aw_iload_n dX1_readBlocks_9 rfl rfl ?_
  refine aw_cVr (g := 1) (As := [iV (row)]) (rest := [iV (row), rV K 17 0]) (c_X2_longestFreeIn hst M (row) (by have h1 := hw.1; have h2 := hw.2.1; have h3 := hw.2.2 row v_row.1 v_row.2; omega) (by exact hw) (by have h1 := hw.1; have h2 := hw.2.1; have h3 := hw.2.2 row v_row.1 v_row.2; omega)) cv_X2_longestFreeIn dX1_readBlocks_10 ml_X1_64 rfl rfl rfl rfl rfl (Nat.le_of_ble_eq_true rfl) (by decide) rfl rfl (by decide) (fun z10 (h10 : isLong (M 6 row) (M 2 0 row) z10) => ?_)
  refine aw_iast (g := 17) (n := 12) (M' := updM M 17 0 row z10) rfl (by decide) dX1_readBlocks_13 (by decide) (by show 0 ≤ row ∧ row < (12 : Int); have h1 := hw.1; have h2 := hw.2.1; have h3 := hw.2.2 row v_row.1 v_row.2; omega) (by have b := isLong_bd h10; have h1 := hw.1; have h2 := hw.2.1; have h3 := hw.2.2 row v_row.1 v_row.2; omega) rfl ?_
  refine aw_iconst dX1_readBlocks_14 ?_
  refine aw_istore_n (L2 := [some (rV K 16 0), some (iV (row)), some (iV 2), none]) dX1_readBlocks_15 rfl (by decide) rfl ?_
  have lp16 : ∀ (n16 : Nat) (seats : Int) (m1 : Mem), (2 ≤ seats ∧ seats ≤ 22) → (RB M m1 row z10 seats) → (((22 : Int) - seats).toNat) < n16 → AW K l iX1_readBlocks (ZM K iX1_readBlocks (rMm (fun m => rowOK M m row ∧ SF M m ∧ (∀ g : Nat, g ≠ 17 → g ≠ 19 → g ≠ 21 → m g = M g) ∧ ∀ r : Int, r ≠ row → m 17 0 r = M 17 0 r ∧ m 19 r = M 19 r ∧ m 21 r = M 21 r))) 16 [some (rV K 16 0), some (iV (row)), some (iV (seats)), none] [] (m1) 0 0 := by
    intro n16
    induction n16 with
    | zero =>
      intro seats m1 e1 e2 hm16
      exact absurd hm16 (Nat.not_lt_zero _)
    | succ n16 ih16 =>
      intro seats m1 e1 e2 hm16
      have a1 : m1 1 = M 1 := e2.1 1 (by decide) (by decide) (by decide); have a2 : m1 2 = M 2 := e2.1 2 (by decide) (by decide) (by decide); have a3 : m1 3 = M 3 := e2.1 3 (by decide) (by decide) (by decide); have a4 : m1 4 = M 4 := e2.1 4 (by decide) (by decide) (by decide); have a6 : m1 6 = M 6 := e2.1 6 (by decide) (by decide) (by decide); have b1 : m1 1 0 4 = M 1 0 4 := (by rw [a1]); have hw1 : HW m1 := HW_g hw a1 a2 a3 a4; have b2 : m1 2 0 row = M 2 0 row := (by rw [a2]); have b17 := e2.2.1; have bL := isLong_bd h10
      refine aw_iload_n dX1_readBlocks_16 rfl rfl ?_
      refine aw_aload_n dX1_readBlocks_17 rfl rfl ?_
      refine aw_getr (g := 16) rfl rfl ly_X1 rfl (k := 1) dX1_readBlocks_18 (by decide) fl_X1_15 rfl ?_
      refine aw_iload_n dX1_readBlocks_21 rfl rfl ?_
      refine aw_iald (g := 17) (n := 12) rfl (by decide) dX1_readBlocks_22 (by decide) (by show 0 ≤ row ∧ row < (12 : Int); have h1 := hw.1; have h2 := hw.2.1; have h3 := hw.2.2 row v_row.1 v_row.2; omega) (fun r22 => ?_)
      refine aw_icmp_gt (tgt := 70) dX1_readBlocks_23 (by decide) (by have h1 := hw.1; have h2 := hw.2.1; have h3 := hw.2.2 row v_row.1 v_row.2; omega) (by have h1 := hw.1; have h2 := hw.2.1; have h3 := hw.2.2 row v_row.1 v_row.2; omega) (fun h23 => ?_) (fun h23 => ?_)
      · exact aw_vret dX1_readBlocks_70 rfl (by decide) (by decide) ⟨rfl, (by rw [b17] at h23; exact ⟨RB_row hw v_row h10 e2 (by omega), fun g hg => e2.1 g (by omega) (by omega) (by omega), e2.1, fun r hr => ⟨e2.2.2.1 r hr, e2.2.2.2.1 r hr⟩⟩)⟩
      · refine aw_aload_n dX1_readBlocks_26 rfl rfl ?_
        refine aw_getr (g := 16) rfl rfl ly_X1 rfl (k := 0) dX1_readBlocks_27 (by decide) fl_X1_9 rfl ?_
        refine aw_iload_n dX1_readBlocks_30 rfl rfl ?_
        refine aw_iload_n dX1_readBlocks_31 rfl rfl ?_
        refine aw_iconst dX1_readBlocks_32 ?_
        refine aw_cVr (g := 1) (As := [iV (row), iV (seats), iV 1]) (rest := []) (c_X2_greatestIn hst m1 (row) (seats) (1) (by have h1 := hw.1; have h2 := hw.2.1; have h3 := hw.2.2 row v_row.1 v_row.2; omega) (by have h1 := hw.1; have h2 := hw.2.1; have h3 := hw.2.2 row v_row.1 v_row.2; omega) (by have h1 := hw.1; have h2 := hw.2.1; have h3 := hw.2.2 row v_row.1 v_row.2; omega) (by exact hw1) (by rw [b1]; exact v_row) (by have h1 := hw.1; have h2 := hw.2.1; have h3 := hw.2.2 row v_row.1 v_row.2; omega)) cv_X2_greatestIn dX1_readBlocks_33 ml_X1_68 rfl rfl rfl rfl rfl (Nat.le_of_ble_eq_true rfl) (by decide) rfl rfl (by decide) (fun z33 (h33 : isBest (cB (m1 2 0) (m1 6) seats (1 ≠ 0) row) (vBR (m1 3 0) (m1 2 0) seats row) z33) => ?_)
        have hb := isBest_al (Q := True) (by decide) h33; rw [a2, a3, a6] at hb; have hz : z33 = bM M seats row := (bFst_eq hb).symm; have hok : okM M row seats := (long_ok (by omega) h10 hb).mpr (by omega); have hz0 : 0 ≤ z33 := (by rw [hz]; exact hok); have hc : z33 + seats ≤ M 2 0 row := (by rcases isBest_in hb with q | q; omega; exact q.2.1)
        refine aw_istore_n (L2 := [some (rV K 16 0), some (iV (row)), some (iV (seats)), some (iV (z33))]) dX1_readBlocks_36 rfl (by decide) rfl ?_
        refine aw_aload_n dX1_readBlocks_37 rfl rfl ?_
        refine aw_getr (g := 16) rfl rfl ly_X1 rfl (k := 2) dX1_readBlocks_38 (by decide) fl_X1_21 rfl ?_
        refine aw_iload_n dX1_readBlocks_41 rfl rfl ?_
        refine aw_aald (g := 18) (n := 12) rfl (by decide) rfl dX1_readBlocks_42 (by show 0 ≤ row ∧ row < (12 : Int); have h1 := hw.1; have h2 := hw.2.1; have h3 := hw.2.2 row v_row.1 v_row.2; omega) ?_
        refine aw_iload_n dX1_readBlocks_43 rfl rfl ?_
        refine aw_iload_n dX1_readBlocks_44 rfl rfl ?_
        refine aw_iast (g := 19) (n := 21) (M' := updM m1 19 row seats z33) rfl (by decide) dX1_readBlocks_45 (by show 0 ≤ row ∧ row < (12 : Int); have h1 := hw.1; have h2 := hw.2.1; have h3 := hw.2.2 row v_row.1 v_row.2; omega) (by show 0 ≤ seats ∧ seats < (21 : Int); have h1 := hw.1; have h2 := hw.2.1; have h3 := hw.2.2 row v_row.1 v_row.2; omega) (by have h1 := hw.1; have h2 := hw.2.1; have h3 := hw.2.2 row v_row.1 v_row.2; omega) rfl ?_
        refine aw_aload_n dX1_readBlocks_46 rfl rfl ?_
        refine aw_getr (g := 16) rfl rfl ly_X1 rfl (k := 3) dX1_readBlocks_47 (by decide) fl_X1_24 rfl ?_
        refine aw_iload_n dX1_readBlocks_50 rfl rfl ?_
        refine aw_aald (g := 20) (n := 12) rfl (by decide) rfl dX1_readBlocks_51 (by show 0 ≤ row ∧ row < (12 : Int); have h1 := hw.1; have h2 := hw.2.1; have h3 := hw.2.2 row v_row.1 v_row.2; omega) ?_
        refine aw_iload_n dX1_readBlocks_52 rfl rfl ?_
        refine aw_aload_n dX1_readBlocks_53 rfl rfl ?_
        refine aw_getr (g := 16) rfl rfl ly_X1 rfl (k := 0) dX1_readBlocks_54 (by decide) fl_X1_9 rfl ?_
        refine aw_iload_n dX1_readBlocks_57 rfl rfl ?_
        refine aw_iload_n dX1_readBlocks_58 rfl rfl ?_
        refine aw_iload_n dX1_readBlocks_59 rfl rfl ?_
        refine aw_cVi (g := 1) (As := [iV (row), iV (z33), iV (seats)]) (rest := [iV (seats), rV K 21 (row)]) (c_X2_blockValue hst (updM m1 19 row seats z33) (row) (z33) (seats) (by omega) (by have h1 := hw.1; have h2 := hw.2.1; have h3 := hw.2.2 row v_row.1 v_row.2; omega) (by have h1 := hw.1; have h2 := hw.2.1; have h3 := hw.2.2 row v_row.1 v_row.2; omega) (by exact HW_g hw1 (updM_g (by decide)) (updM_g (by decide)) (updM_g (by decide)) (updM_g (by decide))) (by have c1 : updM m1 19 row seats z33 1 0 4 = M 1 0 4 := (by rw [updM_g (by decide), a1]); omega) (by have c2 : updM m1 19 row seats z33 2 0 row = M 2 0 row := (by rw [updM_g (by decide), a2]); omega)) cv_X2_blockValue dX1_readBlocks_60 ml_X1_72 rfl rfl rfl rfl rfl (Nat.le_of_ble_eq_true rfl) (by decide) rfl rfl (by decide) ?_
        have hv : vB (updM m1 19 row seats z33 3 0 row) (updM m1 19 row seats z33 2 0 row) z33 seats = VM M row seats := (by rw [updM_g (by decide), updM_g (by decide), a2, a3, hz]; rfl); have hvb := VM_bd hw row seats v_row.1 v_row.2 e1.1 hok
        refine aw_iast (g := 21) (n := 21) (M' := updM ((updM m1 19 row seats z33)) 21 row seats (vB ((updM m1 19 row seats z33) 3 0 row) ((updM m1 19 row seats z33) 2 0 row) z33 seats)) rfl (by decide) dX1_readBlocks_63 (by show 0 ≤ row ∧ row < (12 : Int); have h1 := hw.1; have h2 := hw.2.1; have h3 := hw.2.2 row v_row.1 v_row.2; omega) (by show 0 ≤ seats ∧ seats < (21 : Int); have h1 := hw.1; have h2 := hw.2.1; have h3 := hw.2.2 row v_row.1 v_row.2; omega) (by rw [hv]; omega) rfl ?_
        refine aw_iinc (L2 := [some (rV K 16 0), some (iV (row)), some (iV (seats + 1)), some (iV (z33))]) dX1_readBlocks_64 rfl (by decide) rfl ?_
        refine aw_goto (tgt := 16) dX1_readBlocks_67 (by decide) ?_
        refine aw_weak (L' := [some (rV K 16 0), some (iV (row)), some (iV (seats + 1)), none]) ⟨Or.inr rfl, Or.inr rfl, Or.inr rfl, Or.inl rfl, trivial⟩ ?_
        exact ih16 (seats + 1) (updM ((updM m1 19 row seats z33)) 21 row seats (vB ((updM m1 19 row seats z33) 3 0 row) ((updM m1 19 row seats z33) 2 0 row) z33 seats)) (by have h1 := hw.1; have h2 := hw.2.1; have h3 := hw.2.2 row v_row.1 v_row.2; omega) (by exact RB_s e2 hz hv) (by have h1 := hw.1; have h2 := hw.2.1; have h3 := hw.2.2 row v_row.1 v_row.2; omega)
  exact lp16 ((((22 : Int) - 2).toNat) + 1) (2) (updM M 17 0 row z10) (by omega) (by exact RB_0) (Nat.lt_succ_self _)
set_option maxHeartbeats 4000000 in
set_option maxRecDepth 20000 in
theorem c_X1_decide {K : WPar} {l : Launch} (hst : l.stackTraces = false) (M : Mem) (row : Int) (lef : Int) (r_row : inR row) (r_lef : inR lef) (hw : HW M) (v_row : 0 ≤ row ∧ row < M 1 0 4) (v_l : 0 ≤ lef ∧ lef ≤ 100) (v_ro : rowOK M M row) (v_fg : ∀ p : Int, 0 ≤ p → p ≤ lef → FGat M M (row + 1) p) : CT K l iX1_decide [rV K 16 0, iV (row), iV (lef)] M (rMm (fun m => ∃ f g : Int, isFG (fun b v => cM M row b lef v) f g ∧ m = updM (updM M 23 row lef f) 25 row lef g)) := by
  refine aw_met [some (rV K 16 0), some (iV (row)), some (iV (lef)), none, none, none, none, none, none, none] hst (by decide) rfl (Nat.le_of_ble_eq_true rfl) rfl rfl (lcat rfl) ?_
  refine aw_rng (fun hM => ?_)
  refine aw_aload_n dX1_decide_0 rfl rfl ?_
  refine aw_getr (g := 16) rfl rfl ly_X1 rfl (k := 4) dX1_decide_1 (by decide) fl_X1_27 rfl ?_
  refine aw_iload_n dX1_decide_4 rfl rfl ?_
  refine aw_iconst dX1_decide_5 ?_
  refine aw_iadd dX1_decide_6 ?_
  refine aw_aald (g := 22) (n := 13) rfl (by decide) rfl dX1_decide_7 (by show 0 ≤ (row + 1) ∧ (row + 1) < (13 : Int); have n1 := hw.1; have n2 := hw.2.1; have n3 := v_ro.1; have n4 := v_ro.2.1; omega) ?_
  refine aw_iload_n dX1_decide_8 rfl rfl ?_
  refine aw_iald (g := 23) (n := 101) rfl (by decide) dX1_decide_9 (by show 0 ≤ (row + 1) ∧ (row + 1) < (13 : Int); have n1 := hw.1; have n2 := hw.2.1; have n3 := v_ro.1; have n4 := v_ro.2.1; omega) (by show 0 ≤ lef ∧ lef < (101 : Int); have n1 := hw.1; have n2 := hw.2.1; have n3 := v_ro.1; have n4 := v_ro.2.1; omega) (fun r9 => ?_)
  refine aw_istore_n (L2 := [some (rV K 16 0), some (iV (row)), some (iV (lef)), some (iV (M 23 (row + 1) lef)), none, none, none, none, none, none]) dX1_decide_10 rfl (by decide) rfl ?_
  refine aw_aload_n dX1_decide_11 rfl rfl ?_
  refine aw_getr (g := 16) rfl rfl ly_X1 rfl (k := 5) dX1_decide_12 (by decide) fl_X1_30 rfl ?_
  refine aw_iload_n dX1_decide_15 rfl rfl ?_
  refine aw_iconst dX1_decide_16 ?_
  refine aw_iadd dX1_decide_17 ?_
  refine aw_aald (g := 24) (n := 13) rfl (by decide) rfl dX1_decide_18 (by show 0 ≤ (row + 1) ∧ (row + 1) < (13 : Int); have n1 := hw.1; have n2 := hw.2.1; have n3 := v_ro.1; have n4 := v_ro.2.1; omega) ?_
  refine aw_iload_n dX1_decide_19 rfl rfl ?_
  refine aw_iald (g := 25) (n := 101) rfl (by decide) dX1_decide_20 (by show 0 ≤ (row + 1) ∧ (row + 1) < (13 : Int); have n1 := hw.1; have n2 := hw.2.1; have n3 := v_ro.1; have n4 := v_ro.2.1; omega) (by show 0 ≤ lef ∧ lef < (101 : Int); have n1 := hw.1; have n2 := hw.2.1; have n3 := v_ro.1; have n4 := v_ro.2.1; omega) (fun r20 => ?_)
  refine aw_istore (L2 := [some (rV K 16 0), some (iV (row)), some (iV (lef)), some (iV (M 23 (row + 1) lef)), some (iV (M 25 (row + 1) lef)), none, none, none, none, none]) dX1_decide_21 (by decide) rfl ?_
  refine aw_iload_n dX1_decide_23 rfl rfl ?_
  refine aw_aload_n dX1_decide_24 rfl rfl ?_
  refine aw_getr (g := 16) rfl rfl ly_X1 rfl (k := 1) dX1_decide_25 (by decide) fl_X1_15 rfl ?_
  refine aw_iload_n dX1_decide_28 rfl rfl ?_
  refine aw_iald (g := 17) (n := 12) rfl (by decide) dX1_decide_29 (by decide) (by show 0 ≤ row ∧ row < (12 : Int); have n1 := hw.1; have n2 := hw.2.1; have n3 := v_ro.1; have n4 := v_ro.2.1; omega) (fun r29 => ?_)
  refine aw_mmin (by have n1 := hw.1; have n2 := hw.2.1; have n3 := v_ro.1; have n4 := v_ro.2.1; omega) (by have n1 := hw.1; have n2 := hw.2.1; have n3 := v_ro.1; have n4 := v_ro.2.1; omega) dX1_decide_30 ml_X1_76 (by decide) (Nat.le_of_ble_eq_true rfl) (by decide) (by decide) ?_
  refine aw_istore (L2 := [some (rV K 16 0), some (iV (row)), some (iV (lef)), some (iV (M 23 (row + 1) lef)), some (iV (M 25 (row + 1) lef)), some (iV (min lef (M 17 0 row))), none, none, none, none]) dX1_decide_33 (by decide) rfl ?_
  refine aw_iconst dX1_decide_35 ?_
  refine aw_istore (L2 := [some (rV K 16 0), some (iV (row)), some (iV (lef)), some (iV (M 23 (row + 1) lef)), some (iV (M 25 (row + 1) lef)), some (iV (min lef (M 17 0 row))), some (iV 2), none, none, none]) dX1_decide_36 (by decide) rfl ?_
  have lp38 : ∀ (n38 : Nat) (fw gr seats : Int), (2 ≤ seats ∧ seats ≤ 22) → (isFG (rowS (M 1 0 4) (okM M) (VM M) row lef seats) fw gr) → (0 ≤ fw ∧ fw ≤ 13 ∧ inR gr) → (((23 : Int) - seats).toNat) < n38 → AW K l iX1_decide (ZM K iX1_decide (rMm (fun m => ∃ f g : Int, isFG (fun b v => cM M row b lef v) f g ∧ m = updM (updM M 23 row lef f) 25 row lef g))) 38 [some (rV K 16 0), some (iV (row)), some (iV (lef)), some (iV (fw)), some (iV (gr)), some (iV (min lef (M 17 0 row))), some (iV (seats)), none, none, none] [] (M) 0 0 := by
    intro n38
    induction n38 with
    | zero =>
      intro fw gr seats e1 e2 e3 hm38
      exact absurd hm38 (Nat.not_lt_zero _)
    | succ n38 ih38 =>
      intro fw gr seats e1 e2 e3 hm38
      refine aw_iload dX1_decide_38 rfl ?_
      refine aw_iload dX1_decide_40 rfl ?_
      refine aw_icmp_gt (tgt := 130) dX1_decide_42 (by decide) (by have n1 := hw.1; have n2 := hw.2.1; have n3 := v_ro.1; have n4 := v_ro.2.1; omega) (by have n1 := hw.1; have n2 := hw.2.1; have n3 := v_ro.1; have n4 := v_ro.2.1; omega) (fun h42 => ?_) (fun h42 => ?_)
      · refine aw_aload_n dX1_decide_130 rfl rfl ?_
        refine aw_getr (g := 16) rfl rfl ly_X1 rfl (k := 4) dX1_decide_131 (by decide) fl_X1_27 rfl ?_
        refine aw_iload_n dX1_decide_134 rfl rfl ?_
        refine aw_aald (g := 22) (n := 13) rfl (by decide) rfl dX1_decide_135 (by show 0 ≤ row ∧ row < (13 : Int); have n1 := hw.1; have n2 := hw.2.1; have n3 := v_ro.1; have n4 := v_ro.2.1; omega) ?_
        refine aw_iload_n dX1_decide_136 rfl rfl ?_
        refine aw_iload_n dX1_decide_137 rfl rfl ?_
        refine aw_iast (g := 23) (n := 101) (M' := updM M 23 row lef fw) rfl (by decide) dX1_decide_138 (by show 0 ≤ row ∧ row < (13 : Int); have n1 := hw.1; have n2 := hw.2.1; have n3 := v_ro.1; have n4 := v_ro.2.1; omega) (by show 0 ≤ lef ∧ lef < (101 : Int); have n1 := hw.1; have n2 := hw.2.1; have n3 := v_ro.1; have n4 := v_ro.2.1; omega) (by have n1 := hw.1; have n2 := hw.2.1; have n3 := v_ro.1; have n4 := v_ro.2.1; omega) rfl ?_
        refine aw_aload_n dX1_decide_139 rfl rfl ?_
        refine aw_getr (g := 16) rfl rfl ly_X1 rfl (k := 5) dX1_decide_140 (by decide) fl_X1_30 rfl ?_
        refine aw_iload_n dX1_decide_143 rfl rfl ?_
        refine aw_aald (g := 24) (n := 13) rfl (by decide) rfl dX1_decide_144 (by show 0 ≤ row ∧ row < (13 : Int); have n1 := hw.1; have n2 := hw.2.1; have n3 := v_ro.1; have n4 := v_ro.2.1; omega) ?_
        refine aw_iload_n dX1_decide_145 rfl rfl ?_
        refine aw_iload dX1_decide_146 rfl ?_
        refine aw_iast (g := 25) (n := 101) (M' := updM (updM M 23 row lef fw) 25 row lef gr) rfl (by decide) dX1_decide_148 (by show 0 ≤ row ∧ row < (13 : Int); have n1 := hw.1; have n2 := hw.2.1; have n3 := v_ro.1; have n4 := v_ro.2.1; omega) (by show 0 ≤ lef ∧ lef < (101 : Int); have n1 := hw.1; have n2 := hw.2.1; have n3 := v_ro.1; have n4 := v_ro.2.1; omega) (by have n1 := hw.1; have n2 := hw.2.1; have n3 := v_ro.1; have n4 := v_ro.2.1; omega) rfl ?_
        exact aw_vret dX1_decide_149 rfl (by decide) (by decide) ⟨rfl, (by refine ⟨fw, gr, rowS_all (VM_bd hw) v_row.1 v_row.2 hw.2.1 (s := seats) (fun x x1 x2 x3 => by have := ((v_ro.2.2 x x1).1).mp x2; omega) e2, rfl⟩)⟩
      · have n4 := v_ro.2.1; have hok : okM M row seats := ((v_ro.2.2 seats e1.1).1).mpr (by omega); have hv : M 21 row seats = VM M row seats := ((v_ro.2.2 seats e1.1).2 (by omega)).1; have hf2 := v_fg (lef - seats) (by omega) (by omega); have hbd := FG_bd hw (by omega) (by omega) hf2; have hvb := VM_bd hw row seats v_row.1 v_row.2 e1.1 hok; rw [← hv] at hvb
        refine aw_aload_n dX1_decide_45 rfl rfl ?_
        refine aw_getr (g := 16) rfl rfl ly_X1 rfl (k := 4) dX1_decide_46 (by decide) fl_X1_27 rfl ?_
        refine aw_iload_n dX1_decide_49 rfl rfl ?_
        refine aw_iconst dX1_decide_50 ?_
        refine aw_iadd dX1_decide_51 ?_
        refine aw_aald (g := 22) (n := 13) rfl (by decide) rfl dX1_decide_52 (by show 0 ≤ (row + 1) ∧ (row + 1) < (13 : Int); have n1 := hw.1; have n2 := hw.2.1; have n3 := v_ro.1; have n4 := v_ro.2.1; omega) ?_
        refine aw_iload_n dX1_decide_53 rfl rfl ?_
        refine aw_iload dX1_decide_54 rfl ?_
        refine aw_isub dX1_decide_56 ?_
        refine aw_iald (g := 23) (n := 101) rfl (by decide) dX1_decide_57 (by show 0 ≤ (row + 1) ∧ (row + 1) < (13 : Int); have n1 := hw.1; have n2 := hw.2.1; have n3 := v_ro.1; have n4 := v_ro.2.1; omega) (by show 0 ≤ (lef - seats) ∧ (lef - seats) < (101 : Int); have n1 := hw.1; have n2 := hw.2.1; have n3 := v_ro.1; have n4 := v_ro.2.1; omega) (fun r57 => ?_)
        refine aw_istore (L2 := [some (rV K 16 0), some (iV (row)), some (iV (lef)), some (iV (fw)), some (iV (gr)), some (iV (min lef (M 17 0 row))), some (iV (seats)), some (iV (M 23 (row + 1) (lef - seats))), none, none]) dX1_decide_58 (by decide) rfl ?_
        refine aw_iload dX1_decide_60 rfl ?_
        refine aw_bipush dX1_decide_62 rfl ?_
        refine aw_icmp_ge (tgt := 124) dX1_decide_64 (by decide) (by have n1 := hw.1; have n2 := hw.2.1; have n3 := v_ro.1; have n4 := v_ro.2.1; omega) (by have n1 := hw.1; have n2 := hw.2.1; have n3 := v_ro.1; have n4 := v_ro.2.1; omega) (fun h64 => ?_) (fun h64 => ?_)
        · refine aw_iinc (L2 := [some (rV K 16 0), some (iV (row)), some (iV (lef)), some (iV (fw)), some (iV (gr)), some (iV (min lef (M 17 0 row))), some (iV (seats + 1)), some (iV (M 23 (row + 1) (lef - seats))), none, none]) dX1_decide_124 rfl (by decide) rfl ?_
          refine aw_goto (tgt := 38) dX1_decide_127 (by decide) ?_
          refine aw_weak (L' := [some (rV K 16 0), some (iV (row)), some (iV (lef)), some (iV (fw)), some (iV (gr)), some (iV (min lef (M 17 0 row))), some (iV (seats + 1)), none, none, none]) ⟨Or.inr rfl, Or.inr rfl, Or.inr rfl, Or.inr rfl, Or.inr rfl, Or.inr rfl, Or.inr rfl, Or.inl rfl, Or.inr rfl, Or.inr rfl, trivial⟩ ?_
          exact ih38 (fw) (gr) (seats + 1) (by have n4 := v_ro.2.1; omega) (by first | exact rowS_s e1.1 hok (isFG_no (w := VM M row seats) e2 hf2 h64) | exact rowS_s e1.1 hok (hv ▸ isFG_take e2 hf2 hf12 (Or.inl h101)) | exact rowS_s e1.1 hok (isFG_keep (w := VM M row seats) e2 hf2 hf12 (by rw [← hv]; omega)) | exact rowS_s e1.1 hok (hv ▸ isFG_take e2 hf2 hf12 (Or.inr (by omega)))) (by first | exact e3 | (have n1 := hw.2.1; omega)) (by omega)
        · have n2 := hw.2.1; have hf12 : M 23 (row + 1) (lef - seats) < 12 := (by omega)
          refine aw_iload dX1_decide_67 rfl ?_
          refine aw_iconst dX1_decide_69 ?_
          refine aw_iadd dX1_decide_70 ?_
          refine aw_istore (L2 := [some (rV K 16 0), some (iV (row)), some (iV (lef)), some (iV (fw)), some (iV (gr)), some (iV (min lef (M 17 0 row))), some (iV (seats)), some (iV (M 23 (row + 1) (lef - seats))), some (iV ((M 23 (row + 1) (lef - seats)) + 1)), none]) dX1_decide_71 (by decide) rfl ?_
          refine aw_aload_n dX1_decide_73 rfl rfl ?_
          refine aw_getr (g := 16) rfl rfl ly_X1 rfl (k := 5) dX1_decide_74 (by decide) fl_X1_30 rfl ?_
          refine aw_iload_n dX1_decide_77 rfl rfl ?_
          refine aw_iconst dX1_decide_78 ?_
          refine aw_iadd dX1_decide_79 ?_
          refine aw_aald (g := 24) (n := 13) rfl (by decide) rfl dX1_decide_80 (by show 0 ≤ (row + 1) ∧ (row + 1) < (13 : Int); have n1 := hw.1; have n2 := hw.2.1; have n3 := v_ro.1; have n4 := v_ro.2.1; omega) ?_
          refine aw_iload_n dX1_decide_81 rfl rfl ?_
          refine aw_iload dX1_decide_82 rfl ?_
          refine aw_isub dX1_decide_84 ?_
          refine aw_iald (g := 25) (n := 101) rfl (by decide) dX1_decide_85 (by show 0 ≤ (row + 1) ∧ (row + 1) < (13 : Int); have n1 := hw.1; have n2 := hw.2.1; have n3 := v_ro.1; have n4 := v_ro.2.1; omega) (by show 0 ≤ (lef - seats) ∧ (lef - seats) < (101 : Int); have n1 := hw.1; have n2 := hw.2.1; have n3 := v_ro.1; have n4 := v_ro.2.1; omega) (fun r85 => ?_)
          refine aw_aload_n dX1_decide_86 rfl rfl ?_
          refine aw_getr (g := 16) rfl rfl ly_X1 rfl (k := 3) dX1_decide_87 (by decide) fl_X1_24 rfl ?_
          refine aw_iload_n dX1_decide_90 rfl rfl ?_
          refine aw_aald (g := 20) (n := 12) rfl (by decide) rfl dX1_decide_91 (by show 0 ≤ row ∧ row < (12 : Int); have n1 := hw.1; have n2 := hw.2.1; have n3 := v_ro.1; have n4 := v_ro.2.1; omega) ?_
          refine aw_iload dX1_decide_92 rfl ?_
          refine aw_iald (g := 21) (n := 21) rfl (by decide) dX1_decide_94 (by show 0 ≤ row ∧ row < (12 : Int); have n1 := hw.1; have n2 := hw.2.1; have n3 := v_ro.1; have n4 := v_ro.2.1; omega) (by show 0 ≤ seats ∧ seats < (21 : Int); have n1 := hw.1; have n2 := hw.2.1; have n3 := v_ro.1; have n4 := v_ro.2.1; omega) (fun r94 => ?_)
          refine aw_iadd dX1_decide_95 ?_
          refine aw_istore (L2 := [some (rV K 16 0), some (iV (row)), some (iV (lef)), some (iV (fw)), some (iV (gr)), some (iV (min lef (M 17 0 row))), some (iV (seats)), some (iV (M 23 (row + 1) (lef - seats))), some (iV ((M 23 (row + 1) (lef - seats)) + 1)), some (iV ((M 25 (row + 1) (lef - seats)) + (M 21 row seats)))]) dX1_decide_96 (by decide) rfl ?_
          refine aw_iload dX1_decide_98 rfl ?_
          refine aw_iload_n dX1_decide_100 rfl rfl ?_
          refine aw_icmp_lt (tgt := 117) dX1_decide_101 (by decide) (by have n1 := hw.1; have n2 := hw.2.1; have n3 := v_ro.1; have n4 := v_ro.2.1; omega) (by have n1 := hw.1; have n2 := hw.2.1; have n3 := v_ro.1; have n4 := v_ro.2.1; omega) (fun h101 => ?_) (fun h101 => ?_)
          · refine aw_iload dX1_decide_117 rfl ?_
            refine aw_istore_n (L2 := [some (rV K 16 0), some (iV (row)), some (iV (lef)), some (iV ((M 23 (row + 1) (lef - seats)) + 1)), some (iV (gr)), some (iV (min lef (M 17 0 row))), some (iV (seats)), some (iV (M 23 (row + 1) (lef - seats))), some (iV ((M 23 (row + 1) (lef - seats)) + 1)), some (iV ((M 25 (row + 1) (lef - seats)) + (M 21 row seats)))]) dX1_decide_119 rfl (by decide) rfl ?_
            refine aw_iload dX1_decide_120 rfl ?_
            refine aw_istore (L2 := [some (rV K 16 0), some (iV (row)), some (iV (lef)), some (iV ((M 23 (row + 1) (lef - seats)) + 1)), some (iV ((M 25 (row + 1) (lef - seats)) + (M 21 row seats))), some (iV (min lef (M 17 0 row))), some (iV (seats)), some (iV (M 23 (row + 1) (lef - seats))), some (iV ((M 23 (row + 1) (lef - seats)) + 1)), some (iV ((M 25 (row + 1) (lef - seats)) + (M 21 row seats)))]) dX1_decide_122 (by decide) rfl ?_
            refine aw_iinc (L2 := [some (rV K 16 0), some (iV (row)), some (iV (lef)), some (iV ((M 23 (row + 1) (lef - seats)) + 1)), some (iV ((M 25 (row + 1) (lef - seats)) + (M 21 row seats))), some (iV (min lef (M 17 0 row))), some (iV (seats + 1)), some (iV (M 23 (row + 1) (lef - seats))), some (iV ((M 23 (row + 1) (lef - seats)) + 1)), some (iV ((M 25 (row + 1) (lef - seats)) + (M 21 row seats)))]) dX1_decide_124 rfl (by decide) rfl ?_
            refine aw_goto (tgt := 38) dX1_decide_127 (by decide) ?_
            refine aw_weak (L' := [some (rV K 16 0), some (iV (row)), some (iV (lef)), some (iV ((M 23 (row + 1) (lef - seats)) + 1)), some (iV ((M 25 (row + 1) (lef - seats)) + (M 21 row seats))), some (iV (min lef (M 17 0 row))), some (iV (seats + 1)), none, none, none]) ⟨Or.inr rfl, Or.inr rfl, Or.inr rfl, Or.inr rfl, Or.inr rfl, Or.inr rfl, Or.inr rfl, Or.inl rfl, Or.inl rfl, Or.inl rfl, trivial⟩ ?_
            exact ih38 ((M 23 (row + 1) (lef - seats)) + 1) ((M 25 (row + 1) (lef - seats)) + (M 21 row seats)) (seats + 1) (by have n4 := v_ro.2.1; omega) (by first | exact rowS_s e1.1 hok (isFG_no (w := VM M row seats) e2 hf2 h64) | exact rowS_s e1.1 hok (hv ▸ isFG_take e2 hf2 hf12 (Or.inl h101)) | exact rowS_s e1.1 hok (isFG_keep (w := VM M row seats) e2 hf2 hf12 (by rw [← hv]; omega)) | exact rowS_s e1.1 hok (hv ▸ isFG_take e2 hf2 hf12 (Or.inr (by omega)))) (by first | exact e3 | (have n1 := hw.2.1; omega)) (by omega)
          · refine aw_iload dX1_decide_104 rfl ?_
            refine aw_iload_n dX1_decide_106 rfl rfl ?_
            refine aw_icmp_ne (tgt := 124) dX1_decide_107 (by decide) (by have n1 := hw.1; have n2 := hw.2.1; have n3 := v_ro.1; have n4 := v_ro.2.1; omega) (by have n1 := hw.1; have n2 := hw.2.1; have n3 := v_ro.1; have n4 := v_ro.2.1; omega) (fun h107 => ?_) (fun h107 => ?_)
            · refine aw_iinc (L2 := [some (rV K 16 0), some (iV (row)), some (iV (lef)), some (iV (fw)), some (iV (gr)), some (iV (min lef (M 17 0 row))), some (iV (seats + 1)), some (iV (M 23 (row + 1) (lef - seats))), some (iV ((M 23 (row + 1) (lef - seats)) + 1)), some (iV ((M 25 (row + 1) (lef - seats)) + (M 21 row seats)))]) dX1_decide_124 rfl (by decide) rfl ?_
              refine aw_goto (tgt := 38) dX1_decide_127 (by decide) ?_
              refine aw_weak (L' := [some (rV K 16 0), some (iV (row)), some (iV (lef)), some (iV (fw)), some (iV (gr)), some (iV (min lef (M 17 0 row))), some (iV (seats + 1)), none, none, none]) ⟨Or.inr rfl, Or.inr rfl, Or.inr rfl, Or.inr rfl, Or.inr rfl, Or.inr rfl, Or.inr rfl, Or.inl rfl, Or.inl rfl, Or.inl rfl, trivial⟩ ?_
              exact ih38 (fw) (gr) (seats + 1) (by have n4 := v_ro.2.1; omega) (by first | exact rowS_s e1.1 hok (isFG_no (w := VM M row seats) e2 hf2 h64) | exact rowS_s e1.1 hok (hv ▸ isFG_take e2 hf2 hf12 (Or.inl h101)) | exact rowS_s e1.1 hok (isFG_keep (w := VM M row seats) e2 hf2 hf12 (by rw [← hv]; omega)) | exact rowS_s e1.1 hok (hv ▸ isFG_take e2 hf2 hf12 (Or.inr (by omega)))) (by first | exact e3 | (have n1 := hw.2.1; omega)) (by omega)
            · refine aw_iload dX1_decide_110 rfl ?_
              refine aw_iload dX1_decide_112 rfl ?_
              refine aw_icmp_le (tgt := 124) dX1_decide_114 (by decide) (by have n1 := hw.1; have n2 := hw.2.1; have n3 := v_ro.1; have n4 := v_ro.2.1; omega) (by have n1 := hw.1; have n2 := hw.2.1; have n3 := v_ro.1; have n4 := v_ro.2.1; omega) (fun h114 => ?_) (fun h114 => ?_)
              · refine aw_iinc (L2 := [some (rV K 16 0), some (iV (row)), some (iV (lef)), some (iV (fw)), some (iV (gr)), some (iV (min lef (M 17 0 row))), some (iV (seats + 1)), some (iV (M 23 (row + 1) (lef - seats))), some (iV ((M 23 (row + 1) (lef - seats)) + 1)), some (iV ((M 25 (row + 1) (lef - seats)) + (M 21 row seats)))]) dX1_decide_124 rfl (by decide) rfl ?_
                refine aw_goto (tgt := 38) dX1_decide_127 (by decide) ?_
                refine aw_weak (L' := [some (rV K 16 0), some (iV (row)), some (iV (lef)), some (iV (fw)), some (iV (gr)), some (iV (min lef (M 17 0 row))), some (iV (seats + 1)), none, none, none]) ⟨Or.inr rfl, Or.inr rfl, Or.inr rfl, Or.inr rfl, Or.inr rfl, Or.inr rfl, Or.inr rfl, Or.inl rfl, Or.inl rfl, Or.inl rfl, trivial⟩ ?_
                exact ih38 (fw) (gr) (seats + 1) (by have n4 := v_ro.2.1; omega) (by first | exact rowS_s e1.1 hok (isFG_no (w := VM M row seats) e2 hf2 h64) | exact rowS_s e1.1 hok (hv ▸ isFG_take e2 hf2 hf12 (Or.inl h101)) | exact rowS_s e1.1 hok (isFG_keep (w := VM M row seats) e2 hf2 hf12 (by rw [← hv]; omega)) | exact rowS_s e1.1 hok (hv ▸ isFG_take e2 hf2 hf12 (Or.inr (by omega)))) (by first | exact e3 | (have n1 := hw.2.1; omega)) (by omega)
              · refine aw_iload dX1_decide_117 rfl ?_
                refine aw_istore_n (L2 := [some (rV K 16 0), some (iV (row)), some (iV (lef)), some (iV ((M 23 (row + 1) (lef - seats)) + 1)), some (iV (gr)), some (iV (min lef (M 17 0 row))), some (iV (seats)), some (iV (M 23 (row + 1) (lef - seats))), some (iV ((M 23 (row + 1) (lef - seats)) + 1)), some (iV ((M 25 (row + 1) (lef - seats)) + (M 21 row seats)))]) dX1_decide_119 rfl (by decide) rfl ?_
                refine aw_iload dX1_decide_120 rfl ?_
                refine aw_istore (L2 := [some (rV K 16 0), some (iV (row)), some (iV (lef)), some (iV ((M 23 (row + 1) (lef - seats)) + 1)), some (iV ((M 25 (row + 1) (lef - seats)) + (M 21 row seats))), some (iV (min lef (M 17 0 row))), some (iV (seats)), some (iV (M 23 (row + 1) (lef - seats))), some (iV ((M 23 (row + 1) (lef - seats)) + 1)), some (iV ((M 25 (row + 1) (lef - seats)) + (M 21 row seats)))]) dX1_decide_122 (by decide) rfl ?_
                refine aw_iinc (L2 := [some (rV K 16 0), some (iV (row)), some (iV (lef)), some (iV ((M 23 (row + 1) (lef - seats)) + 1)), some (iV ((M 25 (row + 1) (lef - seats)) + (M 21 row seats))), some (iV (min lef (M 17 0 row))), some (iV (seats + 1)), some (iV (M 23 (row + 1) (lef - seats))), some (iV ((M 23 (row + 1) (lef - seats)) + 1)), some (iV ((M 25 (row + 1) (lef - seats)) + (M 21 row seats)))]) dX1_decide_124 rfl (by decide) rfl ?_
                refine aw_goto (tgt := 38) dX1_decide_127 (by decide) ?_
                refine aw_weak (L' := [some (rV K 16 0), some (iV (row)), some (iV (lef)), some (iV ((M 23 (row + 1) (lef - seats)) + 1)), some (iV ((M 25 (row + 1) (lef - seats)) + (M 21 row seats))), some (iV (min lef (M 17 0 row))), some (iV (seats + 1)), none, none, none]) ⟨Or.inr rfl, Or.inr rfl, Or.inr rfl, Or.inr rfl, Or.inr rfl, Or.inr rfl, Or.inr rfl, Or.inl rfl, Or.inl rfl, Or.inl rfl, trivial⟩ ?_
                exact ih38 ((M 23 (row + 1) (lef - seats)) + 1) ((M 25 (row + 1) (lef - seats)) + (M 21 row seats)) (seats + 1) (by have n4 := v_ro.2.1; omega) (by first | exact rowS_s e1.1 hok (isFG_no (w := VM M row seats) e2 hf2 h64) | exact rowS_s e1.1 hok (hv ▸ isFG_take e2 hf2 hf12 (Or.inl h101)) | exact rowS_s e1.1 hok (isFG_keep (w := VM M row seats) e2 hf2 hf12 (by rw [← hv]; omega)) | exact rowS_s e1.1 hok (hv ▸ isFG_take e2 hf2 hf12 (Or.inr (by omega)))) (by first | exact e3 | (have n1 := hw.2.1; omega)) (by omega)
  exact lp38 ((((23 : Int) - 2).toNat) + 1) (M 23 (row + 1) lef) (M 25 (row + 1) lef) (2) (by omega) (by exact rowS_0 (v_fg lef v_l.1 (Int.le_refl _))) (by have q := FG_bd hw (by omega) (by omega) (v_fg lef v_l.1 (Int.le_refl _)); have n1 := hw.2.1; omega) (Nat.lt_succ_self _)
set_option maxHeartbeats 4000000 in
set_option maxRecDepth 20000 in
theorem c_X1_keepsBest {K : WPar} {l : Launch} (hst : l.stackTraces = false) (M : Mem) (row : Int) (lef : Int) (seats : Int) (r_row : inR row) (r_lef : inR lef) (r_seats : inR seats) (hw : HW M) (v_row : 0 ≤ row ∧ row < M 1 0 4) (v_l : 0 ≤ lef ∧ lef ≤ 100) (v_k : 2 ≤ seats ∧ seats ≤ lef ∧ seats ≤ 20) (v_f : M 23 (row + 1) (lef - seats) ≤ 13 ∧ 0 ≤ M 23 (row + 1) (lef - seats)) (v_i : M 23 (row + 1) (lef - seats) + 1 = M 23 row lef → inR (M 25 (row + 1) (lef - seats) + M 21 row seats)) : CT K l iX1_keepsBest [rV K 16 0, iV (row), iV (lef), iV (seats)] M (rB (M 23 (row + 1) (lef - seats) + 1 = M 23 row lef ∧ M 25 (row + 1) (lef - seats) + M 21 row seats = M 25 row lef) (M)) := by
  refine aw_met [some (rV K 16 0), some (iV (row)), some (iV (lef)), some (iV (seats))] hst (by decide) rfl (Nat.le_of_ble_eq_true rfl) rfl rfl (lcat rfl) ?_
  refine aw_rng (fun hM => ?_)
  refine aw_aload_n dX1_keepsBest_0 rfl rfl ?_
  refine aw_getr (g := 16) rfl rfl ly_X1 rfl (k := 4) dX1_keepsBest_1 (by decide) fl_X1_27 rfl ?_
  refine aw_iload_n dX1_keepsBest_4 rfl rfl ?_
  refine aw_iconst dX1_keepsBest_5 ?_
  refine aw_iadd dX1_keepsBest_6 ?_
  refine aw_aald (g := 22) (n := 13) rfl (by decide) rfl dX1_keepsBest_7 (by show 0 ≤ (row + 1) ∧ (row + 1) < (13 : Int); have n1 := hw.1; have n2 := hw.2.1; omega) ?_
  refine aw_iload_n dX1_keepsBest_8 rfl rfl ?_
  refine aw_iload_n dX1_keepsBest_9 rfl rfl ?_
  refine aw_isub dX1_keepsBest_10 ?_
  refine aw_iald (g := 23) (n := 101) rfl (by decide) dX1_keepsBest_11 (by show 0 ≤ (row + 1) ∧ (row + 1) < (13 : Int); have n1 := hw.1; have n2 := hw.2.1; omega) (by show 0 ≤ (lef - seats) ∧ (lef - seats) < (101 : Int); have n1 := hw.1; have n2 := hw.2.1; omega) (fun r11 => ?_)
  refine aw_iconst dX1_keepsBest_12 ?_
  refine aw_iadd dX1_keepsBest_13 ?_
  refine aw_aload_n dX1_keepsBest_14 rfl rfl ?_
  refine aw_getr (g := 16) rfl rfl ly_X1 rfl (k := 4) dX1_keepsBest_15 (by decide) fl_X1_27 rfl ?_
  refine aw_iload_n dX1_keepsBest_18 rfl rfl ?_
  refine aw_aald (g := 22) (n := 13) rfl (by decide) rfl dX1_keepsBest_19 (by show 0 ≤ row ∧ row < (13 : Int); have n1 := hw.1; have n2 := hw.2.1; omega) ?_
  refine aw_iload_n dX1_keepsBest_20 rfl rfl ?_
  refine aw_iald (g := 23) (n := 101) rfl (by decide) dX1_keepsBest_21 (by show 0 ≤ row ∧ row < (13 : Int); have n1 := hw.1; have n2 := hw.2.1; omega) (by show 0 ≤ lef ∧ lef < (101 : Int); have n1 := hw.1; have n2 := hw.2.1; omega) (fun r21 => ?_)
  refine aw_icmp_ne (tgt := 61) dX1_keepsBest_22 (by decide) (by have n1 := hw.1; have n2 := hw.2.1; omega) (by have n1 := hw.1; have n2 := hw.2.1; omega) (fun h22 => ?_) (fun h22 => ?_)
  · refine aw_iconst dX1_keepsBest_61 ?_
    exact aw_iret dX1_keepsBest_62 rfl rfl (by decide) (by decide) ⟨Or.inr ⟨rfl, by have n1 := hw.1; have n2 := hw.2.1; omega⟩, (by rfl)⟩
  · refine aw_aload_n dX1_keepsBest_25 rfl rfl ?_
    refine aw_getr (g := 16) rfl rfl ly_X1 rfl (k := 5) dX1_keepsBest_26 (by decide) fl_X1_30 rfl ?_
    refine aw_iload_n dX1_keepsBest_29 rfl rfl ?_
    refine aw_iconst dX1_keepsBest_30 ?_
    refine aw_iadd dX1_keepsBest_31 ?_
    refine aw_aald (g := 24) (n := 13) rfl (by decide) rfl dX1_keepsBest_32 (by show 0 ≤ (row + 1) ∧ (row + 1) < (13 : Int); have n1 := hw.1; have n2 := hw.2.1; omega) ?_
    refine aw_iload_n dX1_keepsBest_33 rfl rfl ?_
    refine aw_iload_n dX1_keepsBest_34 rfl rfl ?_
    refine aw_isub dX1_keepsBest_35 ?_
    refine aw_iald (g := 25) (n := 101) rfl (by decide) dX1_keepsBest_36 (by show 0 ≤ (row + 1) ∧ (row + 1) < (13 : Int); have n1 := hw.1; have n2 := hw.2.1; omega) (by show 0 ≤ (lef - seats) ∧ (lef - seats) < (101 : Int); have n1 := hw.1; have n2 := hw.2.1; omega) (fun r36 => ?_)
    refine aw_aload_n dX1_keepsBest_37 rfl rfl ?_
    refine aw_getr (g := 16) rfl rfl ly_X1 rfl (k := 3) dX1_keepsBest_38 (by decide) fl_X1_24 rfl ?_
    refine aw_iload_n dX1_keepsBest_41 rfl rfl ?_
    refine aw_aald (g := 20) (n := 12) rfl (by decide) rfl dX1_keepsBest_42 (by show 0 ≤ row ∧ row < (12 : Int); have n1 := hw.1; have n2 := hw.2.1; omega) ?_
    refine aw_iload_n dX1_keepsBest_43 rfl rfl ?_
    refine aw_iald (g := 21) (n := 21) rfl (by decide) dX1_keepsBest_44 (by show 0 ≤ row ∧ row < (12 : Int); have n1 := hw.1; have n2 := hw.2.1; omega) (by show 0 ≤ seats ∧ seats < (21 : Int); have n1 := hw.1; have n2 := hw.2.1; omega) (fun r44 => ?_)
    refine aw_iadd dX1_keepsBest_45 ?_
    refine aw_aload_n dX1_keepsBest_46 rfl rfl ?_
    refine aw_getr (g := 16) rfl rfl ly_X1 rfl (k := 5) dX1_keepsBest_47 (by decide) fl_X1_30 rfl ?_
    refine aw_iload_n dX1_keepsBest_50 rfl rfl ?_
    refine aw_aald (g := 24) (n := 13) rfl (by decide) rfl dX1_keepsBest_51 (by show 0 ≤ row ∧ row < (13 : Int); have n1 := hw.1; have n2 := hw.2.1; omega) ?_
    refine aw_iload_n dX1_keepsBest_52 rfl rfl ?_
    refine aw_iald (g := 25) (n := 101) rfl (by decide) dX1_keepsBest_53 (by show 0 ≤ row ∧ row < (13 : Int); have n1 := hw.1; have n2 := hw.2.1; omega) (by show 0 ≤ lef ∧ lef < (101 : Int); have n1 := hw.1; have n2 := hw.2.1; omega) (fun r53 => ?_)
    refine aw_icmp_ne (tgt := 61) dX1_keepsBest_54 (by decide) (by exact v_i h22) (by have n1 := hw.1; have n2 := hw.2.1; omega) (fun h54 => ?_) (fun h54 => ?_)
    · refine aw_iconst dX1_keepsBest_61 ?_
      exact aw_iret dX1_keepsBest_62 rfl rfl (by decide) (by decide) ⟨Or.inr ⟨rfl, by have n1 := hw.1; have n2 := hw.2.1; omega⟩, (by rfl)⟩
    · refine aw_iconst dX1_keepsBest_57 ?_
      refine aw_goto (tgt := 62) dX1_keepsBest_58 (by decide) ?_
      exact aw_iret dX1_keepsBest_62 rfl rfl (by decide) (by decide) ⟨Or.inl ⟨rfl, by have n1 := hw.1; have n2 := hw.2.1; omega⟩, (by rfl)⟩
set_option maxHeartbeats 4000000 in
set_option maxRecDepth 20000 in
theorem c_X1_mostSeats {K : WPar} {l : Launch} (hst : l.stackTraces = false) (M : Mem) (row : Int) (lef : Int) (r_row : inR row) (r_lef : inR lef) (hw : HW M) (v_row : 0 ≤ row ∧ row < M 1 0 4) (v_l : 0 ≤ lef ∧ lef ≤ 100) (v_ro : rowOK M M row) (v_fg : ∀ r p : Int, row ≤ r → r ≤ row + 1 → 0 ≤ p → p ≤ lef → FGat M M r p) (v_fn : M 23 row lef ≠ 13) : CT K l iX1_mostSeats [rV K 16 0, iV (row), iV (lef)] M (rR (fun z => mostR M row lef z) (M)) := by
  refine aw_met [some (rV K 16 0), some (iV (row)), some (iV (lef)), none] hst (by decide) rfl (Nat.le_of_ble_eq_true rfl) rfl rfl (lcat rfl) ?_
  refine aw_rng (fun hM => ?_)
  refine aw_iload_n dX1_mostSeats_0 rfl rfl ?_
  refine aw_aload_n dX1_mostSeats_1 rfl rfl ?_
  refine aw_getr (g := 16) rfl rfl ly_X1 rfl (k := 1) dX1_mostSeats_2 (by decide) fl_X1_15 rfl ?_
  refine aw_iload_n dX1_mostSeats_5 rfl rfl ?_
  refine aw_iald (g := 17) (n := 12) rfl (by decide) dX1_mostSeats_6 (by decide) (by show 0 ≤ row ∧ row < (12 : Int); have n1 := hw.1; have n2 := hw.2.1; have n3 := v_ro.1; have n4 := v_ro.2.1; omega) (fun r6 => ?_)
  refine aw_mmin (by have n1 := hw.1; have n2 := hw.2.1; have n3 := v_ro.1; have n4 := v_ro.2.1; omega) (by have n1 := hw.1; have n2 := hw.2.1; have n3 := v_ro.1; have n4 := v_ro.2.1; omega) dX1_mostSeats_7 ml_X1_76 (by decide) (Nat.le_of_ble_eq_true rfl) (by decide) (by decide) ?_
  refine aw_istore_n (L2 := [some (rV K 16 0), some (iV (row)), some (iV (lef)), some (iV (min lef (M 17 0 row)))]) dX1_mostSeats_10 rfl (by decide) rfl ?_
  have lp11 : ∀ (n11 : Nat) (seats : Int), (seats ≤ M 17 0 row ∧ seats ≤ lef ∧ 0 ≤ seats) → (∀ s : Int, 2 ≤ s → wk M M row lef s → s ≤ seats) → (seats.toNat) < n11 → AW K l iX1_mostSeats (ZM K iX1_mostSeats (rR (fun z => mostR M row lef z) (M))) 11 [some (rV K 16 0), some (iV (row)), some (iV (lef)), some (iV (seats))] [] (M) 0 0 := by
    intro n11
    induction n11 with
    | zero =>
      intro seats e1 e2 hm11
      exact absurd hm11 (Nat.not_lt_zero _)
    | succ n11 ih11 =>
      intro seats e1 e2 hm11
      refine aw_iload_n dX1_mostSeats_11 rfl rfl ?_
      refine aw_iconst dX1_mostSeats_12 ?_
      refine aw_icmp_lt (tgt := 34) dX1_mostSeats_13 (by decide) (by have n1 := hw.1; have n2 := hw.2.1; have n3 := v_ro.1; have n4 := v_ro.2.1; omega) (by have n1 := hw.1; have n2 := hw.2.1; have n3 := v_ro.1; have n4 := v_ro.2.1; omega) (fun h13 => ?_) (fun h13 => ?_)
      · refine aw_iconst dX1_mostSeats_34 ?_
        exact aw_iret dX1_mostSeats_35 rfl rfl (by decide) (by decide) ⟨0, rfl, (by exact Or.inl ⟨rfl, fun s s1 s2 => by have := e2 s s1 s2; omega⟩), (by rfl)⟩
      · have n4 := v_ro.2.1; have hf2 := v_fg (row + 1) (lef - seats) (by omega) (by omega) (by omega) (by omega); have hbd := FG_bd hw (by omega) (by omega) hf2; have hwk := wk_iff v_row.2 (v_fg row lef (by omega) (by omega) v_l.1 (by omega)) v_fn hf2 v_ro (show 2 ≤ seats by omega) e1.1; have hvb : M 23 (row + 1) (lef - seats) ≠ 13 → -400 ≤ M 21 row seats ∧ M 21 row seats ≤ 20000 := fun _ => (by have q := (v_ro.2.2 seats (by omega)); rw [(q.2 e1.1).1]; exact VM_bd hw row seats v_row.1 v_row.2 (by omega) (q.1.mpr e1.1))
        refine aw_aload_n dX1_mostSeats_16 rfl rfl ?_
        refine aw_iload_n dX1_mostSeats_17 rfl rfl ?_
        refine aw_iload_n dX1_mostSeats_18 rfl rfl ?_
        refine aw_iload_n dX1_mostSeats_19 rfl rfl ?_
        refine aw_cVb (g := 16) (As := [iV (row), iV (lef), iV (seats)]) (rest := []) (c_X1_keepsBest hst M (row) (lef) (seats) (by have n1 := hw.1; have n2 := hw.2.1; have n3 := v_ro.1; have n4 := v_ro.2.1; omega) (by have n1 := hw.1; have n2 := hw.2.1; have n3 := v_ro.1; have n4 := v_ro.2.1; omega) (by have n1 := hw.1; have n2 := hw.2.1; have n3 := v_ro.1; have n4 := v_ro.2.1; omega) (by have n1 := hw.1; have n2 := hw.2.1; have n3 := v_ro.1; have n4 := v_ro.2.1; omega) (by have n1 := hw.1; have n2 := hw.2.1; have n3 := v_ro.1; have n4 := v_ro.2.1; omega) (by have n1 := hw.1; have n2 := hw.2.1; have n3 := v_ro.1; have n4 := v_ro.2.1; omega) (by have n1 := hw.1; have n2 := hw.2.1; have n3 := v_ro.1; have n4 := v_ro.2.1; omega) (by have n1 := hw.1; have n2 := hw.2.1; have n3 := v_ro.1; have n4 := v_ro.2.1; omega) (by intro q; have hbd2 := FG_bd hw v_row.1 (by omega) (v_fg row lef (by omega) (by omega) v_l.1 (by omega)); have n2 := hw.2.1; have hv2 := hvb (by omega); omega)) cv_X1_keepsBest dX1_mostSeats_20 ml_X1_85 rfl rfl rfl rfl rfl (Nat.le_of_ble_eq_true rfl) (by decide) rfl rfl (by decide) (fun h20 => ?_) (fun h20 => ?_)
        · refine aw_if_eq (tgt := 28) dX1_mostSeats_23 (by decide) (by decide) (fun h => absurd h (by decide)) (fun _ => ?_)
          refine aw_iload_n dX1_mostSeats_26 rfl rfl ?_
          exact aw_iret dX1_mostSeats_27 rfl rfl (by decide) (by decide) ⟨seats, rfl, (by exact Or.inr ⟨by omega, e1.1, e1.2.1, hwk.mpr h20, e2⟩), (by rfl)⟩
        · refine aw_if_eq (tgt := 28) dX1_mostSeats_23 (by decide) (by decide) (fun _ => ?_) (fun h => absurd (by decide) h)
          refine aw_iinc (L2 := [some (rV K 16 0), some (iV (row)), some (iV (lef)), some (iV (seats + (-1)))]) dX1_mostSeats_28 rfl (by decide) rfl ?_
          refine aw_goto (tgt := 11) dX1_mostSeats_31 (by decide) ?_
          exact ih11 (seats + (-1)) (by have n1 := hw.1; have n2 := hw.2.1; have n3 := v_ro.1; have n4 := v_ro.2.1; omega) (by intro s s1 s2; have q := e2 s s1 s2; by_cases e : s = seats; (subst e; exact absurd (hwk.mp s2) h20); omega) (by omega)
  exact lp11 (((min lef (M 17 0 row)).toNat) + 1) (min lef (M 17 0 row)) (by have n1 := hw.1; have n2 := hw.2.1; have n3 := v_ro.1; have n4 := v_ro.2.1; omega) (by intro s s1 s2; have := wk_le hw v_row.1 v_row.2 v_ro s1 s2; omega) (Nat.lt_succ_self _)
set_option maxHeartbeats 4000000 in
set_option maxRecDepth 20000 in
theorem c_X1_takeFromRows {K : WPar} {l : Launch} (hst : l.stackTraces = false) (M : Mem) (people : Int) (r_people : inR people) (hw : HW M) (v_p : 2 ≤ people ∧ people ≤ 100) (v_sp : SPr M M people 0) (v_fn : M 23 0 people ≠ 13) : CT K l iX1_takeFromRows [rV K 16 0, iV (people)] M (rMm (fun m => (∀ g : Nat, g ≠ 26 → m g = M g) ∧ TKM M 0 people (M 23 0 people) (M 25 0 people) (m 26 0) ∧ ∀ r : Int, 0 ≤ r → r < M 1 0 4 → 0 ≤ m 26 0 r ∧ m 26 0 r ≤ 20)) := by
  refine aw_met [some (rV K 16 0), some (iV (people)), none, none] hst (by decide) rfl (Nat.le_of_ble_eq_true rfl) rfl rfl (lcat rfl) ?_
  refine aw_rng (fun hM => ?_)
  refine aw_iload_n dX1_takeFromRows_0 rfl rfl ?_
  refine aw_istore_n (L2 := [some (rV K 16 0), some (iV (people)), some (iV (people)), none]) dX1_takeFromRows_1 rfl (by decide) rfl ?_
  refine aw_iconst dX1_takeFromRows_2 ?_
  refine aw_istore_n (L2 := [some (rV K 16 0), some (iV (people)), some (iV (people)), some (iV 0)]) dX1_takeFromRows_3 rfl (by decide) rfl ?_
  have lp4 : ∀ (n4 : Nat) (lef row : Int) (m1 : Mem), (0 ≤ row ∧ row ≤ M 1 0 4) → (0 ≤ lef ∧ lef ≤ people) → (∀ g : Nat, g ≠ 26 → m1 g = M g) → (M 23 row lef ≠ 13 ∧ ∀ tk : Int → Int, (∀ r : Int, 0 ≤ r → r < row → tk r = m1 26 0 r) → TKM M row lef (M 23 row lef) (M 25 row lef) tk → TKM M 0 people (M 23 0 people) (M 25 0 people) tk) → (∀ r : Int, 0 ≤ r → r < row → 0 ≤ m1 26 0 r ∧ m1 26 0 r ≤ 20) → ((M 1 0 4 - row).toNat) < n4 → AW K l iX1_takeFromRows (ZM K iX1_takeFromRows (rMm (fun m => (∀ g : Nat, g ≠ 26 → m g = M g) ∧ TKM M 0 people (M 23 0 people) (M 25 0 people) (m 26 0) ∧ ∀ r : Int, 0 ≤ r → r < M 1 0 4 → 0 ≤ m 26 0 r ∧ m 26 0 r ≤ 20))) 4 [some (rV K 16 0), some (iV (people)), some (iV (lef)), some (iV (row))] [] (m1) 0 0 := by
    intro n4
    induction n4 with
    | zero =>
      intro lef row m1 e1 e2 e3 e4 e5 hm4
      exact absurd hm4 (Nat.not_lt_zero _)
    | succ n4 ih4 =>
      intro lef row m1 e1 e2 e3 e4 e5 hm4
      have a1 : m1 1 = M 1 := e3 1 (by decide); have hw1 : HW m1 := HW_g hw a1 (e3 2 (by decide)) (e3 3 (by decide)) (e3 4 (by decide)); have b1 : m1 1 0 4 = M 1 0 4 := (by rw [a1]); have hsf : SF M m1 := fun g hg => e3 g (by omega); have b23 : m1 23 = M 23 := e3 23 (by decide); have b25 : m1 25 = M 25 := e3 25 (by decide); have hsfo := hsf; have b17 : m1 17 = M 17 := e3 17 (by decide); have b19 : m1 19 = M 19 := e3 19 (by decide); have b21 : m1 21 = M 21 := e3 21 (by decide)
      refine aw_iload_n dX1_takeFromRows_4 rfl rfl ?_
      refine aw_aload_n dX1_takeFromRows_5 rfl rfl ?_
      refine aw_getr (g := 16) rfl rfl ly_X1 rfl (k := 0) dX1_takeFromRows_6 (by decide) fl_X1_9 rfl ?_
      refine aw_cVi (g := 1) (As := []) (rest := [iV (row)]) (c_X2_rowCount hst m1) cv_X2_rowCount dX1_takeFromRows_9 ml_X1_50 rfl rfl rfl rfl rfl (Nat.le_of_ble_eq_true rfl) (by decide) rfl rfl (by decide) ?_
      refine aw_icmp_ge (tgt := 42) dX1_takeFromRows_12 (by decide) (by have n1 := hw.1; have n2 := hw.2.1; omega) (by have n1 := hw.1; have n2 := hw.2.1; omega) (fun h12 => ?_) (fun h12 => ?_)
      · exact aw_vret dX1_takeFromRows_42 rfl (by decide) (by decide) ⟨rfl, (by have q : row = M 1 0 4 := (by omega); refine ⟨e3, e4.2 (m1 26 0) (fun _ _ _ => rfl) (q ▸ TKI_n), fun r r1 r2 => e5 r r1 (by omega)⟩)⟩
      · refine aw_aload_n dX1_takeFromRows_15 rfl rfl ?_
        refine aw_getr (g := 16) rfl rfl ly_X1 rfl (k := 6) dX1_takeFromRows_16 (by decide) fl_X1_33 rfl ?_
        refine aw_iload_n dX1_takeFromRows_19 rfl rfl ?_
        refine aw_aload_n dX1_takeFromRows_20 rfl rfl ?_
        refine aw_iload_n dX1_takeFromRows_21 rfl rfl ?_
        refine aw_iload_n dX1_takeFromRows_22 rfl rfl ?_
        refine aw_cVr (g := 16) (As := [iV (row), iV (lef)]) (rest := [iV (row), rV K 26 0]) (c_X1_mostSeats hst m1 (row) (lef) (by have n1 := hw.1; have n2 := hw.2.1; omega) (by have n1 := hw.1; have n2 := hw.2.1; omega) (by exact hw1) (by omega) (by have n1 := hw.1; have n2 := hw.2.1; omega) (by exact (rowOK_sf hsf).mpr (rowOK_cg (by rw [b17]) (by rw [b19]) (by rw [b21]) (v_sp.1 row e1.1 (by omega)))) (by intro r p r1 r2 p1 p2; exact (FGat_sf hsf).mpr (FGat_cg (by rw [b23]) (by rw [b25]) (v_sp.2 r p (by omega) (by omega) p1 (by omega)))) (by rw [b23]; exact e4.1)) cv_X1_mostSeats dX1_takeFromRows_23 ml_X1_82 rfl rfl rfl rfl rfl (Nat.le_of_ble_eq_true rfl) (by decide) rfl rfl (by decide) (fun z23 (h23 : mostR m1 row lef z23) => ?_)
        have hz : mostR M row lef z23 := mostR_cg e3 h23; have hz2 : 0 ≤ z23 ∧ z23 ≤ lef ∧ z23 ≤ 20 := (by have q := (v_sp.1 row e1.1 (by omega)).2.1; rcases hz with a | a; omega; omega)
        refine aw_iast (g := 26) (n := 12) (M' := updM m1 26 0 row z23) rfl (by decide) dX1_takeFromRows_26 (by decide) (by show 0 ≤ row ∧ row < (12 : Int); have n1 := hw.1; have n2 := hw.2.1; omega) (by have n1 := hw.1; have n2 := hw.2.1; omega) rfl ?_
        refine aw_iload_n dX1_takeFromRows_27 rfl rfl ?_
        refine aw_aload_n dX1_takeFromRows_28 rfl rfl ?_
        refine aw_getr (g := 16) rfl rfl ly_X1 rfl (k := 6) dX1_takeFromRows_29 (by decide) fl_X1_33 rfl ?_
        refine aw_iload_n dX1_takeFromRows_32 rfl rfl ?_
        refine aw_iald (g := 26) (n := 12) rfl (by decide) dX1_takeFromRows_33 (by decide) (by show 0 ≤ row ∧ row < (12 : Int); have n1 := hw.1; have n2 := hw.2.1; omega) (fun r33 => ?_)
        refine aw_st (st' := [iV (z23), iV (lef)]) (by rw [show ((updM m1 26 0 row z23) 26 0 row : Int) = z23 from by exact updM_same]) ?_
        refine aw_isub dX1_takeFromRows_34 ?_
        refine aw_istore_n (L2 := [some (rV K 16 0), some (iV (people)), some (iV (lef - z23)), some (iV (row))]) dX1_takeFromRows_35 rfl (by decide) rfl ?_
        refine aw_iinc (L2 := [some (rV K 16 0), some (iV (people)), some (iV (lef - z23)), some (iV (row + 1))]) dX1_takeFromRows_36 rfl (by decide) rfl ?_
        refine aw_goto (tgt := 4) dX1_takeFromRows_39 (by decide) ?_
        exact ih4 (lef - z23) (row + 1) (updM m1 26 0 row z23) (by omega) (by have n1 := hw.1; have n2 := hw.2.1; omega) (by intro g hg; rw [updM_g hg]; exact e3 g hg) (by exact TKstep hw e1.1 (by omega) v_sp e2.1 e2.2 e4 hz) (by intro r r1 r2; by_cases e : r = row; (subst e; rw [updM_same]; omega); rw [updM_j e]; exact e5 r r1 (by omega)) (by omega)
  exact lp4 (((M 1 0 4 - 0).toNat) + 1) (people) (0) (M) (by exact ⟨Int.le_refl 0, hw.1⟩) (by have n1 := hw.1; have n2 := hw.2.1; omega) (by exact fun _ _ => rfl) (by exact ⟨v_fn, fun _ _ h => h⟩) (by intro r r1 r2; omega) (Nat.lt_succ_self _)
