set_option maxHeartbeats 4000000 in
set_option maxRecDepth 20000 in
theorem c_X5_thrown {K : WPar} {l : Launch} (hst : l.stackTraces = false) (M : Mem) : CT K l iX5_thrown [rV K 30 0] M (rI (M 30 0 0) (M)) := by
  refine aw_met [some (rV K 30 0)] hst (by decide) rfl (Nat.le_of_ble_eq_true rfl) rfl rfl (lcat rfl) ?_
  refine aw_rng (fun hM => ?_)
  refine aw_aload_n dX5_thrown_0 rfl rfl ?_
  refine aw_geti (g := 30) rfl rfl ly_X5 rfl (k := 0) 0 rfl dX5_thrown_1 (by decide) fl_X5_52 rfl (fun r1 => ?_)
  exact aw_iret dX5_thrown_4 rfl rfl (by decide) (by decide) ⟨congrArg (fun z => Sum.inl (some z)) (by first | rfl | omega), (by rfl)⟩
set_option maxHeartbeats 4000000 in
set_option maxRecDepth 20000 in
theorem c_X5_holds {K : WPar} {l : Launch} (hst : l.stackTraces = false) (M : Mem) (place : Int) (r_place : inR place) : CT K l iX5_holds [rV K 30 0, iV (place)] M (rI (if place = 0 then 1 else 0) (thr M place)) := by
  refine aw_met [some (rV K 30 0), some (iV (place))] hst (by decide) rfl (Nat.le_of_ble_eq_true rfl) rfl rfl (lcat rfl) ?_
  refine aw_rng (fun hM => ?_)
  refine aw_aload_n dX5_holds_0 rfl rfl ?_
  refine aw_iload_n dX5_holds_1 rfl rfl ?_
  refine aw_puti (g := 30) tyX5 tyX5_ok nmX5 rfl rfl ly_X5 rfl (k := 0) 0 rfl (M' := updM M 30 0 0 place) dX5_holds_2 (by decide) fl_X5_52 rfl rfl (by decide +kernel) (by omega) rfl ?_
  refine aw_iload_n dX5_holds_5 rfl rfl ?_
  refine aw_if_ne (tgt := 13) dX5_holds_6 (by decide) (by omega) (fun h6 => ?_) (fun h6 => ?_)
  · refine aw_iconst dX5_holds_13 ?_
    exact aw_iret dX5_holds_14 rfl rfl (by decide) (by decide) ⟨congrArg (fun z => Sum.inl (some z)) (by first | rfl | omega), (by rfl)⟩
  · refine aw_iconst dX5_holds_9 ?_
    refine aw_goto (tgt := 14) dX5_holds_10 (by decide) ?_
    exact aw_iret dX5_holds_14 rfl rfl (by decide) (by decide) ⟨congrArg (fun z => Sum.inl (some z)) (by first | rfl | omega), (by rfl)⟩
set_option maxHeartbeats 4000000 in
set_option maxRecDepth 20000 in
theorem c_X5_in {K : WPar} {l : Launch} (hst : l.stackTraces = false) (M : Mem) (v : Int) (least : Int) (most : Int) (r_v : inR v) (r_least : inR least) (r_most : inR most) : CT K l iX5_in [iV (v), iV (least), iV (most)] M (rB (least ≤ v ∧ v ≤ most) (M)) := by
  refine aw_met [some (iV (v)), some (iV (least)), some (iV (most))] hst (by decide) rfl (Nat.le_of_ble_eq_true rfl) rfl rfl (lcat rfl) ?_
  refine aw_rng (fun hM => ?_)
  refine aw_iload_n dX5_in_0 rfl rfl ?_
  refine aw_iload_n dX5_in_1 rfl rfl ?_
  refine aw_icmp_lt (tgt := 14) dX5_in_2 (by decide) (by omega) (by omega) (fun h2 => ?_) (fun h2 => ?_)
  · refine aw_iconst dX5_in_14 ?_
    exact aw_iret dX5_in_15 rfl rfl (by decide) (by decide) ⟨Or.inr ⟨rfl, by omega⟩, (by rfl)⟩
  · refine aw_iload_n dX5_in_5 rfl rfl ?_
    refine aw_iload_n dX5_in_6 rfl rfl ?_
    refine aw_icmp_gt (tgt := 14) dX5_in_7 (by decide) (by omega) (by omega) (fun h7 => ?_) (fun h7 => ?_)
    · refine aw_iconst dX5_in_14 ?_
      exact aw_iret dX5_in_15 rfl rfl (by decide) (by decide) ⟨Or.inr ⟨rfl, by omega⟩, (by rfl)⟩
    · refine aw_iconst dX5_in_10 ?_
      refine aw_goto (tgt := 15) dX5_in_11 (by decide) ?_
      exact aw_iret dX5_in_15 rfl rfl (by decide) (by decide) ⟨Or.inl ⟨rfl, by omega⟩, (by rfl)⟩
set_option maxHeartbeats 4000000 in
set_option maxRecDepth 20000 in
theorem c_X5_isRow {K : WPar} {l : Launch} (hst : l.stackTraces = false) (M : Mem) (row : Int) (r_row : inR row) (hw : HWm M) : CT K l iX5_isRow [rV K 30 0, iV (row)] M (rB (0 ≤ row ∧ row < M 30 0 3) (M)) := by
  refine aw_met [some (rV K 30 0), some (iV (row))] hst (by decide) rfl (Nat.le_of_ble_eq_true rfl) rfl rfl (lcat rfl) ?_
  refine aw_rng (fun hM => ?_)
  refine aw_iload_n dX5_isRow_0 rfl rfl ?_
  refine aw_iconst dX5_isRow_1 ?_
  refine aw_aload_n dX5_isRow_2 rfl rfl ?_
  refine aw_geti (g := 30) rfl rfl ly_X5 rfl (k := 3) 3 rfl dX5_isRow_3 (by decide) fl_X5_60 rfl (fun r3 => ?_)
  refine aw_iconst dX5_isRow_6 ?_
  refine aw_isub dX5_isRow_7 ?_
  refine aw_cSb (As := [iV (row), iV 0, iV ((M 30 0 3) - 1)]) (rest := []) (c_X5_in hst M (row) (0) ((M 30 0 3) - 1) (by have n1 := hw.1; have n2 := hw.2.1; omega) (by have n1 := hw.1; have n2 := hw.2.1; omega) (by have n1 := hw.1; have n2 := hw.2.1; omega)) cs_X5_in dX5_isRow_8 ml_X5_56 rfl rfl (Nat.le_of_ble_eq_true rfl) (by decide) rfl rfl (by decide) (fun h8 => ?_) (fun h8 => ?_)
  · exact aw_iret dX5_isRow_11 rfl rfl (by decide) (by decide) ⟨Or.inl ⟨rfl, by have n1 := hw.1; have n2 := hw.2.1; omega⟩, (by rfl)⟩
  · exact aw_iret dX5_isRow_11 rfl rfl (by decide) (by decide) ⟨Or.inr ⟨rfl, by have n1 := hw.1; have n2 := hw.2.1; omega⟩, (by rfl)⟩
set_option maxHeartbeats 4000000 in
set_option maxRecDepth 20000 in
theorem c_X5_isSeat {K : WPar} {l : Launch} (hst : l.stackTraces = false) (M : Mem) (row : Int) (seat : Int) (r_row : inR row) (r_seat : inR seat) (hw : HWm M) : CT K l iX5_isSeat [rV K 30 0, iV (row), iV (seat)] M (rB (0 ≤ row ∧ row < M 30 0 3 ∧ 0 ≤ seat ∧ seat < M 31 0 row) (M)) := by
  refine aw_met [some (rV K 30 0), some (iV (row)), some (iV (seat))] hst (by decide) rfl (Nat.le_of_ble_eq_true rfl) rfl rfl (lcat rfl) ?_
  refine aw_rng (fun hM => ?_)
  refine aw_aload_n dX5_isSeat_0 rfl rfl ?_
  refine aw_iload_n dX5_isSeat_1 rfl rfl ?_
  refine aw_cVb (g := 30) (As := [iV (row)]) (rest := []) (c_X5_isRow hst M (row) (by have n1 := hw.1; have n2 := hw.2.1; omega) (by have n1 := hw.1; have n2 := hw.2.1; omega)) cv_X5_isRow dX5_isSeat_2 ml_X5_67 rfl rfl rfl rfl rfl (Nat.le_of_ble_eq_true rfl) (by decide) rfl rfl (by decide) (fun h2 => ?_) (fun h2 => ?_)
  · refine aw_if_eq (tgt := 28) dX5_isSeat_5 (by decide) (by decide) (fun h => absurd h (by decide)) (fun _ => ?_)
    refine aw_iload_n dX5_isSeat_8 rfl rfl ?_
    refine aw_iconst dX5_isSeat_9 ?_
    refine aw_aload_n dX5_isSeat_10 rfl rfl ?_
    refine aw_getr (g := 30) rfl rfl ly_X5 rfl (k := 4) dX5_isSeat_11 (by decide) fl_X5_7 rfl ?_
    refine aw_iload_n dX5_isSeat_14 rfl rfl ?_
    refine aw_iald (g := 31) (n := 12) rfl (by decide) dX5_isSeat_15 (by decide) (by show 0 ≤ row ∧ row < (12 : Int); have n1 := hw.1; have n2 := hw.2.1; have n3 := hw.2.2 row (by omega) (by omega); omega) (fun r15 => ?_)
    refine aw_iconst dX5_isSeat_16 ?_
    refine aw_isub dX5_isSeat_17 ?_
    refine aw_cSb (As := [iV (seat), iV 0, iV ((M 31 0 row) - 1)]) (rest := []) (c_X5_in hst M (seat) (0) ((M 31 0 row) - 1) (by have n1 := hw.1; have n2 := hw.2.1; have n3 := hw.2.2 row (by omega) (by omega); omega) (by have n1 := hw.1; have n2 := hw.2.1; have n3 := hw.2.2 row (by omega) (by omega); omega) (by have n1 := hw.1; have n2 := hw.2.1; have n3 := hw.2.2 row (by omega) (by omega); omega)) cs_X5_in dX5_isSeat_18 ml_X5_56 rfl rfl (Nat.le_of_ble_eq_true rfl) (by decide) rfl rfl (by decide) (fun h18 => ?_) (fun h18 => ?_)
    · refine aw_if_eq (tgt := 28) dX5_isSeat_21 (by decide) (by decide) (fun h => absurd h (by decide)) (fun _ => ?_)
      refine aw_iconst dX5_isSeat_24 ?_
      refine aw_goto (tgt := 29) dX5_isSeat_25 (by decide) ?_
      exact aw_iret dX5_isSeat_29 rfl rfl (by decide) (by decide) ⟨Or.inl ⟨rfl, by first | omega | (have n1 := hw.1; have n2 := hw.2.1; have n3 := hw.2.2 row (by omega) (by omega); omega)⟩, (by rfl)⟩
    · refine aw_if_eq (tgt := 28) dX5_isSeat_21 (by decide) (by decide) (fun _ => ?_) (fun h => absurd (by decide) h)
      refine aw_iconst dX5_isSeat_28 ?_
      exact aw_iret dX5_isSeat_29 rfl rfl (by decide) (by decide) ⟨Or.inr ⟨rfl, by first | omega | (have n1 := hw.1; have n2 := hw.2.1; have n3 := hw.2.2 row (by omega) (by omega); omega)⟩, (by rfl)⟩
  · refine aw_if_eq (tgt := 28) dX5_isSeat_5 (by decide) (by decide) (fun _ => ?_) (fun h => absurd (by decide) h)
    refine aw_iconst dX5_isSeat_28 ?_
    exact aw_iret dX5_isSeat_29 rfl rfl (by decide) (by decide) ⟨Or.inr ⟨rfl, by first | omega | (have n1 := hw.1; have n2 := hw.2.1; have n3 := hw.2.2 row (by omega) (by omega); omega)⟩, (by rfl)⟩
set_option maxHeartbeats 4000000 in
set_option maxRecDepth 20000 in
theorem c_X5_isFree {K : WPar} {l : Launch} (hst : l.stackTraces = false) (M : Mem) (row : Int) (seat : Int) (r_row : inR row) (r_seat : inR seat) (hw : HWm M) : CT K l iX5_isFree [rV K 30 0, iV (row), iV (seat)] M (rB (0 ≤ row ∧ row < M 30 0 3 ∧ fr (M 31 0 row) (oMd M row) seat) (M)) := by
  refine aw_met [some (rV K 30 0), some (iV (row)), some (iV (seat))] hst (by decide) rfl (Nat.le_of_ble_eq_true rfl) rfl rfl (lcat rfl) ?_
  refine aw_rng (fun hM => ?_)
  refine aw_aload_n dX5_isFree_0 rfl rfl ?_
  refine aw_iload_n dX5_isFree_1 rfl rfl ?_
  refine aw_iload_n dX5_isFree_2 rfl rfl ?_
  refine aw_cVb (g := 30) (As := [iV (row), iV (seat)]) (rest := []) (c_X5_isSeat hst M (row) (seat) (by have n1 := hw.1; have n2 := hw.2.1; omega) (by have n1 := hw.1; have n2 := hw.2.1; omega) (by have n1 := hw.1; have n2 := hw.2.1; omega)) cv_X5_isSeat dX5_isFree_3 ml_X5_70 rfl rfl rfl rfl rfl (Nat.le_of_ble_eq_true rfl) (by decide) rfl rfl (by decide) (fun h3 => ?_) (fun h3 => ?_)
  · refine aw_if_eq (tgt := 27) dX5_isFree_6 (by decide) (by decide) (fun h => absurd h (by decide)) (fun _ => ?_)
    refine aw_aload_n dX5_isFree_9 rfl rfl ?_
    refine aw_getr (g := 30) rfl rfl ly_X5 rfl (k := 7) dX5_isFree_10 (by decide) fl_X5_19 rfl ?_
    refine aw_bipush dX5_isFree_13 rfl ?_
    refine aw_iload_n dX5_isFree_15 rfl rfl ?_
    refine aw_imul dX5_isFree_16 ?_
    refine aw_iload_n dX5_isFree_17 rfl rfl ?_
    refine aw_iadd dX5_isFree_18 ?_
    refine aw_iald (g := 34) (n := 240) rfl (by decide) dX5_isFree_19 (by decide) (by show 0 ≤ ((20 * row) + seat) ∧ ((20 * row) + seat) < (240 : Int); have n1 := hw.1; have n2 := hw.2.1; have n3 := hw.2.2 row (by omega) (by omega); omega) (fun r19 => ?_)
    refine aw_if_ne (tgt := 27) dX5_isFree_20 (by decide) (by have n1 := hw.1; have n2 := hw.2.1; have n3 := hw.2.2 row (by omega) (by omega); omega) (fun h20 => ?_) (fun h20 => ?_)
    · refine aw_iconst dX5_isFree_27 ?_
      exact aw_iret dX5_isFree_28 rfl rfl (by decide) (by decide) ⟨Or.inr ⟨rfl, by have oq : oMd M row seat = M 34 0 (20 * row + seat) := rfl; first | omega | (have n1 := hw.1; have n2 := hw.2.1; have n3 := hw.2.2 row (by omega) (by omega); omega)⟩, (by rfl)⟩
    · refine aw_iconst dX5_isFree_23 ?_
      refine aw_goto (tgt := 28) dX5_isFree_24 (by decide) ?_
      exact aw_iret dX5_isFree_28 rfl rfl (by decide) (by decide) ⟨Or.inl ⟨rfl, by have oq : oMd M row seat = M 34 0 (20 * row + seat) := rfl; first | omega | (have n1 := hw.1; have n2 := hw.2.1; have n3 := hw.2.2 row (by omega) (by omega); omega)⟩, (by rfl)⟩
  · refine aw_if_eq (tgt := 27) dX5_isFree_6 (by decide) (by decide) (fun _ => ?_) (fun h => absurd (by decide) h)
    refine aw_iconst dX5_isFree_27 ?_
    exact aw_iret dX5_isFree_28 rfl rfl (by decide) (by decide) ⟨Or.inr ⟨rfl, by have oq : oMd M row seat = M 34 0 (20 * row + seat) := rfl; first | omega | (have n1 := hw.1; have n2 := hw.2.1; have n3 := hw.2.2 row (by omega) (by omega); omega)⟩, (by rfl)⟩
set_option maxHeartbeats 4000000 in
set_option maxRecDepth 20000 in
theorem c_X5_worth {K : WPar} {l : Launch} (hst : l.stackTraces = false) (M : Mem) (row : Int) (seat : Int) (r_row : inR row) (r_seat : inR seat) (hw : HWm M) (v_row : 0 ≤ row ∧ row < M 30 0 3) (v_st : -100 ≤ seat ∧ seat ≤ 100) : CT K l iX5_worth [rV K 30 0, iV (row), iV (seat)] M (rI (vS (M 32 0 row) (M 31 0 row) seat) (M)) := by
  refine aw_met [some (rV K 30 0), some (iV (row)), some (iV (seat)), none] hst (by decide) rfl (Nat.le_of_ble_eq_true rfl) rfl rfl (lcat rfl) ?_
  refine aw_rng (fun hM => ?_)
  refine aw_iconst dX5_worth_0 ?_
  refine aw_iload_n dX5_worth_1 rfl rfl ?_
  refine aw_imul dX5_worth_2 ?_
  refine aw_aload_n dX5_worth_3 rfl rfl ?_
  refine aw_getr (g := 30) rfl rfl ly_X5 rfl (k := 4) dX5_worth_4 (by decide) fl_X5_7 rfl ?_
  refine aw_iload_n dX5_worth_7 rfl rfl ?_
  refine aw_iald (g := 31) (n := 12) rfl (by decide) dX5_worth_8 (by decide) (by show 0 ≤ row ∧ row < (12 : Int); have n1 := hw.1; have n2 := hw.2.1; have n3 := hw.2.2 row v_row.1 v_row.2; omega) (fun r8 => ?_)
  refine aw_isub dX5_worth_9 ?_
  refine aw_iconst dX5_worth_10 ?_
  refine aw_iadd dX5_worth_11 ?_
  refine aw_istore_n (L2 := [some (rV K 30 0), some (iV (row)), some (iV (seat)), some (iV (((2 * seat) - (M 31 0 row)) + 1))]) dX5_worth_12 rfl (by decide) rfl ?_
  refine aw_aload_n dX5_worth_13 rfl rfl ?_
  refine aw_getr (g := 30) rfl rfl ly_X5 rfl (k := 5) dX5_worth_14 (by decide) fl_X5_13 rfl ?_
  refine aw_iload_n dX5_worth_17 rfl rfl ?_
  refine aw_iald (g := 32) (n := 12) rfl (by decide) dX5_worth_18 (by decide) (by show 0 ≤ row ∧ row < (12 : Int); have n1 := hw.1; have n2 := hw.2.1; have n3 := hw.2.2 row v_row.1 v_row.2; omega) (fun r18 => ?_)
  refine aw_iload_n dX5_worth_19 rfl rfl ?_
  refine aw_if_ge (tgt := 28) dX5_worth_20 (by decide) (by have n1 := hw.1; have n2 := hw.2.1; have n3 := hw.2.2 row v_row.1 v_row.2; omega) (fun h20 => ?_) (fun h20 => ?_)
  · refine aw_iload_n dX5_worth_28 rfl rfl ?_
    refine aw_isub dX5_worth_29 ?_
    exact aw_iret dX5_worth_30 rfl rfl (by decide) (by decide) ⟨congrArg (fun z => Sum.inl (some z)) (by unfold vS; omega), (by rfl)⟩
  · refine aw_iload_n dX5_worth_23 rfl rfl ?_
    refine aw_ineg dX5_worth_24 ?_
    refine aw_goto (tgt := 29) dX5_worth_25 (by decide) ?_
    refine aw_isub dX5_worth_29 ?_
    exact aw_iret dX5_worth_30 rfl rfl (by decide) (by decide) ⟨congrArg (fun z => Sum.inl (some z)) (by unfold vS; omega), (by rfl)⟩
set_option maxHeartbeats 4000000 in
set_option maxRecDepth 20000 in
theorem c_X5_frees {K : WPar} {l : Launch} (hst : l.stackTraces = false) (M : Mem) (row : Int) (r_row : inR row) (hw : HWm M) (v_row : 0 ≤ row ∧ row < M 30 0 3) : CT K l iX5_frees [rV K 30 0, iV (row)] M (rI (sumI (fun s => if oMd M row s = 0 then 1 else 0) (M 31 0 row)) (M)) := by
  refine aw_met [some (rV K 30 0), some (iV (row)), none, none] hst (by decide) rfl (Nat.le_of_ble_eq_true rfl) rfl rfl (lcat rfl) ?_
  refine aw_rng (fun hM => ?_)
  refine aw_iconst dX5_frees_0 ?_
  refine aw_istore_n (L2 := [some (rV K 30 0), some (iV (row)), some (iV 0), none]) dX5_frees_1 rfl (by decide) rfl ?_
  refine aw_iconst dX5_frees_2 ?_
  refine aw_istore_n (L2 := [some (rV K 30 0), some (iV (row)), some (iV 0), some (iV 0)]) dX5_frees_3 rfl (by decide) rfl ?_
  have lp4 : ∀ (n4 : Nat) (acc seat : Int), (0 ≤ seat ∧ seat ≤ M 31 0 row) → (acc = sumI (fun s => if oMd M row s = 0 then 1 else 0) seat) → ((M 31 0 row - seat).toNat) < n4 → AW K l iX5_frees (ZM K iX5_frees (rI (sumI (fun s => if oMd M row s = 0 then 1 else 0) (M 31 0 row)) (M))) 4 [some (rV K 30 0), some (iV (row)), some (iV (acc)), some (iV (seat))] [] (M) 0 0 := by
    intro n4
    induction n4 with
    | zero =>
      intro acc seat e1 e2 hm4
      exact absurd hm4 (Nat.not_lt_zero _)
    | succ n4 ih4 =>
      intro acc seat e1 e2 hm4
      refine aw_iload_n dX5_frees_4 rfl rfl ?_
      refine aw_aload_n dX5_frees_5 rfl rfl ?_
      refine aw_getr (g := 30) rfl rfl ly_X5 rfl (k := 4) dX5_frees_6 (by decide) fl_X5_7 rfl ?_
      refine aw_iload_n dX5_frees_9 rfl rfl ?_
      refine aw_iald (g := 31) (n := 12) rfl (by decide) dX5_frees_10 (by decide) (by show 0 ≤ row ∧ row < (12 : Int); have n1 := hw.1; have n2 := hw.2.1; have n3 := hw.2.2 row v_row.1 v_row.2; omega) (fun r10 => ?_)
      refine aw_icmp_ge (tgt := 37) dX5_frees_11 (by decide) (by have n1 := hw.1; have n2 := hw.2.1; have n3 := hw.2.2 row v_row.1 v_row.2; omega) (by have n1 := hw.1; have n2 := hw.2.1; have n3 := hw.2.2 row v_row.1 v_row.2; omega) (fun h11 => ?_) (fun h11 => ?_)
      · refine aw_iload_n dX5_frees_37 rfl rfl ?_
        exact aw_iret dX5_frees_38 rfl rfl (by decide) (by decide) ⟨congrArg (fun z => Sum.inl (some z)) (by have q : seat = M 31 0 row := (by have n1 := hw.1; have n2 := hw.2.1; have n3 := hw.2.2 row v_row.1 v_row.2; omega); rw [e2, q]), (by rfl)⟩
      · refine aw_iload_n dX5_frees_14 rfl rfl ?_
        refine aw_aload_n dX5_frees_15 rfl rfl ?_
        refine aw_iload_n dX5_frees_16 rfl rfl ?_
        refine aw_iload_n dX5_frees_17 rfl rfl ?_
        refine aw_cVb (g := 30) (As := [iV (row), iV (seat)]) (rest := [iV (acc)]) (c_X5_isFree hst M (row) (seat) (by have n1 := hw.1; have n2 := hw.2.1; have n3 := hw.2.2 row v_row.1 v_row.2; omega) (by have n1 := hw.1; have n2 := hw.2.1; have n3 := hw.2.2 row v_row.1 v_row.2; omega) (by have n1 := hw.1; have n2 := hw.2.1; have n3 := hw.2.2 row v_row.1 v_row.2; omega)) cv_X5_isFree dX5_frees_18 ml_X5_78 rfl rfl rfl rfl rfl (Nat.le_of_ble_eq_true rfl) (by decide) rfl rfl (by decide) (fun h18 => ?_) (fun h18 => ?_)
        · refine aw_if_eq (tgt := 28) dX5_frees_21 (by decide) (by decide) (fun h => absurd h (by decide)) (fun _ => ?_)
          refine aw_iconst dX5_frees_24 ?_
          refine aw_goto (tgt := 29) dX5_frees_25 (by decide) ?_
          refine aw_iadd dX5_frees_29 ?_
          refine aw_istore_n (L2 := [some (rV K 30 0), some (iV (row)), some (iV (acc + 1)), some (iV (seat))]) dX5_frees_30 rfl (by decide) rfl ?_
          refine aw_iinc (L2 := [some (rV K 30 0), some (iV (row)), some (iV (acc + 1)), some (iV (seat + 1))]) dX5_frees_31 rfl (by decide) rfl ?_
          refine aw_goto (tgt := 4) dX5_frees_34 (by decide) ?_
          exact ih4 (acc + 1) (seat + 1) (by have n1 := hw.1; have n2 := hw.2.1; have n3 := hw.2.2 row v_row.1 v_row.2; omega) (by rw [sumI_s e1.1, e2]; have n1 := hw.1; have n2 := hw.2.1; have n3 := hw.2.2 row v_row.1 v_row.2; omega) (by have n1 := hw.1; have n2 := hw.2.1; have n3 := hw.2.2 row v_row.1 v_row.2; omega)
        · refine aw_if_eq (tgt := 28) dX5_frees_21 (by decide) (by decide) (fun _ => ?_) (fun h => absurd (by decide) h)
          refine aw_iconst dX5_frees_28 ?_
          refine aw_iadd dX5_frees_29 ?_
          refine aw_istore_n (L2 := [some (rV K 30 0), some (iV (row)), some (iV (acc + 0)), some (iV (seat))]) dX5_frees_30 rfl (by decide) rfl ?_
          refine aw_iinc (L2 := [some (rV K 30 0), some (iV (row)), some (iV (acc + 0)), some (iV (seat + 1))]) dX5_frees_31 rfl (by decide) rfl ?_
          refine aw_goto (tgt := 4) dX5_frees_34 (by decide) ?_
          exact ih4 (acc + 0) (seat + 1) (by have n1 := hw.1; have n2 := hw.2.1; have n3 := hw.2.2 row v_row.1 v_row.2; omega) (by rw [sumI_s e1.1, e2]; have n1 := hw.1; have n2 := hw.2.1; have n3 := hw.2.2 row v_row.1 v_row.2; omega) (by have n1 := hw.1; have n2 := hw.2.1; have n3 := hw.2.2 row v_row.1 v_row.2; omega)
  exact lp4 (((M 31 0 row - 0).toNat) + 1) (0) (0) (by have n1 := hw.1; have n2 := hw.2.1; have n3 := hw.2.2 row v_row.1 v_row.2; omega) (by rfl) (Nat.lt_succ_self _)
set_option maxHeartbeats 4000000 in
set_option maxRecDepth 20000 in
theorem c_X5_run {K : WPar} {l : Launch} (hst : l.stackTraces = false) (M : Mem) (row : Int) (first : Int) (r_row : inR row) (r_first : inR first) (hw : HWm M) (v_row : 0 ≤ row ∧ row < M 30 0 3) (v_f : 0 ≤ first ∧ first ≤ M 31 0 row) : CT K l iX5_run [rV K 30 0, iV (row), iV (first)] M (rR (fun z => runR (M 31 0 row) (oMd M row) first z) (M)) := by
  refine aw_met [some (rV K 30 0), some (iV (row)), some (iV (first)), none] hst (by decide) rfl (Nat.le_of_ble_eq_true rfl) rfl rfl (lcat rfl) ?_
  refine aw_rng (fun hM => ?_)
  refine aw_iconst dX5_run_0 ?_
  refine aw_istore_n (L2 := [some (rV K 30 0), some (iV (row)), some (iV (first)), some (iV 0)]) dX5_run_1 rfl (by decide) rfl ?_
  have lp2 : ∀ (n2 : Nat) (cnt : Int), (0 ≤ cnt ∧ first + cnt ≤ M 31 0 row) → (allF (oMd M row) first cnt) → ((M 31 0 row - first - cnt).toNat) < n2 → AW K l iX5_run (ZM K iX5_run (rR (fun z => runR (M 31 0 row) (oMd M row) first z) (M))) 2 [some (rV K 30 0), some (iV (row)), some (iV (first)), some (iV (cnt))] [] (M) 0 0 := by
    intro n2
    induction n2 with
    | zero =>
      intro cnt e1 e2 hm2
      exact absurd hm2 (Nat.not_lt_zero _)
    | succ n2 ih2 =>
      intro cnt e1 e2 hm2
      refine aw_aload_n dX5_run_2 rfl rfl ?_
      refine aw_iload_n dX5_run_3 rfl rfl ?_
      refine aw_iload_n dX5_run_4 rfl rfl ?_
      refine aw_iload_n dX5_run_5 rfl rfl ?_
      refine aw_iadd dX5_run_6 ?_
      refine aw_cVb (g := 30) (As := [iV (row), iV (first + cnt)]) (rest := []) (c_X5_isFree hst M (row) (first + cnt) (by have n1 := hw.1; have n2 := hw.2.1; have n3 := hw.2.2 row v_row.1 v_row.2; omega) (by have n1 := hw.1; have n2 := hw.2.1; have n3 := hw.2.2 row v_row.1 v_row.2; omega) (by have n1 := hw.1; have n2 := hw.2.1; have n3 := hw.2.2 row v_row.1 v_row.2; omega)) cv_X5_isFree dX5_run_7 ml_X5_78 rfl rfl rfl rfl rfl (Nat.le_of_ble_eq_true rfl) (by decide) rfl rfl (by decide) (fun h7 => ?_) (fun h7 => ?_)
      · refine aw_if_eq (tgt := 19) dX5_run_10 (by decide) (by decide) (fun h => absurd h (by decide)) (fun _ => ?_)
        refine aw_iinc (L2 := [some (rV K 30 0), some (iV (row)), some (iV (first)), some (iV (cnt + 1))]) dX5_run_13 rfl (by decide) rfl ?_
        refine aw_goto (tgt := 2) dX5_run_16 (by decide) ?_
        exact ih2 (cnt + 1) (by have n1 := hw.1; have n2 := hw.2.1; have n3 := hw.2.2 row v_row.1 v_row.2; omega) (by exact allF_snoc e2 h7.2.2.2.2) (by have n1 := hw.1; have n2 := hw.2.1; have n3 := hw.2.2 row v_row.1 v_row.2; omega)
      · refine aw_if_eq (tgt := 19) dX5_run_10 (by decide) (by decide) (fun _ => ?_) (fun h => absurd (by decide) h)
        refine aw_iload_n dX5_run_19 rfl rfl ?_
        exact aw_iret dX5_run_20 rfl rfl (by decide) (by decide) ⟨cnt, rfl, (by refine ⟨e1.1, e1.2, e2, ?_⟩; by_cases e : first + cnt = M 31 0 row; exact Or.inl e; exact Or.inr (fun q => h7 ⟨v_row.1, v_row.2, by omega, by omega, q⟩)), (by rfl)⟩
  exact lp2 (((M 31 0 row - first - 0).toNat) + 1) (0) (by have n1 := hw.1; have n2 := hw.2.1; have n3 := hw.2.2 row v_row.1 v_row.2; omega) (by exact fun s s1 s2 => by omega) (Nat.lt_succ_self _)
set_option maxHeartbeats 4000000 in
set_option maxRecDepth 20000 in
theorem c_X5_sum {K : WPar} {l : Launch} (hst : l.stackTraces = false) (M : Mem) (row : Int) (first : Int) (seats : Int) (r_row : inR row) (r_first : inR first) (r_seats : inR seats) (hw : HWm M) (v_row : 0 ≤ row ∧ row < M 30 0 3) (v_b : 0 ≤ first ∧ 0 ≤ seats ∧ first + seats ≤ M 31 0 row) : CT K l iX5_sum [rV K 30 0, iV (row), iV (first), iV (seats)] M (rI (vB (M 32 0 row) (M 31 0 row) first seats) (M)) := by
  refine aw_met [some (rV K 30 0), some (iV (row)), some (iV (first)), some (iV (seats)), none, none] hst (by decide) rfl (Nat.le_of_ble_eq_true rfl) rfl rfl (lcat rfl) ?_
  refine aw_rng (fun hM => ?_)
  refine aw_iconst dX5_sum_0 ?_
  refine aw_istore (L2 := [some (rV K 30 0), some (iV (row)), some (iV (first)), some (iV (seats)), some (iV 0), none]) dX5_sum_1 (by decide) rfl ?_
  refine aw_iload_n dX5_sum_3 rfl rfl ?_
  refine aw_istore (L2 := [some (rV K 30 0), some (iV (row)), some (iV (first)), some (iV (seats)), some (iV 0), some (iV (first))]) dX5_sum_4 (by decide) rfl ?_
  have lp6 : ∀ (n6 : Nat) (acc seat : Int), (first ≤ seat ∧ seat ≤ first + seats) → (acc = vB (M 32 0 row) (M 31 0 row) first (seat - first)) → ((first + seats - seat).toNat) < n6 → AW K l iX5_sum (ZM K iX5_sum (rI (vB (M 32 0 row) (M 31 0 row) first seats) (M))) 6 [some (rV K 30 0), some (iV (row)), some (iV (first)), some (iV (seats)), some (iV (acc)), some (iV (seat))] [] (M) 0 0 := by
    intro n6
    induction n6 with
    | zero =>
      intro acc seat e1 e2 hm6
      exact absurd hm6 (Nat.not_lt_zero _)
    | succ n6 ih6 =>
      intro acc seat e1 e2 hm6
      refine aw_iload dX5_sum_6 rfl ?_
      refine aw_iload_n dX5_sum_8 rfl rfl ?_
      refine aw_iload_n dX5_sum_9 rfl rfl ?_
      refine aw_iadd dX5_sum_10 ?_
      refine aw_icmp_ge (tgt := 32) dX5_sum_11 (by decide) (by have n1 := hw.1; have n2 := hw.2.1; have n3 := hw.2.2 row v_row.1 v_row.2; omega) (by have n1 := hw.1; have n2 := hw.2.1; have n3 := hw.2.2 row v_row.1 v_row.2; omega) (fun h11 => ?_) (fun h11 => ?_)
      · refine aw_iload dX5_sum_32 rfl ?_
        exact aw_iret dX5_sum_34 rfl rfl (by decide) (by decide) ⟨congrArg (fun z => Sum.inl (some z)) (by have q : seat - first = seats := (by omega); rw [e2, q]), (by rfl)⟩
      · refine aw_iload dX5_sum_14 rfl ?_
        refine aw_aload_n dX5_sum_16 rfl rfl ?_
        refine aw_iload_n dX5_sum_17 rfl rfl ?_
        refine aw_iload dX5_sum_18 rfl ?_
        refine aw_cVi (g := 30) (As := [iV (row), iV (seat)]) (rest := [iV (acc)]) (c_X5_worth hst M (row) (seat) (by have n1 := hw.1; have n2 := hw.2.1; have n3 := hw.2.2 row v_row.1 v_row.2; omega) (by have n1 := hw.1; have n2 := hw.2.1; have n3 := hw.2.2 row v_row.1 v_row.2; omega) (by have n1 := hw.1; have n2 := hw.2.1; have n3 := hw.2.2 row v_row.1 v_row.2; omega) (by have n1 := hw.1; have n2 := hw.2.1; have n3 := hw.2.2 row v_row.1 v_row.2; omega) (by have n1 := hw.1; have n2 := hw.2.1; have n3 := hw.2.2 row v_row.1 v_row.2; omega)) cv_X5_worth dX5_sum_20 ml_X5_74 rfl rfl rfl rfl rfl (Nat.le_of_ble_eq_true rfl) (by decide) rfl rfl (by decide) ?_
        refine aw_iadd dX5_sum_23 ?_
        refine aw_istore (L2 := [some (rV K 30 0), some (iV (row)), some (iV (first)), some (iV (seats)), some (iV (acc + (vS (M 32 0 row) (M 31 0 row) seat))), some (iV (seat))]) dX5_sum_24 (by decide) rfl ?_
        refine aw_iinc (L2 := [some (rV K 30 0), some (iV (row)), some (iV (first)), some (iV (seats)), some (iV (acc + (vS (M 32 0 row) (M 31 0 row) seat))), some (iV (seat + 1))]) dX5_sum_26 rfl (by decide) rfl ?_
        refine aw_goto (tgt := 6) dX5_sum_29 (by decide) ?_
        exact ih6 (acc + (vS (M 32 0 row) (M 31 0 row) seat)) (seat + 1) (by have n1 := hw.1; have n2 := hw.2.1; have n3 := hw.2.2 row v_row.1 v_row.2; omega) (by rw [vB_s e1.1, e2]) (by omega)
  exact lp6 (((first + seats - first).toNat) + 1) (0) (first) (by have n1 := hw.1; have n2 := hw.2.1; have n3 := hw.2.2 row v_row.1 v_row.2; omega) (by rw [vB_0]) (Nat.lt_succ_self _)
set_option maxHeartbeats 4000000 in
set_option maxRecDepth 20000 in
theorem c_X5_hasOrphan {K : WPar} {l : Launch} (hst : l.stackTraces = false) (M : Mem) (row : Int) (first : Int) (seats : Int) (r_row : inR row) (r_first : inR first) (r_seats : inR seats) (hw : HWm M) (v_row : 0 ≤ row ∧ row < M 30 0 3) (v_b2 : 0 ≤ first ∧ first ≤ 100 ∧ 1 ≤ seats ∧ seats ≤ 100) : CT K l iX5_hasOrphan [rV K 30 0, iV (row), iV (first), iV (seats)] M (rB (hasO (M 31 0 row) (oMd M row) first seats) (M)) := by
  refine aw_met [some (rV K 30 0), some (iV (row)), some (iV (first)), some (iV (seats)), none, none] hst (by decide) rfl (Nat.le_of_ble_eq_true rfl) rfl rfl (lcat rfl) ?_
  refine aw_rng (fun hM => ?_)
  refine aw_aload_n dX5_hasOrphan_0 rfl rfl ?_
  refine aw_iload_n dX5_hasOrphan_1 rfl rfl ?_
  refine aw_iload_n dX5_hasOrphan_2 rfl rfl ?_
  refine aw_iconst dX5_hasOrphan_3 ?_
  refine aw_isub dX5_hasOrphan_4 ?_
  refine aw_cVb (g := 30) (As := [iV (row), iV (first - 1)]) (rest := []) (c_X5_isFree hst M (row) (first - 1) (by have n1 := hw.1; have n2 := hw.2.1; have n3 := hw.2.2 row v_row.1 v_row.2; omega) (by have n1 := hw.1; have n2 := hw.2.1; have n3 := hw.2.2 row v_row.1 v_row.2; omega) (by have n1 := hw.1; have n2 := hw.2.1; have n3 := hw.2.2 row v_row.1 v_row.2; omega)) cv_X5_isFree dX5_hasOrphan_5 ml_X5_78 rfl rfl rfl rfl rfl (Nat.le_of_ble_eq_true rfl) (by decide) rfl rfl (by decide) (fun h5 => ?_) (fun h5 => ?_)
  · refine aw_if_eq (tgt := 26) dX5_hasOrphan_8 (by decide) (by decide) (fun h => absurd h (by decide)) (fun _ => ?_)
    refine aw_aload_n dX5_hasOrphan_11 rfl rfl ?_
    refine aw_iload_n dX5_hasOrphan_12 rfl rfl ?_
    refine aw_iload_n dX5_hasOrphan_13 rfl rfl ?_
    refine aw_iconst dX5_hasOrphan_14 ?_
    refine aw_isub dX5_hasOrphan_15 ?_
    refine aw_cVb (g := 30) (As := [iV (row), iV (first - 2)]) (rest := []) (c_X5_isFree hst M (row) (first - 2) (by have n1 := hw.1; have n2 := hw.2.1; have n3 := hw.2.2 row v_row.1 v_row.2; omega) (by have n1 := hw.1; have n2 := hw.2.1; have n3 := hw.2.2 row v_row.1 v_row.2; omega) (by have n1 := hw.1; have n2 := hw.2.1; have n3 := hw.2.2 row v_row.1 v_row.2; omega)) cv_X5_isFree dX5_hasOrphan_16 ml_X5_78 rfl rfl rfl rfl rfl (Nat.le_of_ble_eq_true rfl) (by decide) rfl rfl (by decide) (fun h16 => ?_) (fun h16 => ?_)
    · refine aw_if_ne (tgt := 26) dX5_hasOrphan_19 (by decide) (by decide) (fun _ => ?_) (fun h => absurd h (by decide))
      refine aw_iconst dX5_hasOrphan_26 ?_
      refine aw_istore (L2 := [some (rV K 30 0), some (iV (row)), some (iV (first)), some (iV (seats)), some (iV 0), none]) dX5_hasOrphan_27 (by decide) rfl ?_
      refine aw_aload_n dX5_hasOrphan_29 rfl rfl ?_
      refine aw_iload_n dX5_hasOrphan_30 rfl rfl ?_
      refine aw_iload_n dX5_hasOrphan_31 rfl rfl ?_
      refine aw_iload_n dX5_hasOrphan_32 rfl rfl ?_
      refine aw_iadd dX5_hasOrphan_33 ?_
      refine aw_cVb (g := 30) (As := [iV (row), iV (first + seats)]) (rest := []) (c_X5_isFree hst M (row) (first + seats) (by have n1 := hw.1; have n2 := hw.2.1; have n3 := hw.2.2 row v_row.1 v_row.2; omega) (by have n1 := hw.1; have n2 := hw.2.1; have n3 := hw.2.2 row v_row.1 v_row.2; omega) (by have n1 := hw.1; have n2 := hw.2.1; have n3 := hw.2.2 row v_row.1 v_row.2; omega)) cv_X5_isFree dX5_hasOrphan_34 ml_X5_78 rfl rfl rfl rfl rfl (Nat.le_of_ble_eq_true rfl) (by decide) rfl rfl (by decide) (fun h34 => ?_) (fun h34 => ?_)
      · refine aw_if_eq (tgt := 57) dX5_hasOrphan_37 (by decide) (by decide) (fun h => absurd h (by decide)) (fun _ => ?_)
        refine aw_aload_n dX5_hasOrphan_40 rfl rfl ?_
        refine aw_iload_n dX5_hasOrphan_41 rfl rfl ?_
        refine aw_iload_n dX5_hasOrphan_42 rfl rfl ?_
        refine aw_iload_n dX5_hasOrphan_43 rfl rfl ?_
        refine aw_iadd dX5_hasOrphan_44 ?_
        refine aw_iconst dX5_hasOrphan_45 ?_
        refine aw_iadd dX5_hasOrphan_46 ?_
        refine aw_cVb (g := 30) (As := [iV (row), iV ((first + seats) + 1)]) (rest := []) (c_X5_isFree hst M (row) ((first + seats) + 1) (by have n1 := hw.1; have n2 := hw.2.1; have n3 := hw.2.2 row v_row.1 v_row.2; omega) (by have n1 := hw.1; have n2 := hw.2.1; have n3 := hw.2.2 row v_row.1 v_row.2; omega) (by have n1 := hw.1; have n2 := hw.2.1; have n3 := hw.2.2 row v_row.1 v_row.2; omega)) cv_X5_isFree dX5_hasOrphan_47 ml_X5_78 rfl rfl rfl rfl rfl (Nat.le_of_ble_eq_true rfl) (by decide) rfl rfl (by decide) (fun h47 => ?_) (fun h47 => ?_)
        · refine aw_if_ne (tgt := 57) dX5_hasOrphan_50 (by decide) (by decide) (fun _ => ?_) (fun h => absurd h (by decide))
          refine aw_iconst dX5_hasOrphan_57 ?_
          refine aw_istore (L2 := [some (rV K 30 0), some (iV (row)), some (iV (first)), some (iV (seats)), some (iV 0), some (iV 0)]) dX5_hasOrphan_58 (by decide) rfl ?_
          refine aw_iload dX5_hasOrphan_60 rfl ?_
          refine aw_if_ne (tgt := 70) dX5_hasOrphan_62 (by decide) (by decide) (fun h => absurd h (by decide)) (fun _ => ?_)
          refine aw_iload dX5_hasOrphan_65 rfl ?_
          refine aw_if_eq (tgt := 74) dX5_hasOrphan_67 (by decide) (by decide) (fun _ => ?_) (fun h => absurd (by decide) h)
          refine aw_iconst dX5_hasOrphan_74 ?_
          exact aw_iret dX5_hasOrphan_75 rfl rfl (by decide) (by decide) ⟨Or.inr ⟨rfl, by have n1 := hw.1; have n2 := hw.2.1; have n3 := hw.2.2 row v_row.1 v_row.2; omega⟩, (by rfl)⟩
        · refine aw_if_ne (tgt := 57) dX5_hasOrphan_50 (by decide) (by decide) (fun h => absurd h (by decide)) (fun _ => ?_)
          refine aw_iconst dX5_hasOrphan_53 ?_
          refine aw_goto (tgt := 58) dX5_hasOrphan_54 (by decide) ?_
          refine aw_istore (L2 := [some (rV K 30 0), some (iV (row)), some (iV (first)), some (iV (seats)), some (iV 0), some (iV 1)]) dX5_hasOrphan_58 (by decide) rfl ?_
          refine aw_iload dX5_hasOrphan_60 rfl ?_
          refine aw_if_ne (tgt := 70) dX5_hasOrphan_62 (by decide) (by decide) (fun h => absurd h (by decide)) (fun _ => ?_)
          refine aw_iload dX5_hasOrphan_65 rfl ?_
          refine aw_if_eq (tgt := 74) dX5_hasOrphan_67 (by decide) (by decide) (fun h => absurd h (by decide)) (fun _ => ?_)
          refine aw_iconst dX5_hasOrphan_70 ?_
          refine aw_goto (tgt := 75) dX5_hasOrphan_71 (by decide) ?_
          exact aw_iret dX5_hasOrphan_75 rfl rfl (by decide) (by decide) ⟨Or.inl ⟨rfl, by have n1 := hw.1; have n2 := hw.2.1; have n3 := hw.2.2 row v_row.1 v_row.2; omega⟩, (by rfl)⟩
      · refine aw_if_eq (tgt := 57) dX5_hasOrphan_37 (by decide) (by decide) (fun _ => ?_) (fun h => absurd (by decide) h)
        refine aw_iconst dX5_hasOrphan_57 ?_
        refine aw_istore (L2 := [some (rV K 30 0), some (iV (row)), some (iV (first)), some (iV (seats)), some (iV 0), some (iV 0)]) dX5_hasOrphan_58 (by decide) rfl ?_
        refine aw_iload dX5_hasOrphan_60 rfl ?_
        refine aw_if_ne (tgt := 70) dX5_hasOrphan_62 (by decide) (by decide) (fun h => absurd h (by decide)) (fun _ => ?_)
        refine aw_iload dX5_hasOrphan_65 rfl ?_
        refine aw_if_eq (tgt := 74) dX5_hasOrphan_67 (by decide) (by decide) (fun _ => ?_) (fun h => absurd (by decide) h)
        refine aw_iconst dX5_hasOrphan_74 ?_
        exact aw_iret dX5_hasOrphan_75 rfl rfl (by decide) (by decide) ⟨Or.inr ⟨rfl, by have n1 := hw.1; have n2 := hw.2.1; have n3 := hw.2.2 row v_row.1 v_row.2; omega⟩, (by rfl)⟩
    · refine aw_if_ne (tgt := 26) dX5_hasOrphan_19 (by decide) (by decide) (fun h => absurd h (by decide)) (fun _ => ?_)
      refine aw_iconst dX5_hasOrphan_22 ?_
      refine aw_goto (tgt := 27) dX5_hasOrphan_23 (by decide) ?_
      refine aw_istore (L2 := [some (rV K 30 0), some (iV (row)), some (iV (first)), some (iV (seats)), some (iV 1), none]) dX5_hasOrphan_27 (by decide) rfl ?_
      refine aw_aload_n dX5_hasOrphan_29 rfl rfl ?_
      refine aw_iload_n dX5_hasOrphan_30 rfl rfl ?_
      refine aw_iload_n dX5_hasOrphan_31 rfl rfl ?_
      refine aw_iload_n dX5_hasOrphan_32 rfl rfl ?_
      refine aw_iadd dX5_hasOrphan_33 ?_
      refine aw_cVb (g := 30) (As := [iV (row), iV (first + seats)]) (rest := []) (c_X5_isFree hst M (row) (first + seats) (by have n1 := hw.1; have n2 := hw.2.1; have n3 := hw.2.2 row v_row.1 v_row.2; omega) (by have n1 := hw.1; have n2 := hw.2.1; have n3 := hw.2.2 row v_row.1 v_row.2; omega) (by have n1 := hw.1; have n2 := hw.2.1; have n3 := hw.2.2 row v_row.1 v_row.2; omega)) cv_X5_isFree dX5_hasOrphan_34 ml_X5_78 rfl rfl rfl rfl rfl (Nat.le_of_ble_eq_true rfl) (by decide) rfl rfl (by decide) (fun h34 => ?_) (fun h34 => ?_)
      · refine aw_if_eq (tgt := 57) dX5_hasOrphan_37 (by decide) (by decide) (fun h => absurd h (by decide)) (fun _ => ?_)
        refine aw_aload_n dX5_hasOrphan_40 rfl rfl ?_
        refine aw_iload_n dX5_hasOrphan_41 rfl rfl ?_
        refine aw_iload_n dX5_hasOrphan_42 rfl rfl ?_
        refine aw_iload_n dX5_hasOrphan_43 rfl rfl ?_
        refine aw_iadd dX5_hasOrphan_44 ?_
        refine aw_iconst dX5_hasOrphan_45 ?_
        refine aw_iadd dX5_hasOrphan_46 ?_
        refine aw_cVb (g := 30) (As := [iV (row), iV ((first + seats) + 1)]) (rest := []) (c_X5_isFree hst M (row) ((first + seats) + 1) (by have n1 := hw.1; have n2 := hw.2.1; have n3 := hw.2.2 row v_row.1 v_row.2; omega) (by have n1 := hw.1; have n2 := hw.2.1; have n3 := hw.2.2 row v_row.1 v_row.2; omega) (by have n1 := hw.1; have n2 := hw.2.1; have n3 := hw.2.2 row v_row.1 v_row.2; omega)) cv_X5_isFree dX5_hasOrphan_47 ml_X5_78 rfl rfl rfl rfl rfl (Nat.le_of_ble_eq_true rfl) (by decide) rfl rfl (by decide) (fun h47 => ?_) (fun h47 => ?_)
        · refine aw_if_ne (tgt := 57) dX5_hasOrphan_50 (by decide) (by decide) (fun _ => ?_) (fun h => absurd h (by decide))
          refine aw_iconst dX5_hasOrphan_57 ?_
          refine aw_istore (L2 := [some (rV K 30 0), some (iV (row)), some (iV (first)), some (iV (seats)), some (iV 1), some (iV 0)]) dX5_hasOrphan_58 (by decide) rfl ?_
          refine aw_iload dX5_hasOrphan_60 rfl ?_
          refine aw_if_ne (tgt := 70) dX5_hasOrphan_62 (by decide) (by decide) (fun _ => ?_) (fun h => absurd h (by decide))
          refine aw_iconst dX5_hasOrphan_70 ?_
          refine aw_goto (tgt := 75) dX5_hasOrphan_71 (by decide) ?_
          exact aw_iret dX5_hasOrphan_75 rfl rfl (by decide) (by decide) ⟨Or.inl ⟨rfl, by have n1 := hw.1; have n2 := hw.2.1; have n3 := hw.2.2 row v_row.1 v_row.2; omega⟩, (by rfl)⟩
        · refine aw_if_ne (tgt := 57) dX5_hasOrphan_50 (by decide) (by decide) (fun h => absurd h (by decide)) (fun _ => ?_)
          refine aw_iconst dX5_hasOrphan_53 ?_
          refine aw_goto (tgt := 58) dX5_hasOrphan_54 (by decide) ?_
          refine aw_istore (L2 := [some (rV K 30 0), some (iV (row)), some (iV (first)), some (iV (seats)), some (iV 1), some (iV 1)]) dX5_hasOrphan_58 (by decide) rfl ?_
          refine aw_iload dX5_hasOrphan_60 rfl ?_
          refine aw_if_ne (tgt := 70) dX5_hasOrphan_62 (by decide) (by decide) (fun _ => ?_) (fun h => absurd h (by decide))
          refine aw_iconst dX5_hasOrphan_70 ?_
          refine aw_goto (tgt := 75) dX5_hasOrphan_71 (by decide) ?_
          exact aw_iret dX5_hasOrphan_75 rfl rfl (by decide) (by decide) ⟨Or.inl ⟨rfl, by have n1 := hw.1; have n2 := hw.2.1; have n3 := hw.2.2 row v_row.1 v_row.2; omega⟩, (by rfl)⟩
      · refine aw_if_eq (tgt := 57) dX5_hasOrphan_37 (by decide) (by decide) (fun _ => ?_) (fun h => absurd (by decide) h)
        refine aw_iconst dX5_hasOrphan_57 ?_
        refine aw_istore (L2 := [some (rV K 30 0), some (iV (row)), some (iV (first)), some (iV (seats)), some (iV 1), some (iV 0)]) dX5_hasOrphan_58 (by decide) rfl ?_
        refine aw_iload dX5_hasOrphan_60 rfl ?_
        refine aw_if_ne (tgt := 70) dX5_hasOrphan_62 (by decide) (by decide) (fun _ => ?_) (fun h => absurd h (by decide))
        refine aw_iconst dX5_hasOrphan_70 ?_
        refine aw_goto (tgt := 75) dX5_hasOrphan_71 (by decide) ?_
        exact aw_iret dX5_hasOrphan_75 rfl rfl (by decide) (by decide) ⟨Or.inl ⟨rfl, by have n1 := hw.1; have n2 := hw.2.1; have n3 := hw.2.2 row v_row.1 v_row.2; omega⟩, (by rfl)⟩
  · refine aw_if_eq (tgt := 26) dX5_hasOrphan_8 (by decide) (by decide) (fun _ => ?_) (fun h => absurd (by decide) h)
    refine aw_iconst dX5_hasOrphan_26 ?_
    refine aw_istore (L2 := [some (rV K 30 0), some (iV (row)), some (iV (first)), some (iV (seats)), some (iV 0), none]) dX5_hasOrphan_27 (by decide) rfl ?_
    refine aw_aload_n dX5_hasOrphan_29 rfl rfl ?_
    refine aw_iload_n dX5_hasOrphan_30 rfl rfl ?_
    refine aw_iload_n dX5_hasOrphan_31 rfl rfl ?_
    refine aw_iload_n dX5_hasOrphan_32 rfl rfl ?_
    refine aw_iadd dX5_hasOrphan_33 ?_
    refine aw_cVb (g := 30) (As := [iV (row), iV (first + seats)]) (rest := []) (c_X5_isFree hst M (row) (first + seats) (by have n1 := hw.1; have n2 := hw.2.1; have n3 := hw.2.2 row v_row.1 v_row.2; omega) (by have n1 := hw.1; have n2 := hw.2.1; have n3 := hw.2.2 row v_row.1 v_row.2; omega) (by have n1 := hw.1; have n2 := hw.2.1; have n3 := hw.2.2 row v_row.1 v_row.2; omega)) cv_X5_isFree dX5_hasOrphan_34 ml_X5_78 rfl rfl rfl rfl rfl (Nat.le_of_ble_eq_true rfl) (by decide) rfl rfl (by decide) (fun h34 => ?_) (fun h34 => ?_)
    · refine aw_if_eq (tgt := 57) dX5_hasOrphan_37 (by decide) (by decide) (fun h => absurd h (by decide)) (fun _ => ?_)
      refine aw_aload_n dX5_hasOrphan_40 rfl rfl ?_
      refine aw_iload_n dX5_hasOrphan_41 rfl rfl ?_
      refine aw_iload_n dX5_hasOrphan_42 rfl rfl ?_
      refine aw_iload_n dX5_hasOrphan_43 rfl rfl ?_
      refine aw_iadd dX5_hasOrphan_44 ?_
      refine aw_iconst dX5_hasOrphan_45 ?_
      refine aw_iadd dX5_hasOrphan_46 ?_
      refine aw_cVb (g := 30) (As := [iV (row), iV ((first + seats) + 1)]) (rest := []) (c_X5_isFree hst M (row) ((first + seats) + 1) (by have n1 := hw.1; have n2 := hw.2.1; have n3 := hw.2.2 row v_row.1 v_row.2; omega) (by have n1 := hw.1; have n2 := hw.2.1; have n3 := hw.2.2 row v_row.1 v_row.2; omega) (by have n1 := hw.1; have n2 := hw.2.1; have n3 := hw.2.2 row v_row.1 v_row.2; omega)) cv_X5_isFree dX5_hasOrphan_47 ml_X5_78 rfl rfl rfl rfl rfl (Nat.le_of_ble_eq_true rfl) (by decide) rfl rfl (by decide) (fun h47 => ?_) (fun h47 => ?_)
      · refine aw_if_ne (tgt := 57) dX5_hasOrphan_50 (by decide) (by decide) (fun _ => ?_) (fun h => absurd h (by decide))
        refine aw_iconst dX5_hasOrphan_57 ?_
        refine aw_istore (L2 := [some (rV K 30 0), some (iV (row)), some (iV (first)), some (iV (seats)), some (iV 0), some (iV 0)]) dX5_hasOrphan_58 (by decide) rfl ?_
        refine aw_iload dX5_hasOrphan_60 rfl ?_
        refine aw_if_ne (tgt := 70) dX5_hasOrphan_62 (by decide) (by decide) (fun h => absurd h (by decide)) (fun _ => ?_)
        refine aw_iload dX5_hasOrphan_65 rfl ?_
        refine aw_if_eq (tgt := 74) dX5_hasOrphan_67 (by decide) (by decide) (fun _ => ?_) (fun h => absurd (by decide) h)
        refine aw_iconst dX5_hasOrphan_74 ?_
        exact aw_iret dX5_hasOrphan_75 rfl rfl (by decide) (by decide) ⟨Or.inr ⟨rfl, by have n1 := hw.1; have n2 := hw.2.1; have n3 := hw.2.2 row v_row.1 v_row.2; omega⟩, (by rfl)⟩
      · refine aw_if_ne (tgt := 57) dX5_hasOrphan_50 (by decide) (by decide) (fun h => absurd h (by decide)) (fun _ => ?_)
        refine aw_iconst dX5_hasOrphan_53 ?_
        refine aw_goto (tgt := 58) dX5_hasOrphan_54 (by decide) ?_
        refine aw_istore (L2 := [some (rV K 30 0), some (iV (row)), some (iV (first)), some (iV (seats)), some (iV 0), some (iV 1)]) dX5_hasOrphan_58 (by decide) rfl ?_
        refine aw_iload dX5_hasOrphan_60 rfl ?_
        refine aw_if_ne (tgt := 70) dX5_hasOrphan_62 (by decide) (by decide) (fun h => absurd h (by decide)) (fun _ => ?_)
        refine aw_iload dX5_hasOrphan_65 rfl ?_
        refine aw_if_eq (tgt := 74) dX5_hasOrphan_67 (by decide) (by decide) (fun h => absurd h (by decide)) (fun _ => ?_)
        refine aw_iconst dX5_hasOrphan_70 ?_
        refine aw_goto (tgt := 75) dX5_hasOrphan_71 (by decide) ?_
        exact aw_iret dX5_hasOrphan_75 rfl rfl (by decide) (by decide) ⟨Or.inl ⟨rfl, by have n1 := hw.1; have n2 := hw.2.1; have n3 := hw.2.2 row v_row.1 v_row.2; omega⟩, (by rfl)⟩
    · refine aw_if_eq (tgt := 57) dX5_hasOrphan_37 (by decide) (by decide) (fun _ => ?_) (fun h => absurd (by decide) h)
      refine aw_iconst dX5_hasOrphan_57 ?_
      refine aw_istore (L2 := [some (rV K 30 0), some (iV (row)), some (iV (first)), some (iV (seats)), some (iV 0), some (iV 0)]) dX5_hasOrphan_58 (by decide) rfl ?_
      refine aw_iload dX5_hasOrphan_60 rfl ?_
      refine aw_if_ne (tgt := 70) dX5_hasOrphan_62 (by decide) (by decide) (fun h => absurd h (by decide)) (fun _ => ?_)
      refine aw_iload dX5_hasOrphan_65 rfl ?_
      refine aw_if_eq (tgt := 74) dX5_hasOrphan_67 (by decide) (by decide) (fun _ => ?_) (fun h => absurd (by decide) h)
      refine aw_iconst dX5_hasOrphan_74 ?_
      exact aw_iret dX5_hasOrphan_75 rfl rfl (by decide) (by decide) ⟨Or.inr ⟨rfl, by have n1 := hw.1; have n2 := hw.2.1; have n3 := hw.2.2 row v_row.1 v_row.2; omega⟩, (by rfl)⟩
set_option maxHeartbeats 4000000 in
set_option maxRecDepth 20000 in
theorem c_X5_orphans {K : WPar} {l : Launch} (hst : l.stackTraces = false) (M : Mem) (hw : HWm M) : CT K l iX5_orphans [rV K 30 0] M (rI (sumI (fun r => sumI (orC (M 31 0 r) (oMd M r)) (M 31 0 r)) (M 30 0 3)) (thr M 0)) := by
  refine aw_met [some (rV K 30 0), none, none, none] hst (by decide) rfl (Nat.le_of_ble_eq_true rfl) rfl rfl (lcat rfl) ?_
  refine aw_rng (fun hM => ?_)
  refine aw_aload_n dX5_orphans_0 rfl rfl ?_
  refine aw_iconst dX5_orphans_1 ?_
  refine aw_puti (g := 30) tyX5 tyX5_ok nmX5 rfl rfl ly_X5 rfl (k := 0) 0 rfl (M' := updM M 30 0 0 0) dX5_orphans_2 (by decide) fl_X5_52 rfl rfl (by decide +kernel) (by omega) rfl ?_
  generalize hMa : updM M 30 0 0 0 = Ma
  have hwa : HWm Ma := hMa ▸ HWm_t hw 0; have b3 : Ma 30 0 3 = M 30 0 3 := (by rw [← hMa]; exact thr_j (by decide)); have b31 : Ma 31 = M 31 := (by rw [← hMa]; exact thr_g (by decide)); have b34 : Ma 34 = M 34 := (by rw [← hMa]; exact thr_g (by decide)); have om : oMd Ma = oMd M := (by funext r s; unfold oMd; rw [b34])
  refine aw_iconst dX5_orphans_5 ?_
  refine aw_istore_n (L2 := [some (rV K 30 0), some (iV 0), none, none]) dX5_orphans_6 rfl (by decide) rfl ?_
  refine aw_iconst dX5_orphans_7 ?_
  refine aw_istore_n (L2 := [some (rV K 30 0), some (iV 0), some (iV 0), none]) dX5_orphans_8 rfl (by decide) rfl ?_
  have lp9 : ∀ (n9 : Nat) (acc row : Int), (0 ≤ row ∧ row ≤ M 30 0 3) → (acc = sumI (fun r => sumI (orC (M 31 0 r) (oMd M r)) (M 31 0 r)) row) → ((M 30 0 3 - row).toNat) < n9 → AW K l iX5_orphans (ZM K iX5_orphans (rI (sumI (fun r => sumI (orC (M 31 0 r) (oMd M r)) (M 31 0 r)) (M 30 0 3)) (thr M 0))) 9 [some (rV K 30 0), some (iV (acc)), some (iV (row)), none] [] (Ma) 0 0 := by
    intro n9
    induction n9 with
    | zero =>
      intro acc row e1 e2 hm9
      exact absurd hm9 (Nat.not_lt_zero _)
    | succ n9 ih9 =>
      intro acc row e1 e2 hm9
      have b31r : Ma 31 0 row = M 31 0 row := (by rw [b31])
      refine aw_iload_n dX5_orphans_9 rfl rfl ?_
      refine aw_aload_n dX5_orphans_10 rfl rfl ?_
      refine aw_geti (g := 30) rfl rfl ly_X5 rfl (k := 3) 3 rfl dX5_orphans_11 (by decide) fl_X5_60 rfl (fun r11 => ?_)
      refine aw_icmp_ge (tgt := 80) dX5_orphans_14 (by decide) (by have n1 := hw.1; have n2 := hw.2.1; omega) (by have n1 := hw.1; have n2 := hw.2.1; omega) (fun h14 => ?_) (fun h14 => ?_)
      · refine aw_iload_n dX5_orphans_80 rfl rfl ?_
        exact aw_iret dX5_orphans_81 rfl rfl (by decide) (by decide) ⟨congrArg (fun z => Sum.inl (some z)) (by have q : row = M 30 0 3 := (by omega); rw [e2, q]), (by exact hMa.symm)⟩
      · refine aw_iconst dX5_orphans_17 ?_
        refine aw_istore_n (L2 := [some (rV K 30 0), some (iV (acc)), some (iV (row)), some (iV 0)]) dX5_orphans_18 rfl (by decide) rfl ?_
        have lp19 : ∀ (n19 : Nat) (ac2 seat : Int), (0 ≤ seat ∧ seat ≤ M 31 0 row) → (ac2 = acc + sumI (orC (M 31 0 row) (oMd M row)) seat) → ((M 31 0 row - seat).toNat) < n19 → AW K l iX5_orphans (ZM K iX5_orphans (rI (sumI (fun r => sumI (orC (M 31 0 r) (oMd M r)) (M 31 0 r)) (M 30 0 3)) (thr M 0))) 19 [some (rV K 30 0), some (iV (ac2)), some (iV (row)), some (iV (seat))] [] (Ma) 0 0 := by
          intro n19
          induction n19 with
          | zero =>
            intro ac2 seat f1 f2 hm19
            exact absurd hm19 (Nat.not_lt_zero _)
          | succ n19 ih19 =>
            intro ac2 seat f1 f2 hm19
            refine aw_iload_n dX5_orphans_19 rfl rfl ?_
            refine aw_aload_n dX5_orphans_20 rfl rfl ?_
            refine aw_getr (g := 30) rfl rfl ly_X5 rfl (k := 4) dX5_orphans_21 (by decide) fl_X5_7 rfl ?_
            refine aw_iload_n dX5_orphans_24 rfl rfl ?_
            refine aw_iald (g := 31) (n := 12) rfl (by decide) dX5_orphans_25 (by decide) (by show 0 ≤ row ∧ row < (12 : Int); have a3 := hMa; have n1 := hw.1; have n2 := hw.2.1; have n3 := hw.2.2 row (by omega) (by omega); omega) (fun r25 => ?_)
            refine aw_icmp_ge (tgt := 74) dX5_orphans_26 (by decide) (by have a3 := hMa; have n1 := hw.1; have n2 := hw.2.1; have n3 := hw.2.2 row (by omega) (by omega); omega) (by have a3 := hMa; have n1 := hw.1; have n2 := hw.2.1; have n3 := hw.2.2 row (by omega) (by omega); omega) (fun h26 => ?_) (fun h26 => ?_)
            · refine aw_iinc (L2 := [some (rV K 30 0), some (iV (ac2)), some (iV (row + 1)), some (iV (seat))]) dX5_orphans_74 rfl (by decide) rfl ?_
              refine aw_goto (tgt := 9) dX5_orphans_77 (by decide) ?_
              refine aw_weak (L' := [some (rV K 30 0), some (iV (ac2)), some (iV (row + 1)), none]) ⟨Or.inr rfl, Or.inr rfl, Or.inr rfl, Or.inl rfl, trivial⟩ ?_
              exact ih9 (ac2) (row + 1) (by omega) (by have q : seat = M 31 0 row := (by have n1 := hw.1; have n2 := hw.2.1; have n3 := hw.2.2 row (by omega) (by omega); omega); rw [sumI_s e1.1, f2, q, ← e2]) (by omega)
            · refine aw_iload_n dX5_orphans_29 rfl rfl ?_
              refine aw_aload_n dX5_orphans_30 rfl rfl ?_
              refine aw_iload_n dX5_orphans_31 rfl rfl ?_
              refine aw_iload_n dX5_orphans_32 rfl rfl ?_
              refine aw_cVb (g := 30) (As := [iV (row), iV (seat)]) (rest := [iV (ac2)]) (c_X5_isFree hst Ma (row) (seat) (by have a3 := hMa; have n1 := hw.1; have n2 := hw.2.1; have n3 := hw.2.2 row (by omega) (by omega); omega) (by have a3 := hMa; have n1 := hw.1; have n2 := hw.2.1; have n3 := hw.2.2 row (by omega) (by omega); omega) (by exact hwa)) cv_X5_isFree dX5_orphans_33 ml_X5_78 rfl rfl rfl rfl rfl (Nat.le_of_ble_eq_true rfl) (by decide) rfl rfl (by decide) (fun h33 => ?_) (fun h33 => ?_)
              · refine aw_if_eq (tgt := 65) dX5_orphans_36 (by decide) (by decide) (fun h => absurd h (by decide)) (fun _ => ?_)
                refine aw_aload_n dX5_orphans_39 rfl rfl ?_
                refine aw_iload_n dX5_orphans_40 rfl rfl ?_
                refine aw_iload_n dX5_orphans_41 rfl rfl ?_
                refine aw_iconst dX5_orphans_42 ?_
                refine aw_isub dX5_orphans_43 ?_
                refine aw_cVb (g := 30) (As := [iV (row), iV (seat - 1)]) (rest := [iV (ac2)]) (c_X5_isFree hst Ma (row) (seat - 1) (by have a3 := hMa; have n1 := hw.1; have n2 := hw.2.1; have n3 := hw.2.2 row (by omega) (by omega); omega) (by have a3 := hMa; have n1 := hw.1; have n2 := hw.2.1; have n3 := hw.2.2 row (by omega) (by omega); omega) (by exact hwa)) cv_X5_isFree dX5_orphans_44 ml_X5_78 rfl rfl rfl rfl rfl (Nat.le_of_ble_eq_true rfl) (by decide) rfl rfl (by decide) (fun h44 => ?_) (fun h44 => ?_)
                · refine aw_if_ne (tgt := 65) dX5_orphans_47 (by decide) (by decide) (fun _ => ?_) (fun h => absurd h (by decide))
                  refine aw_iconst dX5_orphans_65 ?_
                  refine aw_iadd dX5_orphans_66 ?_
                  refine aw_istore_n (L2 := [some (rV K 30 0), some (iV (ac2 + 0)), some (iV (row)), some (iV (seat))]) dX5_orphans_67 rfl (by decide) rfl ?_
                  refine aw_iinc (L2 := [some (rV K 30 0), some (iV (ac2 + 0)), some (iV (row)), some (iV (seat + 1))]) dX5_orphans_68 rfl (by decide) rfl ?_
                  refine aw_goto (tgt := 19) dX5_orphans_71 (by decide) ?_
                  exact ih19 (ac2 + 0) (seat + 1) (by have a3 := hMa; have n1 := hw.1; have n2 := hw.2.1; have n3 := hw.2.2 row (by omega) (by omega); omega) (by rw [sumI_s f1.1, f2]; unfold orC; have c1 : oMd Ma row seat = oMd M row seat := (by rw [om]); have c2 : oMd Ma row (seat - 1) = oMd M row (seat - 1) := (by rw [om]); have c3 : oMd Ma row (seat + 1) = oMd M row (seat + 1) := (by rw [om]); have n1 := hw.1; have n2 := hw.2.1; have n3 := hw.2.2 row (by omega) (by omega); omega) (by have n1 := hw.1; have n2 := hw.2.1; have n3 := hw.2.2 row (by omega) (by omega); omega)
                · refine aw_if_ne (tgt := 65) dX5_orphans_47 (by decide) (by decide) (fun h => absurd h (by decide)) (fun _ => ?_)
                  refine aw_aload_n dX5_orphans_50 rfl rfl ?_
                  refine aw_iload_n dX5_orphans_51 rfl rfl ?_
                  refine aw_iload_n dX5_orphans_52 rfl rfl ?_
                  refine aw_iconst dX5_orphans_53 ?_
                  refine aw_iadd dX5_orphans_54 ?_
                  refine aw_cVb (g := 30) (As := [iV (row), iV (seat + 1)]) (rest := [iV (ac2)]) (c_X5_isFree hst Ma (row) (seat + 1) (by have a3 := hMa; have n1 := hw.1; have n2 := hw.2.1; have n3 := hw.2.2 row (by omega) (by omega); omega) (by have a3 := hMa; have n1 := hw.1; have n2 := hw.2.1; have n3 := hw.2.2 row (by omega) (by omega); omega) (by exact hwa)) cv_X5_isFree dX5_orphans_55 ml_X5_78 rfl rfl rfl rfl rfl (Nat.le_of_ble_eq_true rfl) (by decide) rfl rfl (by decide) (fun h55 => ?_) (fun h55 => ?_)
                  · refine aw_if_ne (tgt := 65) dX5_orphans_58 (by decide) (by decide) (fun _ => ?_) (fun h => absurd h (by decide))
                    refine aw_iconst dX5_orphans_65 ?_
                    refine aw_iadd dX5_orphans_66 ?_
                    refine aw_istore_n (L2 := [some (rV K 30 0), some (iV (ac2 + 0)), some (iV (row)), some (iV (seat))]) dX5_orphans_67 rfl (by decide) rfl ?_
                    refine aw_iinc (L2 := [some (rV K 30 0), some (iV (ac2 + 0)), some (iV (row)), some (iV (seat + 1))]) dX5_orphans_68 rfl (by decide) rfl ?_
                    refine aw_goto (tgt := 19) dX5_orphans_71 (by decide) ?_
                    exact ih19 (ac2 + 0) (seat + 1) (by have a3 := hMa; have n1 := hw.1; have n2 := hw.2.1; have n3 := hw.2.2 row (by omega) (by omega); omega) (by rw [sumI_s f1.1, f2]; unfold orC; have c1 : oMd Ma row seat = oMd M row seat := (by rw [om]); have c2 : oMd Ma row (seat - 1) = oMd M row (seat - 1) := (by rw [om]); have c3 : oMd Ma row (seat + 1) = oMd M row (seat + 1) := (by rw [om]); have n1 := hw.1; have n2 := hw.2.1; have n3 := hw.2.2 row (by omega) (by omega); omega) (by have n1 := hw.1; have n2 := hw.2.1; have n3 := hw.2.2 row (by omega) (by omega); omega)
                  · refine aw_if_ne (tgt := 65) dX5_orphans_58 (by decide) (by decide) (fun h => absurd h (by decide)) (fun _ => ?_)
                    refine aw_iconst dX5_orphans_61 ?_
                    refine aw_goto (tgt := 66) dX5_orphans_62 (by decide) ?_
                    refine aw_iadd dX5_orphans_66 ?_
                    refine aw_istore_n (L2 := [some (rV K 30 0), some (iV (ac2 + 1)), some (iV (row)), some (iV (seat))]) dX5_orphans_67 rfl (by decide) rfl ?_
                    refine aw_iinc (L2 := [some (rV K 30 0), some (iV (ac2 + 1)), some (iV (row)), some (iV (seat + 1))]) dX5_orphans_68 rfl (by decide) rfl ?_
                    refine aw_goto (tgt := 19) dX5_orphans_71 (by decide) ?_
                    exact ih19 (ac2 + 1) (seat + 1) (by have a3 := hMa; have n1 := hw.1; have n2 := hw.2.1; have n3 := hw.2.2 row (by omega) (by omega); omega) (by rw [sumI_s f1.1, f2]; unfold orC; have c1 : oMd Ma row seat = oMd M row seat := (by rw [om]); have c2 : oMd Ma row (seat - 1) = oMd M row (seat - 1) := (by rw [om]); have c3 : oMd Ma row (seat + 1) = oMd M row (seat + 1) := (by rw [om]); have n1 := hw.1; have n2 := hw.2.1; have n3 := hw.2.2 row (by omega) (by omega); omega) (by have n1 := hw.1; have n2 := hw.2.1; have n3 := hw.2.2 row (by omega) (by omega); omega)
              · refine aw_if_eq (tgt := 65) dX5_orphans_36 (by decide) (by decide) (fun _ => ?_) (fun h => absurd (by decide) h)
                refine aw_iconst dX5_orphans_65 ?_
                refine aw_iadd dX5_orphans_66 ?_
                refine aw_istore_n (L2 := [some (rV K 30 0), some (iV (ac2 + 0)), some (iV (row)), some (iV (seat))]) dX5_orphans_67 rfl (by decide) rfl ?_
                refine aw_iinc (L2 := [some (rV K 30 0), some (iV (ac2 + 0)), some (iV (row)), some (iV (seat + 1))]) dX5_orphans_68 rfl (by decide) rfl ?_
                refine aw_goto (tgt := 19) dX5_orphans_71 (by decide) ?_
                exact ih19 (ac2 + 0) (seat + 1) (by have a3 := hMa; have n1 := hw.1; have n2 := hw.2.1; have n3 := hw.2.2 row (by omega) (by omega); omega) (by rw [sumI_s f1.1, f2]; unfold orC; have c1 : oMd Ma row seat = oMd M row seat := (by rw [om]); have c2 : oMd Ma row (seat - 1) = oMd M row (seat - 1) := (by rw [om]); have c3 : oMd Ma row (seat + 1) = oMd M row (seat + 1) := (by rw [om]); have n1 := hw.1; have n2 := hw.2.1; have n3 := hw.2.2 row (by omega) (by omega); omega) (by have n1 := hw.1; have n2 := hw.2.1; have n3 := hw.2.2 row (by omega) (by omega); omega)
        exact lp19 (((M 31 0 row - 0).toNat) + 1) (acc) (0) (by have a3 := hMa; have n1 := hw.1; have n2 := hw.2.1; have n3 := hw.2.2 row (by omega) (by omega); omega) (by rw [sumI_0]; omega) (Nat.lt_succ_self _)
  exact lp9 (((M 30 0 3 - 0).toNat) + 1) (0) (0) (by exact ⟨Int.le_refl 0, hw.1⟩) (by rfl) (Nat.lt_succ_self _)
set_option maxHeartbeats 4000000 in
set_option maxRecDepth 20000 in
theorem c_X5_longestBlock {K : WPar} {l : Launch} (hst : l.stackTraces = false) (M : Mem) (hw : HWm M) : CT K l iX5_longestBlock [rV K 30 0] M (fun o m => ∃ z, o = .inl (some z) ∧ isLongR (M 30 0 3) (M 31 0) (oMd M) z ∧ m = thr M 0) := by
  refine aw_met [some (rV K 30 0), none, none, none] hst (by decide) rfl (Nat.le_of_ble_eq_true rfl) rfl rfl (lcat rfl) ?_
  refine aw_rng (fun hM => ?_)
  refine aw_aload_n dX5_longestBlock_0 rfl rfl ?_
  refine aw_iconst dX5_longestBlock_1 ?_
  refine aw_puti (g := 30) tyX5 tyX5_ok nmX5 rfl rfl ly_X5 rfl (k := 0) 0 rfl (M' := updM M 30 0 0 0) dX5_longestBlock_2 (by decide) fl_X5_52 rfl rfl (by decide +kernel) (by omega) rfl ?_
  generalize hMa : updM M 30 0 0 0 = Ma
  have hwa : HWm Ma := hMa ▸ HWm_t hw 0; have b3 : Ma 30 0 3 = M 30 0 3 := (by rw [← hMa]; exact thr_j (by decide)); have b31 : Ma 31 = M 31 := (by rw [← hMa]; exact thr_g (by decide)); have b34 : Ma 34 = M 34 := (by rw [← hMa]; exact thr_g (by decide)); have om : oMd Ma = oMd M := (by funext r s; unfold oMd; rw [b34])
  refine aw_iconst dX5_longestBlock_5 ?_
  refine aw_istore_n (L2 := [some (rV K 30 0), some (iV 0), none, none]) dX5_longestBlock_6 rfl (by decide) rfl ?_
  refine aw_iconst dX5_longestBlock_7 ?_
  refine aw_istore_n (L2 := [some (rV K 30 0), some (iV 0), some (iV 0), none]) dX5_longestBlock_8 rfl (by decide) rfl ?_
  have lp9 : ∀ (n9 : Nat) (most row : Int), (0 ≤ row ∧ row ≤ M 30 0 3) → (lonP (M 31 0) (oMd M) row 0 most) → (0 ≤ most ∧ most ≤ 20) → ((M 30 0 3 - row).toNat) < n9 → AW K l iX5_longestBlock (ZM K iX5_longestBlock (fun o m => ∃ z, o = .inl (some z) ∧ isLongR (M 30 0 3) (M 31 0) (oMd M) z ∧ m = thr M 0)) 9 [some (rV K 30 0), some (iV (most)), some (iV (row)), none] [] (Ma) 0 0 := by
    intro n9
    induction n9 with
    | zero =>
      intro most row e1 e2 e3 hm9
      exact absurd hm9 (Nat.not_lt_zero _)
    | succ n9 ih9 =>
      intro most row e1 e2 e3 hm9
      have b31r : Ma 31 0 row = M 31 0 row := (by rw [b31])
      refine aw_iload_n dX5_longestBlock_9 rfl rfl ?_
      refine aw_aload_n dX5_longestBlock_10 rfl rfl ?_
      refine aw_geti (g := 30) rfl rfl ly_X5 rfl (k := 3) 3 rfl dX5_longestBlock_11 (by decide) fl_X5_60 rfl (fun r11 => ?_)
      refine aw_icmp_ge (tgt := 62) dX5_longestBlock_14 (by decide) (by have n1 := hw.1; have n2 := hw.2.1; omega) (by have n1 := hw.1; have n2 := hw.2.1; omega) (fun h14 => ?_) (fun h14 => ?_)
      · refine aw_iload_n dX5_longestBlock_62 rfl rfl ?_
        exact aw_iret dX5_longestBlock_63 rfl rfl (by decide) (by decide) ⟨_, rfl, (by have q : row = M 30 0 3 := (by omega); subst q; exact lonP_all e2), hMa.symm⟩
      · refine aw_iconst dX5_longestBlock_17 ?_
        refine aw_istore_n (L2 := [some (rV K 30 0), some (iV (most)), some (iV (row)), some (iV 0)]) dX5_longestBlock_18 rfl (by decide) rfl ?_
        have lp19 : ∀ (n19 : Nat) (mo2 seat : Int), (0 ≤ seat ∧ seat ≤ M 31 0 row) → (lonP (M 31 0) (oMd M) row seat mo2) → (0 ≤ mo2 ∧ mo2 ≤ 20) → ((M 31 0 row - seat).toNat) < n19 → AW K l iX5_longestBlock (ZM K iX5_longestBlock (fun o m => ∃ z, o = .inl (some z) ∧ isLongR (M 30 0 3) (M 31 0) (oMd M) z ∧ m = thr M 0)) 19 [some (rV K 30 0), some (iV (mo2)), some (iV (row)), some (iV (seat))] [] (Ma) 0 0 := by
          intro n19
          induction n19 with
          | zero =>
            intro mo2 seat f1 f2 f3 hm19
            exact absurd hm19 (Nat.not_lt_zero _)
          | succ n19 ih19 =>
            intro mo2 seat f1 f2 f3 hm19
            refine aw_iload_n dX5_longestBlock_19 rfl rfl ?_
            refine aw_aload_n dX5_longestBlock_20 rfl rfl ?_
            refine aw_getr (g := 30) rfl rfl ly_X5 rfl (k := 4) dX5_longestBlock_21 (by decide) fl_X5_7 rfl ?_
            refine aw_iload_n dX5_longestBlock_24 rfl rfl ?_
            refine aw_iald (g := 31) (n := 12) rfl (by decide) dX5_longestBlock_25 (by decide) (by show 0 ≤ row ∧ row < (12 : Int); have n1 := hw.1; have n2 := hw.2.1; have n3 := hw.2.2 row (by omega) (by omega); omega) (fun r25 => ?_)
            refine aw_icmp_ge (tgt := 56) dX5_longestBlock_26 (by decide) (by have n1 := hw.1; have n2 := hw.2.1; have n3 := hw.2.2 row (by omega) (by omega); omega) (by have n1 := hw.1; have n2 := hw.2.1; have n3 := hw.2.2 row (by omega) (by omega); omega) (fun h26 => ?_) (fun h26 => ?_)
            · refine aw_iinc (L2 := [some (rV K 30 0), some (iV (mo2)), some (iV (row + 1)), some (iV (seat))]) dX5_longestBlock_56 rfl (by decide) rfl ?_
              refine aw_goto (tgt := 9) dX5_longestBlock_59 (by decide) ?_
              refine aw_weak (L' := [some (rV K 30 0), some (iV (mo2)), some (iV (row + 1)), none]) ⟨Or.inr rfl, Or.inr rfl, Or.inr rfl, Or.inl rfl, trivial⟩ ?_
              exact ih9 (mo2) (row + 1) (by omega) (by exact lonP_r f2 (by have n1 := hw.1; have n2 := hw.2.1; have n3 := hw.2.2 row (by omega) (by omega); omega)) (by exact f3) (by omega)
            · refine aw_aload_n dX5_longestBlock_29 rfl rfl ?_
              refine aw_iload_n dX5_longestBlock_30 rfl rfl ?_
              refine aw_iload_n dX5_longestBlock_31 rfl rfl ?_
              refine aw_cVr (g := 30) (As := [iV (row), iV (seat)]) (rest := []) (c_X5_run hst Ma (row) (seat) (by have n1 := hw.1; have n2 := hw.2.1; have n3 := hw.2.2 row (by omega) (by omega); omega) (by have n1 := hw.1; have n2 := hw.2.1; have n3 := hw.2.2 row (by omega) (by omega); omega) (by exact hwa) (by omega) (by omega)) cv_X5_run dX5_longestBlock_32 ml_X5_85 rfl rfl rfl rfl rfl (Nat.le_of_ble_eq_true rfl) (by decide) rfl rfl (by decide) (fun z32 (h32 : runR (Ma 31 0 row) (oMd Ma row) seat z32) => ?_)
              have g32 := h32; rw [b31, om] at g32; have u1 := g32.1; have u2 := g32.2.1
              refine aw_iload_n dX5_longestBlock_35 rfl rfl ?_
              refine aw_icmp_le (tgt := 48) dX5_longestBlock_36 (by decide) (by have n1 := hw.1; have n2 := hw.2.1; have n3 := hw.2.2 row (by omega) (by omega); omega) (by have n1 := hw.1; have n2 := hw.2.1; have n3 := hw.2.2 row (by omega) (by omega); omega) (fun h36 => ?_) (fun h36 => ?_)
              · refine aw_iload_n dX5_longestBlock_48 rfl rfl ?_
                refine aw_istore_n (L2 := [some (rV K 30 0), some (iV (mo2)), some (iV (row)), some (iV (seat))]) dX5_longestBlock_49 rfl (by decide) rfl ?_
                refine aw_iinc (L2 := [some (rV K 30 0), some (iV (mo2)), some (iV (row)), some (iV (seat + 1))]) dX5_longestBlock_50 rfl (by decide) rfl ?_
                refine aw_goto (tgt := 19) dX5_longestBlock_53 (by decide) ?_
                exact ih19 (mo2) (seat + 1) (by have n1 := hw.1; have n2 := hw.2.1; have n3 := hw.2.2 row (by omega) (by omega); omega) (by first | (have q := lonP_s e1.1 f1.1 f2 g32; rw [if_neg (by omega)] at q; exact q) | (have q := lonP_s e1.1 f1.1 f2 g42; rw [if_pos (by omega)] at q; exact q)) (by first | exact f3 | (have q1 := g42.1; have q2 := g42.2.1; have n1 := hw.1; have n2 := hw.2.1; have n3 := hw.2.2 row (by omega) (by omega); omega)) (by have n1 := hw.1; have n2 := hw.2.1; have n3 := hw.2.2 row (by omega) (by omega); omega)
              · refine aw_aload_n dX5_longestBlock_39 rfl rfl ?_
                refine aw_iload_n dX5_longestBlock_40 rfl rfl ?_
                refine aw_iload_n dX5_longestBlock_41 rfl rfl ?_
                refine aw_cVr (g := 30) (As := [iV (row), iV (seat)]) (rest := []) (c_X5_run hst Ma (row) (seat) (by have n1 := hw.1; have n2 := hw.2.1; have n3 := hw.2.2 row (by omega) (by omega); omega) (by have n1 := hw.1; have n2 := hw.2.1; have n3 := hw.2.2 row (by omega) (by omega); omega) (by exact hwa) (by omega) (by omega)) cv_X5_run dX5_longestBlock_42 ml_X5_85 rfl rfl rfl rfl rfl (Nat.le_of_ble_eq_true rfl) (by decide) rfl rfl (by decide) (fun z42 (h42 : runR (Ma 31 0 row) (oMd Ma row) seat z42) => ?_)
                have g42 := h42; rw [b31, om] at g42; have zz : z42 = z32 := (by have p1 := (runR_le g32 g42.1).mpr ⟨g42.2.1, g42.2.2.1⟩; have p2 := (runR_le g42 g32.1).mpr ⟨g32.2.1, g32.2.2.1⟩; omega)
                refine aw_goto (tgt := 49) dX5_longestBlock_45 (by decide) ?_
                refine aw_istore_n (L2 := [some (rV K 30 0), some (iV (z42)), some (iV (row)), some (iV (seat))]) dX5_longestBlock_49 rfl (by decide) rfl ?_
                refine aw_iinc (L2 := [some (rV K 30 0), some (iV (z42)), some (iV (row)), some (iV (seat + 1))]) dX5_longestBlock_50 rfl (by decide) rfl ?_
                refine aw_goto (tgt := 19) dX5_longestBlock_53 (by decide) ?_
                exact ih19 (z42) (seat + 1) (by have n1 := hw.1; have n2 := hw.2.1; have n3 := hw.2.2 row (by omega) (by omega); omega) (by first | (have q := lonP_s e1.1 f1.1 f2 g32; rw [if_neg (by omega)] at q; exact q) | (have q := lonP_s e1.1 f1.1 f2 g42; rw [if_pos (by omega)] at q; exact q)) (by first | exact f3 | (have q1 := g42.1; have q2 := g42.2.1; have n1 := hw.1; have n2 := hw.2.1; have n3 := hw.2.2 row (by omega) (by omega); omega)) (by have n1 := hw.1; have n2 := hw.2.1; have n3 := hw.2.2 row (by omega) (by omega); omega)
        exact lp19 (((M 31 0 row - 0).toNat) + 1) (most) (0) (by have n1 := hw.1; have n2 := hw.2.1; have n3 := hw.2.2 row (by omega) (by omega); omega) (by exact e2) (by exact e3) (Nat.lt_succ_self _)
  exact lp9 (((M 30 0 3 - 0).toNat) + 1) (0) (0) (by exact ⟨Int.le_refl 0, hw.1⟩) (by exact lonP_0 _ _) (by omega) (Nat.lt_succ_self _)
set_option maxHeartbeats 4000000 in
set_option maxRecDepth 20000 in
theorem c_X5_firstIn {K : WPar} {l : Launch} (hst : l.stackTraces = false) (M : Mem) (row : Int) (seats : Int) (ti : Int) (r_row : inR row) (r_seats : inR seats) (r_ti : inR ti) (hw : HWm M) (v_row : 0 ≤ row ∧ row < M 30 0 3) (v_se : 1 ≤ seats ∧ seats ≤ 20) : CT K l iX5_firstIn [rV K 30 0, iV (row), iV (seats), iV (ti)] M (rR (fun z => isBest (cB (M 31 0) (oMd M) seats (ti = 0) row) (vBR (M 32 0) (M 31 0) seats row) z) (M)) := by
  refine aw_met [some (rV K 30 0), some (iV (row)), some (iV (seats)), some (iV (ti)), none, none] hst (by decide) rfl (Nat.le_of_ble_eq_true rfl) rfl rfl (lcat rfl) ?_
  refine aw_rng (fun hM => ?_)
  refine aw_iconst dX5_firstIn_0 ?_
  refine aw_istore (L2 := [some (rV K 30 0), some (iV (row)), some (iV (seats)), some (iV (ti)), some (iV (-1)), none]) dX5_firstIn_1 (by decide) rfl ?_
  refine aw_iconst dX5_firstIn_3 ?_
  refine aw_istore (L2 := [some (rV K 30 0), some (iV (row)), some (iV (seats)), some (iV (ti)), some (iV (-1)), some (iV 0)]) dX5_firstIn_4 (by decide) rfl ?_
  have lp6 : ∀ (n6 : Nat) (fnd first : Int), (0 ≤ first ∧ first ≤ 21) → (isBest (fun g => g < first ∧ cB (M 31 0) (oMd M) seats (ti = 0) row g) (vBR (M 32 0) (M 31 0) seats row) fnd) → (fnd = -1 ∨ (0 ≤ fnd ∧ fnd + seats ≤ M 31 0 row)) → (((22 : Int) - first).toNat) < n6 → AW K l iX5_firstIn (ZM K iX5_firstIn (rR (fun z => isBest (cB (M 31 0) (oMd M) seats (ti = 0) row) (vBR (M 32 0) (M 31 0) seats row) z) (M))) 6 [some (rV K 30 0), some (iV (row)), some (iV (seats)), some (iV (ti)), some (iV (fnd)), some (iV (first))] [] (M) 0 0 := by
    intro n6
    induction n6 with
    | zero =>
      intro fnd first e1 e2 e3 hm6
      exact absurd hm6 (Nat.not_lt_zero _)
    | succ n6 ih6 =>
      intro fnd first e1 e2 e3 hm6
      refine aw_iload dX5_firstIn_6 rfl ?_
      refine aw_iload_n dX5_firstIn_8 rfl rfl ?_
      refine aw_iadd dX5_firstIn_9 ?_
      refine aw_aload_n dX5_firstIn_10 rfl rfl ?_
      refine aw_getr (g := 30) rfl rfl ly_X5 rfl (k := 4) dX5_firstIn_11 (by decide) fl_X5_7 rfl ?_
      refine aw_iload_n dX5_firstIn_14 rfl rfl ?_
      refine aw_iald (g := 31) (n := 12) rfl (by decide) dX5_firstIn_15 (by decide) (by show 0 ≤ row ∧ row < (12 : Int); have n1 := hw.1; have n2 := hw.2.1; have n3 := hw.2.2 row v_row.1 v_row.2; omega) (fun r15 => ?_)
      refine aw_icmp_gt (tgt := 84) dX5_firstIn_16 (by decide) (by have n1 := hw.1; have n2 := hw.2.1; have n3 := hw.2.2 row v_row.1 v_row.2; omega) (by have n1 := hw.1; have n2 := hw.2.1; have n3 := hw.2.2 row v_row.1 v_row.2; omega) (fun h16 => ?_) (fun h16 => ?_)
      · refine aw_iload dX5_firstIn_84 rfl ?_
        exact aw_iret dX5_firstIn_86 rfl rfl (by decide) (by decide) ⟨fnd, rfl, (by exact isBest_all e2 (fun g q => by have q1 := q.1; have n1 := hw.1; have n2 := hw.2.1; have n3 := hw.2.2 row v_row.1 v_row.2; omega)), (by rfl)⟩
      · refine aw_aload_n dX5_firstIn_19 rfl rfl ?_
        refine aw_iload_n dX5_firstIn_20 rfl rfl ?_
        refine aw_iload dX5_firstIn_21 rfl ?_
        refine aw_cVr (g := 30) (As := [iV (row), iV (first)]) (rest := []) (c_X5_run hst M (row) (first) (by have n1 := hw.1; have n2 := hw.2.1; have n3 := hw.2.2 row v_row.1 v_row.2; omega) (by have n1 := hw.1; have n2 := hw.2.1; have n3 := hw.2.2 row v_row.1 v_row.2; omega) (by have n1 := hw.1; have n2 := hw.2.1; have n3 := hw.2.2 row v_row.1 v_row.2; omega) (by have n1 := hw.1; have n2 := hw.2.1; have n3 := hw.2.2 row v_row.1 v_row.2; omega) (by have n1 := hw.1; have n2 := hw.2.1; have n3 := hw.2.2 row v_row.1 v_row.2; omega)) cv_X5_run dX5_firstIn_23 ml_X5_85 rfl rfl rfl rfl rfl (Nat.le_of_ble_eq_true rfl) (by decide) rfl rfl (by decide) (fun z23 (h23 : runR (M 31 0 row) (oMd M row) first z23) => ?_)
        refine aw_iload_n dX5_firstIn_26 rfl rfl ?_
        refine aw_icmp_lt (tgt := 78) dX5_firstIn_27 (by decide) (by have u1 := h23.1; have u2 := h23.2.1; have n1 := hw.1; have n2 := hw.2.1; have n3 := hw.2.2 row v_row.1 v_row.2; omega) (by have n1 := hw.1; have n2 := hw.2.1; have n3 := hw.2.2 row v_row.1 v_row.2; omega) (fun h27 => ?_) (fun h27 => ?_)
        · refine aw_iinc (L2 := [some (rV K 30 0), some (iV (row)), some (iV (seats)), some (iV (ti)), some (iV (fnd)), some (iV (first + 1))]) dX5_firstIn_78 rfl (by decide) rfl ?_
          refine aw_goto (tgt := 6) dX5_firstIn_81 (by decide) ?_
          exact ih6 (fnd) (first + 1) (by have n1 := hw.1; have n2 := hw.2.1; have n3 := hw.2.2 row v_row.1 v_row.2; omega) (by first | exact isBest_skip e2 (fun q => absurd ((runR_le h23 (by omega)).mpr ⟨q.1, q.2.1⟩) (by omega)) | exact isBest_skip e2 (fun q => q.2.2.elim (fun a => h31 a) (fun a => a h39)) | exact isBest_take e2 e1.1 ⟨rl.1, rl.2, Or.inl h31⟩ (Or.inl (by rcases e3 with a | a; exact a; omega)) | exact isBest_take e2 e1.1 ⟨rl.1, rl.2, Or.inr h39⟩ (Or.inl (by rcases e3 with a | a; exact a; omega)) | exact isBest_keep e2 (by omega) h66 | exact isBest_take e2 e1.1 ⟨rl.1, rl.2, Or.inl h31⟩ (Or.inr (Int.not_le.mp h66)) | exact isBest_take e2 e1.1 ⟨rl.1, rl.2, Or.inr h39⟩ (Or.inr (Int.not_le.mp h66))) (by first | exact e3 | exact Or.inr ⟨e1.1, rl.1⟩) (by have n1 := hw.1; have n2 := hw.2.1; have n3 := hw.2.2 row v_row.1 v_row.2; omega)
        · have rl := (runR_le h23 (show 0 ≤ seats by omega)).mp (by omega)
          refine aw_iload_n dX5_firstIn_30 rfl rfl ?_
          refine aw_if_eq (tgt := 45) dX5_firstIn_31 (by decide) (by have n1 := hw.1; have n2 := hw.2.1; have n3 := hw.2.2 row v_row.1 v_row.2; omega) (fun h31 => ?_) (fun h31 => ?_)
          · refine aw_iload dX5_firstIn_45 rfl ?_
            refine aw_if_lt (tgt := 69) dX5_firstIn_47 (by decide) (by have n1 := hw.1; have n2 := hw.2.1; have n3 := hw.2.2 row v_row.1 v_row.2; omega) (fun h47 => ?_) (fun h47 => ?_)
            · refine aw_iload dX5_firstIn_69 rfl ?_
              refine aw_goto (tgt := 76) dX5_firstIn_71 (by decide) ?_
              refine aw_istore (L2 := [some (rV K 30 0), some (iV (row)), some (iV (seats)), some (iV (ti)), some (iV (first)), some (iV (first))]) dX5_firstIn_76 (by decide) rfl ?_
              refine aw_iinc (L2 := [some (rV K 30 0), some (iV (row)), some (iV (seats)), some (iV (ti)), some (iV (first)), some (iV (first + 1))]) dX5_firstIn_78 rfl (by decide) rfl ?_
              refine aw_goto (tgt := 6) dX5_firstIn_81 (by decide) ?_
              exact ih6 (first) (first + 1) (by have n1 := hw.1; have n2 := hw.2.1; have n3 := hw.2.2 row v_row.1 v_row.2; omega) (by first | exact isBest_skip e2 (fun q => absurd ((runR_le h23 (by omega)).mpr ⟨q.1, q.2.1⟩) (by omega)) | exact isBest_skip e2 (fun q => q.2.2.elim (fun a => h31 a) (fun a => a h39)) | exact isBest_take e2 e1.1 ⟨rl.1, rl.2, Or.inl h31⟩ (Or.inl (by rcases e3 with a | a; exact a; omega)) | exact isBest_take e2 e1.1 ⟨rl.1, rl.2, Or.inr h39⟩ (Or.inl (by rcases e3 with a | a; exact a; omega)) | exact isBest_keep e2 (by omega) h66 | exact isBest_take e2 e1.1 ⟨rl.1, rl.2, Or.inl h31⟩ (Or.inr (Int.not_le.mp h66)) | exact isBest_take e2 e1.1 ⟨rl.1, rl.2, Or.inr h39⟩ (Or.inr (Int.not_le.mp h66))) (by first | exact e3 | exact Or.inr ⟨e1.1, rl.1⟩) (by have n1 := hw.1; have n2 := hw.2.1; have n3 := hw.2.2 row v_row.1 v_row.2; omega)
            · refine aw_aload_n dX5_firstIn_50 rfl rfl ?_
              refine aw_iload_n dX5_firstIn_51 rfl rfl ?_
              refine aw_iload dX5_firstIn_52 rfl ?_
              refine aw_iload_n dX5_firstIn_54 rfl rfl ?_
              refine aw_cVi (g := 30) (As := [iV (row), iV (first), iV (seats)]) (rest := []) (c_X5_sum hst M (row) (first) (seats) (by have n1 := hw.1; have n2 := hw.2.1; have n3 := hw.2.2 row v_row.1 v_row.2; omega) (by have n1 := hw.1; have n2 := hw.2.1; have n3 := hw.2.2 row v_row.1 v_row.2; omega) (by have n1 := hw.1; have n2 := hw.2.1; have n3 := hw.2.2 row v_row.1 v_row.2; omega) (by have n1 := hw.1; have n2 := hw.2.1; have n3 := hw.2.2 row v_row.1 v_row.2; omega) (by have n1 := hw.1; have n2 := hw.2.1; have n3 := hw.2.2 row v_row.1 v_row.2; omega) (by have n1 := hw.1; have n2 := hw.2.1; have n3 := hw.2.2 row v_row.1 v_row.2; omega)) cv_X5_sum dX5_firstIn_55 ml_X5_91 rfl rfl rfl rfl rfl (Nat.le_of_ble_eq_true rfl) (by decide) rfl rfl (by decide) ?_
              refine aw_aload_n dX5_firstIn_58 rfl rfl ?_
              refine aw_iload_n dX5_firstIn_59 rfl rfl ?_
              refine aw_iload dX5_firstIn_60 rfl ?_
              refine aw_iload_n dX5_firstIn_62 rfl rfl ?_
              refine aw_cVi (g := 30) (As := [iV (row), iV (fnd), iV (seats)]) (rest := [iV (vB (M 32 0 row) (M 31 0 row) first seats)]) (c_X5_sum hst M (row) (fnd) (seats) (by have n1 := hw.1; have n2 := hw.2.1; have n3 := hw.2.2 row v_row.1 v_row.2; omega) (by have n1 := hw.1; have n2 := hw.2.1; have n3 := hw.2.2 row v_row.1 v_row.2; omega) (by have n1 := hw.1; have n2 := hw.2.1; have n3 := hw.2.2 row v_row.1 v_row.2; omega) (by have n1 := hw.1; have n2 := hw.2.1; have n3 := hw.2.2 row v_row.1 v_row.2; omega) (by have n1 := hw.1; have n2 := hw.2.1; have n3 := hw.2.2 row v_row.1 v_row.2; omega) (by have n1 := hw.1; have n2 := hw.2.1; have n3 := hw.2.2 row v_row.1 v_row.2; omega)) cv_X5_sum dX5_firstIn_63 ml_X5_91 rfl rfl rfl rfl rfl (Nat.le_of_ble_eq_true rfl) (by decide) rfl rfl (by decide) ?_
              refine aw_icmp_le (tgt := 74) dX5_firstIn_66 (by decide) (by have b := vB_bd (sc := M 32 0 row) (w := M 31 0 row) (f := first) (k := seats) (by have n1 := hw.1; have n2 := hw.2.1; have n3 := hw.2.2 row v_row.1 v_row.2; omega) (by have n1 := hw.1; have n2 := hw.2.1; have n3 := hw.2.2 row v_row.1 v_row.2; omega) (by have n1 := hw.1; have n2 := hw.2.1; have n3 := hw.2.2 row v_row.1 v_row.2; omega) (by omega) (by omega) (by omega); omega) (by have b := vB_bd (sc := M 32 0 row) (w := M 31 0 row) (f := fnd) (k := seats) (by have n1 := hw.1; have n2 := hw.2.1; have n3 := hw.2.2 row v_row.1 v_row.2; omega) (by have n1 := hw.1; have n2 := hw.2.1; have n3 := hw.2.2 row v_row.1 v_row.2; omega) (by have n1 := hw.1; have n2 := hw.2.1; have n3 := hw.2.2 row v_row.1 v_row.2; omega) (by omega) (by omega) (by omega); omega) (fun h66 => ?_) (fun h66 => ?_)
              · refine aw_iload dX5_firstIn_74 rfl ?_
                refine aw_istore (L2 := [some (rV K 30 0), some (iV (row)), some (iV (seats)), some (iV (ti)), some (iV (fnd)), some (iV (first))]) dX5_firstIn_76 (by decide) rfl ?_
                refine aw_iinc (L2 := [some (rV K 30 0), some (iV (row)), some (iV (seats)), some (iV (ti)), some (iV (fnd)), some (iV (first + 1))]) dX5_firstIn_78 rfl (by decide) rfl ?_
                refine aw_goto (tgt := 6) dX5_firstIn_81 (by decide) ?_
                exact ih6 (fnd) (first + 1) (by have n1 := hw.1; have n2 := hw.2.1; have n3 := hw.2.2 row v_row.1 v_row.2; omega) (by first | exact isBest_skip e2 (fun q => absurd ((runR_le h23 (by omega)).mpr ⟨q.1, q.2.1⟩) (by omega)) | exact isBest_skip e2 (fun q => q.2.2.elim (fun a => h31 a) (fun a => a h39)) | exact isBest_take e2 e1.1 ⟨rl.1, rl.2, Or.inl h31⟩ (Or.inl (by rcases e3 with a | a; exact a; omega)) | exact isBest_take e2 e1.1 ⟨rl.1, rl.2, Or.inr h39⟩ (Or.inl (by rcases e3 with a | a; exact a; omega)) | exact isBest_keep e2 (by omega) h66 | exact isBest_take e2 e1.1 ⟨rl.1, rl.2, Or.inl h31⟩ (Or.inr (Int.not_le.mp h66)) | exact isBest_take e2 e1.1 ⟨rl.1, rl.2, Or.inr h39⟩ (Or.inr (Int.not_le.mp h66))) (by first | exact e3 | exact Or.inr ⟨e1.1, rl.1⟩) (by have n1 := hw.1; have n2 := hw.2.1; have n3 := hw.2.2 row v_row.1 v_row.2; omega)
              · refine aw_iload dX5_firstIn_69 rfl ?_
                refine aw_goto (tgt := 76) dX5_firstIn_71 (by decide) ?_
                refine aw_istore (L2 := [some (rV K 30 0), some (iV (row)), some (iV (seats)), some (iV (ti)), some (iV (first)), some (iV (first))]) dX5_firstIn_76 (by decide) rfl ?_
                refine aw_iinc (L2 := [some (rV K 30 0), some (iV (row)), some (iV (seats)), some (iV (ti)), some (iV (first)), some (iV (first + 1))]) dX5_firstIn_78 rfl (by decide) rfl ?_
                refine aw_goto (tgt := 6) dX5_firstIn_81 (by decide) ?_
                exact ih6 (first) (first + 1) (by have n1 := hw.1; have n2 := hw.2.1; have n3 := hw.2.2 row v_row.1 v_row.2; omega) (by first | exact isBest_skip e2 (fun q => absurd ((runR_le h23 (by omega)).mpr ⟨q.1, q.2.1⟩) (by omega)) | exact isBest_skip e2 (fun q => q.2.2.elim (fun a => h31 a) (fun a => a h39)) | exact isBest_take e2 e1.1 ⟨rl.1, rl.2, Or.inl h31⟩ (Or.inl (by rcases e3 with a | a; exact a; omega)) | exact isBest_take e2 e1.1 ⟨rl.1, rl.2, Or.inr h39⟩ (Or.inl (by rcases e3 with a | a; exact a; omega)) | exact isBest_keep e2 (by omega) h66 | exact isBest_take e2 e1.1 ⟨rl.1, rl.2, Or.inl h31⟩ (Or.inr (Int.not_le.mp h66)) | exact isBest_take e2 e1.1 ⟨rl.1, rl.2, Or.inr h39⟩ (Or.inr (Int.not_le.mp h66))) (by first | exact e3 | exact Or.inr ⟨e1.1, rl.1⟩) (by have n1 := hw.1; have n2 := hw.2.1; have n3 := hw.2.2 row v_row.1 v_row.2; omega)
          · refine aw_aload_n dX5_firstIn_34 rfl rfl ?_
            refine aw_iload_n dX5_firstIn_35 rfl rfl ?_
            refine aw_iload dX5_firstIn_36 rfl ?_
            refine aw_iload_n dX5_firstIn_38 rfl rfl ?_
            refine aw_cVb (g := 30) (As := [iV (row), iV (first), iV (seats)]) (rest := []) (c_X5_hasOrphan hst M (row) (first) (seats) (by have n1 := hw.1; have n2 := hw.2.1; have n3 := hw.2.2 row v_row.1 v_row.2; omega) (by have n1 := hw.1; have n2 := hw.2.1; have n3 := hw.2.2 row v_row.1 v_row.2; omega) (by have n1 := hw.1; have n2 := hw.2.1; have n3 := hw.2.2 row v_row.1 v_row.2; omega) (by have n1 := hw.1; have n2 := hw.2.1; have n3 := hw.2.2 row v_row.1 v_row.2; omega) (by have n1 := hw.1; have n2 := hw.2.1; have n3 := hw.2.2 row v_row.1 v_row.2; omega) (by have n1 := hw.1; have n2 := hw.2.1; have n3 := hw.2.2 row v_row.1 v_row.2; omega)) cv_X5_hasOrphan dX5_firstIn_39 ml_X5_88 rfl rfl rfl rfl rfl (Nat.le_of_ble_eq_true rfl) (by decide) rfl rfl (by decide) (fun h39 => ?_) (fun h39 => ?_)
            · refine aw_if_ne (tgt := 78) dX5_firstIn_42 (by decide) (by decide) (fun _ => ?_) (fun h => absurd h (by decide))
              refine aw_iinc (L2 := [some (rV K 30 0), some (iV (row)), some (iV (seats)), some (iV (ti)), some (iV (fnd)), some (iV (first + 1))]) dX5_firstIn_78 rfl (by decide) rfl ?_
              refine aw_goto (tgt := 6) dX5_firstIn_81 (by decide) ?_
              exact ih6 (fnd) (first + 1) (by have n1 := hw.1; have n2 := hw.2.1; have n3 := hw.2.2 row v_row.1 v_row.2; omega) (by first | exact isBest_skip e2 (fun q => absurd ((runR_le h23 (by omega)).mpr ⟨q.1, q.2.1⟩) (by omega)) | exact isBest_skip e2 (fun q => q.2.2.elim (fun a => h31 a) (fun a => a h39)) | exact isBest_take e2 e1.1 ⟨rl.1, rl.2, Or.inl h31⟩ (Or.inl (by rcases e3 with a | a; exact a; omega)) | exact isBest_take e2 e1.1 ⟨rl.1, rl.2, Or.inr h39⟩ (Or.inl (by rcases e3 with a | a; exact a; omega)) | exact isBest_keep e2 (by omega) h66 | exact isBest_take e2 e1.1 ⟨rl.1, rl.2, Or.inl h31⟩ (Or.inr (Int.not_le.mp h66)) | exact isBest_take e2 e1.1 ⟨rl.1, rl.2, Or.inr h39⟩ (Or.inr (Int.not_le.mp h66))) (by first | exact e3 | exact Or.inr ⟨e1.1, rl.1⟩) (by have n1 := hw.1; have n2 := hw.2.1; have n3 := hw.2.2 row v_row.1 v_row.2; omega)
            · refine aw_if_ne (tgt := 78) dX5_firstIn_42 (by decide) (by decide) (fun h => absurd h (by decide)) (fun _ => ?_)
              refine aw_iload dX5_firstIn_45 rfl ?_
              refine aw_if_lt (tgt := 69) dX5_firstIn_47 (by decide) (by have n1 := hw.1; have n2 := hw.2.1; have n3 := hw.2.2 row v_row.1 v_row.2; omega) (fun h47 => ?_) (fun h47 => ?_)
              · refine aw_iload dX5_firstIn_69 rfl ?_
                refine aw_goto (tgt := 76) dX5_firstIn_71 (by decide) ?_
                refine aw_istore (L2 := [some (rV K 30 0), some (iV (row)), some (iV (seats)), some (iV (ti)), some (iV (first)), some (iV (first))]) dX5_firstIn_76 (by decide) rfl ?_
                refine aw_iinc (L2 := [some (rV K 30 0), some (iV (row)), some (iV (seats)), some (iV (ti)), some (iV (first)), some (iV (first + 1))]) dX5_firstIn_78 rfl (by decide) rfl ?_
                refine aw_goto (tgt := 6) dX5_firstIn_81 (by decide) ?_
                exact ih6 (first) (first + 1) (by have n1 := hw.1; have n2 := hw.2.1; have n3 := hw.2.2 row v_row.1 v_row.2; omega) (by first | exact isBest_skip e2 (fun q => absurd ((runR_le h23 (by omega)).mpr ⟨q.1, q.2.1⟩) (by omega)) | exact isBest_skip e2 (fun q => q.2.2.elim (fun a => h31 a) (fun a => a h39)) | exact isBest_take e2 e1.1 ⟨rl.1, rl.2, Or.inl h31⟩ (Or.inl (by rcases e3 with a | a; exact a; omega)) | exact isBest_take e2 e1.1 ⟨rl.1, rl.2, Or.inr h39⟩ (Or.inl (by rcases e3 with a | a; exact a; omega)) | exact isBest_keep e2 (by omega) h66 | exact isBest_take e2 e1.1 ⟨rl.1, rl.2, Or.inl h31⟩ (Or.inr (Int.not_le.mp h66)) | exact isBest_take e2 e1.1 ⟨rl.1, rl.2, Or.inr h39⟩ (Or.inr (Int.not_le.mp h66))) (by first | exact e3 | exact Or.inr ⟨e1.1, rl.1⟩) (by have n1 := hw.1; have n2 := hw.2.1; have n3 := hw.2.2 row v_row.1 v_row.2; omega)
              · refine aw_aload_n dX5_firstIn_50 rfl rfl ?_
                refine aw_iload_n dX5_firstIn_51 rfl rfl ?_
                refine aw_iload dX5_firstIn_52 rfl ?_
                refine aw_iload_n dX5_firstIn_54 rfl rfl ?_
                refine aw_cVi (g := 30) (As := [iV (row), iV (first), iV (seats)]) (rest := []) (c_X5_sum hst M (row) (first) (seats) (by have n1 := hw.1; have n2 := hw.2.1; have n3 := hw.2.2 row v_row.1 v_row.2; omega) (by have n1 := hw.1; have n2 := hw.2.1; have n3 := hw.2.2 row v_row.1 v_row.2; omega) (by have n1 := hw.1; have n2 := hw.2.1; have n3 := hw.2.2 row v_row.1 v_row.2; omega) (by have n1 := hw.1; have n2 := hw.2.1; have n3 := hw.2.2 row v_row.1 v_row.2; omega) (by have n1 := hw.1; have n2 := hw.2.1; have n3 := hw.2.2 row v_row.1 v_row.2; omega) (by have n1 := hw.1; have n2 := hw.2.1; have n3 := hw.2.2 row v_row.1 v_row.2; omega)) cv_X5_sum dX5_firstIn_55 ml_X5_91 rfl rfl rfl rfl rfl (Nat.le_of_ble_eq_true rfl) (by decide) rfl rfl (by decide) ?_
                refine aw_aload_n dX5_firstIn_58 rfl rfl ?_
                refine aw_iload_n dX5_firstIn_59 rfl rfl ?_
                refine aw_iload dX5_firstIn_60 rfl ?_
                refine aw_iload_n dX5_firstIn_62 rfl rfl ?_
                refine aw_cVi (g := 30) (As := [iV (row), iV (fnd), iV (seats)]) (rest := [iV (vB (M 32 0 row) (M 31 0 row) first seats)]) (c_X5_sum hst M (row) (fnd) (seats) (by have n1 := hw.1; have n2 := hw.2.1; have n3 := hw.2.2 row v_row.1 v_row.2; omega) (by have n1 := hw.1; have n2 := hw.2.1; have n3 := hw.2.2 row v_row.1 v_row.2; omega) (by have n1 := hw.1; have n2 := hw.2.1; have n3 := hw.2.2 row v_row.1 v_row.2; omega) (by have n1 := hw.1; have n2 := hw.2.1; have n3 := hw.2.2 row v_row.1 v_row.2; omega) (by have n1 := hw.1; have n2 := hw.2.1; have n3 := hw.2.2 row v_row.1 v_row.2; omega) (by have n1 := hw.1; have n2 := hw.2.1; have n3 := hw.2.2 row v_row.1 v_row.2; omega)) cv_X5_sum dX5_firstIn_63 ml_X5_91 rfl rfl rfl rfl rfl (Nat.le_of_ble_eq_true rfl) (by decide) rfl rfl (by decide) ?_
                refine aw_icmp_le (tgt := 74) dX5_firstIn_66 (by decide) (by have b := vB_bd (sc := M 32 0 row) (w := M 31 0 row) (f := first) (k := seats) (by have n1 := hw.1; have n2 := hw.2.1; have n3 := hw.2.2 row v_row.1 v_row.2; omega) (by have n1 := hw.1; have n2 := hw.2.1; have n3 := hw.2.2 row v_row.1 v_row.2; omega) (by have n1 := hw.1; have n2 := hw.2.1; have n3 := hw.2.2 row v_row.1 v_row.2; omega) (by omega) (by omega) (by omega); omega) (by have b := vB_bd (sc := M 32 0 row) (w := M 31 0 row) (f := fnd) (k := seats) (by have n1 := hw.1; have n2 := hw.2.1; have n3 := hw.2.2 row v_row.1 v_row.2; omega) (by have n1 := hw.1; have n2 := hw.2.1; have n3 := hw.2.2 row v_row.1 v_row.2; omega) (by have n1 := hw.1; have n2 := hw.2.1; have n3 := hw.2.2 row v_row.1 v_row.2; omega) (by omega) (by omega) (by omega); omega) (fun h66 => ?_) (fun h66 => ?_)
                · refine aw_iload dX5_firstIn_74 rfl ?_
                  refine aw_istore (L2 := [some (rV K 30 0), some (iV (row)), some (iV (seats)), some (iV (ti)), some (iV (fnd)), some (iV (first))]) dX5_firstIn_76 (by decide) rfl ?_
                  refine aw_iinc (L2 := [some (rV K 30 0), some (iV (row)), some (iV (seats)), some (iV (ti)), some (iV (fnd)), some (iV (first + 1))]) dX5_firstIn_78 rfl (by decide) rfl ?_
                  refine aw_goto (tgt := 6) dX5_firstIn_81 (by decide) ?_
                  exact ih6 (fnd) (first + 1) (by have n1 := hw.1; have n2 := hw.2.1; have n3 := hw.2.2 row v_row.1 v_row.2; omega) (by first | exact isBest_skip e2 (fun q => absurd ((runR_le h23 (by omega)).mpr ⟨q.1, q.2.1⟩) (by omega)) | exact isBest_skip e2 (fun q => q.2.2.elim (fun a => h31 a) (fun a => a h39)) | exact isBest_take e2 e1.1 ⟨rl.1, rl.2, Or.inl h31⟩ (Or.inl (by rcases e3 with a | a; exact a; omega)) | exact isBest_take e2 e1.1 ⟨rl.1, rl.2, Or.inr h39⟩ (Or.inl (by rcases e3 with a | a; exact a; omega)) | exact isBest_keep e2 (by omega) h66 | exact isBest_take e2 e1.1 ⟨rl.1, rl.2, Or.inl h31⟩ (Or.inr (Int.not_le.mp h66)) | exact isBest_take e2 e1.1 ⟨rl.1, rl.2, Or.inr h39⟩ (Or.inr (Int.not_le.mp h66))) (by first | exact e3 | exact Or.inr ⟨e1.1, rl.1⟩) (by have n1 := hw.1; have n2 := hw.2.1; have n3 := hw.2.2 row v_row.1 v_row.2; omega)
                · refine aw_iload dX5_firstIn_69 rfl ?_
                  refine aw_goto (tgt := 76) dX5_firstIn_71 (by decide) ?_
                  refine aw_istore (L2 := [some (rV K 30 0), some (iV (row)), some (iV (seats)), some (iV (ti)), some (iV (first)), some (iV (first))]) dX5_firstIn_76 (by decide) rfl ?_
                  refine aw_iinc (L2 := [some (rV K 30 0), some (iV (row)), some (iV (seats)), some (iV (ti)), some (iV (first)), some (iV (first + 1))]) dX5_firstIn_78 rfl (by decide) rfl ?_
                  refine aw_goto (tgt := 6) dX5_firstIn_81 (by decide) ?_
                  exact ih6 (first) (first + 1) (by have n1 := hw.1; have n2 := hw.2.1; have n3 := hw.2.2 row v_row.1 v_row.2; omega) (by first | exact isBest_skip e2 (fun q => absurd ((runR_le h23 (by omega)).mpr ⟨q.1, q.2.1⟩) (by omega)) | exact isBest_skip e2 (fun q => q.2.2.elim (fun a => h31 a) (fun a => a h39)) | exact isBest_take e2 e1.1 ⟨rl.1, rl.2, Or.inl h31⟩ (Or.inl (by rcases e3 with a | a; exact a; omega)) | exact isBest_take e2 e1.1 ⟨rl.1, rl.2, Or.inr h39⟩ (Or.inl (by rcases e3 with a | a; exact a; omega)) | exact isBest_keep e2 (by omega) h66 | exact isBest_take e2 e1.1 ⟨rl.1, rl.2, Or.inl h31⟩ (Or.inr (Int.not_le.mp h66)) | exact isBest_take e2 e1.1 ⟨rl.1, rl.2, Or.inr h39⟩ (Or.inr (Int.not_le.mp h66))) (by first | exact e3 | exact Or.inr ⟨e1.1, rl.1⟩) (by have n1 := hw.1; have n2 := hw.2.1; have n3 := hw.2.2 row v_row.1 v_row.2; omega)
  exact lp6 ((((22 : Int) - 0).toNat) + 1) (-1) (0) (by have n1 := hw.1; have n2 := hw.2.1; have n3 := hw.2.2 row v_row.1 v_row.2; omega) (by exact isBest_none) (by omega) (Nat.lt_succ_self _)
set_option maxHeartbeats 4000000 in
set_option maxRecDepth 20000 in
theorem c_X5_bestOf {K : WPar} {l : Launch} (hst : l.stackTraces = false) (M : Mem) (seats : Int) (ti : Int) (r_seats : inR seats) (r_ti : inR ti) (hw : HWm M) (v_se : 1 ≤ seats ∧ seats ≤ 20) : CT K l iX5_bestOf [rV K 30 0, iV (seats), iV (ti)] M (rR (fun z => ∃ bv, isBestRV (M 30 0 3) (cB (M 31 0) (oMd M) seats (ti = 0)) (vBR (M 32 0) (M 31 0) seats) z bv) (M)) := by
  refine aw_met [some (rV K 30 0), some (iV (seats)), some (iV (ti)), none, none, none, none, none] hst (by decide) rfl (Nat.le_of_ble_eq_true rfl) rfl rfl (lcat rfl) ?_
  refine aw_rng (fun hM => ?_)
  refine aw_iconst dX5_bestOf_0 ?_
  refine aw_istore_n (L2 := [some (rV K 30 0), some (iV (seats)), some (iV (ti)), some (iV (-1)), none, none, none, none]) dX5_bestOf_1 rfl (by decide) rfl ?_
  refine aw_iconst dX5_bestOf_2 ?_
  refine aw_istore (L2 := [some (rV K 30 0), some (iV (seats)), some (iV (ti)), some (iV (-1)), some (iV 0), none, none, none]) dX5_bestOf_3 (by decide) rfl ?_
  refine aw_iconst dX5_bestOf_5 ?_
  refine aw_istore (L2 := [some (rV K 30 0), some (iV (seats)), some (iV (ti)), some (iV (-1)), some (iV 0), some (iV 0), none, none]) dX5_bestOf_6 (by decide) rfl ?_
  have lp8 : ∀ (n8 : Nat) (fnd bv row : Int), (0 ≤ row ∧ row ≤ M 30 0 3) → (isBestRV row (cB (M 31 0) (oMd M) seats (ti = 0)) (vBR (M 32 0) (M 31 0) seats) fnd bv) → (-1 ≤ fnd ∧ fnd ≤ 2000 ∧ -400 ≤ bv ∧ bv ≤ 20000) → ((M 30 0 3 - row).toNat) < n8 → AW K l iX5_bestOf (ZM K iX5_bestOf (rR (fun z => ∃ bv, isBestRV (M 30 0 3) (cB (M 31 0) (oMd M) seats (ti = 0)) (vBR (M 32 0) (M 31 0) seats) z bv) (M))) 8 [some (rV K 30 0), some (iV (seats)), some (iV (ti)), some (iV (fnd)), some (iV (bv)), some (iV (row)), none, none] [] (M) 0 0 := by
    intro n8
    induction n8 with
    | zero =>
      intro fnd bv row e1 e2 e4 hm8
      exact absurd hm8 (Nat.not_lt_zero _)
    | succ n8 ih8 =>
      intro fnd bv row e1 e2 e4 hm8
      refine aw_iload dX5_bestOf_8 rfl ?_
      refine aw_aload_n dX5_bestOf_10 rfl rfl ?_
      refine aw_geti (g := 30) rfl rfl ly_X5 rfl (k := 3) 3 rfl dX5_bestOf_11 (by decide) fl_X5_60 rfl (fun r11 => ?_)
      refine aw_icmp_ge (tgt := 82) dX5_bestOf_14 (by decide) (by have n1 := hw.1; have n2 := hw.2.1; omega) (by have n1 := hw.1; have n2 := hw.2.1; omega) (fun h14 => ?_) (fun h14 => ?_)
      · refine aw_iload_n dX5_bestOf_82 rfl rfl ?_
        exact aw_iret dX5_bestOf_83 rfl rfl (by decide) (by decide) ⟨fnd, rfl, (by have q : row = M 30 0 3 := (by omega); rw [← q]; exact ⟨bv, e2⟩), (by rfl)⟩
      · refine aw_aload_n dX5_bestOf_17 rfl rfl ?_
        refine aw_iload dX5_bestOf_18 rfl ?_
        refine aw_iload_n dX5_bestOf_20 rfl rfl ?_
        refine aw_iload_n dX5_bestOf_21 rfl rfl ?_
        refine aw_cVr (g := 30) (As := [iV (row), iV (seats), iV (ti)]) (rest := []) (c_X5_firstIn hst M (row) (seats) (ti) (by have n1 := hw.1; have n2 := hw.2.1; have n3 := hw.2.2 row (by omega) (by omega); omega) (by have n1 := hw.1; have n2 := hw.2.1; have n3 := hw.2.2 row (by omega) (by omega); omega) (by have n1 := hw.1; have n2 := hw.2.1; have n3 := hw.2.2 row (by omega) (by omega); omega) (by have n1 := hw.1; have n2 := hw.2.1; have n3 := hw.2.2 row (by omega) (by omega); omega) (by have n1 := hw.1; have n2 := hw.2.1; have n3 := hw.2.2 row (by omega) (by omega); omega) (by have n1 := hw.1; have n2 := hw.2.1; have n3 := hw.2.2 row (by omega) (by omega); omega)) cv_X5_firstIn dX5_bestOf_22 ml_X5_95 rfl rfl rfl rfl rfl (Nat.le_of_ble_eq_true rfl) (by decide) rfl rfl (by decide) (fun z22 (h22 : isBest (cB (M 31 0) (oMd M) seats (ti = 0) row) (vBR (M 32 0) (M 31 0) seats row) z22) => ?_)
        have gc : z22 = -1 ∨ (0 ≤ z22 ∧ z22 + seats ≤ M 31 0 row) := (isBest_in h22).elim Or.inl (fun q => Or.inr ⟨q.1, q.2.1⟩); have n9 := hw.2.2 row e1.1 (by omega)
        refine aw_istore (L2 := [some (rV K 30 0), some (iV (seats)), some (iV (ti)), some (iV (fnd)), some (iV (bv)), some (iV (row)), some (iV (z22)), none]) dX5_bestOf_25 (by decide) rfl ?_
        refine aw_iload dX5_bestOf_27 rfl ?_
        refine aw_if_ge (tgt := 36) dX5_bestOf_29 (by decide) (by have n1 := hw.1; have n2 := hw.2.1; have n3 := hw.2.2 row (by omega) (by omega); omega) (fun h29 => ?_) (fun h29 => ?_)
        · have gd := vB_bd (sc := M 32 0 row) (w := M 31 0 row) (f := z22) (k := seats) (by omega) (by omega) (by omega) (by omega) (by omega) (by omega)
          refine aw_aload_n dX5_bestOf_36 rfl rfl ?_
          refine aw_iload dX5_bestOf_37 rfl ?_
          refine aw_iload dX5_bestOf_39 rfl ?_
          refine aw_iload_n dX5_bestOf_41 rfl rfl ?_
          refine aw_cVi (g := 30) (As := [iV (row), iV (z22), iV (seats)]) (rest := []) (c_X5_sum hst M (row) (z22) (seats) (by have n1 := hw.1; have n2 := hw.2.1; have n3 := hw.2.2 row (by omega) (by omega); omega) (by have n1 := hw.1; have n2 := hw.2.1; have n3 := hw.2.2 row (by omega) (by omega); omega) (by have n1 := hw.1; have n2 := hw.2.1; have n3 := hw.2.2 row (by omega) (by omega); omega) (by have n1 := hw.1; have n2 := hw.2.1; have n3 := hw.2.2 row (by omega) (by omega); omega) (by have n1 := hw.1; have n2 := hw.2.1; have n3 := hw.2.2 row (by omega) (by omega); omega) (by have n1 := hw.1; have n2 := hw.2.1; have n3 := hw.2.2 row (by omega) (by omega); omega)) cv_X5_sum dX5_bestOf_42 ml_X5_91 rfl rfl rfl rfl rfl (Nat.le_of_ble_eq_true rfl) (by decide) rfl rfl (by decide) ?_
          refine aw_istore (L2 := [some (rV K 30 0), some (iV (seats)), some (iV (ti)), some (iV (fnd)), some (iV (bv)), some (iV (row)), some (iV (z22)), some (iV (vB (M 32 0 row) (M 31 0 row) z22 seats))]) dX5_bestOf_45 (by decide) rfl ?_
          refine aw_iload dX5_bestOf_47 rfl ?_
          refine aw_if_lt (tgt := 76) dX5_bestOf_49 (by decide) (by have n1 := hw.1; have n2 := hw.2.1; have n3 := hw.2.2 row (by omega) (by omega); omega) (fun h49 => ?_) (fun h49 => ?_)
          · refine aw_iinc (L2 := [some (rV K 30 0), some (iV (seats)), some (iV (ti)), some (iV (fnd)), some (iV (bv)), some (iV (row + 1)), some (iV (z22)), some (iV (vB (M 32 0 row) (M 31 0 row) z22 seats))]) dX5_bestOf_76 rfl (by decide) rfl ?_
            refine aw_goto (tgt := 8) dX5_bestOf_79 (by decide) ?_
            refine aw_weak (L' := [some (rV K 30 0), some (iV (seats)), some (iV (ti)), some (iV (fnd)), some (iV (bv)), some (iV (row + 1)), none, none]) ⟨Or.inr rfl, Or.inr rfl, Or.inr rfl, Or.inr rfl, Or.inr rfl, Or.inr rfl, Or.inl rfl, Or.inl rfl, trivial⟩ ?_
            exact ih8 (fnd) (bv) (row + 1) (by omega) (by first | (exfalso; omega) | exact isBestRV_none e2 ((show z22 = -1 by omega) ▸ h22) | exact isBestRV_take e2 e1.1 h22 (by omega) (Or.inl (by omega)) | exact isBestRV_keep e2 h22 (by omega) h60 | exact isBestRV_take e2 e1.1 h22 (by omega) (Or.inr (Int.not_le.mp h60))) (by first | exact e4 | (have n1 := hw.1; have n2 := hw.2.1; have n3 := hw.2.2 row (by omega) (by omega); omega)) (by omega)
          · refine aw_iload_n dX5_bestOf_52 rfl rfl ?_
            refine aw_if_lt (tgt := 63) dX5_bestOf_53 (by decide) (by have n1 := hw.1; have n2 := hw.2.1; have n3 := hw.2.2 row (by omega) (by omega); omega) (fun h53 => ?_) (fun h53 => ?_)
            · refine aw_bipush dX5_bestOf_63 rfl ?_
              refine aw_iload dX5_bestOf_65 rfl ?_
              refine aw_imul dX5_bestOf_67 ?_
              refine aw_iload dX5_bestOf_68 rfl ?_
              refine aw_iadd dX5_bestOf_70 ?_
              refine aw_istore_n (L2 := [some (rV K 30 0), some (iV (seats)), some (iV (ti)), some (iV ((100 * row) + z22)), some (iV (bv)), some (iV (row)), some (iV (z22)), some (iV (vB (M 32 0 row) (M 31 0 row) z22 seats))]) dX5_bestOf_71 rfl (by decide) rfl ?_
              refine aw_iload dX5_bestOf_72 rfl ?_
              refine aw_istore (L2 := [some (rV K 30 0), some (iV (seats)), some (iV (ti)), some (iV ((100 * row) + z22)), some (iV (vB (M 32 0 row) (M 31 0 row) z22 seats)), some (iV (row)), some (iV (z22)), some (iV (vB (M 32 0 row) (M 31 0 row) z22 seats))]) dX5_bestOf_74 (by decide) rfl ?_
              refine aw_iinc (L2 := [some (rV K 30 0), some (iV (seats)), some (iV (ti)), some (iV ((100 * row) + z22)), some (iV (vB (M 32 0 row) (M 31 0 row) z22 seats)), some (iV (row + 1)), some (iV (z22)), some (iV (vB (M 32 0 row) (M 31 0 row) z22 seats))]) dX5_bestOf_76 rfl (by decide) rfl ?_
              refine aw_goto (tgt := 8) dX5_bestOf_79 (by decide) ?_
              refine aw_weak (L' := [some (rV K 30 0), some (iV (seats)), some (iV (ti)), some (iV ((100 * row) + z22)), some (iV (vB (M 32 0 row) (M 31 0 row) z22 seats)), some (iV (row + 1)), none, none]) ⟨Or.inr rfl, Or.inr rfl, Or.inr rfl, Or.inr rfl, Or.inr rfl, Or.inr rfl, Or.inl rfl, Or.inl rfl, trivial⟩ ?_
              exact ih8 ((100 * row) + z22) (vB (M 32 0 row) (M 31 0 row) z22 seats) (row + 1) (by omega) (by first | (exfalso; omega) | exact isBestRV_none e2 ((show z22 = -1 by omega) ▸ h22) | exact isBestRV_take e2 e1.1 h22 (by omega) (Or.inl (by omega)) | exact isBestRV_keep e2 h22 (by omega) h60 | exact isBestRV_take e2 e1.1 h22 (by omega) (Or.inr (Int.not_le.mp h60))) (by first | exact e4 | (have n1 := hw.1; have n2 := hw.2.1; have n3 := hw.2.2 row (by omega) (by omega); omega)) (by omega)
            · refine aw_iload dX5_bestOf_56 rfl ?_
              refine aw_iload dX5_bestOf_58 rfl ?_
              refine aw_icmp_le (tgt := 76) dX5_bestOf_60 (by decide) (by have n1 := hw.1; have n2 := hw.2.1; have n3 := hw.2.2 row (by omega) (by omega); omega) (by have n1 := hw.1; have n2 := hw.2.1; have n3 := hw.2.2 row (by omega) (by omega); omega) (fun h60 => ?_) (fun h60 => ?_)
              · refine aw_iinc (L2 := [some (rV K 30 0), some (iV (seats)), some (iV (ti)), some (iV (fnd)), some (iV (bv)), some (iV (row + 1)), some (iV (z22)), some (iV (vB (M 32 0 row) (M 31 0 row) z22 seats))]) dX5_bestOf_76 rfl (by decide) rfl ?_
                refine aw_goto (tgt := 8) dX5_bestOf_79 (by decide) ?_
                refine aw_weak (L' := [some (rV K 30 0), some (iV (seats)), some (iV (ti)), some (iV (fnd)), some (iV (bv)), some (iV (row + 1)), none, none]) ⟨Or.inr rfl, Or.inr rfl, Or.inr rfl, Or.inr rfl, Or.inr rfl, Or.inr rfl, Or.inl rfl, Or.inl rfl, trivial⟩ ?_
                exact ih8 (fnd) (bv) (row + 1) (by omega) (by first | (exfalso; omega) | exact isBestRV_none e2 ((show z22 = -1 by omega) ▸ h22) | exact isBestRV_take e2 e1.1 h22 (by omega) (Or.inl (by omega)) | exact isBestRV_keep e2 h22 (by omega) h60 | exact isBestRV_take e2 e1.1 h22 (by omega) (Or.inr (Int.not_le.mp h60))) (by first | exact e4 | (have n1 := hw.1; have n2 := hw.2.1; have n3 := hw.2.2 row (by omega) (by omega); omega)) (by omega)
              · refine aw_bipush dX5_bestOf_63 rfl ?_
                refine aw_iload dX5_bestOf_65 rfl ?_
                refine aw_imul dX5_bestOf_67 ?_
                refine aw_iload dX5_bestOf_68 rfl ?_
                refine aw_iadd dX5_bestOf_70 ?_
                refine aw_istore_n (L2 := [some (rV K 30 0), some (iV (seats)), some (iV (ti)), some (iV ((100 * row) + z22)), some (iV (bv)), some (iV (row)), some (iV (z22)), some (iV (vB (M 32 0 row) (M 31 0 row) z22 seats))]) dX5_bestOf_71 rfl (by decide) rfl ?_
                refine aw_iload dX5_bestOf_72 rfl ?_
                refine aw_istore (L2 := [some (rV K 30 0), some (iV (seats)), some (iV (ti)), some (iV ((100 * row) + z22)), some (iV (vB (M 32 0 row) (M 31 0 row) z22 seats)), some (iV (row)), some (iV (z22)), some (iV (vB (M 32 0 row) (M 31 0 row) z22 seats))]) dX5_bestOf_74 (by decide) rfl ?_
                refine aw_iinc (L2 := [some (rV K 30 0), some (iV (seats)), some (iV (ti)), some (iV ((100 * row) + z22)), some (iV (vB (M 32 0 row) (M 31 0 row) z22 seats)), some (iV (row + 1)), some (iV (z22)), some (iV (vB (M 32 0 row) (M 31 0 row) z22 seats))]) dX5_bestOf_76 rfl (by decide) rfl ?_
                refine aw_goto (tgt := 8) dX5_bestOf_79 (by decide) ?_
                refine aw_weak (L' := [some (rV K 30 0), some (iV (seats)), some (iV (ti)), some (iV ((100 * row) + z22)), some (iV (vB (M 32 0 row) (M 31 0 row) z22 seats)), some (iV (row + 1)), none, none]) ⟨Or.inr rfl, Or.inr rfl, Or.inr rfl, Or.inr rfl, Or.inr rfl, Or.inr rfl, Or.inl rfl, Or.inl rfl, trivial⟩ ?_
                exact ih8 ((100 * row) + z22) (vB (M 32 0 row) (M 31 0 row) z22 seats) (row + 1) (by omega) (by first | (exfalso; omega) | exact isBestRV_none e2 ((show z22 = -1 by omega) ▸ h22) | exact isBestRV_take e2 e1.1 h22 (by omega) (Or.inl (by omega)) | exact isBestRV_keep e2 h22 (by omega) h60 | exact isBestRV_take e2 e1.1 h22 (by omega) (Or.inr (Int.not_le.mp h60))) (by first | exact e4 | (have n1 := hw.1; have n2 := hw.2.1; have n3 := hw.2.2 row (by omega) (by omega); omega)) (by omega)
        · refine aw_iconst dX5_bestOf_32 ?_
          refine aw_goto (tgt := 45) dX5_bestOf_33 (by decide) ?_
          refine aw_istore (L2 := [some (rV K 30 0), some (iV (seats)), some (iV (ti)), some (iV (fnd)), some (iV (bv)), some (iV (row)), some (iV (z22)), some (iV 0)]) dX5_bestOf_45 (by decide) rfl ?_
          refine aw_iload dX5_bestOf_47 rfl ?_
          refine aw_if_lt (tgt := 76) dX5_bestOf_49 (by decide) (by have n1 := hw.1; have n2 := hw.2.1; have n3 := hw.2.2 row (by omega) (by omega); omega) (fun h49 => ?_) (fun h49 => ?_)
          · refine aw_iinc (L2 := [some (rV K 30 0), some (iV (seats)), some (iV (ti)), some (iV (fnd)), some (iV (bv)), some (iV (row + 1)), some (iV (z22)), some (iV 0)]) dX5_bestOf_76 rfl (by decide) rfl ?_
            refine aw_goto (tgt := 8) dX5_bestOf_79 (by decide) ?_
            refine aw_weak (L' := [some (rV K 30 0), some (iV (seats)), some (iV (ti)), some (iV (fnd)), some (iV (bv)), some (iV (row + 1)), none, none]) ⟨Or.inr rfl, Or.inr rfl, Or.inr rfl, Or.inr rfl, Or.inr rfl, Or.inr rfl, Or.inl rfl, Or.inl rfl, trivial⟩ ?_
            exact ih8 (fnd) (bv) (row + 1) (by omega) (by first | (exfalso; omega) | exact isBestRV_none e2 ((show z22 = -1 by omega) ▸ h22) | exact isBestRV_take e2 e1.1 h22 (by omega) (Or.inl (by omega)) | exact isBestRV_keep e2 h22 (by omega) h60 | exact isBestRV_take e2 e1.1 h22 (by omega) (Or.inr (Int.not_le.mp h60))) (by first | exact e4 | (have n1 := hw.1; have n2 := hw.2.1; have n3 := hw.2.2 row (by omega) (by omega); omega)) (by omega)
          · refine aw_iload_n dX5_bestOf_52 rfl rfl ?_
            refine aw_if_lt (tgt := 63) dX5_bestOf_53 (by decide) (by have n1 := hw.1; have n2 := hw.2.1; have n3 := hw.2.2 row (by omega) (by omega); omega) (fun h53 => ?_) (fun h53 => ?_)
            · refine aw_bipush dX5_bestOf_63 rfl ?_
              refine aw_iload dX5_bestOf_65 rfl ?_
              refine aw_imul dX5_bestOf_67 ?_
              refine aw_iload dX5_bestOf_68 rfl ?_
              refine aw_iadd dX5_bestOf_70 ?_
              refine aw_istore_n (L2 := [some (rV K 30 0), some (iV (seats)), some (iV (ti)), some (iV ((100 * row) + z22)), some (iV (bv)), some (iV (row)), some (iV (z22)), some (iV 0)]) dX5_bestOf_71 rfl (by decide) rfl ?_
              refine aw_iload dX5_bestOf_72 rfl ?_
              refine aw_istore (L2 := [some (rV K 30 0), some (iV (seats)), some (iV (ti)), some (iV ((100 * row) + z22)), some (iV 0), some (iV (row)), some (iV (z22)), some (iV 0)]) dX5_bestOf_74 (by decide) rfl ?_
              refine aw_iinc (L2 := [some (rV K 30 0), some (iV (seats)), some (iV (ti)), some (iV ((100 * row) + z22)), some (iV 0), some (iV (row + 1)), some (iV (z22)), some (iV 0)]) dX5_bestOf_76 rfl (by decide) rfl ?_
              refine aw_goto (tgt := 8) dX5_bestOf_79 (by decide) ?_
              refine aw_weak (L' := [some (rV K 30 0), some (iV (seats)), some (iV (ti)), some (iV ((100 * row) + z22)), some (iV 0), some (iV (row + 1)), none, none]) ⟨Or.inr rfl, Or.inr rfl, Or.inr rfl, Or.inr rfl, Or.inr rfl, Or.inr rfl, Or.inl rfl, Or.inl rfl, trivial⟩ ?_
              exact ih8 ((100 * row) + z22) (0) (row + 1) (by omega) (by first | (exfalso; omega) | exact isBestRV_none e2 ((show z22 = -1 by omega) ▸ h22) | exact isBestRV_take e2 e1.1 h22 (by omega) (Or.inl (by omega)) | exact isBestRV_keep e2 h22 (by omega) h60 | exact isBestRV_take e2 e1.1 h22 (by omega) (Or.inr (Int.not_le.mp h60))) (by first | exact e4 | (have n1 := hw.1; have n2 := hw.2.1; have n3 := hw.2.2 row (by omega) (by omega); omega)) (by omega)
            · refine aw_iload dX5_bestOf_56 rfl ?_
              refine aw_iload dX5_bestOf_58 rfl ?_
              refine aw_icmp_le (tgt := 76) dX5_bestOf_60 (by decide) (by have n1 := hw.1; have n2 := hw.2.1; have n3 := hw.2.2 row (by omega) (by omega); omega) (by have n1 := hw.1; have n2 := hw.2.1; have n3 := hw.2.2 row (by omega) (by omega); omega) (fun h60 => ?_) (fun h60 => ?_)
              · refine aw_iinc (L2 := [some (rV K 30 0), some (iV (seats)), some (iV (ti)), some (iV (fnd)), some (iV (bv)), some (iV (row + 1)), some (iV (z22)), some (iV 0)]) dX5_bestOf_76 rfl (by decide) rfl ?_
                refine aw_goto (tgt := 8) dX5_bestOf_79 (by decide) ?_
                refine aw_weak (L' := [some (rV K 30 0), some (iV (seats)), some (iV (ti)), some (iV (fnd)), some (iV (bv)), some (iV (row + 1)), none, none]) ⟨Or.inr rfl, Or.inr rfl, Or.inr rfl, Or.inr rfl, Or.inr rfl, Or.inr rfl, Or.inl rfl, Or.inl rfl, trivial⟩ ?_
                exact ih8 (fnd) (bv) (row + 1) (by omega) (by first | (exfalso; omega) | exact isBestRV_none e2 ((show z22 = -1 by omega) ▸ h22) | exact isBestRV_take e2 e1.1 h22 (by omega) (Or.inl (by omega)) | exact isBestRV_keep e2 h22 (by omega) h60 | exact isBestRV_take e2 e1.1 h22 (by omega) (Or.inr (Int.not_le.mp h60))) (by first | exact e4 | (have n1 := hw.1; have n2 := hw.2.1; have n3 := hw.2.2 row (by omega) (by omega); omega)) (by omega)
              · refine aw_bipush dX5_bestOf_63 rfl ?_
                refine aw_iload dX5_bestOf_65 rfl ?_
                refine aw_imul dX5_bestOf_67 ?_
                refine aw_iload dX5_bestOf_68 rfl ?_
                refine aw_iadd dX5_bestOf_70 ?_
                refine aw_istore_n (L2 := [some (rV K 30 0), some (iV (seats)), some (iV (ti)), some (iV ((100 * row) + z22)), some (iV (bv)), some (iV (row)), some (iV (z22)), some (iV 0)]) dX5_bestOf_71 rfl (by decide) rfl ?_
                refine aw_iload dX5_bestOf_72 rfl ?_
                refine aw_istore (L2 := [some (rV K 30 0), some (iV (seats)), some (iV (ti)), some (iV ((100 * row) + z22)), some (iV 0), some (iV (row)), some (iV (z22)), some (iV 0)]) dX5_bestOf_74 (by decide) rfl ?_
                refine aw_iinc (L2 := [some (rV K 30 0), some (iV (seats)), some (iV (ti)), some (iV ((100 * row) + z22)), some (iV 0), some (iV (row + 1)), some (iV (z22)), some (iV 0)]) dX5_bestOf_76 rfl (by decide) rfl ?_
                refine aw_goto (tgt := 8) dX5_bestOf_79 (by decide) ?_
                refine aw_weak (L' := [some (rV K 30 0), some (iV (seats)), some (iV (ti)), some (iV ((100 * row) + z22)), some (iV 0), some (iV (row + 1)), none, none]) ⟨Or.inr rfl, Or.inr rfl, Or.inr rfl, Or.inr rfl, Or.inr rfl, Or.inr rfl, Or.inl rfl, Or.inl rfl, trivial⟩ ?_
                exact ih8 ((100 * row) + z22) (0) (row + 1) (by omega) (by first | (exfalso; omega) | exact isBestRV_none e2 ((show z22 = -1 by omega) ▸ h22) | exact isBestRV_take e2 e1.1 h22 (by omega) (Or.inl (by omega)) | exact isBestRV_keep e2 h22 (by omega) h60 | exact isBestRV_take e2 e1.1 h22 (by omega) (Or.inr (Int.not_le.mp h60))) (by first | exact e4 | (have n1 := hw.1; have n2 := hw.2.1; have n3 := hw.2.2 row (by omega) (by omega); omega)) (by omega)
  exact lp8 (((M 30 0 3 - 0).toNat) + 1) (-1) (0) (0) (by exact ⟨Int.le_refl 0, hw.1⟩) (by exact isBestRV_0 _ _ _) (by omega) (Nat.lt_succ_self _)
set_option maxHeartbeats 4000000 in
set_option maxRecDepth 20000 in
theorem c_X5_best {K : WPar} {l : Launch} (hst : l.stackTraces = false) (M : Mem) (seats : Int) (r_seats : inR seats) (hw : HWm M) (v_se : 1 ≤ seats ∧ seats ≤ 20) : CT K l iX5_best [rV K 30 0, iV (seats)] M (rR (fun z => bestG (M 30 0 3) (M 31 0) (oMd M) (M 32 0) seats z ∧ -1 ≤ z ∧ z ≤ 2000) (M)) := by
  refine aw_met [some (rV K 30 0), some (iV (seats)), none] hst (by decide) rfl (Nat.le_of_ble_eq_true rfl) rfl rfl (lcat rfl) ?_
  refine aw_rng (fun hM => ?_)
  refine aw_aload_n dX5_best_0 rfl rfl ?_
  refine aw_iload_n dX5_best_1 rfl rfl ?_
  refine aw_iconst dX5_best_2 ?_
  refine aw_cVr (g := 30) (As := [iV (seats), iV 1]) (rest := []) (c_X5_bestOf hst M (seats) (1) (by have n1 := hw.1; have n2 := hw.2.1; omega) (by have n1 := hw.1; have n2 := hw.2.1; omega) (by have n1 := hw.1; have n2 := hw.2.1; omega) (by have n1 := hw.1; have n2 := hw.2.1; omega)) cv_X5_bestOf dX5_best_3 ml_X5_99 rfl rfl rfl rfl rfl (Nat.le_of_ble_eq_true rfl) (by decide) rfl rfl (by decide) (fun z3 (h3 : ∃ bv, isBestRV (M 30 0 3) (cB (M 31 0) (oMd M) seats (1 = 0)) (vBR (M 32 0) (M 31 0) seats) z3 bv) => ?_)
  obtain ⟨bv3, hb3⟩ := h3; have hc3 := isBestRV_al (Q := False) (by simp) hb3; have zb3 : -1 ≤ z3 ∧ z3 ≤ 2000 := (by rcases hb3 with ⟨a, _⟩ | ⟨r, f, b1, b2, b3, b4, b5, b6, _⟩; omega; (have q := b6.1; have q2 := hw.2.2 r b3 b4; have q3 := hw.2.1; omega))
  refine aw_istore_n (L2 := [some (rV K 30 0), some (iV (seats)), some (iV (z3))]) dX5_best_6 rfl (by decide) rfl ?_
  refine aw_iload_n dX5_best_7 rfl rfl ?_
  refine aw_if_ge (tgt := 20) dX5_best_8 (by decide) (by have n1 := hw.1; have n2 := hw.2.1; omega) (fun h8 => ?_) (fun h8 => ?_)
  · refine aw_iload_n dX5_best_20 rfl rfl ?_
    exact aw_iret dX5_best_21 rfl rfl (by decide) (by decide) ⟨z3, rfl, (by first | exact ⟨Or.inl ⟨by omega, bv3, hc3⟩, zb3⟩ | exact ⟨Or.inr ⟨⟨bv3, (show z3 = -1 by omega) ▸ hc3⟩, bv14, hc14⟩, zb14⟩), (by rfl)⟩
  · refine aw_aload_n dX5_best_11 rfl rfl ?_
    refine aw_iload_n dX5_best_12 rfl rfl ?_
    refine aw_iconst dX5_best_13 ?_
    refine aw_cVr (g := 30) (As := [iV (seats), iV 0]) (rest := []) (c_X5_bestOf hst M (seats) (0) (by have n1 := hw.1; have n2 := hw.2.1; omega) (by have n1 := hw.1; have n2 := hw.2.1; omega) (by have n1 := hw.1; have n2 := hw.2.1; omega) (by have n1 := hw.1; have n2 := hw.2.1; omega)) cv_X5_bestOf dX5_best_14 ml_X5_99 rfl rfl rfl rfl rfl (Nat.le_of_ble_eq_true rfl) (by decide) rfl rfl (by decide) (fun z14 (h14 : ∃ bv, isBestRV (M 30 0 3) (cB (M 31 0) (oMd M) seats (0 = 0)) (vBR (M 32 0) (M 31 0) seats) z14 bv) => ?_)
    obtain ⟨bv14, hb14⟩ := h14; have hc14 := isBestRV_al (Q := True) (by simp) hb14; have zb14 : -1 ≤ z14 ∧ z14 ≤ 2000 := (by rcases hb14 with ⟨a, _⟩ | ⟨r, f, b1, b2, b3, b4, b5, b6, _⟩; omega; (have q := b6.1; have q2 := hw.2.2 r b3 b4; have q3 := hw.2.1; omega))
    refine aw_goto (tgt := 21) dX5_best_17 (by decide) ?_
    exact aw_iret dX5_best_21 rfl rfl (by decide) (by decide) ⟨z14, rfl, (by first | exact ⟨Or.inl ⟨by omega, bv3, hc3⟩, zb3⟩ | exact ⟨Or.inr ⟨⟨bv3, (show z3 = -1 by omega) ▸ hc3⟩, bv14, hc14⟩, zb14⟩), (by rfl)⟩
set_option maxHeartbeats 4000000 in
set_option maxRecDepth 20000 in
theorem c_X5_owns {K : WPar} {l : Launch} (hst : l.stackTraces = false) (M : Mem) (row : Int) (first : Int) (seats : Int) (owner : Int) (r_row : inR row) (r_first : inR first) (r_seats : inR seats) (r_owner : inR owner) (v_b : 0 ≤ row ∧ row < 12 ∧ 0 ≤ first ∧ 0 ≤ seats ∧ first + seats ≤ 20) : CT K l iX5_owns [rV K 30 0, iV (row), iV (first), iV (seats), iV (owner)] M (rN (ownM M row first seats owner)) := by
  refine aw_met [some (rV K 30 0), some (iV (row)), some (iV (first)), some (iV (seats)), some (iV (owner)), none] hst (by decide) rfl (Nat.le_of_ble_eq_true rfl) rfl rfl (lcat rfl) ?_
  refine aw_rng (fun hM => ?_)
  refine aw_iload_n dX5_owns_0 rfl rfl ?_
  refine aw_istore (L2 := [some (rV K 30 0), some (iV (row)), some (iV (first)), some (iV (seats)), some (iV (owner)), some (iV (first))]) dX5_owns_1 (by decide) rfl ?_
  have lp3 : ∀ (n3 : Nat) (seat : Int), (first ≤ seat ∧ seat ≤ first + seats) → ((first + seats - seat).toNat) < n3 → AW K l iX5_owns (ZM K iX5_owns (rN (ownM M row first seats owner))) 3 [some (rV K 30 0), some (iV (row)), some (iV (first)), some (iV (seats)), some (iV (owner)), some (iV (seat))] [] (ownM M row first (seat - first) owner) 0 0 := by
    intro n3
    induction n3 with
    | zero =>
      intro seat e1 hm3
      exact absurd hm3 (Nat.not_lt_zero _)
    | succ n3 ih3 =>
      intro seat e1 hm3
      refine aw_iload dX5_owns_3 rfl ?_
      refine aw_iload_n dX5_owns_5 rfl rfl ?_
      refine aw_iload_n dX5_owns_6 rfl rfl ?_
      refine aw_iadd dX5_owns_7 ?_
      refine aw_icmp_ge (tgt := 31) dX5_owns_8 (by decide) (by omega) (by omega) (fun h8 => ?_) (fun h8 => ?_)
      · exact aw_vret dX5_owns_31 rfl (by decide) (by decide) ⟨rfl, (by have q : seat - first = seats := (by omega); rw [q])⟩
      · refine aw_aload_n dX5_owns_11 rfl rfl ?_
        refine aw_getr (g := 30) rfl rfl ly_X5 rfl (k := 7) dX5_owns_12 (by decide) fl_X5_19 rfl ?_
        refine aw_bipush dX5_owns_15 rfl ?_
        refine aw_iload_n dX5_owns_17 rfl rfl ?_
        refine aw_imul dX5_owns_18 ?_
        refine aw_iload dX5_owns_19 rfl ?_
        refine aw_iadd dX5_owns_21 ?_
        refine aw_iload dX5_owns_22 rfl ?_
        refine aw_iast (g := 34) (n := 240) (M' := updM (ownM M row first (seat - first) owner) 34 0 ((20 * row) + seat) owner) rfl (by decide) dX5_owns_24 (by decide) (by show 0 ≤ ((20 * row) + seat) ∧ ((20 * row) + seat) < (240 : Int); omega) (by omega) rfl ?_
        refine aw_iinc (L2 := [some (rV K 30 0), some (iV (row)), some (iV (first)), some (iV (seats)), some (iV (owner)), some (iV (seat + 1))]) dX5_owns_25 rfl (by decide) rfl ?_
        refine aw_goto (tgt := 3) dX5_owns_28 (by decide) ?_
        refine aw_mem (M' := ownM M row first ((seat + 1) - first) owner) (by exact ownM_s e1.1) ?_
        exact ih3 (seat + 1) (by omega) (by omega)
  refine aw_mem (M' := ownM M row first (first - first) owner) (by exact (ownM_0 _ _ _ _).symm) ?_
  exact lp3 (((first + seats - first).toNat) + 1) (first) (by omega) (Nat.lt_succ_self _)
set_option maxHeartbeats 4000000 in
set_option maxRecDepth 20000 in
theorem c_X5_isMinutes {K : WPar} {l : Launch} (hst : l.stackTraces = false) (M : Mem) (minutes : Int) (r_minutes : inR minutes) : CT K l iX5_isMinutes [iV (minutes)] M (rB (1 ≤ minutes ∧ minutes ≤ 200) (M)) := by
  refine aw_met [some (iV (minutes))] hst (by decide) rfl (Nat.le_of_ble_eq_true rfl) rfl rfl (lcat rfl) ?_
  refine aw_rng (fun hM => ?_)
  refine aw_iload_n dX5_isMinutes_0 rfl rfl ?_
  refine aw_iconst dX5_isMinutes_1 ?_
  refine aw_sipush dX5_isMinutes_2 rfl ?_
  refine aw_cSb (As := [iV (minutes), iV 1, iV 200]) (rest := []) (c_X5_in hst M (minutes) (1) (200) (by omega) (by omega) (by omega)) cs_X5_in dX5_isMinutes_5 ml_X5_56 rfl rfl (Nat.le_of_ble_eq_true rfl) (by decide) rfl rfl (by decide) (fun h5 => ?_) (fun h5 => ?_)
  · exact aw_iret dX5_isMinutes_8 rfl rfl (by decide) (by decide) ⟨Or.inl ⟨rfl, by omega⟩, (by rfl)⟩
  · exact aw_iret dX5_isMinutes_8 rfl rfl (by decide) (by decide) ⟨Or.inr ⟨rfl, by omega⟩, (by rfl)⟩
set_option maxHeartbeats 4000000 in
set_option maxRecDepth 20000 in
theorem c_X5_isGroup {K : WPar} {l : Launch} (hst : l.stackTraces = false) (M : Mem) (people : Int) (r_people : inR people) : CT K l iX5_isGroup [iV (people)] M (rB (2 ≤ people ∧ people ≤ 100) (M)) := by
  refine aw_met [some (iV (people))] hst (by decide) rfl (Nat.le_of_ble_eq_true rfl) rfl rfl (lcat rfl) ?_
  refine aw_rng (fun hM => ?_)
  refine aw_iload_n dX5_isGroup_0 rfl rfl ?_
  refine aw_iconst dX5_isGroup_1 ?_
  refine aw_bipush dX5_isGroup_2 rfl ?_
  refine aw_cSb (As := [iV (people), iV 2, iV 100]) (rest := []) (c_X5_in hst M (people) (2) (100) (by omega) (by omega) (by omega)) cs_X5_in dX5_isGroup_4 ml_X5_56 rfl rfl (Nat.le_of_ble_eq_true rfl) (by decide) rfl rfl (by decide) (fun h4 => ?_) (fun h4 => ?_)
  · exact aw_iret dX5_isGroup_7 rfl rfl (by decide) (by decide) ⟨Or.inl ⟨rfl, by omega⟩, (by rfl)⟩
  · exact aw_iret dX5_isGroup_7 rfl rfl (by decide) (by decide) ⟨Or.inr ⟨rfl, by omega⟩, (by rfl)⟩
set_option maxHeartbeats 4000000 in
set_option maxRecDepth 20000 in
theorem c_X5_isTicket {K : WPar} {l : Launch} (hst : l.stackTraces = false) (M : Mem) (ticket : Int) (r_ticket : inR ticket) (bw : BWm M) : CT K l iX5_isTicket [rV K 30 0, iV (ticket)] M (rB (1 ≤ ticket ∧ ticket ≤ M 30 0 8) (M)) := by
  refine aw_met [some (rV K 30 0), some (iV (ticket))] hst (by decide) rfl (Nat.le_of_ble_eq_true rfl) rfl rfl (lcat rfl) ?_
  refine aw_rng (fun hM => ?_)
  refine aw_iload_n dX5_isTicket_0 rfl rfl ?_
  refine aw_iconst dX5_isTicket_1 ?_
  refine aw_aload_n dX5_isTicket_2 rfl rfl ?_
  refine aw_geti (g := 30) rfl rfl ly_X5 rfl (k := 8) 8 rfl dX5_isTicket_3 (by decide) fl_X5_106 rfl (fun r3 => ?_)
  refine aw_cSb (As := [iV (ticket), iV 1, iV (M 30 0 8)]) (rest := []) (c_X5_in hst M (ticket) (1) (M 30 0 8) (by have t1 := bw.1; have t2 := bw.2; omega) (by have t1 := bw.1; have t2 := bw.2; omega) (by have t1 := bw.1; have t2 := bw.2; omega)) cs_X5_in dX5_isTicket_6 ml_X5_56 rfl rfl (Nat.le_of_ble_eq_true rfl) (by decide) rfl rfl (by decide) (fun h6 => ?_) (fun h6 => ?_)
  · exact aw_iret dX5_isTicket_9 rfl rfl (by decide) (by decide) ⟨Or.inl ⟨rfl, by have t1 := bw.1; have t2 := bw.2; omega⟩, (by rfl)⟩
  · exact aw_iret dX5_isTicket_9 rfl rfl (by decide) (by decide) ⟨Or.inr ⟨rfl, by have t1 := bw.1; have t2 := bw.2; omega⟩, (by rfl)⟩
set_option maxHeartbeats 4000000 in
set_option maxRecDepth 20000 in
theorem c_X5_grants {K : WPar} {l : Launch} (hst : l.stackTraces = false) (M : Mem) (minutes : Int) (r_minutes : inR minutes) (bw : BWm M) (v_g : M 30 0 8 < 100) (v_n : 0 ≤ M 30 0 1 ∧ M 30 0 1 ≤ 1000000) (v_mi : 1 ≤ minutes ∧ minutes ≤ 200) : CT K l iX5_grants [rV K 30 0, iV (minutes)] M (rI (M 30 0 8 + 1) (grtM M minutes)) := by
  refine aw_met [some (rV K 30 0), some (iV (minutes))] hst (by decide) rfl (Nat.le_of_ble_eq_true rfl) rfl rfl (lcat rfl) ?_
  refine aw_rng (fun hM => ?_)
  refine aw_aload_n dX5_grants_0 rfl rfl ?_
  refine aw_dup dX5_grants_1 rfl ?_
  refine aw_geti (g := 30) rfl rfl ly_X5 rfl (k := 8) 8 rfl dX5_grants_2 (by decide) fl_X5_106 rfl (fun r2 => ?_)
  refine aw_iconst dX5_grants_5 ?_
  refine aw_iadd dX5_grants_6 ?_
  refine aw_puti (g := 30) tyX5 tyX5_ok nmX5 rfl rfl ly_X5 rfl (k := 8) 8 rfl (M' := updM M 30 0 8 ((M 30 0 8) + 1)) dX5_grants_7 (by decide) fl_X5_106 rfl rfl (by decide +kernel) (by have t1 := bw.1; have t2 := bw.2; omega) rfl ?_
  refine aw_aload_n dX5_grants_10 rfl rfl ?_
  refine aw_getr (g := 30) rfl rfl ly_X5 rfl (k := 9) dX5_grants_11 (by decide) fl_X5_22 rfl ?_
  refine aw_aload_n dX5_grants_14 rfl rfl ?_
  refine aw_geti (g := 30) rfl rfl ly_X5 rfl (k := 8) 8 rfl dX5_grants_15 (by decide) fl_X5_106 rfl (fun r15 => ?_)
  refine aw_st (st' := [iV (M 30 0 8 + 1), rV K 35 0]) (by rw [show ((updM M 30 0 8 ((M 30 0 8) + 1)) 30 0 8 : Int) = M 30 0 8 + 1 from by simp [updM_g, updM_same]]) ?_
  refine aw_iconst dX5_grants_18 ?_
  refine aw_iast (g := 35) (n := 101) (M' := updM (updM M 30 0 8 ((M 30 0 8) + 1)) 35 0 (M 30 0 8 + 1) 0) rfl (by decide) dX5_grants_19 (by decide) (by show 0 ≤ (M 30 0 8 + 1) ∧ (M 30 0 8 + 1) < (101 : Int); have t1 := bw.1; have t2 := bw.2; omega) (by have t1 := bw.1; have t2 := bw.2; omega) rfl ?_
  refine aw_aload_n dX5_grants_20 rfl rfl ?_
  refine aw_getr (g := 30) rfl rfl ly_X5 rfl (k := 10) dX5_grants_21 (by decide) fl_X5_25 rfl ?_
  refine aw_aload_n dX5_grants_24 rfl rfl ?_
  refine aw_geti (g := 30) rfl rfl ly_X5 rfl (k := 8) 8 rfl dX5_grants_25 (by decide) fl_X5_106 rfl (fun r25 => ?_)
  refine aw_st (st' := [iV (M 30 0 8 + 1), rV K 36 0]) (by rw [show ((updM (updM M 30 0 8 ((M 30 0 8) + 1)) 35 0 (M 30 0 8 + 1) 0) 30 0 8 : Int) = M 30 0 8 + 1 from by simp [updM_g, updM_same]]) ?_
  refine aw_aload_n dX5_grants_28 rfl rfl ?_
  refine aw_geti (g := 30) rfl rfl ly_X5 rfl (k := 1) 1 rfl dX5_grants_29 (by decide) fl_X5_109 rfl (fun r29 => ?_)
  refine aw_st (st' := [iV (M 30 0 1), iV (M 30 0 8 + 1), rV K 36 0]) (by rw [show ((updM (updM M 30 0 8 ((M 30 0 8) + 1)) 35 0 (M 30 0 8 + 1) 0) 30 0 1 : Int) = M 30 0 1 from by rw [updM_g (by decide), updM_j (by decide)]]) ?_
  refine aw_iload_n dX5_grants_32 rfl rfl ?_
  refine aw_iadd dX5_grants_33 ?_
  refine aw_iast (g := 36) (n := 101) (M' := updM (updM (updM M 30 0 8 ((M 30 0 8) + 1)) 35 0 (M 30 0 8 + 1) 0) 36 0 (M 30 0 8 + 1) ((M 30 0 1) + minutes)) rfl (by decide) dX5_grants_34 (by decide) (by show 0 ≤ (M 30 0 8 + 1) ∧ (M 30 0 8 + 1) < (101 : Int); have t1 := bw.1; have t2 := bw.2; omega) (by have t1 := bw.1; have t2 := bw.2; omega) rfl ?_
  refine aw_aload_n dX5_grants_35 rfl rfl ?_
  refine aw_getr (g := 30) rfl rfl ly_X5 rfl (k := 13) dX5_grants_36 (by decide) fl_X5_34 rfl ?_
  refine aw_aload_n dX5_grants_39 rfl rfl ?_
  refine aw_geti (g := 30) rfl rfl ly_X5 rfl (k := 8) 8 rfl dX5_grants_40 (by decide) fl_X5_106 rfl (fun r40 => ?_)
  refine aw_st (st' := [iV (M 30 0 8 + 1), rV K 39 0]) (by rw [show ((updM (updM (updM M 30 0 8 ((M 30 0 8) + 1)) 35 0 (M 30 0 8 + 1) 0) 36 0 (M 30 0 8 + 1) ((M 30 0 1) + minutes)) 30 0 8 : Int) = M 30 0 8 + 1 from by simp [updM_g, updM_same]]) ?_
  refine aw_iconst dX5_grants_43 ?_
  refine aw_iast (g := 39) (n := 101) (M' := updM (updM (updM (updM M 30 0 8 ((M 30 0 8) + 1)) 35 0 (M 30 0 8 + 1) 0) 36 0 (M 30 0 8 + 1) ((M 30 0 1) + minutes)) 39 0 (M 30 0 8 + 1) (-1)) rfl (by decide) dX5_grants_44 (by decide) (by show 0 ≤ (M 30 0 8 + 1) ∧ (M 30 0 8 + 1) < (101 : Int); have t1 := bw.1; have t2 := bw.2; omega) (by have t1 := bw.1; have t2 := bw.2; omega) rfl ?_
  refine aw_aload_n dX5_grants_45 rfl rfl ?_
  refine aw_geti (g := 30) rfl rfl ly_X5 rfl (k := 8) 8 rfl dX5_grants_46 (by decide) fl_X5_106 rfl (fun r46 => ?_)
  refine aw_st (st' := [iV (M 30 0 8 + 1)]) (by rw [show ((updM (updM (updM (updM M 30 0 8 ((M 30 0 8) + 1)) 35 0 (M 30 0 8 + 1) 0) 36 0 (M 30 0 8 + 1) ((M 30 0 1) + minutes)) 39 0 (M 30 0 8 + 1) (-1)) 30 0 8 : Int) = M 30 0 8 + 1 from by simp [updM_g, updM_same]]) ?_
  exact aw_iret dX5_grants_49 rfl rfl (by decide) (by decide) ⟨congrArg (fun z => Sum.inl (some z)) (by first | rfl | omega), (by rfl)⟩
