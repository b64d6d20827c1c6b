set_option maxHeartbeats 4000000 in
set_option maxRecDepth 20000 in
theorem c_X5_rows {K : WPar} {l : Launch} (hst : l.stackTraces = false) (M : Mem) : CT K l iX5_rows [rV K 30 0] M (rI (M 30 0 3) (thr M 0)) := by
  refine aw_met [some (rV K 30 0)] hst (by decide) rfl (Nat.le_of_ble_eq_true rfl) rfl rfl (lcat rfl) ?_
  refine aw_rng (fun hM => ?_)
  refine aw_aload_n dX5_rows_0 rfl rfl ?_
  refine aw_iconst dX5_rows_1 ?_
  refine aw_puti (g := 30) tyX5 tyX5_ok nmX5 rfl rfl ly_X5 rfl (k := 0) 0 rfl (M' := updM M 30 0 0 0) dX5_rows_2 (by decide) fl_X5_52 rfl rfl (by decide +kernel) (by omega) rfl ?_
  refine aw_aload_n dX5_rows_5 rfl rfl ?_
  refine aw_geti (g := 30) rfl rfl ly_X5 rfl (k := 3) 3 rfl dX5_rows_6 (by decide) fl_X5_60 rfl (fun r6 => ?_)
  exact aw_iret dX5_rows_9 rfl rfl (by decide) (by decide) ⟨congrArg (fun z => Sum.inl (some z)) (by first | rfl | omega), (by rfl)⟩
set_option maxHeartbeats 4000000 in
set_option maxRecDepth 20000 in
theorem c_X5_tickets {K : WPar} {l : Launch} (hst : l.stackTraces = false) (M : Mem) : CT K l iX5_tickets [rV K 30 0] M (rI (M 30 0 8) (thr M 0)) := by
  refine aw_met [some (rV K 30 0)] hst (by decide) rfl (Nat.le_of_ble_eq_true rfl) rfl rfl (lcat rfl) ?_
  refine aw_rng (fun hM => ?_)
  refine aw_aload_n dX5_tickets_0 rfl rfl ?_
  refine aw_iconst dX5_tickets_1 ?_
  refine aw_puti (g := 30) tyX5 tyX5_ok nmX5 rfl rfl ly_X5 rfl (k := 0) 0 rfl (M' := updM M 30 0 0 0) dX5_tickets_2 (by decide) fl_X5_52 rfl rfl (by decide +kernel) (by omega) rfl ?_
  refine aw_aload_n dX5_tickets_5 rfl rfl ?_
  refine aw_geti (g := 30) rfl rfl ly_X5 rfl (k := 8) 8 rfl dX5_tickets_6 (by decide) fl_X5_106 rfl (fun r6 => ?_)
  exact aw_iret dX5_tickets_9 rfl rfl (by decide) (by decide) ⟨congrArg (fun z => Sum.inl (some z)) (by first | rfl | omega), (by rfl)⟩
set_option maxHeartbeats 4000000 in
set_option maxRecDepth 20000 in
theorem c_X5_takings {K : WPar} {l : Launch} (hst : l.stackTraces = false) (M : Mem) : CT K l iX5_takings [rV K 30 0] M (rI (M 30 0 2) (thr M 0)) := by
  refine aw_met [some (rV K 30 0)] hst (by decide) rfl (Nat.le_of_ble_eq_true rfl) rfl rfl (lcat rfl) ?_
  refine aw_rng (fun hM => ?_)
  refine aw_aload_n dX5_takings_0 rfl rfl ?_
  refine aw_iconst dX5_takings_1 ?_
  refine aw_puti (g := 30) tyX5 tyX5_ok nmX5 rfl rfl ly_X5 rfl (k := 0) 0 rfl (M' := updM M 30 0 0 0) dX5_takings_2 (by decide) fl_X5_52 rfl rfl (by decide +kernel) (by omega) rfl ?_
  refine aw_aload_n dX5_takings_5 rfl rfl ?_
  refine aw_geti (g := 30) rfl rfl ly_X5 rfl (k := 2) 2 rfl dX5_takings_6 (by decide) fl_X5_152 rfl (fun r6 => ?_)
  exact aw_iret dX5_takings_9 rfl rfl (by decide) (by decide) ⟨congrArg (fun z => Sum.inl (some z)) (by first | rfl | omega), (by rfl)⟩
set_option maxHeartbeats 4000000 in
set_option maxRecDepth 20000 in
theorem c_X5_now {K : WPar} {l : Launch} (hst : l.stackTraces = false) (M : Mem) : CT K l iX5_now [rV K 30 0] M (rI (M 30 0 1) (thr M 0)) := by
  refine aw_met [some (rV K 30 0)] hst (by decide) rfl (Nat.le_of_ble_eq_true rfl) rfl rfl (lcat rfl) ?_
  refine aw_rng (fun hM => ?_)
  refine aw_aload_n dX5_now_0 rfl rfl ?_
  refine aw_iconst dX5_now_1 ?_
  refine aw_puti (g := 30) tyX5 tyX5_ok nmX5 rfl rfl ly_X5 rfl (k := 0) 0 rfl (M' := updM M 30 0 0 0) dX5_now_2 (by decide) fl_X5_52 rfl rfl (by decide +kernel) (by omega) rfl ?_
  refine aw_aload_n dX5_now_5 rfl rfl ?_
  refine aw_geti (g := 30) rfl rfl ly_X5 rfl (k := 1) 1 rfl dX5_now_6 (by decide) fl_X5_109 rfl (fun r6 => ?_)
  exact aw_iret dX5_now_9 rfl rfl (by decide) (by decide) ⟨congrArg (fun z => Sum.inl (some z)) (by first | rfl | omega), (by rfl)⟩
set_option maxHeartbeats 4000000 in
set_option maxRecDepth 20000 in
theorem c_X5_addRow {K : WPar} {l : Launch} (hst : l.stackTraces = false) (M : Mem) (seats : Int) (score : Int) (price : Int) (r_seats : inR seats) (r_score : inR score) (r_price : inR price) (hw : HWm M) : CT K l iX5_addRow [rV K 30 0, iV (seats), iV (score), iV (price)] M (rZm (fun z m => ((¬ ((1 ≤ seats ∧ seats ≤ 20) ∧ (0 ≤ score ∧ score ≤ 1000) ∧ (0 ≤ price ∧ price ≤ 10000))) ∧ z = 0 ∧ m = thr M 1) ∨ ((((1 ≤ seats ∧ seats ≤ 20) ∧ (0 ≤ score ∧ score ≤ 1000) ∧ (0 ≤ price ∧ price ≤ 10000)) ∧ ¬ M 30 0 3 < 12) ∧ z = 0 ∧ m = thr M 2) ∨ ((((1 ≤ seats ∧ seats ≤ 20) ∧ (0 ≤ score ∧ score ≤ 1000) ∧ (0 ≤ price ∧ price ≤ 10000)) ∧ M 30 0 3 < 12) ∧ z = M 30 0 3 ∧ m = updM (updM (updM (updM (thr M 0) 31 0 (M 30 0 3) seats) 32 0 (M 30 0 3) score) 33 0 (M 30 0 3) price) 30 0 3 (M 30 0 3 + 1)))) := by
  refine aw_met [some (rV K 30 0), some (iV (seats)), some (iV (score)), some (iV (price)), none] hst (by decide) rfl (Nat.le_of_ble_eq_true rfl) rfl rfl (lcat rfl) ?_
  refine aw_rng (fun hM => ?_)
  refine aw_iload_n dX5_addRow_0 rfl rfl ?_
  refine aw_iconst dX5_addRow_1 ?_
  refine aw_bipush dX5_addRow_2 rfl ?_
  refine aw_cSb (As := [iV (seats), iV 1, iV 20]) (rest := []) (c_X5_in hst M (seats) (1) (20) (by have n1 := hw.1; have n2 := hw.2.1; omega) (by have n1 := hw.1; have n2 := hw.2.1; omega) (by have n1 := hw.1; have n2 := hw.2.1; omega)) cs_X5_in dX5_addRow_4 ml_X5_56 rfl rfl (Nat.le_of_ble_eq_true rfl) (by decide) rfl rfl (by decide) (fun h4 => ?_) (fun h4 => ?_)
  · refine aw_if_eq (tgt := 36) dX5_addRow_7 (by decide) (by decide) (fun h => absurd h (by decide)) (fun _ => ?_)
    refine aw_iload_n dX5_addRow_10 rfl rfl ?_
    refine aw_iconst dX5_addRow_11 ?_
    refine aw_sipush dX5_addRow_12 rfl ?_
    refine aw_cSb (As := [iV (score), iV 0, iV 1000]) (rest := []) (c_X5_in hst M (score) (0) (1000) (by have n1 := hw.1; have n2 := hw.2.1; omega) (by have n1 := hw.1; have n2 := hw.2.1; omega) (by have n1 := hw.1; have n2 := hw.2.1; omega)) cs_X5_in dX5_addRow_15 ml_X5_56 rfl rfl (Nat.le_of_ble_eq_true rfl) (by decide) rfl rfl (by decide) (fun h15 => ?_) (fun h15 => ?_)
    · refine aw_if_eq (tgt := 36) dX5_addRow_18 (by decide) (by decide) (fun h => absurd h (by decide)) (fun _ => ?_)
      refine aw_iload_n dX5_addRow_21 rfl rfl ?_
      refine aw_iconst dX5_addRow_22 ?_
      refine aw_sipush dX5_addRow_23 rfl ?_
      refine aw_cSb (As := [iV (price), iV 0, iV 10000]) (rest := []) (c_X5_in hst M (price) (0) (10000) (by have n1 := hw.1; have n2 := hw.2.1; omega) (by have n1 := hw.1; have n2 := hw.2.1; omega) (by have n1 := hw.1; have n2 := hw.2.1; omega)) cs_X5_in dX5_addRow_26 ml_X5_56 rfl rfl (Nat.le_of_ble_eq_true rfl) (by decide) rfl rfl (by decide) (fun h26 => ?_) (fun h26 => ?_)
      · refine aw_if_eq (tgt := 36) dX5_addRow_29 (by decide) (by decide) (fun h => absurd h (by decide)) (fun _ => ?_)
        refine aw_iconst dX5_addRow_32 ?_
        refine aw_goto (tgt := 37) dX5_addRow_33 (by decide) ?_
        refine aw_istore (L2 := [some (rV K 30 0), some (iV (seats)), some (iV (score)), some (iV (price)), some (iV 1)]) dX5_addRow_37 (by decide) rfl ?_
        refine aw_aload_n dX5_addRow_39 rfl rfl ?_
        refine aw_iload dX5_addRow_40 rfl ?_
        refine aw_if_ne (tgt := 49) dX5_addRow_42 (by decide) (by decide) (fun _ => ?_) (fun h => absurd h (by decide))
        refine aw_aload_n dX5_addRow_49 rfl rfl ?_
        refine aw_geti (g := 30) rfl rfl ly_X5 rfl (k := 3) 3 rfl dX5_addRow_50 (by decide) fl_X5_60 rfl (fun r50 => ?_)
        refine aw_bipush dX5_addRow_53 rfl ?_
        refine aw_icmp_ne (tgt := 62) dX5_addRow_55 (by decide) (by have n1 := hw.1; have n2 := hw.2.1; omega) (by have n1 := hw.1; have n2 := hw.2.1; omega) (fun h55 => ?_) (fun h55 => ?_)
        · refine aw_iconst dX5_addRow_62 ?_
          refine aw_cVi (g := 30) (As := [iV 0]) (rest := []) (c_X5_holds hst M (0) (by have n1 := hw.1; have n2 := hw.2.1; omega)) cv_X5_holds dX5_addRow_63 ml_X5_63 rfl rfl rfl rfl rfl (Nat.le_of_ble_eq_true rfl) (by decide) rfl rfl (by decide) ?_
          refine aw_st (st' := [iV 1]) (by rw [if_pos (by decide)]) ?_
          refine aw_if_ne (tgt := 71) dX5_addRow_66 (by decide) (by decide) (fun _ => ?_) (fun h => absurd h (by decide))
          refine aw_aload_n dX5_addRow_71 rfl rfl ?_
          refine aw_getr (g := 30) rfl rfl ly_X5 rfl (k := 4) dX5_addRow_72 (by decide) fl_X5_7 rfl ?_
          refine aw_aload_n dX5_addRow_75 rfl rfl ?_
          refine aw_geti (g := 30) rfl rfl ly_X5 rfl (k := 3) 3 rfl dX5_addRow_76 (by decide) fl_X5_60 rfl (fun r76 => ?_)
          have r76 : inR (M 30 0 3) := r76
          refine aw_st (st' := [iV (M 30 0 3), rV K 31 0]) (by rw [show ((thr M 0) 30 0 3 : Int) = M 30 0 3 from by rfl]) ?_
          refine aw_iload_n dX5_addRow_79 rfl rfl ?_
          refine aw_iast (g := 31) (n := 12) (M' := updM (thr M 0) 31 0 (M 30 0 3) seats) rfl (by decide) dX5_addRow_80 (by decide) (by show 0 ≤ (M 30 0 3) ∧ (M 30 0 3) < (12 : Int); have n1 := hw.1; have n2 := hw.2.1; omega) (by have n1 := hw.1; have n2 := hw.2.1; omega) rfl ?_
          refine aw_aload_n dX5_addRow_81 rfl rfl ?_
          refine aw_getr (g := 30) rfl rfl ly_X5 rfl (k := 5) dX5_addRow_82 (by decide) fl_X5_13 rfl ?_
          refine aw_aload_n dX5_addRow_85 rfl rfl ?_
          refine aw_geti (g := 30) rfl rfl ly_X5 rfl (k := 3) 3 rfl dX5_addRow_86 (by decide) fl_X5_60 rfl (fun r86 => ?_)
          refine aw_st (st' := [iV (M 30 0 3), rV K 32 0]) (by rw [show ((updM (thr M 0) 31 0 (M 30 0 3) seats) 30 0 3 : Int) = M 30 0 3 from by rfl]) ?_
          refine aw_iload_n dX5_addRow_89 rfl rfl ?_
          refine aw_iast (g := 32) (n := 12) (M' := updM (updM (thr M 0) 31 0 (M 30 0 3) seats) 32 0 (M 30 0 3) score) rfl (by decide) dX5_addRow_90 (by decide) (by show 0 ≤ (M 30 0 3) ∧ (M 30 0 3) < (12 : Int); have n1 := hw.1; have n2 := hw.2.1; omega) (by have n1 := hw.1; have n2 := hw.2.1; omega) rfl ?_
          refine aw_aload_n dX5_addRow_91 rfl rfl ?_
          refine aw_getr (g := 30) rfl rfl ly_X5 rfl (k := 6) dX5_addRow_92 (by decide) fl_X5_16 rfl ?_
          refine aw_aload_n dX5_addRow_95 rfl rfl ?_
          refine aw_geti (g := 30) rfl rfl ly_X5 rfl (k := 3) 3 rfl dX5_addRow_96 (by decide) fl_X5_60 rfl (fun r96 => ?_)
          refine aw_st (st' := [iV (M 30 0 3), rV K 33 0]) (by rw [show ((updM (updM (thr M 0) 31 0 (M 30 0 3) seats) 32 0 (M 30 0 3) score) 30 0 3 : Int) = M 30 0 3 from by rfl]) ?_
          refine aw_iload_n dX5_addRow_99 rfl rfl ?_
          refine aw_iast (g := 33) (n := 12) (M' := updM (updM (updM (thr M 0) 31 0 (M 30 0 3) seats) 32 0 (M 30 0 3) score) 33 0 (M 30 0 3) price) rfl (by decide) dX5_addRow_100 (by decide) (by show 0 ≤ (M 30 0 3) ∧ (M 30 0 3) < (12 : Int); have n1 := hw.1; have n2 := hw.2.1; omega) (by have n1 := hw.1; have n2 := hw.2.1; omega) rfl ?_
          refine aw_aload_n dX5_addRow_101 rfl rfl ?_
          refine aw_dup dX5_addRow_102 rfl ?_
          refine aw_geti (g := 30) rfl rfl ly_X5 rfl (k := 3) 3 rfl dX5_addRow_103 (by decide) fl_X5_60 rfl (fun r103 => ?_)
          refine aw_st (st' := [iV (M 30 0 3), rV K 30 0]) (by rw [show ((updM (updM (updM (thr M 0) 31 0 (M 30 0 3) seats) 32 0 (M 30 0 3) score) 33 0 (M 30 0 3) price) 30 0 3 : Int) = M 30 0 3 from by rfl]) ?_
          refine aw_iconst dX5_addRow_106 ?_
          refine aw_iadd dX5_addRow_107 ?_
          refine aw_puti (g := 30) tyX5 tyX5_ok nmX5 rfl rfl ly_X5 rfl (k := 3) 3 rfl (M' := updM (updM (updM (updM (thr M 0) 31 0 (M 30 0 3) seats) 32 0 (M 30 0 3) score) 33 0 (M 30 0 3) price) 30 0 3 ((M 30 0 3) + 1)) dX5_addRow_108 (by decide) fl_X5_60 rfl rfl (by decide +kernel) (by have n1 := hw.1; have n2 := hw.2.1; omega) rfl ?_
          refine aw_aload_n dX5_addRow_111 rfl rfl ?_
          refine aw_geti (g := 30) rfl rfl ly_X5 rfl (k := 3) 3 rfl dX5_addRow_112 (by decide) fl_X5_60 rfl (fun r112 => ?_)
          refine aw_st (st' := [iV (M 30 0 3 + 1)]) (by rw [show ((updM (updM (updM (updM (thr M 0) 31 0 (M 30 0 3) seats) 32 0 (M 30 0 3) score) 33 0 (M 30 0 3) price) 30 0 3 ((M 30 0 3) + 1)) 30 0 3 : Int) = M 30 0 3 + 1 from by exact updM_same]) ?_
          refine aw_iconst dX5_addRow_115 ?_
          refine aw_isub dX5_addRow_116 ?_
          exact aw_iret dX5_addRow_117 rfl rfl (by decide) (by decide) ⟨(M 30 0 3 + 1) - 1, rfl, (by first | (exfalso; have n1 := hw.1; have n2 := hw.2.1; omega) | exact (Or.inl ⟨by have n1 := hw.1; have n2 := hw.2.1; omega, by first | rfl | (have n1 := hw.1; have n2 := hw.2.1; omega), by rfl⟩) | exact (Or.inr (Or.inl ⟨by have n1 := hw.1; have n2 := hw.2.1; omega, by first | rfl | (have n1 := hw.1; have n2 := hw.2.1; omega), by rfl⟩)) | exact (Or.inr (Or.inr ⟨by have n1 := hw.1; have n2 := hw.2.1; omega, by first | rfl | (have n1 := hw.1; have n2 := hw.2.1; omega), by rfl⟩)))⟩
        · refine aw_iconst dX5_addRow_58 ?_
          refine aw_goto (tgt := 63) dX5_addRow_59 (by decide) ?_
          refine aw_cVi (g := 30) (As := [iV 2]) (rest := []) (c_X5_holds hst M (2) (by have n1 := hw.1; have n2 := hw.2.1; omega)) cv_X5_holds dX5_addRow_63 ml_X5_63 rfl rfl rfl rfl rfl (Nat.le_of_ble_eq_true rfl) (by decide) rfl rfl (by decide) ?_
          refine aw_st (st' := [iV 0]) (by rw [if_neg (by decide)]) ?_
          refine aw_if_ne (tgt := 71) dX5_addRow_66 (by decide) (by decide) (fun h => absurd h (by decide)) (fun _ => ?_)
          refine aw_iconst dX5_addRow_69 ?_
          exact aw_iret dX5_addRow_70 rfl rfl (by decide) (by decide) ⟨0, rfl, (by first | (exfalso; have n1 := hw.1; have n2 := hw.2.1; omega) | exact (Or.inl ⟨by have n1 := hw.1; have n2 := hw.2.1; omega, by first | rfl | (have n1 := hw.1; have n2 := hw.2.1; omega), by rfl⟩) | exact (Or.inr (Or.inl ⟨by have n1 := hw.1; have n2 := hw.2.1; omega, by first | rfl | (have n1 := hw.1; have n2 := hw.2.1; omega), by rfl⟩)) | exact (Or.inr (Or.inr ⟨by have n1 := hw.1; have n2 := hw.2.1; omega, by first | rfl | (have n1 := hw.1; have n2 := hw.2.1; omega), by rfl⟩)))⟩
      · refine aw_if_eq (tgt := 36) dX5_addRow_29 (by decide) (by decide) (fun _ => ?_) (fun h => absurd (by decide) h)
        refine aw_iconst dX5_addRow_36 ?_
        refine aw_istore (L2 := [some (rV K 30 0), some (iV (seats)), some (iV (score)), some (iV (price)), some (iV 0)]) dX5_addRow_37 (by decide) rfl ?_
        refine aw_aload_n dX5_addRow_39 rfl rfl ?_
        refine aw_iload dX5_addRow_40 rfl ?_
        refine aw_if_ne (tgt := 49) dX5_addRow_42 (by decide) (by decide) (fun h => absurd h (by decide)) (fun _ => ?_)
        refine aw_iconst dX5_addRow_45 ?_
        refine aw_goto (tgt := 63) dX5_addRow_46 (by decide) ?_
        refine aw_cVi (g := 30) (As := [iV 1]) (rest := []) (c_X5_holds hst M (1) (by have n1 := hw.1; have n2 := hw.2.1; omega)) cv_X5_holds dX5_addRow_63 ml_X5_63 rfl rfl rfl rfl rfl (Nat.le_of_ble_eq_true rfl) (by decide) rfl rfl (by decide) ?_
        refine aw_st (st' := [iV 0]) (by rw [if_neg (by decide)]) ?_
        refine aw_if_ne (tgt := 71) dX5_addRow_66 (by decide) (by decide) (fun h => absurd h (by decide)) (fun _ => ?_)
        refine aw_iconst dX5_addRow_69 ?_
        exact aw_iret dX5_addRow_70 rfl rfl (by decide) (by decide) ⟨0, rfl, (by first | (exfalso; have n1 := hw.1; have n2 := hw.2.1; omega) | exact (Or.inl ⟨by have n1 := hw.1; have n2 := hw.2.1; omega, by first | rfl | (have n1 := hw.1; have n2 := hw.2.1; omega), by rfl⟩) | exact (Or.inr (Or.inl ⟨by have n1 := hw.1; have n2 := hw.2.1; omega, by first | rfl | (have n1 := hw.1; have n2 := hw.2.1; omega), by rfl⟩)) | exact (Or.inr (Or.inr ⟨by have n1 := hw.1; have n2 := hw.2.1; omega, by first | rfl | (have n1 := hw.1; have n2 := hw.2.1; omega), by rfl⟩)))⟩
    · refine aw_if_eq (tgt := 36) dX5_addRow_18 (by decide) (by decide) (fun _ => ?_) (fun h => absurd (by decide) h)
      refine aw_iconst dX5_addRow_36 ?_
      refine aw_istore (L2 := [some (rV K 30 0), some (iV (seats)), some (iV (score)), some (iV (price)), some (iV 0)]) dX5_addRow_37 (by decide) rfl ?_
      refine aw_aload_n dX5_addRow_39 rfl rfl ?_
      refine aw_iload dX5_addRow_40 rfl ?_
      refine aw_if_ne (tgt := 49) dX5_addRow_42 (by decide) (by decide) (fun h => absurd h (by decide)) (fun _ => ?_)
      refine aw_iconst dX5_addRow_45 ?_
      refine aw_goto (tgt := 63) dX5_addRow_46 (by decide) ?_
      refine aw_cVi (g := 30) (As := [iV 1]) (rest := []) (c_X5_holds hst M (1) (by have n1 := hw.1; have n2 := hw.2.1; omega)) cv_X5_holds dX5_addRow_63 ml_X5_63 rfl rfl rfl rfl rfl (Nat.le_of_ble_eq_true rfl) (by decide) rfl rfl (by decide) ?_
      refine aw_st (st' := [iV 0]) (by rw [if_neg (by decide)]) ?_
      refine aw_if_ne (tgt := 71) dX5_addRow_66 (by decide) (by decide) (fun h => absurd h (by decide)) (fun _ => ?_)
      refine aw_iconst dX5_addRow_69 ?_
      exact aw_iret dX5_addRow_70 rfl rfl (by decide) (by decide) ⟨0, rfl, (by first | (exfalso; have n1 := hw.1; have n2 := hw.2.1; omega) | exact (Or.inl ⟨by have n1 := hw.1; have n2 := hw.2.1; omega, by first | rfl | (have n1 := hw.1; have n2 := hw.2.1; omega), by rfl⟩) | exact (Or.inr (Or.inl ⟨by have n1 := hw.1; have n2 := hw.2.1; omega, by first | rfl | (have n1 := hw.1; have n2 := hw.2.1; omega), by rfl⟩)) | exact (Or.inr (Or.inr ⟨by have n1 := hw.1; have n2 := hw.2.1; omega, by first | rfl | (have n1 := hw.1; have n2 := hw.2.1; omega), by rfl⟩)))⟩
  · refine aw_if_eq (tgt := 36) dX5_addRow_7 (by decide) (by decide) (fun _ => ?_) (fun h => absurd (by decide) h)
    refine aw_iconst dX5_addRow_36 ?_
    refine aw_istore (L2 := [some (rV K 30 0), some (iV (seats)), some (iV (score)), some (iV (price)), some (iV 0)]) dX5_addRow_37 (by decide) rfl ?_
    refine aw_aload_n dX5_addRow_39 rfl rfl ?_
    refine aw_iload dX5_addRow_40 rfl ?_
    refine aw_if_ne (tgt := 49) dX5_addRow_42 (by decide) (by decide) (fun h => absurd h (by decide)) (fun _ => ?_)
    refine aw_iconst dX5_addRow_45 ?_
    refine aw_goto (tgt := 63) dX5_addRow_46 (by decide) ?_
    refine aw_cVi (g := 30) (As := [iV 1]) (rest := []) (c_X5_holds hst M (1) (by have n1 := hw.1; have n2 := hw.2.1; omega)) cv_X5_holds dX5_addRow_63 ml_X5_63 rfl rfl rfl rfl rfl (Nat.le_of_ble_eq_true rfl) (by decide) rfl rfl (by decide) ?_
    refine aw_st (st' := [iV 0]) (by rw [if_neg (by decide)]) ?_
    refine aw_if_ne (tgt := 71) dX5_addRow_66 (by decide) (by decide) (fun h => absurd h (by decide)) (fun _ => ?_)
    refine aw_iconst dX5_addRow_69 ?_
    exact aw_iret dX5_addRow_70 rfl rfl (by decide) (by decide) ⟨0, rfl, (by first | (exfalso; have n1 := hw.1; have n2 := hw.2.1; omega) | exact (Or.inl ⟨by have n1 := hw.1; have n2 := hw.2.1; omega, by first | rfl | (have n1 := hw.1; have n2 := hw.2.1; omega), by rfl⟩) | exact (Or.inr (Or.inl ⟨by have n1 := hw.1; have n2 := hw.2.1; omega, by first | rfl | (have n1 := hw.1; have n2 := hw.2.1; omega), by rfl⟩)) | exact (Or.inr (Or.inr ⟨by have n1 := hw.1; have n2 := hw.2.1; omega, by first | rfl | (have n1 := hw.1; have n2 := hw.2.1; omega), by rfl⟩)))⟩
set_option maxHeartbeats 4000000 in
set_option maxRecDepth 20000 in
theorem c_X5_toggleBlocked {K : WPar} {l : Launch} (hst : l.stackTraces = false) (M : Mem) (row : Int) (seat : Int) (r_row : inR row) (r_seat : inR seat) (hw : HWm M) : CT K l iX5_toggleBlocked [rV K 30 0, iV (row), iV (seat)] M (rZm (fun z m => ((¬ (0 ≤ row ∧ row < M 30 0 3 ∧ 0 ≤ seat ∧ seat < M 31 0 row)) ∧ z = 0 ∧ m = thr M 1) ∨ (((0 ≤ row ∧ row < M 30 0 3 ∧ 0 ≤ seat ∧ seat < M 31 0 row) ∧ 0 < oMd M row seat) ∧ z = 0 ∧ m = thr M 2) ∨ (((0 ≤ row ∧ row < M 30 0 3 ∧ 0 ≤ seat ∧ seat < M 31 0 row) ∧ oMd M row seat = 0) ∧ z = 1 ∧ m = updM (thr M 0) 34 0 (20 * row + seat) (-1)) ∨ (((0 ≤ row ∧ row < M 30 0 3 ∧ 0 ≤ seat ∧ seat < M 31 0 row) ∧ oMd M row seat ≠ 0 ∧ oMd M row seat ≤ 0) ∧ z = 0 ∧ m = updM (thr M 0) 34 0 (20 * row + seat) 0))) := by
  refine aw_met [some (rV K 30 0), some (iV (row)), some (iV (seat)), none] hst (by decide) rfl (Nat.le_of_ble_eq_true rfl) rfl rfl (lcat rfl) ?_
  refine aw_rng (fun hM => ?_)
  refine aw_aload_n dX5_toggleBlocked_0 rfl rfl ?_
  refine aw_aload_n dX5_toggleBlocked_1 rfl rfl ?_
  refine aw_iload_n dX5_toggleBlocked_2 rfl rfl ?_
  refine aw_iload_n dX5_toggleBlocked_3 rfl rfl ?_
  refine aw_cVb (g := 30) (As := [iV (row), iV (seat)]) (rest := [rV K 30 0]) (c_X5_isSeat hst M (row) (seat) (by have n1 := hw.1; have n2 := hw.2.1; omega) (by have n1 := hw.1; have n2 := hw.2.1; omega) (by have n1 := hw.1; have n2 := hw.2.1; omega)) cv_X5_isSeat dX5_toggleBlocked_4 ml_X5_70 rfl rfl rfl rfl rfl (Nat.le_of_ble_eq_true rfl) (by decide) rfl rfl (by decide) (fun h4 => ?_) (fun h4 => ?_)
  · refine aw_if_ne (tgt := 14) dX5_toggleBlocked_7 (by decide) (by decide) (fun _ => ?_) (fun h => absurd h (by decide))
    refine aw_aload_n dX5_toggleBlocked_14 rfl rfl ?_
    refine aw_getr (g := 30) rfl rfl ly_X5 rfl (k := 7) dX5_toggleBlocked_15 (by decide) fl_X5_19 rfl ?_
    refine aw_bipush dX5_toggleBlocked_18 rfl ?_
    refine aw_iload_n dX5_toggleBlocked_20 rfl rfl ?_
    refine aw_imul dX5_toggleBlocked_21 ?_
    refine aw_iload_n dX5_toggleBlocked_22 rfl rfl ?_
    refine aw_iadd dX5_toggleBlocked_23 ?_
    refine aw_iald (g := 34) (n := 240) rfl (by decide) dX5_toggleBlocked_24 (by decide) (by show 0 ≤ ((20 * row) + seat) ∧ ((20 * row) + seat) < (240 : Int); first | (have n1 := hw.1; have n2 := hw.2.1; omega) | (have n1 := hw.1; have n2 := hw.2.1; have n3 := hw.2.2 row (by omega) (by omega); omega)) (fun r24 => ?_)
    refine aw_if_le (tgt := 32) dX5_toggleBlocked_25 (by decide) (by first | (have n1 := hw.1; have n2 := hw.2.1; omega) | (have n1 := hw.1; have n2 := hw.2.1; have n3 := hw.2.2 row (by omega) (by omega); omega)) (fun h25 => ?_) (fun h25 => ?_)
    · refine aw_iconst dX5_toggleBlocked_32 ?_
      refine aw_cVi (g := 30) (As := [iV 0]) (rest := []) (c_X5_holds hst M (0) (by first | (have n1 := hw.1; have n2 := hw.2.1; omega) | (have n1 := hw.1; have n2 := hw.2.1; have n3 := hw.2.2 row (by omega) (by omega); omega))) cv_X5_holds dX5_toggleBlocked_33 ml_X5_63 rfl rfl rfl rfl rfl (Nat.le_of_ble_eq_true rfl) (by decide) rfl rfl (by decide) ?_
      refine aw_st (st' := [iV 1]) (by rw [if_pos (by decide)]) ?_
      refine aw_if_ne (tgt := 41) dX5_toggleBlocked_36 (by decide) (by decide) (fun _ => ?_) (fun h => absurd h (by decide))
      refine aw_aload_n dX5_toggleBlocked_41 rfl rfl ?_
      refine aw_getr (g := 30) rfl rfl ly_X5 rfl (k := 7) dX5_toggleBlocked_42 (by decide) fl_X5_19 rfl ?_
      refine aw_bipush dX5_toggleBlocked_45 rfl ?_
      refine aw_iload_n dX5_toggleBlocked_47 rfl rfl ?_
      refine aw_imul dX5_toggleBlocked_48 ?_
      refine aw_iload_n dX5_toggleBlocked_49 rfl rfl ?_
      refine aw_iadd dX5_toggleBlocked_50 ?_
      refine aw_iald (g := 34) (n := 240) rfl (by decide) dX5_toggleBlocked_51 (by decide) (by show 0 ≤ ((20 * row) + seat) ∧ ((20 * row) + seat) < (240 : Int); first | (have n1 := hw.1; have n2 := hw.2.1; omega) | (have n1 := hw.1; have n2 := hw.2.1; have n3 := hw.2.2 row (by omega) (by omega); omega)) (fun r51 => ?_)
      have r51 : inR (M 34 0 ((20 * row) + seat)) := r51
      refine aw_st (st' := [iV (M 34 0 ((20 * row) + seat))]) (by rw [show ((thr M 0) 34 0 ((20 * row) + seat) : Int) = M 34 0 ((20 * row) + seat) from by rfl]) ?_
      refine aw_if_ne (tgt := 59) dX5_toggleBlocked_52 (by decide) (by first | (have n1 := hw.1; have n2 := hw.2.1; omega) | (have n1 := hw.1; have n2 := hw.2.1; have n3 := hw.2.2 row (by omega) (by omega); omega)) (fun h52 => ?_) (fun h52 => ?_)
      · refine aw_iconst dX5_toggleBlocked_59 ?_
        refine aw_istore_n (L2 := [some (rV K 30 0), some (iV (row)), some (iV (seat)), some (iV 0)]) dX5_toggleBlocked_60 rfl (by decide) rfl ?_
        refine aw_aload_n dX5_toggleBlocked_61 rfl rfl ?_
        refine aw_getr (g := 30) rfl rfl ly_X5 rfl (k := 7) dX5_toggleBlocked_62 (by decide) fl_X5_19 rfl ?_
        refine aw_bipush dX5_toggleBlocked_65 rfl ?_
        refine aw_iload_n dX5_toggleBlocked_67 rfl rfl ?_
        refine aw_imul dX5_toggleBlocked_68 ?_
        refine aw_iload_n dX5_toggleBlocked_69 rfl rfl ?_
        refine aw_iadd dX5_toggleBlocked_70 ?_
        refine aw_iload_n dX5_toggleBlocked_71 rfl rfl ?_
        refine aw_if_eq (tgt := 79) dX5_toggleBlocked_72 (by decide) (by decide) (fun _ => ?_) (fun h => absurd (by decide) h)
        refine aw_iconst dX5_toggleBlocked_79 ?_
        refine aw_iast (g := 34) (n := 240) (M' := updM (thr M 0) 34 0 ((20 * row) + seat) 0) rfl (by decide) dX5_toggleBlocked_80 (by decide) (by show 0 ≤ ((20 * row) + seat) ∧ ((20 * row) + seat) < (240 : Int); first | (have n1 := hw.1; have n2 := hw.2.1; omega) | (have n1 := hw.1; have n2 := hw.2.1; have n3 := hw.2.2 row (by omega) (by omega); omega)) (by first | (have n1 := hw.1; have n2 := hw.2.1; omega) | (have n1 := hw.1; have n2 := hw.2.1; have n3 := hw.2.2 row (by omega) (by omega); omega)) rfl ?_
        refine aw_iload_n dX5_toggleBlocked_81 rfl rfl ?_
        exact aw_iret dX5_toggleBlocked_82 rfl rfl (by decide) (by decide) ⟨0, rfl, (by first | (exfalso; have oq : oMd M row seat = M 34 0 (20 * row + seat) := rfl; omega) | exact (Or.inl ⟨by have oq : oMd M row seat = M 34 0 (20 * row + seat) := rfl; omega, by first | rfl | (have oq : oMd M row seat = M 34 0 (20 * row + seat) := rfl; omega), by rfl⟩) | exact (Or.inr (Or.inl ⟨by have oq : oMd M row seat = M 34 0 (20 * row + seat) := rfl; omega, by first | rfl | (have oq : oMd M row seat = M 34 0 (20 * row + seat) := rfl; omega), by rfl⟩)) | exact (Or.inr (Or.inr (Or.inl ⟨by have oq : oMd M row seat = M 34 0 (20 * row + seat) := rfl; omega, by first | rfl | (have oq : oMd M row seat = M 34 0 (20 * row + seat) := rfl; omega), by rfl⟩))) | exact (Or.inr (Or.inr (Or.inr ⟨by have oq : oMd M row seat = M 34 0 (20 * row + seat) := rfl; omega, by first | rfl | (have oq : oMd M row seat = M 34 0 (20 * row + seat) := rfl; omega), by rfl⟩))))⟩
      · refine aw_iconst dX5_toggleBlocked_55 ?_
        refine aw_goto (tgt := 60) dX5_toggleBlocked_56 (by decide) ?_
        refine aw_istore_n (L2 := [some (rV K 30 0), some (iV (row)), some (iV (seat)), some (iV 1)]) dX5_toggleBlocked_60 rfl (by decide) rfl ?_
        refine aw_aload_n dX5_toggleBlocked_61 rfl rfl ?_
        refine aw_getr (g := 30) rfl rfl ly_X5 rfl (k := 7) dX5_toggleBlocked_62 (by decide) fl_X5_19 rfl ?_
        refine aw_bipush dX5_toggleBlocked_65 rfl ?_
        refine aw_iload_n dX5_toggleBlocked_67 rfl rfl ?_
        refine aw_imul dX5_toggleBlocked_68 ?_
        refine aw_iload_n dX5_toggleBlocked_69 rfl rfl ?_
        refine aw_iadd dX5_toggleBlocked_70 ?_
        refine aw_iload_n dX5_toggleBlocked_71 rfl rfl ?_
        refine aw_if_eq (tgt := 79) dX5_toggleBlocked_72 (by decide) (by decide) (fun h => absurd h (by decide)) (fun _ => ?_)
        refine aw_iconst dX5_toggleBlocked_75 ?_
        refine aw_goto (tgt := 80) dX5_toggleBlocked_76 (by decide) ?_
        refine aw_iast (g := 34) (n := 240) (M' := updM (thr M 0) 34 0 ((20 * row) + seat) (-1)) rfl (by decide) dX5_toggleBlocked_80 (by decide) (by show 0 ≤ ((20 * row) + seat) ∧ ((20 * row) + seat) < (240 : Int); first | (have n1 := hw.1; have n2 := hw.2.1; omega) | (have n1 := hw.1; have n2 := hw.2.1; have n3 := hw.2.2 row (by omega) (by omega); omega)) (by first | (have n1 := hw.1; have n2 := hw.2.1; omega) | (have n1 := hw.1; have n2 := hw.2.1; have n3 := hw.2.2 row (by omega) (by omega); omega)) rfl ?_
        refine aw_iload_n dX5_toggleBlocked_81 rfl rfl ?_
        exact aw_iret dX5_toggleBlocked_82 rfl rfl (by decide) (by decide) ⟨1, rfl, (by first | (exfalso; have oq : oMd M row seat = M 34 0 (20 * row + seat) := rfl; omega) | exact (Or.inl ⟨by have oq : oMd M row seat = M 34 0 (20 * row + seat) := rfl; omega, by first | rfl | (have oq : oMd M row seat = M 34 0 (20 * row + seat) := rfl; omega), by rfl⟩) | exact (Or.inr (Or.inl ⟨by have oq : oMd M row seat = M 34 0 (20 * row + seat) := rfl; omega, by first | rfl | (have oq : oMd M row seat = M 34 0 (20 * row + seat) := rfl; omega), by rfl⟩)) | exact (Or.inr (Or.inr (Or.inl ⟨by have oq : oMd M row seat = M 34 0 (20 * row + seat) := rfl; omega, by first | rfl | (have oq : oMd M row seat = M 34 0 (20 * row + seat) := rfl; omega), by rfl⟩))) | exact (Or.inr (Or.inr (Or.inr ⟨by have oq : oMd M row seat = M 34 0 (20 * row + seat) := rfl; omega, by first | rfl | (have oq : oMd M row seat = M 34 0 (20 * row + seat) := rfl; omega), by rfl⟩))))⟩
    · refine aw_iconst dX5_toggleBlocked_28 ?_
      refine aw_goto (tgt := 33) dX5_toggleBlocked_29 (by decide) ?_
      refine aw_cVi (g := 30) (As := [iV 2]) (rest := []) (c_X5_holds hst M (2) (by first | (have n1 := hw.1; have n2 := hw.2.1; omega) | (have n1 := hw.1; have n2 := hw.2.1; have n3 := hw.2.2 row (by omega) (by omega); omega))) cv_X5_holds dX5_toggleBlocked_33 ml_X5_63 rfl rfl rfl rfl rfl (Nat.le_of_ble_eq_true rfl) (by decide) rfl rfl (by decide) ?_
      refine aw_st (st' := [iV 0]) (by rw [if_neg (by decide)]) ?_
      refine aw_if_ne (tgt := 41) dX5_toggleBlocked_36 (by decide) (by decide) (fun h => absurd h (by decide)) (fun _ => ?_)
      refine aw_iconst dX5_toggleBlocked_39 ?_
      exact aw_iret dX5_toggleBlocked_40 rfl rfl (by decide) (by decide) ⟨0, rfl, (by first | (exfalso; have oq : oMd M row seat = M 34 0 (20 * row + seat) := rfl; omega) | exact (Or.inl ⟨by have oq : oMd M row seat = M 34 0 (20 * row + seat) := rfl; omega, by first | rfl | (have oq : oMd M row seat = M 34 0 (20 * row + seat) := rfl; omega), by rfl⟩) | exact (Or.inr (Or.inl ⟨by have oq : oMd M row seat = M 34 0 (20 * row + seat) := rfl; omega, by first | rfl | (have oq : oMd M row seat = M 34 0 (20 * row + seat) := rfl; omega), by rfl⟩)) | exact (Or.inr (Or.inr (Or.inl ⟨by have oq : oMd M row seat = M 34 0 (20 * row + seat) := rfl; omega, by first | rfl | (have oq : oMd M row seat = M 34 0 (20 * row + seat) := rfl; omega), by rfl⟩))) | exact (Or.inr (Or.inr (Or.inr ⟨by have oq : oMd M row seat = M 34 0 (20 * row + seat) := rfl; omega, by first | rfl | (have oq : oMd M row seat = M 34 0 (20 * row + seat) := rfl; omega), by rfl⟩))))⟩
  · refine aw_if_ne (tgt := 14) dX5_toggleBlocked_7 (by decide) (by decide) (fun h => absurd h (by decide)) (fun _ => ?_)
    refine aw_iconst dX5_toggleBlocked_10 ?_
    refine aw_goto (tgt := 33) dX5_toggleBlocked_11 (by decide) ?_
    refine aw_cVi (g := 30) (As := [iV 1]) (rest := []) (c_X5_holds hst M (1) (by first | (have n1 := hw.1; have n2 := hw.2.1; omega) | (have n1 := hw.1; have n2 := hw.2.1; have n3 := hw.2.2 row (by omega) (by omega); omega))) cv_X5_holds dX5_toggleBlocked_33 ml_X5_63 rfl rfl rfl rfl rfl (Nat.le_of_ble_eq_true rfl) (by decide) rfl rfl (by decide) ?_
    refine aw_st (st' := [iV 0]) (by rw [if_neg (by decide)]) ?_
    refine aw_if_ne (tgt := 41) dX5_toggleBlocked_36 (by decide) (by decide) (fun h => absurd h (by decide)) (fun _ => ?_)
    refine aw_iconst dX5_toggleBlocked_39 ?_
    exact aw_iret dX5_toggleBlocked_40 rfl rfl (by decide) (by decide) ⟨0, rfl, (by first | (exfalso; have oq : oMd M row seat = M 34 0 (20 * row + seat) := rfl; omega) | exact (Or.inl ⟨by have oq : oMd M row seat = M 34 0 (20 * row + seat) := rfl; omega, by first | rfl | (have oq : oMd M row seat = M 34 0 (20 * row + seat) := rfl; omega), by rfl⟩) | exact (Or.inr (Or.inl ⟨by have oq : oMd M row seat = M 34 0 (20 * row + seat) := rfl; omega, by first | rfl | (have oq : oMd M row seat = M 34 0 (20 * row + seat) := rfl; omega), by rfl⟩)) | exact (Or.inr (Or.inr (Or.inl ⟨by have oq : oMd M row seat = M 34 0 (20 * row + seat) := rfl; omega, by first | rfl | (have oq : oMd M row seat = M 34 0 (20 * row + seat) := rfl; omega), by rfl⟩))) | exact (Or.inr (Or.inr (Or.inr ⟨by have oq : oMd M row seat = M 34 0 (20 * row + seat) := rfl; omega, by first | rfl | (have oq : oMd M row seat = M 34 0 (20 * row + seat) := rfl; omega), by rfl⟩))))⟩
set_option maxHeartbeats 4000000 in
set_option maxRecDepth 20000 in
theorem c_X5_state {K : WPar} {l : Launch} (hst : l.stackTraces = false) (M : Mem) (row : Int) (seat : Int) (r_row : inR row) (r_seat : inR seat) (hw : HWm M) (bw : BWm M) (v_o : ∀ r s : Int, 0 ≤ r → r < M 30 0 3 → 0 ≤ s → s < M 31 0 r → oMd M r s = 0 ∨ oMd M r s = -1 ∨ (1 ≤ oMd M r s ∧ oMd M r s ≤ M 30 0 8)) : CT K l iX5_state [rV K 30 0, iV (row), iV (seat)] M (rZm (fun z m => ((¬ (0 ≤ row ∧ row < M 30 0 3 ∧ 0 ≤ seat ∧ seat < M 31 0 row)) ∧ z = 0 ∧ m = thr M 1) ∨ (((0 ≤ row ∧ row < M 30 0 3 ∧ 0 ≤ seat ∧ seat < M 31 0 row) ∧ oMd M row seat = 0) ∧ z = 0 ∧ m = thr M 0) ∨ (((0 ≤ row ∧ row < M 30 0 3 ∧ 0 ≤ seat ∧ seat < M 31 0 row) ∧ oMd M row seat = -1) ∧ z = 3 ∧ m = thr M 0) ∨ (((0 ≤ row ∧ row < M 30 0 3 ∧ 0 ≤ seat ∧ seat < M 31 0 row) ∧ (oMd M row seat ≠ 0 ∧ oMd M row seat ≠ -1) ∧ M 35 0 (oMd M row seat) = 0) ∧ z = 1 ∧ m = thr M 0) ∨ (((0 ≤ row ∧ row < M 30 0 3 ∧ 0 ≤ seat ∧ seat < M 31 0 row) ∧ (oMd M row seat ≠ 0 ∧ oMd M row seat ≠ -1) ∧ M 35 0 (oMd M row seat) ≠ 0) ∧ z = 2 ∧ m = thr M 0))) := by
  refine aw_met [some (rV K 30 0), some (iV (row)), some (iV (seat)), none] hst (by decide) rfl (Nat.le_of_ble_eq_true rfl) rfl rfl (lcat rfl) ?_
  refine aw_rng (fun hM => ?_)
  refine aw_aload_n dX5_state_0 rfl rfl ?_
  refine aw_aload_n dX5_state_1 rfl rfl ?_
  refine aw_iload_n dX5_state_2 rfl rfl ?_
  refine aw_iload_n dX5_state_3 rfl rfl ?_
  refine aw_cVb (g := 30) (As := [iV (row), iV (seat)]) (rest := [rV K 30 0]) (c_X5_isSeat hst M (row) (seat) (by first | (have n1 := hw.1; have n2 := hw.2.1; omega) | (have n1 := hw.1; have n2 := hw.2.1; have n3 := hw.2.2 row (by omega) (by omega); omega)) (by first | (have n1 := hw.1; have n2 := hw.2.1; omega) | (have n1 := hw.1; have n2 := hw.2.1; have n3 := hw.2.2 row (by omega) (by omega); omega)) (by first | (have n1 := hw.1; have n2 := hw.2.1; omega) | (have n1 := hw.1; have n2 := hw.2.1; have n3 := hw.2.2 row (by omega) (by omega); omega))) cv_X5_isSeat dX5_state_4 ml_X5_70 rfl rfl rfl rfl rfl (Nat.le_of_ble_eq_true rfl) (by decide) rfl rfl (by decide) (fun h4 => ?_) (fun h4 => ?_)
  · refine aw_if_eq (tgt := 14) dX5_state_7 (by decide) (by decide) (fun h => absurd h (by decide)) (fun _ => ?_)
    refine aw_iconst dX5_state_10 ?_
    refine aw_goto (tgt := 15) dX5_state_11 (by decide) ?_
    refine aw_cVi (g := 30) (As := [iV 0]) (rest := []) (c_X5_holds hst M (0) (by first | (have n1 := hw.1; have n2 := hw.2.1; omega) | (have n1 := hw.1; have n2 := hw.2.1; have n3 := hw.2.2 row (by omega) (by omega); omega))) cv_X5_holds dX5_state_15 ml_X5_63 rfl rfl rfl rfl rfl (Nat.le_of_ble_eq_true rfl) (by decide) rfl rfl (by decide) ?_
    refine aw_st (st' := [iV 1]) (by rw [if_pos (by decide)]) ?_
    refine aw_if_ne (tgt := 23) dX5_state_18 (by decide) (by decide) (fun _ => ?_) (fun h => absurd h (by decide))
    refine aw_aload_n dX5_state_23 rfl rfl ?_
    refine aw_getr (g := 30) rfl rfl ly_X5 rfl (k := 7) dX5_state_24 (by decide) fl_X5_19 rfl ?_
    refine aw_bipush dX5_state_27 rfl ?_
    refine aw_iload_n dX5_state_29 rfl rfl ?_
    refine aw_imul dX5_state_30 ?_
    refine aw_iload_n dX5_state_31 rfl rfl ?_
    refine aw_iadd dX5_state_32 ?_
    refine aw_iald (g := 34) (n := 240) rfl (by decide) dX5_state_33 (by decide) (by show 0 ≤ ((20 * row) + seat) ∧ ((20 * row) + seat) < (240 : Int); first | (have n1 := hw.1; have n2 := hw.2.1; omega) | (have n1 := hw.1; have n2 := hw.2.1; have n3 := hw.2.2 row (by omega) (by omega); omega)) (fun r33 => ?_)
    have r33 : inR (M 34 0 ((20 * row) + seat)) := r33
    refine aw_st (st' := [iV (M 34 0 ((20 * row) + seat))]) (by rw [show ((thr M 0) 34 0 ((20 * row) + seat) : Int) = M 34 0 ((20 * row) + seat) from by rfl]) ?_
    refine aw_istore_n (L2 := [some (rV K 30 0), some (iV (row)), some (iV (seat)), some (iV (M 34 0 ((20 * row) + seat)))]) dX5_state_34 rfl (by decide) rfl ?_
    refine aw_iload_n dX5_state_35 rfl rfl ?_
    refine aw_if_ne (tgt := 43) dX5_state_36 (by decide) (by first | (have n1 := hw.1; have n2 := hw.2.1; omega) | (have n1 := hw.1; have n2 := hw.2.1; have n3 := hw.2.2 row (by omega) (by omega); omega)) (fun h36 => ?_) (fun h36 => ?_)
    · refine aw_iload_n dX5_state_43 rfl rfl ?_
      refine aw_iconst dX5_state_44 ?_
      refine aw_icmp_ne (tgt := 52) dX5_state_45 (by decide) (by first | (have n1 := hw.1; have n2 := hw.2.1; omega) | (have n1 := hw.1; have n2 := hw.2.1; have n3 := hw.2.2 row (by omega) (by omega); omega)) (by first | (have n1 := hw.1; have n2 := hw.2.1; omega) | (have n1 := hw.1; have n2 := hw.2.1; have n3 := hw.2.2 row (by omega) (by omega); omega)) (fun h45 => ?_) (fun h45 => ?_)
      · refine aw_aload_n dX5_state_52 rfl rfl ?_
        refine aw_getr (g := 30) rfl rfl ly_X5 rfl (k := 9) dX5_state_53 (by decide) fl_X5_22 rfl ?_
        refine aw_iload_n dX5_state_56 rfl rfl ?_
        refine aw_iald (g := 35) (n := 101) rfl (by decide) dX5_state_57 (by decide) (by show 0 ≤ (M 34 0 ((20 * row) + seat)) ∧ (M 34 0 ((20 * row) + seat)) < (101 : Int); have ov := v_o row seat (by omega) (by omega) (by omega) (by omega); have oq : oMd M row seat = M 34 0 (20 * row + seat) := rfl; have n1 := hw.1; have n2 := hw.2.1; have t1 := bw.1; have t2 := bw.2; omega) (fun r57 => ?_)
        have r57 : inR (M 35 0 (M 34 0 ((20 * row) + seat))) := r57
        refine aw_st (st' := [iV (M 35 0 (M 34 0 ((20 * row) + seat)))]) (by rw [show ((thr M 0) 35 0 (M 34 0 ((20 * row) + seat)) : Int) = M 35 0 (M 34 0 ((20 * row) + seat)) from by rfl]) ?_
        refine aw_if_ne (tgt := 65) dX5_state_58 (by decide) (by first | (have n1 := hw.1; have n2 := hw.2.1; omega) | (have n1 := hw.1; have n2 := hw.2.1; have n3 := hw.2.2 row (by omega) (by omega); omega)) (fun h58 => ?_) (fun h58 => ?_)
        · refine aw_iconst dX5_state_65 ?_
          exact aw_iret dX5_state_66 rfl rfl (by decide) (by decide) ⟨2, rfl, (by first | (exfalso; omega) | exact Or.inr (Or.inr (Or.inr (Or.inl ⟨⟨by omega, ⟨h36, h45⟩, h58⟩, rfl, rfl⟩))) | exact Or.inr (Or.inr (Or.inr (Or.inr ⟨⟨by omega, ⟨h36, h45⟩, h58⟩, rfl, rfl⟩))) | (first | (exfalso; have oq : oMd M row seat = M 34 0 (20 * row + seat) := rfl; omega) | exact (Or.inl ⟨by have oq : oMd M row seat = M 34 0 (20 * row + seat) := rfl; omega, by first | rfl | (have oq : oMd M row seat = M 34 0 (20 * row + seat) := rfl; omega), by rfl⟩) | exact (Or.inr (Or.inl ⟨by have oq : oMd M row seat = M 34 0 (20 * row + seat) := rfl; omega, by first | rfl | (have oq : oMd M row seat = M 34 0 (20 * row + seat) := rfl; omega), by rfl⟩)) | exact (Or.inr (Or.inr (Or.inl ⟨by have oq : oMd M row seat = M 34 0 (20 * row + seat) := rfl; omega, by first | rfl | (have oq : oMd M row seat = M 34 0 (20 * row + seat) := rfl; omega), by rfl⟩))) | exact (Or.inr (Or.inr (Or.inr (Or.inl ⟨by have oq : oMd M row seat = M 34 0 (20 * row + seat) := rfl; omega, by first | rfl | (have oq : oMd M row seat = M 34 0 (20 * row + seat) := rfl; omega), by rfl⟩)))) | exact (Or.inr (Or.inr (Or.inr (Or.inr ⟨by have oq : oMd M row seat = M 34 0 (20 * row + seat) := rfl; omega, by first | rfl | (have oq : oMd M row seat = M 34 0 (20 * row + seat) := rfl; omega), by rfl⟩))))))⟩
        · refine aw_iconst dX5_state_61 ?_
          refine aw_goto (tgt := 66) dX5_state_62 (by decide) ?_
          exact aw_iret dX5_state_66 rfl rfl (by decide) (by decide) ⟨1, rfl, (by first | (exfalso; omega) | exact Or.inr (Or.inr (Or.inr (Or.inl ⟨⟨by omega, ⟨h36, h45⟩, h58⟩, rfl, rfl⟩))) | exact Or.inr (Or.inr (Or.inr (Or.inr ⟨⟨by omega, ⟨h36, h45⟩, h58⟩, rfl, rfl⟩))) | (first | (exfalso; have oq : oMd M row seat = M 34 0 (20 * row + seat) := rfl; omega) | exact (Or.inl ⟨by have oq : oMd M row seat = M 34 0 (20 * row + seat) := rfl; omega, by first | rfl | (have oq : oMd M row seat = M 34 0 (20 * row + seat) := rfl; omega), by rfl⟩) | exact (Or.inr (Or.inl ⟨by have oq : oMd M row seat = M 34 0 (20 * row + seat) := rfl; omega, by first | rfl | (have oq : oMd M row seat = M 34 0 (20 * row + seat) := rfl; omega), by rfl⟩)) | exact (Or.inr (Or.inr (Or.inl ⟨by have oq : oMd M row seat = M 34 0 (20 * row + seat) := rfl; omega, by first | rfl | (have oq : oMd M row seat = M 34 0 (20 * row + seat) := rfl; omega), by rfl⟩))) | exact (Or.inr (Or.inr (Or.inr (Or.inl ⟨by have oq : oMd M row seat = M 34 0 (20 * row + seat) := rfl; omega, by first | rfl | (have oq : oMd M row seat = M 34 0 (20 * row + seat) := rfl; omega), by rfl⟩)))) | exact (Or.inr (Or.inr (Or.inr (Or.inr ⟨by have oq : oMd M row seat = M 34 0 (20 * row + seat) := rfl; omega, by first | rfl | (have oq : oMd M row seat = M 34 0 (20 * row + seat) := rfl; omega), by rfl⟩))))))⟩
      · refine aw_iconst dX5_state_48 ?_
        refine aw_goto (tgt := 66) dX5_state_49 (by decide) ?_
        exact aw_iret dX5_state_66 rfl rfl (by decide) (by decide) ⟨3, rfl, (by first | (exfalso; omega) | exact Or.inr (Or.inr (Or.inr (Or.inl ⟨⟨by omega, ⟨h36, h45⟩, h58⟩, rfl, rfl⟩))) | exact Or.inr (Or.inr (Or.inr (Or.inr ⟨⟨by omega, ⟨h36, h45⟩, h58⟩, rfl, rfl⟩))) | (first | (exfalso; have oq : oMd M row seat = M 34 0 (20 * row + seat) := rfl; omega) | exact (Or.inl ⟨by have oq : oMd M row seat = M 34 0 (20 * row + seat) := rfl; omega, by first | rfl | (have oq : oMd M row seat = M 34 0 (20 * row + seat) := rfl; omega), by rfl⟩) | exact (Or.inr (Or.inl ⟨by have oq : oMd M row seat = M 34 0 (20 * row + seat) := rfl; omega, by first | rfl | (have oq : oMd M row seat = M 34 0 (20 * row + seat) := rfl; omega), by rfl⟩)) | exact (Or.inr (Or.inr (Or.inl ⟨by have oq : oMd M row seat = M 34 0 (20 * row + seat) := rfl; omega, by first | rfl | (have oq : oMd M row seat = M 34 0 (20 * row + seat) := rfl; omega), by rfl⟩))) | exact (Or.inr (Or.inr (Or.inr (Or.inl ⟨by have oq : oMd M row seat = M 34 0 (20 * row + seat) := rfl; omega, by first | rfl | (have oq : oMd M row seat = M 34 0 (20 * row + seat) := rfl; omega), by rfl⟩)))) | exact (Or.inr (Or.inr (Or.inr (Or.inr ⟨by have oq : oMd M row seat = M 34 0 (20 * row + seat) := rfl; omega, by first | rfl | (have oq : oMd M row seat = M 34 0 (20 * row + seat) := rfl; omega), by rfl⟩))))))⟩
    · refine aw_iconst dX5_state_39 ?_
      refine aw_goto (tgt := 66) dX5_state_40 (by decide) ?_
      exact aw_iret dX5_state_66 rfl rfl (by decide) (by decide) ⟨0, rfl, (by first | (exfalso; omega) | exact Or.inr (Or.inr (Or.inr (Or.inl ⟨⟨by omega, ⟨h36, h45⟩, h58⟩, rfl, rfl⟩))) | exact Or.inr (Or.inr (Or.inr (Or.inr ⟨⟨by omega, ⟨h36, h45⟩, h58⟩, rfl, rfl⟩))) | (first | (exfalso; have oq : oMd M row seat = M 34 0 (20 * row + seat) := rfl; omega) | exact (Or.inl ⟨by have oq : oMd M row seat = M 34 0 (20 * row + seat) := rfl; omega, by first | rfl | (have oq : oMd M row seat = M 34 0 (20 * row + seat) := rfl; omega), by rfl⟩) | exact (Or.inr (Or.inl ⟨by have oq : oMd M row seat = M 34 0 (20 * row + seat) := rfl; omega, by first | rfl | (have oq : oMd M row seat = M 34 0 (20 * row + seat) := rfl; omega), by rfl⟩)) | exact (Or.inr (Or.inr (Or.inl ⟨by have oq : oMd M row seat = M 34 0 (20 * row + seat) := rfl; omega, by first | rfl | (have oq : oMd M row seat = M 34 0 (20 * row + seat) := rfl; omega), by rfl⟩))) | exact (Or.inr (Or.inr (Or.inr (Or.inl ⟨by have oq : oMd M row seat = M 34 0 (20 * row + seat) := rfl; omega, by first | rfl | (have oq : oMd M row seat = M 34 0 (20 * row + seat) := rfl; omega), by rfl⟩)))) | exact (Or.inr (Or.inr (Or.inr (Or.inr ⟨by have oq : oMd M row seat = M 34 0 (20 * row + seat) := rfl; omega, by first | rfl | (have oq : oMd M row seat = M 34 0 (20 * row + seat) := rfl; omega), by rfl⟩))))))⟩
  · refine aw_if_eq (tgt := 14) dX5_state_7 (by decide) (by decide) (fun _ => ?_) (fun h => absurd (by decide) h)
    refine aw_iconst dX5_state_14 ?_
    refine aw_cVi (g := 30) (As := [iV 1]) (rest := []) (c_X5_holds hst M (1) (by first | (have n1 := hw.1; have n2 := hw.2.1; omega) | (have n1 := hw.1; have n2 := hw.2.1; have n3 := hw.2.2 row (by omega) (by omega); omega))) cv_X5_holds dX5_state_15 ml_X5_63 rfl rfl rfl rfl rfl (Nat.le_of_ble_eq_true rfl) (by decide) rfl rfl (by decide) ?_
    refine aw_st (st' := [iV 0]) (by rw [if_neg (by decide)]) ?_
    refine aw_if_ne (tgt := 23) dX5_state_18 (by decide) (by decide) (fun h => absurd h (by decide)) (fun _ => ?_)
    refine aw_iconst dX5_state_21 ?_
    exact aw_iret dX5_state_22 rfl rfl (by decide) (by decide) ⟨0, rfl, (by first | (exfalso; have oq : oMd M row seat = M 34 0 (20 * row + seat) := rfl; omega) | exact (Or.inl ⟨by have oq : oMd M row seat = M 34 0 (20 * row + seat) := rfl; omega, by first | rfl | (have oq : oMd M row seat = M 34 0 (20 * row + seat) := rfl; omega), by rfl⟩) | exact (Or.inr (Or.inl ⟨by have oq : oMd M row seat = M 34 0 (20 * row + seat) := rfl; omega, by first | rfl | (have oq : oMd M row seat = M 34 0 (20 * row + seat) := rfl; omega), by rfl⟩)) | exact (Or.inr (Or.inr (Or.inl ⟨by have oq : oMd M row seat = M 34 0 (20 * row + seat) := rfl; omega, by first | rfl | (have oq : oMd M row seat = M 34 0 (20 * row + seat) := rfl; omega), by rfl⟩))) | exact (Or.inr (Or.inr (Or.inr (Or.inl ⟨by have oq : oMd M row seat = M 34 0 (20 * row + seat) := rfl; omega, by first | rfl | (have oq : oMd M row seat = M 34 0 (20 * row + seat) := rfl; omega), by rfl⟩)))) | exact (Or.inr (Or.inr (Or.inr (Or.inr ⟨by have oq : oMd M row seat = M 34 0 (20 * row + seat) := rfl; omega, by first | rfl | (have oq : oMd M row seat = M 34 0 (20 * row + seat) := rfl; omega), by rfl⟩)))))⟩
set_option maxHeartbeats 4000000 in
set_option maxRecDepth 20000 in
theorem c_X5_ticketAt {K : WPar} {l : Launch} (hst : l.stackTraces = false) (M : Mem) (row : Int) (seat : Int) (r_row : inR row) (r_seat : inR seat) (hw : HWm M) : CT K l iX5_ticketAt [rV K 30 0, iV (row), iV (seat)] M (rZm (fun z m => ((¬ (0 ≤ row ∧ row < M 30 0 3 ∧ 0 ≤ seat ∧ seat < M 31 0 row)) ∧ z = 0 ∧ m = thr M 1) ∨ (((0 ≤ row ∧ row < M 30 0 3 ∧ 0 ≤ seat ∧ seat < M 31 0 row) ∧ 0 < oMd M row seat) ∧ z = oMd M row seat ∧ m = thr M 0) ∨ (((0 ≤ row ∧ row < M 30 0 3 ∧ 0 ≤ seat ∧ seat < M 31 0 row) ∧ ¬ 0 < oMd M row seat) ∧ z = 0 ∧ m = thr M 0))) := by
  refine aw_met [some (rV K 30 0), some (iV (row)), some (iV (seat))] hst (by decide) rfl (Nat.le_of_ble_eq_true rfl) rfl rfl (lcat rfl) ?_
  refine aw_rng (fun hM => ?_)
  refine aw_aload_n dX5_ticketAt_0 rfl rfl ?_
  refine aw_aload_n dX5_ticketAt_1 rfl rfl ?_
  refine aw_iload_n dX5_ticketAt_2 rfl rfl ?_
  refine aw_iload_n dX5_ticketAt_3 rfl rfl ?_
  refine aw_cVb (g := 30) (As := [iV (row), iV (seat)]) (rest := [rV K 30 0]) (c_X5_isSeat hst M (row) (seat) (by first | (have n1 := hw.1; have n2 := hw.2.1; omega) | (have n1 := hw.1; have n2 := hw.2.1; have n3 := hw.2.2 row (by omega) (by omega); omega)) (by first | (have n1 := hw.1; have n2 := hw.2.1; omega) | (have n1 := hw.1; have n2 := hw.2.1; have n3 := hw.2.2 row (by omega) (by omega); omega)) (by first | (have n1 := hw.1; have n2 := hw.2.1; omega) | (have n1 := hw.1; have n2 := hw.2.1; have n3 := hw.2.2 row (by omega) (by omega); omega))) cv_X5_isSeat dX5_ticketAt_4 ml_X5_70 rfl rfl rfl rfl rfl (Nat.le_of_ble_eq_true rfl) (by decide) rfl rfl (by decide) (fun h4 => ?_) (fun h4 => ?_)
  · refine aw_if_eq (tgt := 14) dX5_ticketAt_7 (by decide) (by decide) (fun h => absurd h (by decide)) (fun _ => ?_)
    refine aw_iconst dX5_ticketAt_10 ?_
    refine aw_goto (tgt := 15) dX5_ticketAt_11 (by decide) ?_
    refine aw_cVi (g := 30) (As := [iV 0]) (rest := []) (c_X5_holds hst M (0) (by first | (have n1 := hw.1; have n2 := hw.2.1; omega) | (have n1 := hw.1; have n2 := hw.2.1; have n3 := hw.2.2 row (by omega) (by omega); omega))) cv_X5_holds dX5_ticketAt_15 ml_X5_63 rfl rfl rfl rfl rfl (Nat.le_of_ble_eq_true rfl) (by decide) rfl rfl (by decide) ?_
    refine aw_st (st' := [iV 1]) (by rw [if_pos (by decide)]) ?_
    refine aw_if_ne (tgt := 23) dX5_ticketAt_18 (by decide) (by decide) (fun _ => ?_) (fun h => absurd h (by decide))
    refine aw_aload_n dX5_ticketAt_23 rfl rfl ?_
    refine aw_getr (g := 30) rfl rfl ly_X5 rfl (k := 7) dX5_ticketAt_24 (by decide) fl_X5_19 rfl ?_
    refine aw_bipush dX5_ticketAt_27 rfl ?_
    refine aw_iload_n dX5_ticketAt_29 rfl rfl ?_
    refine aw_imul dX5_ticketAt_30 ?_
    refine aw_iload_n dX5_ticketAt_31 rfl rfl ?_
    refine aw_iadd dX5_ticketAt_32 ?_
    refine aw_iald (g := 34) (n := 240) rfl (by decide) dX5_ticketAt_33 (by decide) (by show 0 ≤ ((20 * row) + seat) ∧ ((20 * row) + seat) < (240 : Int); first | (have n1 := hw.1; have n2 := hw.2.1; omega) | (have n1 := hw.1; have n2 := hw.2.1; have n3 := hw.2.2 row (by omega) (by omega); omega)) (fun r33 => ?_)
    have r33 : inR (M 34 0 ((20 * row) + seat)) := r33
    refine aw_st (st' := [iV (M 34 0 ((20 * row) + seat))]) (by rw [show ((thr M 0) 34 0 ((20 * row) + seat) : Int) = M 34 0 ((20 * row) + seat) from by rfl]) ?_
    refine aw_if_le (tgt := 51) dX5_ticketAt_34 (by decide) (by first | (have n1 := hw.1; have n2 := hw.2.1; omega) | (have n1 := hw.1; have n2 := hw.2.1; have n3 := hw.2.2 row (by omega) (by omega); omega)) (fun h34 => ?_) (fun h34 => ?_)
    · refine aw_iconst dX5_ticketAt_51 ?_
      exact aw_iret dX5_ticketAt_52 rfl rfl (by decide) (by decide) ⟨0, rfl, (by first | (exfalso; have oq : oMd M row seat = M 34 0 (20 * row + seat) := rfl; omega) | exact (Or.inl ⟨by have oq : oMd M row seat = M 34 0 (20 * row + seat) := rfl; omega, by first | rfl | (have oq : oMd M row seat = M 34 0 (20 * row + seat) := rfl; omega), by rfl⟩) | exact (Or.inr (Or.inl ⟨by have oq : oMd M row seat = M 34 0 (20 * row + seat) := rfl; omega, by first | rfl | (have oq : oMd M row seat = M 34 0 (20 * row + seat) := rfl; omega), by rfl⟩)) | exact (Or.inr (Or.inr ⟨by have oq : oMd M row seat = M 34 0 (20 * row + seat) := rfl; omega, by first | rfl | (have oq : oMd M row seat = M 34 0 (20 * row + seat) := rfl; omega), by rfl⟩)))⟩
    · refine aw_aload_n dX5_ticketAt_37 rfl rfl ?_
      refine aw_getr (g := 30) rfl rfl ly_X5 rfl (k := 7) dX5_ticketAt_38 (by decide) fl_X5_19 rfl ?_
      refine aw_bipush dX5_ticketAt_41 rfl ?_
      refine aw_iload_n dX5_ticketAt_43 rfl rfl ?_
      refine aw_imul dX5_ticketAt_44 ?_
      refine aw_iload_n dX5_ticketAt_45 rfl rfl ?_
      refine aw_iadd dX5_ticketAt_46 ?_
      refine aw_iald (g := 34) (n := 240) rfl (by decide) dX5_ticketAt_47 (by decide) (by show 0 ≤ ((20 * row) + seat) ∧ ((20 * row) + seat) < (240 : Int); first | (have n1 := hw.1; have n2 := hw.2.1; omega) | (have n1 := hw.1; have n2 := hw.2.1; have n3 := hw.2.2 row (by omega) (by omega); omega)) (fun r47 => ?_)
      have r47 : inR (M 34 0 ((20 * row) + seat)) := r47
      refine aw_st (st' := [iV (M 34 0 ((20 * row) + seat))]) (by rw [show ((thr M 0) 34 0 ((20 * row) + seat) : Int) = M 34 0 ((20 * row) + seat) from by rfl]) ?_
      refine aw_goto (tgt := 52) dX5_ticketAt_48 (by decide) ?_
      exact aw_iret dX5_ticketAt_52 rfl rfl (by decide) (by decide) ⟨M 34 0 ((20 * row) + seat), rfl, (by first | (exfalso; have oq : oMd M row seat = M 34 0 (20 * row + seat) := rfl; omega) | exact (Or.inl ⟨by have oq : oMd M row seat = M 34 0 (20 * row + seat) := rfl; omega, by first | rfl | (have oq : oMd M row seat = M 34 0 (20 * row + seat) := rfl; omega), by rfl⟩) | exact (Or.inr (Or.inl ⟨by have oq : oMd M row seat = M 34 0 (20 * row + seat) := rfl; omega, by first | rfl | (have oq : oMd M row seat = M 34 0 (20 * row + seat) := rfl; omega), by rfl⟩)) | exact (Or.inr (Or.inr ⟨by have oq : oMd M row seat = M 34 0 (20 * row + seat) := rfl; omega, by first | rfl | (have oq : oMd M row seat = M 34 0 (20 * row + seat) := rfl; omega), by rfl⟩)))⟩
  · refine aw_if_eq (tgt := 14) dX5_ticketAt_7 (by decide) (by decide) (fun _ => ?_) (fun h => absurd (by decide) h)
    refine aw_iconst dX5_ticketAt_14 ?_
    refine aw_cVi (g := 30) (As := [iV 1]) (rest := []) (c_X5_holds hst M (1) (by first | (have n1 := hw.1; have n2 := hw.2.1; omega) | (have n1 := hw.1; have n2 := hw.2.1; have n3 := hw.2.2 row (by omega) (by omega); omega))) cv_X5_holds dX5_ticketAt_15 ml_X5_63 rfl rfl rfl rfl rfl (Nat.le_of_ble_eq_true rfl) (by decide) rfl rfl (by decide) ?_
    refine aw_st (st' := [iV 0]) (by rw [if_neg (by decide)]) ?_
    refine aw_if_ne (tgt := 23) dX5_ticketAt_18 (by decide) (by decide) (fun h => absurd h (by decide)) (fun _ => ?_)
    refine aw_iconst dX5_ticketAt_21 ?_
    exact aw_iret dX5_ticketAt_22 rfl rfl (by decide) (by decide) ⟨0, rfl, (by first | (exfalso; have oq : oMd M row seat = M 34 0 (20 * row + seat) := rfl; omega) | exact (Or.inl ⟨by have oq : oMd M row seat = M 34 0 (20 * row + seat) := rfl; omega, by first | rfl | (have oq : oMd M row seat = M 34 0 (20 * row + seat) := rfl; omega), by rfl⟩) | exact (Or.inr (Or.inl ⟨by have oq : oMd M row seat = M 34 0 (20 * row + seat) := rfl; omega, by first | rfl | (have oq : oMd M row seat = M 34 0 (20 * row + seat) := rfl; omega), by rfl⟩)) | exact (Or.inr (Or.inr ⟨by have oq : oMd M row seat = M 34 0 (20 * row + seat) := rfl; omega, by first | rfl | (have oq : oMd M row seat = M 34 0 (20 * row + seat) := rfl; omega), by rfl⟩)))⟩
set_option maxHeartbeats 4000000 in
set_option maxRecDepth 20000 in
theorem c_X5_value {K : WPar} {l : Launch} (hst : l.stackTraces = false) (M : Mem) (row : Int) (seat : Int) (r_row : inR row) (r_seat : inR seat) (hw : HWm M) : CT K l iX5_value [rV K 30 0, iV (row), iV (seat)] M (rZm (fun z m => ((¬ (0 ≤ row ∧ row < M 30 0 3 ∧ 0 ≤ seat ∧ seat < M 31 0 row)) ∧ z = 0 ∧ m = thr M 1) ∨ ((0 ≤ row ∧ row < M 30 0 3 ∧ 0 ≤ seat ∧ seat < M 31 0 row) ∧ z = vS (M 32 0 row) (M 31 0 row) seat ∧ m = thr M 0))) := by
  refine aw_met [some (rV K 30 0), some (iV (row)), some (iV (seat))] hst (by decide) rfl (Nat.le_of_ble_eq_true rfl) rfl rfl (lcat rfl) ?_
  refine aw_rng (fun hM => ?_)
  refine aw_aload_n dX5_value_0 rfl rfl ?_
  refine aw_aload_n dX5_value_1 rfl rfl ?_
  refine aw_iload_n dX5_value_2 rfl rfl ?_
  refine aw_iload_n dX5_value_3 rfl rfl ?_
  refine aw_cVb (g := 30) (As := [iV (row), iV (seat)]) (rest := [rV K 30 0]) (c_X5_isSeat hst M (row) (seat) (by first | (have n1 := hw.1; have n2 := hw.2.1; omega) | (have n1 := hw.1; have n2 := hw.2.1; have n3 := hw.2.2 row (by omega) (by omega); omega)) (by first | (have n1 := hw.1; have n2 := hw.2.1; omega) | (have n1 := hw.1; have n2 := hw.2.1; have n3 := hw.2.2 row (by omega) (by omega); omega)) (by first | (have n1 := hw.1; have n2 := hw.2.1; omega) | (have n1 := hw.1; have n2 := hw.2.1; have n3 := hw.2.2 row (by omega) (by omega); omega))) cv_X5_isSeat dX5_value_4 ml_X5_70 rfl rfl rfl rfl rfl (Nat.le_of_ble_eq_true rfl) (by decide) rfl rfl (by decide) (fun h4 => ?_) (fun h4 => ?_)
  · refine aw_if_eq (tgt := 14) dX5_value_7 (by decide) (by decide) (fun h => absurd h (by decide)) (fun _ => ?_)
    refine aw_iconst dX5_value_10 ?_
    refine aw_goto (tgt := 15) dX5_value_11 (by decide) ?_
    refine aw_cVi (g := 30) (As := [iV 0]) (rest := []) (c_X5_holds hst M (0) (by first | (have n1 := hw.1; have n2 := hw.2.1; omega) | (have n1 := hw.1; have n2 := hw.2.1; have n3 := hw.2.2 row (by omega) (by omega); omega))) cv_X5_holds dX5_value_15 ml_X5_63 rfl rfl rfl rfl rfl (Nat.le_of_ble_eq_true rfl) (by decide) rfl rfl (by decide) ?_
    refine aw_st (st' := [iV 1]) (by rw [if_pos (by decide)]) ?_
    refine aw_if_eq (tgt := 30) dX5_value_18 (by decide) (by decide) (fun h => absurd h (by decide)) (fun _ => ?_)
    refine aw_aload_n dX5_value_21 rfl rfl ?_
    refine aw_iload_n dX5_value_22 rfl rfl ?_
    refine aw_iload_n dX5_value_23 rfl rfl ?_
    refine aw_cVi (g := 30) (As := [iV (row), iV (seat)]) (rest := []) (c_X5_worth hst (thr M 0) (row) (seat) (by first | (have n1 := hw.1; have n2 := hw.2.1; omega) | (have n1 := hw.1; have n2 := hw.2.1; have n3 := hw.2.2 row (by omega) (by omega); omega)) (by first | (have n1 := hw.1; have n2 := hw.2.1; omega) | (have n1 := hw.1; have n2 := hw.2.1; have n3 := hw.2.2 row (by omega) (by omega); omega)) (by exact HWm_t hw 0) (by exact ⟨h4.1, h4.2.1⟩) (by first | (have n1 := hw.1; have n2 := hw.2.1; omega) | (have n1 := hw.1; have n2 := hw.2.1; have n3 := hw.2.2 row (by omega) (by omega); omega))) cv_X5_worth dX5_value_24 ml_X5_74 rfl rfl rfl rfl rfl (Nat.le_of_ble_eq_true rfl) (by decide) rfl rfl (by decide) ?_
    refine aw_st (st' := [iV (vS (M 32 0 row) (M 31 0 row) seat)]) (by rw [show (vS ((thr M 0) 32 0 row) ((thr M 0) 31 0 row) seat : Int) = vS (M 32 0 row) (M 31 0 row) seat from by rfl]) ?_
    refine aw_goto (tgt := 31) dX5_value_27 (by decide) ?_
    exact aw_iret dX5_value_31 rfl rfl (by decide) (by decide) ⟨vS (M 32 0 row) (M 31 0 row) seat, rfl, (by first | (exfalso; first | (have n1 := hw.1; have n2 := hw.2.1; omega) | (have n1 := hw.1; have n2 := hw.2.1; have n3 := hw.2.2 row (by omega) (by omega); omega)) | exact (Or.inl ⟨by first | (have n1 := hw.1; have n2 := hw.2.1; omega) | (have n1 := hw.1; have n2 := hw.2.1; have n3 := hw.2.2 row (by omega) (by omega); omega), by first | rfl | (first | (have n1 := hw.1; have n2 := hw.2.1; omega) | (have n1 := hw.1; have n2 := hw.2.1; have n3 := hw.2.2 row (by omega) (by omega); omega)), by rfl⟩) | exact (Or.inr ⟨by first | (have n1 := hw.1; have n2 := hw.2.1; omega) | (have n1 := hw.1; have n2 := hw.2.1; have n3 := hw.2.2 row (by omega) (by omega); omega), by first | rfl | (first | (have n1 := hw.1; have n2 := hw.2.1; omega) | (have n1 := hw.1; have n2 := hw.2.1; have n3 := hw.2.2 row (by omega) (by omega); omega)), by rfl⟩))⟩
  · refine aw_if_eq (tgt := 14) dX5_value_7 (by decide) (by decide) (fun _ => ?_) (fun h => absurd (by decide) h)
    refine aw_iconst dX5_value_14 ?_
    refine aw_cVi (g := 30) (As := [iV 1]) (rest := []) (c_X5_holds hst M (1) (by first | (have n1 := hw.1; have n2 := hw.2.1; omega) | (have n1 := hw.1; have n2 := hw.2.1; have n3 := hw.2.2 row (by omega) (by omega); omega))) cv_X5_holds dX5_value_15 ml_X5_63 rfl rfl rfl rfl rfl (Nat.le_of_ble_eq_true rfl) (by decide) rfl rfl (by decide) ?_
    refine aw_st (st' := [iV 0]) (by rw [if_neg (by decide)]) ?_
    refine aw_if_eq (tgt := 30) dX5_value_18 (by decide) (by decide) (fun _ => ?_) (fun h => absurd (by decide) h)
    refine aw_iconst dX5_value_30 ?_
    exact aw_iret dX5_value_31 rfl rfl (by decide) (by decide) ⟨0, rfl, (by first | (exfalso; first | (have n1 := hw.1; have n2 := hw.2.1; omega) | (have n1 := hw.1; have n2 := hw.2.1; have n3 := hw.2.2 row (by omega) (by omega); omega)) | exact (Or.inl ⟨by first | (have n1 := hw.1; have n2 := hw.2.1; omega) | (have n1 := hw.1; have n2 := hw.2.1; have n3 := hw.2.2 row (by omega) (by omega); omega), by first | rfl | (first | (have n1 := hw.1; have n2 := hw.2.1; omega) | (have n1 := hw.1; have n2 := hw.2.1; have n3 := hw.2.2 row (by omega) (by omega); omega)), by rfl⟩) | exact (Or.inr ⟨by first | (have n1 := hw.1; have n2 := hw.2.1; omega) | (have n1 := hw.1; have n2 := hw.2.1; have n3 := hw.2.2 row (by omega) (by omega); omega), by first | rfl | (first | (have n1 := hw.1; have n2 := hw.2.1; omega) | (have n1 := hw.1; have n2 := hw.2.1; have n3 := hw.2.2 row (by omega) (by omega); omega)), by rfl⟩))⟩
set_option maxHeartbeats 4000000 in
set_option maxRecDepth 20000 in
theorem c_X5_freeSeats {K : WPar} {l : Launch} (hst : l.stackTraces = false) (M : Mem) (row : Int) (r_row : inR row) (hw : HWm M) : CT K l iX5_freeSeats [rV K 30 0, iV (row)] M (rZm (fun z m => ((¬ (0 ≤ row ∧ row < M 30 0 3)) ∧ z = 0 ∧ m = thr M 1) ∨ ((0 ≤ row ∧ row < M 30 0 3) ∧ z = sumI (fun s => if oMd M row s = 0 then 1 else 0) (M 31 0 row) ∧ m = thr M 0))) := by
  refine aw_met [some (rV K 30 0), some (iV (row))] hst (by decide) rfl (Nat.le_of_ble_eq_true rfl) rfl rfl (lcat rfl) ?_
  refine aw_rng (fun hM => ?_)
  refine aw_aload_n dX5_freeSeats_0 rfl rfl ?_
  refine aw_aload_n dX5_freeSeats_1 rfl rfl ?_
  refine aw_iload_n dX5_freeSeats_2 rfl rfl ?_
  refine aw_cVb (g := 30) (As := [iV (row)]) (rest := [rV K 30 0]) (c_X5_isRow hst M (row) (by have n1 := hw.1; have n2 := hw.2.1; omega) (by have n1 := hw.1; have n2 := hw.2.1; omega)) cv_X5_isRow dX5_freeSeats_3 ml_X5_67 rfl rfl rfl rfl rfl (Nat.le_of_ble_eq_true rfl) (by decide) rfl rfl (by decide) (fun h3 => ?_) (fun h3 => ?_)
  · refine aw_if_eq (tgt := 13) dX5_freeSeats_6 (by decide) (by decide) (fun h => absurd h (by decide)) (fun _ => ?_)
    refine aw_iconst dX5_freeSeats_9 ?_
    refine aw_goto (tgt := 14) dX5_freeSeats_10 (by decide) ?_
    refine aw_cVi (g := 30) (As := [iV 0]) (rest := []) (c_X5_holds hst M (0) (by have n1 := hw.1; have n2 := hw.2.1; omega)) cv_X5_holds dX5_freeSeats_14 ml_X5_63 rfl rfl rfl rfl rfl (Nat.le_of_ble_eq_true rfl) (by decide) rfl rfl (by decide) ?_
    refine aw_st (st' := [iV 1]) (by rw [if_pos (by decide)]) ?_
    refine aw_if_eq (tgt := 28) dX5_freeSeats_17 (by decide) (by decide) (fun h => absurd h (by decide)) (fun _ => ?_)
    refine aw_aload_n dX5_freeSeats_20 rfl rfl ?_
    refine aw_iload_n dX5_freeSeats_21 rfl rfl ?_
    refine aw_cVi (g := 30) (As := [iV (row)]) (rest := []) (c_X5_frees hst (thr M 0) (row) (by have n1 := hw.1; have n2 := hw.2.1; omega) (by exact HWm_t hw 0) (by exact h3)) cv_X5_frees dX5_freeSeats_22 ml_X5_81 rfl rfl rfl rfl rfl (Nat.le_of_ble_eq_true rfl) (by decide) rfl rfl (by decide) ?_
    refine aw_st (st' := [iV (sumI (fun s => if oMd M row s = 0 then 1 else 0) (M 31 0 row))]) (by rw [show (sumI (fun s => if oMd (thr M 0) row s = 0 then 1 else 0) ((thr M 0) 31 0 row) : Int) = sumI (fun s => if oMd M row s = 0 then 1 else 0) (M 31 0 row) from by rfl]) ?_
    refine aw_goto (tgt := 29) dX5_freeSeats_25 (by decide) ?_
    exact aw_iret dX5_freeSeats_29 rfl rfl (by decide) (by decide) ⟨sumI (fun s => if oMd M row s = 0 then 1 else 0) (M 31 0 row), rfl, (by first | (exfalso; have n1 := hw.1; have n2 := hw.2.1; omega) | exact (Or.inl ⟨by have n1 := hw.1; have n2 := hw.2.1; omega, by first | rfl | (have n1 := hw.1; have n2 := hw.2.1; omega), by rfl⟩) | exact (Or.inr ⟨by have n1 := hw.1; have n2 := hw.2.1; omega, by first | rfl | (have n1 := hw.1; have n2 := hw.2.1; omega), by rfl⟩))⟩
  · refine aw_if_eq (tgt := 13) dX5_freeSeats_6 (by decide) (by decide) (fun _ => ?_) (fun h => absurd (by decide) h)
    refine aw_iconst dX5_freeSeats_13 ?_
    refine aw_cVi (g := 30) (As := [iV 1]) (rest := []) (c_X5_holds hst M (1) (by have n1 := hw.1; have n2 := hw.2.1; omega)) cv_X5_holds dX5_freeSeats_14 ml_X5_63 rfl rfl rfl rfl rfl (Nat.le_of_ble_eq_true rfl) (by decide) rfl rfl (by decide) ?_
    refine aw_st (st' := [iV 0]) (by rw [if_neg (by decide)]) ?_
    refine aw_if_eq (tgt := 28) dX5_freeSeats_17 (by decide) (by decide) (fun _ => ?_) (fun h => absurd (by decide) h)
    refine aw_iconst dX5_freeSeats_28 ?_
    exact aw_iret dX5_freeSeats_29 rfl rfl (by decide) (by decide) ⟨0, rfl, (by first | (exfalso; have n1 := hw.1; have n2 := hw.2.1; omega) | exact (Or.inl ⟨by have n1 := hw.1; have n2 := hw.2.1; omega, by first | rfl | (have n1 := hw.1; have n2 := hw.2.1; omega), by rfl⟩) | exact (Or.inr ⟨by have n1 := hw.1; have n2 := hw.2.1; omega, by first | rfl | (have n1 := hw.1; have n2 := hw.2.1; omega), by rfl⟩))⟩
set_option maxHeartbeats 4000000 in
set_option maxRecDepth 20000 in
theorem c_X5_bestBlock {K : WPar} {l : Launch} (hst : l.stackTraces = false) (M : Mem) (seats : Int) (r_seats : inR seats) (hw : HWm M) : CT K l iX5_bestBlock [rV K 30 0, iV (seats)] M (rZm (fun z m => ((¬ (1 ≤ seats ∧ seats ≤ 20)) ∧ z = 0 ∧ m = thr M 1) ∨ (((1 ≤ seats ∧ seats ≤ 20) ∧ bestG (M 30 0 3) (M 31 0) (oMd M) (M 32 0) seats (-1)) ∧ z = 0 ∧ m = thr M 2) ∨ (((1 ≤ seats ∧ seats ≤ 20) ∧ (bestG (M 30 0 3) (M 31 0) (oMd M) (M 32 0) seats z ∧ z ≠ -1)) ∧ m = thr M 0))) := by
  refine aw_met [some (rV K 30 0), some (iV (seats)), none] hst (by decide) rfl (Nat.le_of_ble_eq_true rfl) rfl rfl (lcat rfl) ?_
  refine aw_rng (fun hM => ?_)
  refine aw_iload_n dX5_bestBlock_0 rfl rfl ?_
  refine aw_iconst dX5_bestBlock_1 ?_
  refine aw_bipush dX5_bestBlock_2 rfl ?_
  refine aw_cSb (As := [iV (seats), iV 1, iV 20]) (rest := []) (c_X5_in hst M (seats) (1) (20) (by have n1 := hw.1; have n2 := hw.2.1; omega) (by have n1 := hw.1; have n2 := hw.2.1; omega) (by have n1 := hw.1; have n2 := hw.2.1; omega)) cs_X5_in dX5_bestBlock_4 ml_X5_56 rfl rfl (Nat.le_of_ble_eq_true rfl) (by decide) rfl rfl (by decide) (fun h4 => ?_) (fun h4 => ?_)
  · refine aw_if_eq (tgt := 18) dX5_bestBlock_7 (by decide) (by decide) (fun h => absurd h (by decide)) (fun _ => ?_)
    refine aw_aload_n dX5_bestBlock_10 rfl rfl ?_
    refine aw_iload_n dX5_bestBlock_11 rfl rfl ?_
    refine aw_cVr (g := 30) (As := [iV (seats)]) (rest := []) (c_X5_best hst M (seats) (by have n1 := hw.1; have n2 := hw.2.1; omega) (by have n1 := hw.1; have n2 := hw.2.1; omega) (by have n1 := hw.1; have n2 := hw.2.1; omega)) cv_X5_best dX5_bestBlock_12 ml_X5_103 rfl rfl rfl rfl rfl (Nat.le_of_ble_eq_true rfl) (by decide) rfl rfl (by decide) (fun z12 (h12 : bestG (M 30 0 3) (M 31 0) (oMd M) (M 32 0) seats z12 ∧ -1 ≤ z12 ∧ z12 ≤ 2000) => ?_)
    refine aw_goto (tgt := 19) dX5_bestBlock_15 (by decide) ?_
    refine aw_istore_n (L2 := [some (rV K 30 0), some (iV (seats)), some (iV (z12))]) dX5_bestBlock_19 rfl (by decide) rfl ?_
    refine aw_aload_n dX5_bestBlock_20 rfl rfl ?_
    refine aw_iload_n dX5_bestBlock_21 rfl rfl ?_
    refine aw_iconst dX5_bestBlock_22 ?_
    refine aw_bipush dX5_bestBlock_23 rfl ?_
    refine aw_cSb (As := [iV (seats), iV 1, iV 20]) (rest := [rV K 30 0]) (c_X5_in hst M (seats) (1) (20) (by have n1 := hw.1; have n2 := hw.2.1; omega) (by have n1 := hw.1; have n2 := hw.2.1; omega) (by have n1 := hw.1; have n2 := hw.2.1; omega)) cs_X5_in dX5_bestBlock_25 ml_X5_56 rfl rfl (Nat.le_of_ble_eq_true rfl) (by decide) rfl rfl (by decide) (fun h25 => ?_) (fun h25 => ?_)
    · refine aw_if_ne (tgt := 35) dX5_bestBlock_28 (by decide) (by decide) (fun _ => ?_) (fun h => absurd h (by decide))
      refine aw_iload_n dX5_bestBlock_35 rfl rfl ?_
      refine aw_if_ge (tgt := 43) dX5_bestBlock_36 (by decide) (by have n1 := hw.1; have n2 := hw.2.1; omega) (fun h36 => ?_) (fun h36 => ?_)
      · refine aw_iconst dX5_bestBlock_43 ?_
        refine aw_cVi (g := 30) (As := [iV 0]) (rest := []) (c_X5_holds hst M (0) (by have n1 := hw.1; have n2 := hw.2.1; omega)) cv_X5_holds dX5_bestBlock_44 ml_X5_63 rfl rfl rfl rfl rfl (Nat.le_of_ble_eq_true rfl) (by decide) rfl rfl (by decide) ?_
        refine aw_st (st' := [iV 1]) (by rw [if_pos (by decide)]) ?_
        refine aw_if_eq (tgt := 54) dX5_bestBlock_47 (by decide) (by decide) (fun h => absurd h (by decide)) (fun _ => ?_)
        refine aw_iload_n dX5_bestBlock_50 rfl rfl ?_
        refine aw_goto (tgt := 55) dX5_bestBlock_51 (by decide) ?_
        exact aw_iret dX5_bestBlock_55 rfl rfl (by decide) (by decide) ⟨z12, rfl, (by first | (exfalso; have n1 := hw.1; have n2 := hw.2.1; omega) | exact (Or.inl ⟨by have n1 := hw.1; have n2 := hw.2.1; omega, by first | rfl | (have n1 := hw.1; have n2 := hw.2.1; omega), by rfl⟩) | exact (Or.inr (Or.inl ⟨by exact ⟨by omega, (show z12 = -1 by omega) ▸ h12.1⟩, by first | rfl | (have n1 := hw.1; have n2 := hw.2.1; omega), by rfl⟩)) | exact (Or.inr (Or.inr (by exact ⟨⟨by omega, h12.1, by omega⟩, rfl⟩))))⟩
      · refine aw_iconst dX5_bestBlock_39 ?_
        refine aw_goto (tgt := 44) dX5_bestBlock_40 (by decide) ?_
        refine aw_cVi (g := 30) (As := [iV 2]) (rest := []) (c_X5_holds hst M (2) (by have n1 := hw.1; have n2 := hw.2.1; omega)) cv_X5_holds dX5_bestBlock_44 ml_X5_63 rfl rfl rfl rfl rfl (Nat.le_of_ble_eq_true rfl) (by decide) rfl rfl (by decide) ?_
        refine aw_st (st' := [iV 0]) (by rw [if_neg (by decide)]) ?_
        refine aw_if_eq (tgt := 54) dX5_bestBlock_47 (by decide) (by decide) (fun _ => ?_) (fun h => absurd (by decide) h)
        refine aw_iconst dX5_bestBlock_54 ?_
        exact aw_iret dX5_bestBlock_55 rfl rfl (by decide) (by decide) ⟨0, rfl, (by first | (exfalso; have n1 := hw.1; have n2 := hw.2.1; omega) | exact (Or.inl ⟨by have n1 := hw.1; have n2 := hw.2.1; omega, by first | rfl | (have n1 := hw.1; have n2 := hw.2.1; omega), by rfl⟩) | exact (Or.inr (Or.inl ⟨by exact ⟨by omega, (show z12 = -1 by omega) ▸ h12.1⟩, by first | rfl | (have n1 := hw.1; have n2 := hw.2.1; omega), by rfl⟩)) | exact (Or.inr (Or.inr (by exact ⟨⟨by omega, h12.1, by omega⟩, rfl⟩))))⟩
    · refine aw_if_ne (tgt := 35) dX5_bestBlock_28 (by decide) (by decide) (fun h => absurd h (by decide)) (fun _ => ?_)
      refine aw_iconst dX5_bestBlock_31 ?_
      refine aw_goto (tgt := 44) dX5_bestBlock_32 (by decide) ?_
      refine aw_cVi (g := 30) (As := [iV 1]) (rest := []) (c_X5_holds hst M (1) (by have n1 := hw.1; have n2 := hw.2.1; omega)) cv_X5_holds dX5_bestBlock_44 ml_X5_63 rfl rfl rfl rfl rfl (Nat.le_of_ble_eq_true rfl) (by decide) rfl rfl (by decide) ?_
      refine aw_st (st' := [iV 0]) (by rw [if_neg (by decide)]) ?_
      refine aw_if_eq (tgt := 54) dX5_bestBlock_47 (by decide) (by decide) (fun _ => ?_) (fun h => absurd (by decide) h)
      refine aw_iconst dX5_bestBlock_54 ?_
      exact aw_iret dX5_bestBlock_55 rfl rfl (by decide) (by decide) ⟨0, rfl, (by first | (exfalso; have n1 := hw.1; have n2 := hw.2.1; omega) | exact (Or.inl ⟨by have n1 := hw.1; have n2 := hw.2.1; omega, by first | rfl | (have n1 := hw.1; have n2 := hw.2.1; omega), by rfl⟩) | exact (Or.inr (Or.inl ⟨by exact ⟨by omega, (show z12 = -1 by omega) ▸ h12.1⟩, by first | rfl | (have n1 := hw.1; have n2 := hw.2.1; omega), by rfl⟩)) | exact (Or.inr (Or.inr (by exact ⟨⟨by omega, h12.1, by omega⟩, rfl⟩))))⟩
  · refine aw_if_eq (tgt := 18) dX5_bestBlock_7 (by decide) (by decide) (fun _ => ?_) (fun h => absurd (by decide) h)
    refine aw_iconst dX5_bestBlock_18 ?_
    refine aw_istore_n (L2 := [some (rV K 30 0), some (iV (seats)), some (iV (-1))]) dX5_bestBlock_19 rfl (by decide) rfl ?_
    refine aw_aload_n dX5_bestBlock_20 rfl rfl ?_
    refine aw_iload_n dX5_bestBlock_21 rfl rfl ?_
    refine aw_iconst dX5_bestBlock_22 ?_
    refine aw_bipush dX5_bestBlock_23 rfl ?_
    refine aw_cSb (As := [iV (seats), iV 1, iV 20]) (rest := [rV K 30 0]) (c_X5_in hst M (seats) (1) (20) (by have n1 := hw.1; have n2 := hw.2.1; omega) (by have n1 := hw.1; have n2 := hw.2.1; omega) (by have n1 := hw.1; have n2 := hw.2.1; omega)) cs_X5_in dX5_bestBlock_25 ml_X5_56 rfl rfl (Nat.le_of_ble_eq_true rfl) (by decide) rfl rfl (by decide) (fun h25 => ?_) (fun h25 => ?_)
    · refine aw_if_ne (tgt := 35) dX5_bestBlock_28 (by decide) (by decide) (fun _ => ?_) (fun h => absurd h (by decide))
      refine aw_iload_n dX5_bestBlock_35 rfl rfl ?_
      refine aw_if_ge (tgt := 43) dX5_bestBlock_36 (by decide) (by decide) (fun h => absurd h (by decide)) (fun _ => ?_)
      refine aw_iconst dX5_bestBlock_39 ?_
      refine aw_goto (tgt := 44) dX5_bestBlock_40 (by decide) ?_
      refine aw_cVi (g := 30) (As := [iV 2]) (rest := []) (c_X5_holds hst M (2) (by have n1 := hw.1; have n2 := hw.2.1; omega)) cv_X5_holds dX5_bestBlock_44 ml_X5_63 rfl rfl rfl rfl rfl (Nat.le_of_ble_eq_true rfl) (by decide) rfl rfl (by decide) ?_
      refine aw_st (st' := [iV 0]) (by rw [if_neg (by decide)]) ?_
      refine aw_if_eq (tgt := 54) dX5_bestBlock_47 (by decide) (by decide) (fun _ => ?_) (fun h => absurd (by decide) h)
      refine aw_iconst dX5_bestBlock_54 ?_
      exact aw_iret dX5_bestBlock_55 rfl rfl (by decide) (by decide) ⟨0, rfl, (by first | (exfalso; have n1 := hw.1; have n2 := hw.2.1; omega) | exact (Or.inl ⟨by have n1 := hw.1; have n2 := hw.2.1; omega, by first | rfl | (have n1 := hw.1; have n2 := hw.2.1; omega), by rfl⟩) | exact (Or.inr (Or.inl ⟨by exact ⟨by omega, (show z12 = -1 by omega) ▸ h12.1⟩, by first | rfl | (have n1 := hw.1; have n2 := hw.2.1; omega), by rfl⟩)) | exact (Or.inr (Or.inr (by exact ⟨⟨by omega, h12.1, by omega⟩, rfl⟩))))⟩
    · refine aw_if_ne (tgt := 35) dX5_bestBlock_28 (by decide) (by decide) (fun h => absurd h (by decide)) (fun _ => ?_)
      refine aw_iconst dX5_bestBlock_31 ?_
      refine aw_goto (tgt := 44) dX5_bestBlock_32 (by decide) ?_
      refine aw_cVi (g := 30) (As := [iV 1]) (rest := []) (c_X5_holds hst M (1) (by have n1 := hw.1; have n2 := hw.2.1; omega)) cv_X5_holds dX5_bestBlock_44 ml_X5_63 rfl rfl rfl rfl rfl (Nat.le_of_ble_eq_true rfl) (by decide) rfl rfl (by decide) ?_
      refine aw_st (st' := [iV 0]) (by rw [if_neg (by decide)]) ?_
      refine aw_if_eq (tgt := 54) dX5_bestBlock_47 (by decide) (by decide) (fun _ => ?_) (fun h => absurd (by decide) h)
      refine aw_iconst dX5_bestBlock_54 ?_
      exact aw_iret dX5_bestBlock_55 rfl rfl (by decide) (by decide) ⟨0, rfl, (by first | (exfalso; have n1 := hw.1; have n2 := hw.2.1; omega) | exact (Or.inl ⟨by have n1 := hw.1; have n2 := hw.2.1; omega, by first | rfl | (have n1 := hw.1; have n2 := hw.2.1; omega), by rfl⟩) | exact (Or.inr (Or.inl ⟨by exact ⟨by omega, (show z12 = -1 by omega) ▸ h12.1⟩, by first | rfl | (have n1 := hw.1; have n2 := hw.2.1; omega), by rfl⟩)) | exact (Or.inr (Or.inr (by exact ⟨⟨by omega, h12.1, by omega⟩, rfl⟩))))⟩
set_option maxHeartbeats 4000000 in
set_option maxRecDepth 20000 in
theorem c_X5_leavesOrphan {K : WPar} {l : Launch} (hst : l.stackTraces = false) (M : Mem) (seats : Int) (r_seats : inR seats) (hw : HWm M) : CT K l iX5_leavesOrphan [rV K 30 0, iV (seats)] M (rZm (fun z m => ((¬ (1 ≤ seats ∧ seats ≤ 20)) ∧ z = 0 ∧ m = thr M 1) ∨ (((1 ≤ seats ∧ seats ≤ 20) ∧ bestG (M 30 0 3) (M 31 0) (oMd M) (M 32 0) seats (-1)) ∧ z = 0 ∧ m = thr M 2) ∨ (((1 ≤ seats ∧ seats ≤ 20) ∧ ∃ b, (bestG (M 30 0 3) (M 31 0) (oMd M) (M 32 0) seats b ∧ b ≠ -1) ∧ ((z = 1 ∧ hasO (M 31 0 (b / 100)) (oMd M (b / 100)) (b % 100) seats) ∨ (z = 0 ∧ ¬ hasO (M 31 0 (b / 100)) (oMd M (b / 100)) (b % 100) seats))) ∧ m = thr M 0))) := by
  refine aw_met [some (rV K 30 0), some (iV (seats)), none] hst (by decide) rfl (Nat.le_of_ble_eq_true rfl) rfl rfl (lcat rfl) ?_
  refine aw_rng (fun hM => ?_)
  refine aw_iload_n dX5_leavesOrphan_0 rfl rfl ?_
  refine aw_iconst dX5_leavesOrphan_1 ?_
  refine aw_bipush dX5_leavesOrphan_2 rfl ?_
  refine aw_cSb (As := [iV (seats), iV 1, iV 20]) (rest := []) (c_X5_in hst M (seats) (1) (20) (by have n1 := hw.1; have n2 := hw.2.1; omega) (by have n1 := hw.1; have n2 := hw.2.1; omega) (by have n1 := hw.1; have n2 := hw.2.1; omega)) cs_X5_in dX5_leavesOrphan_4 ml_X5_56 rfl rfl (Nat.le_of_ble_eq_true rfl) (by decide) rfl rfl (by decide) (fun h4 => ?_) (fun h4 => ?_)
  · refine aw_if_eq (tgt := 18) dX5_leavesOrphan_7 (by decide) (by decide) (fun h => absurd h (by decide)) (fun _ => ?_)
    refine aw_aload_n dX5_leavesOrphan_10 rfl rfl ?_
    refine aw_iload_n dX5_leavesOrphan_11 rfl rfl ?_
    refine aw_cVr (g := 30) (As := [iV (seats)]) (rest := []) (c_X5_best hst M (seats) (by have n1 := hw.1; have n2 := hw.2.1; omega) (by have n1 := hw.1; have n2 := hw.2.1; omega) (by have n1 := hw.1; have n2 := hw.2.1; omega)) cv_X5_best dX5_leavesOrphan_12 ml_X5_103 rfl rfl rfl rfl rfl (Nat.le_of_ble_eq_true rfl) (by decide) rfl rfl (by decide) (fun z12 (h12 : bestG (M 30 0 3) (M 31 0) (oMd M) (M 32 0) seats z12 ∧ -1 ≤ z12 ∧ z12 ≤ 2000) => ?_)
    refine aw_goto (tgt := 19) dX5_leavesOrphan_15 (by decide) ?_
    refine aw_istore_n (L2 := [some (rV K 30 0), some (iV (seats)), some (iV (z12))]) dX5_leavesOrphan_19 rfl (by decide) rfl ?_
    refine aw_aload_n dX5_leavesOrphan_20 rfl rfl ?_
    refine aw_iload_n dX5_leavesOrphan_21 rfl rfl ?_
    refine aw_iconst dX5_leavesOrphan_22 ?_
    refine aw_bipush dX5_leavesOrphan_23 rfl ?_
    refine aw_cSb (As := [iV (seats), iV 1, iV 20]) (rest := [rV K 30 0]) (c_X5_in hst M (seats) (1) (20) (by have n1 := hw.1; have n2 := hw.2.1; omega) (by have n1 := hw.1; have n2 := hw.2.1; omega) (by have n1 := hw.1; have n2 := hw.2.1; omega)) cs_X5_in dX5_leavesOrphan_25 ml_X5_56 rfl rfl (Nat.le_of_ble_eq_true rfl) (by decide) rfl rfl (by decide) (fun h25 => ?_) (fun h25 => ?_)
    · refine aw_if_ne (tgt := 35) dX5_leavesOrphan_28 (by decide) (by decide) (fun _ => ?_) (fun h => absurd h (by decide))
      refine aw_iload_n dX5_leavesOrphan_35 rfl rfl ?_
      refine aw_if_ge (tgt := 43) dX5_leavesOrphan_36 (by decide) (by have n1 := hw.1; have n2 := hw.2.1; omega) (fun h36 => ?_) (fun h36 => ?_)
      · refine aw_iconst dX5_leavesOrphan_43 ?_
        refine aw_cVi (g := 30) (As := [iV 0]) (rest := []) (c_X5_holds hst M (0) (by have n1 := hw.1; have n2 := hw.2.1; omega)) cv_X5_holds dX5_leavesOrphan_44 ml_X5_63 rfl rfl rfl rfl rfl (Nat.le_of_ble_eq_true rfl) (by decide) rfl rfl (by decide) ?_
        refine aw_st (st' := [iV 1]) (by rw [if_pos (by decide)]) ?_
        refine aw_if_eq (tgt := 70) dX5_leavesOrphan_47 (by decide) (by decide) (fun h => absurd h (by decide)) (fun _ => ?_)
        refine aw_aload_n dX5_leavesOrphan_50 rfl rfl ?_
        refine aw_iload_n dX5_leavesOrphan_51 rfl rfl ?_
        refine aw_bipush dX5_leavesOrphan_52 rfl ?_
        refine aw_idiv dX5_leavesOrphan_54 (by have n1 := hw.1; have n2 := hw.2.1; omega) (by have n1 := hw.1; have n2 := hw.2.1; omega) ?_
        refine aw_iload_n dX5_leavesOrphan_55 rfl rfl ?_
        refine aw_bipush dX5_leavesOrphan_56 rfl ?_
        refine aw_irem dX5_leavesOrphan_58 (by have n1 := hw.1; have n2 := hw.2.1; omega) (by have n1 := hw.1; have n2 := hw.2.1; omega) ?_
        refine aw_iload_n dX5_leavesOrphan_59 rfl rfl ?_
        refine aw_cVb (g := 30) (As := [iV (z12 / 100), iV (z12 % 100), iV (seats)]) (rest := []) (c_X5_hasOrphan hst (thr M 0) (z12 / 100) (z12 % 100) (seats) (by have ba := bestG_at (by omega) (fun r r0 r1 => (hw.2.2 r r0 r1).2.1) h12.1 (by omega); have nr := hw.2.2 (z12 / 100) ba.1 ba.2.1; have n1 := hw.1; have n2 := hw.2.1; omega) (by have ba := bestG_at (by omega) (fun r r0 r1 => (hw.2.2 r r0 r1).2.1) h12.1 (by omega); have nr := hw.2.2 (z12 / 100) ba.1 ba.2.1; have n1 := hw.1; have n2 := hw.2.1; omega) (by have ba := bestG_at (by omega) (fun r r0 r1 => (hw.2.2 r r0 r1).2.1) h12.1 (by omega); have nr := hw.2.2 (z12 / 100) ba.1 ba.2.1; have n1 := hw.1; have n2 := hw.2.1; omega) (by exact HWm_t hw 0) (by have ba := bestG_at (by omega) (fun r r0 r1 => (hw.2.2 r r0 r1).2.1) h12.1 (by omega); exact ⟨ba.1, ba.2.1⟩) (by have ba := bestG_at (by omega) (fun r r0 r1 => (hw.2.2 r r0 r1).2.1) h12.1 (by omega); have nr := hw.2.2 (z12 / 100) ba.1 ba.2.1; have n1 := hw.1; have n2 := hw.2.1; omega)) cv_X5_hasOrphan dX5_leavesOrphan_60 ml_X5_88 rfl rfl rfl rfl rfl (Nat.le_of_ble_eq_true rfl) (by decide) rfl rfl (by decide) (fun h60 => ?_) (fun h60 => ?_)
        · refine aw_if_eq (tgt := 70) dX5_leavesOrphan_63 (by decide) (by decide) (fun h => absurd h (by decide)) (fun _ => ?_)
          refine aw_iconst dX5_leavesOrphan_66 ?_
          refine aw_goto (tgt := 71) dX5_leavesOrphan_67 (by decide) ?_
          exact aw_iret dX5_leavesOrphan_71 rfl rfl (by decide) (by decide) ⟨1, rfl, (by first | (exfalso; have n1 := hw.1; have n2 := hw.2.1; omega) | exact (Or.inl ⟨by have n1 := hw.1; have n2 := hw.2.1; omega, by first | rfl | (have n1 := hw.1; have n2 := hw.2.1; omega), by rfl⟩) | exact (Or.inr (Or.inl ⟨by exact ⟨by omega, (show z12 = -1 by omega) ▸ h12.1⟩, by first | rfl | (have n1 := hw.1; have n2 := hw.2.1; omega), by rfl⟩)) | exact (Or.inr (Or.inr (by first | exact ⟨⟨by omega, z12, ⟨h12.1, by omega⟩, Or.inl ⟨rfl, h60⟩⟩, rfl⟩ | exact ⟨⟨by omega, z12, ⟨h12.1, by omega⟩, Or.inr ⟨rfl, h60⟩⟩, rfl⟩))))⟩
        · refine aw_if_eq (tgt := 70) dX5_leavesOrphan_63 (by decide) (by decide) (fun _ => ?_) (fun h => absurd (by decide) h)
          refine aw_iconst dX5_leavesOrphan_70 ?_
          exact aw_iret dX5_leavesOrphan_71 rfl rfl (by decide) (by decide) ⟨0, rfl, (by first | (exfalso; have n1 := hw.1; have n2 := hw.2.1; omega) | exact (Or.inl ⟨by have n1 := hw.1; have n2 := hw.2.1; omega, by first | rfl | (have n1 := hw.1; have n2 := hw.2.1; omega), by rfl⟩) | exact (Or.inr (Or.inl ⟨by exact ⟨by omega, (show z12 = -1 by omega) ▸ h12.1⟩, by first | rfl | (have n1 := hw.1; have n2 := hw.2.1; omega), by rfl⟩)) | exact (Or.inr (Or.inr (by first | exact ⟨⟨by omega, z12, ⟨h12.1, by omega⟩, Or.inl ⟨rfl, h60⟩⟩, rfl⟩ | exact ⟨⟨by omega, z12, ⟨h12.1, by omega⟩, Or.inr ⟨rfl, h60⟩⟩, rfl⟩))))⟩
      · refine aw_iconst dX5_leavesOrphan_39 ?_
        refine aw_goto (tgt := 44) dX5_leavesOrphan_40 (by decide) ?_
        refine aw_cVi (g := 30) (As := [iV 2]) (rest := []) (c_X5_holds hst M (2) (by have n1 := hw.1; have n2 := hw.2.1; omega)) cv_X5_holds dX5_leavesOrphan_44 ml_X5_63 rfl rfl rfl rfl rfl (Nat.le_of_ble_eq_true rfl) (by decide) rfl rfl (by decide) ?_
        refine aw_st (st' := [iV 0]) (by rw [if_neg (by decide)]) ?_
        refine aw_if_eq (tgt := 70) dX5_leavesOrphan_47 (by decide) (by decide) (fun _ => ?_) (fun h => absurd (by decide) h)
        refine aw_iconst dX5_leavesOrphan_70 ?_
        exact aw_iret dX5_leavesOrphan_71 rfl rfl (by decide) (by decide) ⟨0, rfl, (by first | (exfalso; have n1 := hw.1; have n2 := hw.2.1; omega) | exact (Or.inl ⟨by have n1 := hw.1; have n2 := hw.2.1; omega, by first | rfl | (have n1 := hw.1; have n2 := hw.2.1; omega), by rfl⟩) | exact (Or.inr (Or.inl ⟨by exact ⟨by omega, (show z12 = -1 by omega) ▸ h12.1⟩, by first | rfl | (have n1 := hw.1; have n2 := hw.2.1; omega), by rfl⟩)) | exact (Or.inr (Or.inr (by first | exact ⟨⟨by omega, z12, ⟨h12.1, by omega⟩, Or.inl ⟨rfl, h60⟩⟩, rfl⟩ | exact ⟨⟨by omega, z12, ⟨h12.1, by omega⟩, Or.inr ⟨rfl, h60⟩⟩, rfl⟩))))⟩
    · refine aw_if_ne (tgt := 35) dX5_leavesOrphan_28 (by decide) (by decide) (fun h => absurd h (by decide)) (fun _ => ?_)
      refine aw_iconst dX5_leavesOrphan_31 ?_
      refine aw_goto (tgt := 44) dX5_leavesOrphan_32 (by decide) ?_
      refine aw_cVi (g := 30) (As := [iV 1]) (rest := []) (c_X5_holds hst M (1) (by have n1 := hw.1; have n2 := hw.2.1; omega)) cv_X5_holds dX5_leavesOrphan_44 ml_X5_63 rfl rfl rfl rfl rfl (Nat.le_of_ble_eq_true rfl) (by decide) rfl rfl (by decide) ?_
      refine aw_st (st' := [iV 0]) (by rw [if_neg (by decide)]) ?_
      refine aw_if_eq (tgt := 70) dX5_leavesOrphan_47 (by decide) (by decide) (fun _ => ?_) (fun h => absurd (by decide) h)
      refine aw_iconst dX5_leavesOrphan_70 ?_
      exact aw_iret dX5_leavesOrphan_71 rfl rfl (by decide) (by decide) ⟨0, rfl, (by first | (exfalso; have n1 := hw.1; have n2 := hw.2.1; omega) | exact (Or.inl ⟨by have n1 := hw.1; have n2 := hw.2.1; omega, by first | rfl | (have n1 := hw.1; have n2 := hw.2.1; omega), by rfl⟩) | exact (Or.inr (Or.inl ⟨by exact ⟨by omega, (show z12 = -1 by omega) ▸ h12.1⟩, by first | rfl | (have n1 := hw.1; have n2 := hw.2.1; omega), by rfl⟩)) | exact (Or.inr (Or.inr (by first | exact ⟨⟨by omega, z12, ⟨h12.1, by omega⟩, Or.inl ⟨rfl, h60⟩⟩, rfl⟩ | exact ⟨⟨by omega, z12, ⟨h12.1, by omega⟩, Or.inr ⟨rfl, h60⟩⟩, rfl⟩))))⟩
  · refine aw_if_eq (tgt := 18) dX5_leavesOrphan_7 (by decide) (by decide) (fun _ => ?_) (fun h => absurd (by decide) h)
    refine aw_iconst dX5_leavesOrphan_18 ?_
    refine aw_istore_n (L2 := [some (rV K 30 0), some (iV (seats)), some (iV (-1))]) dX5_leavesOrphan_19 rfl (by decide) rfl ?_
    refine aw_aload_n dX5_leavesOrphan_20 rfl rfl ?_
    refine aw_iload_n dX5_leavesOrphan_21 rfl rfl ?_
    refine aw_iconst dX5_leavesOrphan_22 ?_
    refine aw_bipush dX5_leavesOrphan_23 rfl ?_
    refine aw_cSb (As := [iV (seats), iV 1, iV 20]) (rest := [rV K 30 0]) (c_X5_in hst M (seats) (1) (20) (by have n1 := hw.1; have n2 := hw.2.1; omega) (by have n1 := hw.1; have n2 := hw.2.1; omega) (by have n1 := hw.1; have n2 := hw.2.1; omega)) cs_X5_in dX5_leavesOrphan_25 ml_X5_56 rfl rfl (Nat.le_of_ble_eq_true rfl) (by decide) rfl rfl (by decide) (fun h25 => ?_) (fun h25 => ?_)
    · refine aw_if_ne (tgt := 35) dX5_leavesOrphan_28 (by decide) (by decide) (fun _ => ?_) (fun h => absurd h (by decide))
      refine aw_iload_n dX5_leavesOrphan_35 rfl rfl ?_
      refine aw_if_ge (tgt := 43) dX5_leavesOrphan_36 (by decide) (by decide) (fun h => absurd h (by decide)) (fun _ => ?_)
      refine aw_iconst dX5_leavesOrphan_39 ?_
      refine aw_goto (tgt := 44) dX5_leavesOrphan_40 (by decide) ?_
      refine aw_cVi (g := 30) (As := [iV 2]) (rest := []) (c_X5_holds hst M (2) (by have n1 := hw.1; have n2 := hw.2.1; omega)) cv_X5_holds dX5_leavesOrphan_44 ml_X5_63 rfl rfl rfl rfl rfl (Nat.le_of_ble_eq_true rfl) (by decide) rfl rfl (by decide) ?_
      refine aw_st (st' := [iV 0]) (by rw [if_neg (by decide)]) ?_
      refine aw_if_eq (tgt := 70) dX5_leavesOrphan_47 (by decide) (by decide) (fun _ => ?_) (fun h => absurd (by decide) h)
      refine aw_iconst dX5_leavesOrphan_70 ?_
      exact aw_iret dX5_leavesOrphan_71 rfl rfl (by decide) (by decide) ⟨0, rfl, (by first | (exfalso; have n1 := hw.1; have n2 := hw.2.1; omega) | exact (Or.inl ⟨by have n1 := hw.1; have n2 := hw.2.1; omega, by first | rfl | (have n1 := hw.1; have n2 := hw.2.1; omega), by rfl⟩) | exact (Or.inr (Or.inl ⟨by exact ⟨by omega, (show z12 = -1 by omega) ▸ h12.1⟩, by first | rfl | (have n1 := hw.1; have n2 := hw.2.1; omega), by rfl⟩)) | exact (Or.inr (Or.inr (by first | exact ⟨⟨by omega, z12, ⟨h12.1, by omega⟩, Or.inl ⟨rfl, h60⟩⟩, rfl⟩ | exact ⟨⟨by omega, z12, ⟨h12.1, by omega⟩, Or.inr ⟨rfl, h60⟩⟩, rfl⟩))))⟩
    · refine aw_if_ne (tgt := 35) dX5_leavesOrphan_28 (by decide) (by decide) (fun h => absurd h (by decide)) (fun _ => ?_)
      refine aw_iconst dX5_leavesOrphan_31 ?_
      refine aw_goto (tgt := 44) dX5_leavesOrphan_32 (by decide) ?_
      refine aw_cVi (g := 30) (As := [iV 1]) (rest := []) (c_X5_holds hst M (1) (by have n1 := hw.1; have n2 := hw.2.1; omega)) cv_X5_holds dX5_leavesOrphan_44 ml_X5_63 rfl rfl rfl rfl rfl (Nat.le_of_ble_eq_true rfl) (by decide) rfl rfl (by decide) ?_
      refine aw_st (st' := [iV 0]) (by rw [if_neg (by decide)]) ?_
      refine aw_if_eq (tgt := 70) dX5_leavesOrphan_47 (by decide) (by decide) (fun _ => ?_) (fun h => absurd (by decide) h)
      refine aw_iconst dX5_leavesOrphan_70 ?_
      exact aw_iret dX5_leavesOrphan_71 rfl rfl (by decide) (by decide) ⟨0, rfl, (by first | (exfalso; have n1 := hw.1; have n2 := hw.2.1; omega) | exact (Or.inl ⟨by have n1 := hw.1; have n2 := hw.2.1; omega, by first | rfl | (have n1 := hw.1; have n2 := hw.2.1; omega), by rfl⟩) | exact (Or.inr (Or.inl ⟨by exact ⟨by omega, (show z12 = -1 by omega) ▸ h12.1⟩, by first | rfl | (have n1 := hw.1; have n2 := hw.2.1; omega), by rfl⟩)) | exact (Or.inr (Or.inr (by first | exact ⟨⟨by omega, z12, ⟨h12.1, by omega⟩, Or.inl ⟨rfl, h60⟩⟩, rfl⟩ | exact ⟨⟨by omega, z12, ⟨h12.1, by omega⟩, Or.inr ⟨rfl, h60⟩⟩, rfl⟩))))⟩
set_option maxHeartbeats 4000000 in
set_option maxRecDepth 20000 in
theorem c_X5_hold {K : WPar} {l : Launch} (hst : l.stackTraces = false) (M : Mem) (seats : Int) (minutes : Int) (r_seats : inR seats) (r_minutes : inR minutes) (hw : HWm M) (bw : BWm M) (v_now : 0 ≤ M 30 0 1 ∧ M 30 0 1 ≤ 1000000) : CT K l iX5_hold [rV K 30 0, iV (seats), iV (minutes)] M (rZm (fun z m => ((¬ ((1 ≤ seats ∧ seats ≤ 20) ∧ (1 ≤ minutes ∧ minutes ≤ 200))) ∧ z = 0 ∧ m = thr M 1) ∨ ((((1 ≤ seats ∧ seats ≤ 20) ∧ (1 ≤ minutes ∧ minutes ≤ 200)) ∧ (bestG (M 30 0 3) (M 31 0) (oMd M) (M 32 0) seats (-1) ∨ ¬ M 30 0 8 < 100)) ∧ z = 0 ∧ m = thr M 2) ∨ ((((1 ≤ seats ∧ seats ≤ 20) ∧ (1 ≤ minutes ∧ minutes ≤ 200)) ∧ M 30 0 8 < 100 ∧ ∃ b, (bestG (M 30 0 3) (M 31 0) (oMd M) (M 32 0) seats b ∧ b ≠ -1) ∧ m = ownM (grtM (thr M 0) minutes) (b / 100) (b % 100) seats (M 30 0 8 + 1)) ∧ z = M 30 0 8 + 1))) := by
  refine aw_met [some (rV K 30 0), some (iV (seats)), some (iV (minutes)), none, none] hst (by decide) rfl (Nat.le_of_ble_eq_true rfl) rfl rfl (lcat rfl) ?_
  refine aw_rng (fun hM => ?_)
  refine aw_iload_n dX5_hold_0 rfl rfl ?_
  refine aw_iconst dX5_hold_1 ?_
  refine aw_bipush dX5_hold_2 rfl ?_
  refine aw_cSb (As := [iV (seats), iV 1, iV 20]) (rest := []) (c_X5_in hst M (seats) (1) (20) (by have n1 := hw.1; have n2 := hw.2.1; have t1 := bw.1; have t2 := bw.2; omega) (by have n1 := hw.1; have n2 := hw.2.1; have t1 := bw.1; have t2 := bw.2; omega) (by have n1 := hw.1; have n2 := hw.2.1; have t1 := bw.1; have t2 := bw.2; omega)) cs_X5_in dX5_hold_4 ml_X5_56 rfl rfl (Nat.le_of_ble_eq_true rfl) (by decide) rfl rfl (by decide) (fun h4 => ?_) (fun h4 => ?_)
  · refine aw_if_eq (tgt := 21) dX5_hold_7 (by decide) (by decide) (fun h => absurd h (by decide)) (fun _ => ?_)
    refine aw_iload_n dX5_hold_10 rfl rfl ?_
    refine aw_cSb (As := [iV (minutes)]) (rest := []) (c_X5_isMinutes hst M (minutes) (by have n1 := hw.1; have n2 := hw.2.1; have t1 := bw.1; have t2 := bw.2; omega)) cs_X5_isMinutes dX5_hold_11 ml_X5_112 rfl rfl (Nat.le_of_ble_eq_true rfl) (by decide) rfl rfl (by decide) (fun h11 => ?_) (fun h11 => ?_)
    · refine aw_if_eq (tgt := 21) dX5_hold_14 (by decide) (by decide) (fun h => absurd h (by decide)) (fun _ => ?_)
      refine aw_iconst dX5_hold_17 ?_
      refine aw_goto (tgt := 22) dX5_hold_18 (by decide) ?_
      refine aw_istore_n (L2 := [some (rV K 30 0), some (iV (seats)), some (iV (minutes)), some (iV 1), none]) dX5_hold_22 rfl (by decide) rfl ?_
      refine aw_iload_n dX5_hold_23 rfl rfl ?_
      refine aw_if_eq (tgt := 35) dX5_hold_24 (by decide) (by decide) (fun h => absurd h (by decide)) (fun _ => ?_)
      refine aw_aload_n dX5_hold_27 rfl rfl ?_
      refine aw_iload_n dX5_hold_28 rfl rfl ?_
      refine aw_cVr (g := 30) (As := [iV (seats)]) (rest := []) (c_X5_best hst M (seats) (by have n1 := hw.1; have n2 := hw.2.1; have t1 := bw.1; have t2 := bw.2; omega) (by have n1 := hw.1; have n2 := hw.2.1; have t1 := bw.1; have t2 := bw.2; omega) (by have n1 := hw.1; have n2 := hw.2.1; have t1 := bw.1; have t2 := bw.2; omega)) cv_X5_best dX5_hold_29 ml_X5_103 rfl rfl rfl rfl rfl (Nat.le_of_ble_eq_true rfl) (by decide) rfl rfl (by decide) (fun z29 (h29 : bestG (M 30 0 3) (M 31 0) (oMd M) (M 32 0) seats z29 ∧ -1 ≤ z29 ∧ z29 ≤ 2000) => ?_)
      refine aw_goto (tgt := 36) dX5_hold_32 (by decide) ?_
      refine aw_istore (L2 := [some (rV K 30 0), some (iV (seats)), some (iV (minutes)), some (iV 1), some (iV (z29))]) dX5_hold_36 (by decide) rfl ?_
      refine aw_aload_n dX5_hold_38 rfl rfl ?_
      refine aw_iload_n dX5_hold_39 rfl rfl ?_
      refine aw_if_ne (tgt := 47) dX5_hold_40 (by decide) (by decide) (fun _ => ?_) (fun h => absurd h (by decide))
      refine aw_iload dX5_hold_47 rfl ?_
      refine aw_if_lt (tgt := 61) dX5_hold_49 (by decide) (by have n1 := hw.1; have n2 := hw.2.1; have t1 := bw.1; have t2 := bw.2; omega) (fun h49 => ?_) (fun h49 => ?_)
      · refine aw_iconst dX5_hold_61 ?_
        refine aw_goto (tgt := 66) dX5_hold_62 (by decide) ?_
        refine aw_cVi (g := 30) (As := [iV 2]) (rest := []) (c_X5_holds hst M (2) (by have n1 := hw.1; have n2 := hw.2.1; have t1 := bw.1; have t2 := bw.2; omega)) cv_X5_holds dX5_hold_66 ml_X5_63 rfl rfl rfl rfl rfl (Nat.le_of_ble_eq_true rfl) (by decide) rfl rfl (by decide) ?_
        refine aw_st (st' := [iV 0]) (by rw [if_neg (by decide)]) ?_
        refine aw_if_ne (tgt := 74) dX5_hold_69 (by decide) (by decide) (fun h => absurd h (by decide)) (fun _ => ?_)
        refine aw_iconst dX5_hold_72 ?_
        exact aw_iret dX5_hold_73 rfl rfl (by decide) (by decide) ⟨0, rfl, (by first | (exfalso; have n1 := hw.1; have n2 := hw.2.1; have t1 := bw.1; have t2 := bw.2; omega) | exact (Or.inl ⟨by have n1 := hw.1; have n2 := hw.2.1; have t1 := bw.1; have t2 := bw.2; omega, by first | rfl | (have n1 := hw.1; have n2 := hw.2.1; have t1 := bw.1; have t2 := bw.2; omega), by rfl⟩) | exact (Or.inr (Or.inl ⟨by first | exact ⟨by omega, Or.inl ((show z29 = -1 by omega) ▸ h29.1)⟩ | exact ⟨by omega, Or.inr (by have n1 := hw.1; have n2 := hw.2.1; have t1 := bw.1; have t2 := bw.2; omega)⟩, by first | rfl | (have n1 := hw.1; have n2 := hw.2.1; have t1 := bw.1; have t2 := bw.2; omega), by rfl⟩)) | exact (Or.inr (Or.inr (by exact ⟨⟨by omega, by have n1 := hw.1; have n2 := hw.2.1; have t1 := bw.1; have t2 := bw.2; omega, z29, ⟨h29.1, by omega⟩, rfl⟩, rfl⟩))))⟩
      · refine aw_aload_n dX5_hold_52 rfl rfl ?_
        refine aw_geti (g := 30) rfl rfl ly_X5 rfl (k := 8) 8 rfl dX5_hold_53 (by decide) fl_X5_106 rfl (fun r53 => ?_)
        refine aw_bipush dX5_hold_56 rfl ?_
        refine aw_icmp_ne (tgt := 65) dX5_hold_58 (by decide) (by have n1 := hw.1; have n2 := hw.2.1; have t1 := bw.1; have t2 := bw.2; omega) (by have n1 := hw.1; have n2 := hw.2.1; have t1 := bw.1; have t2 := bw.2; omega) (fun h58 => ?_) (fun h58 => ?_)
        · refine aw_iconst dX5_hold_65 ?_
          refine aw_cVi (g := 30) (As := [iV 0]) (rest := []) (c_X5_holds hst M (0) (by have n1 := hw.1; have n2 := hw.2.1; have t1 := bw.1; have t2 := bw.2; omega)) cv_X5_holds dX5_hold_66 ml_X5_63 rfl rfl rfl rfl rfl (Nat.le_of_ble_eq_true rfl) (by decide) rfl rfl (by decide) ?_
          refine aw_st (st' := [iV 1]) (by rw [if_pos (by decide)]) ?_
          refine aw_if_ne (tgt := 74) dX5_hold_69 (by decide) (by decide) (fun _ => ?_) (fun h => absurd h (by decide))
          refine aw_aload_n dX5_hold_74 rfl rfl ?_
          refine aw_iload dX5_hold_75 rfl ?_
          refine aw_bipush dX5_hold_77 rfl ?_
          refine aw_idiv dX5_hold_79 (by have n1 := hw.1; have n2 := hw.2.1; have t1 := bw.1; have t2 := bw.2; omega) (by have n1 := hw.1; have n2 := hw.2.1; have t1 := bw.1; have t2 := bw.2; omega) ?_
          refine aw_iload dX5_hold_80 rfl ?_
          refine aw_bipush dX5_hold_82 rfl ?_
          refine aw_irem dX5_hold_84 (by have n1 := hw.1; have n2 := hw.2.1; have t1 := bw.1; have t2 := bw.2; omega) (by have n1 := hw.1; have n2 := hw.2.1; have t1 := bw.1; have t2 := bw.2; omega) ?_
          refine aw_iload_n dX5_hold_85 rfl rfl ?_
          refine aw_aload_n dX5_hold_86 rfl rfl ?_
          refine aw_iload_n dX5_hold_87 rfl rfl ?_
          refine aw_cVi (g := 30) (As := [iV (minutes)]) (rest := [iV (seats), iV (z29 % 100), iV (z29 / 100), rV K 30 0]) (c_X5_grants hst (thr M 0) (minutes) (by have n1 := hw.1; have n2 := hw.2.1; have t1 := bw.1; have t2 := bw.2; omega) (by exact BWm_t bw 0) (by show M 30 0 8 < 100; have n1 := hw.1; have n2 := hw.2.1; have t1 := bw.1; have t2 := bw.2; omega) (by exact v_now) (by omega)) cv_X5_grants dX5_hold_88 ml_X5_115 rfl rfl rfl rfl rfl (Nat.le_of_ble_eq_true rfl) (by decide) rfl rfl (by decide) ?_
          refine aw_st (st' := [iV (M 30 0 8 + 1), iV (seats), iV (z29 % 100), iV (z29 / 100), rV K 30 0]) (by rw [show ((thr M 0) 30 0 8 + 1 : Int) = M 30 0 8 + 1 from by rfl]) ?_
          refine aw_cVn (g := 30) (As := [iV (z29 / 100), iV (z29 % 100), iV (seats), iV (M 30 0 8 + 1)]) (rest := []) (c_X5_owns hst (grtM (thr M 0) minutes) (z29 / 100) (z29 % 100) (seats) (M 30 0 8 + 1) (by have ba := bestG_at (by omega) (fun r r0 r1 => (hw.2.2 r r0 r1).2.1) h29.1 (by omega); have nr := hw.2.2 (z29 / 100) ba.1 ba.2.1; have n1 := hw.1; have n2 := hw.2.1; have t1 := bw.1; have t2 := bw.2; omega) (by have ba := bestG_at (by omega) (fun r r0 r1 => (hw.2.2 r r0 r1).2.1) h29.1 (by omega); have nr := hw.2.2 (z29 / 100) ba.1 ba.2.1; have n1 := hw.1; have n2 := hw.2.1; have t1 := bw.1; have t2 := bw.2; omega) (by have ba := bestG_at (by omega) (fun r r0 r1 => (hw.2.2 r r0 r1).2.1) h29.1 (by omega); have nr := hw.2.2 (z29 / 100) ba.1 ba.2.1; have n1 := hw.1; have n2 := hw.2.1; have t1 := bw.1; have t2 := bw.2; omega) (by have ba := bestG_at (by omega) (fun r r0 r1 => (hw.2.2 r r0 r1).2.1) h29.1 (by omega); have nr := hw.2.2 (z29 / 100) ba.1 ba.2.1; have n1 := hw.1; have n2 := hw.2.1; have t1 := bw.1; have t2 := bw.2; omega) (by have ba := bestG_at (by omega) (fun r r0 r1 => (hw.2.2 r r0 r1).2.1) h29.1 (by omega); have nr := hw.2.2 (z29 / 100) ba.1 ba.2.1; have n1 := hw.1; have n2 := hw.2.1; have t1 := bw.1; have t2 := bw.2; omega)) cv_X5_owns dX5_hold_91 ml_X5_118 rfl rfl rfl rfl rfl (Nat.le_of_ble_eq_true rfl) (by decide) rfl rfl (by decide) ?_
          refine aw_aload_n dX5_hold_94 rfl rfl ?_
          refine aw_geti (g := 30) rfl rfl ly_X5 rfl (k := 8) 8 rfl dX5_hold_95 (by decide) fl_X5_106 rfl (fun r95 => ?_)
          refine aw_st (st' := [iV (M 30 0 8 + 1)]) (by rw [show ((ownM (grtM (thr M 0) minutes) (z29 / 100) (z29 % 100) seats (M 30 0 8 + 1)) 30 0 8 : Int) = M 30 0 8 + 1 from by rw [ownM_g (by decide), grtM_T]; rfl]) ?_
          exact aw_iret dX5_hold_98 rfl rfl (by decide) (by decide) ⟨M 30 0 8 + 1, rfl, (by first | (exfalso; have n1 := hw.1; have n2 := hw.2.1; have t1 := bw.1; have t2 := bw.2; omega) | exact (Or.inl ⟨by have n1 := hw.1; have n2 := hw.2.1; have t1 := bw.1; have t2 := bw.2; omega, by first | rfl | (have n1 := hw.1; have n2 := hw.2.1; have t1 := bw.1; have t2 := bw.2; omega), by rfl⟩) | exact (Or.inr (Or.inl ⟨by first | exact ⟨by omega, Or.inl ((show z29 = -1 by omega) ▸ h29.1)⟩ | exact ⟨by omega, Or.inr (by have n1 := hw.1; have n2 := hw.2.1; have t1 := bw.1; have t2 := bw.2; omega)⟩, by first | rfl | (have n1 := hw.1; have n2 := hw.2.1; have t1 := bw.1; have t2 := bw.2; omega), by rfl⟩)) | exact (Or.inr (Or.inr (by exact ⟨⟨by omega, by have n1 := hw.1; have n2 := hw.2.1; have t1 := bw.1; have t2 := bw.2; omega, z29, ⟨h29.1, by omega⟩, rfl⟩, rfl⟩))))⟩
        · refine aw_iconst dX5_hold_61 ?_
          refine aw_goto (tgt := 66) dX5_hold_62 (by decide) ?_
          refine aw_cVi (g := 30) (As := [iV 2]) (rest := []) (c_X5_holds hst M (2) (by have n1 := hw.1; have n2 := hw.2.1; have t1 := bw.1; have t2 := bw.2; omega)) cv_X5_holds dX5_hold_66 ml_X5_63 rfl rfl rfl rfl rfl (Nat.le_of_ble_eq_true rfl) (by decide) rfl rfl (by decide) ?_
          refine aw_st (st' := [iV 0]) (by rw [if_neg (by decide)]) ?_
          refine aw_if_ne (tgt := 74) dX5_hold_69 (by decide) (by decide) (fun h => absurd h (by decide)) (fun _ => ?_)
          refine aw_iconst dX5_hold_72 ?_
          exact aw_iret dX5_hold_73 rfl rfl (by decide) (by decide) ⟨0, rfl, (by first | (exfalso; have n1 := hw.1; have n2 := hw.2.1; have t1 := bw.1; have t2 := bw.2; omega) | exact (Or.inl ⟨by have n1 := hw.1; have n2 := hw.2.1; have t1 := bw.1; have t2 := bw.2; omega, by first | rfl | (have n1 := hw.1; have n2 := hw.2.1; have t1 := bw.1; have t2 := bw.2; omega), by rfl⟩) | exact (Or.inr (Or.inl ⟨by first | exact ⟨by omega, Or.inl ((show z29 = -1 by omega) ▸ h29.1)⟩ | exact ⟨by omega, Or.inr (by have n1 := hw.1; have n2 := hw.2.1; have t1 := bw.1; have t2 := bw.2; omega)⟩, by first | rfl | (have n1 := hw.1; have n2 := hw.2.1; have t1 := bw.1; have t2 := bw.2; omega), by rfl⟩)) | exact (Or.inr (Or.inr (by exact ⟨⟨by omega, by have n1 := hw.1; have n2 := hw.2.1; have t1 := bw.1; have t2 := bw.2; omega, z29, ⟨h29.1, by omega⟩, rfl⟩, rfl⟩))))⟩
    · refine aw_if_eq (tgt := 21) dX5_hold_14 (by decide) (by decide) (fun _ => ?_) (fun h => absurd (by decide) h)
      refine aw_iconst dX5_hold_21 ?_
      refine aw_istore_n (L2 := [some (rV K 30 0), some (iV (seats)), some (iV (minutes)), some (iV 0), none]) dX5_hold_22 rfl (by decide) rfl ?_
      refine aw_iload_n dX5_hold_23 rfl rfl ?_
      refine aw_if_eq (tgt := 35) dX5_hold_24 (by decide) (by decide) (fun _ => ?_) (fun h => absurd (by decide) h)
      refine aw_iconst dX5_hold_35 ?_
      refine aw_istore (L2 := [some (rV K 30 0), some (iV (seats)), some (iV (minutes)), some (iV 0), some (iV (-1))]) dX5_hold_36 (by decide) rfl ?_
      refine aw_aload_n dX5_hold_38 rfl rfl ?_
      refine aw_iload_n dX5_hold_39 rfl rfl ?_
      refine aw_if_ne (tgt := 47) dX5_hold_40 (by decide) (by decide) (fun h => absurd h (by decide)) (fun _ => ?_)
      refine aw_iconst dX5_hold_43 ?_
      refine aw_goto (tgt := 66) dX5_hold_44 (by decide) ?_
      refine aw_cVi (g := 30) (As := [iV 1]) (rest := []) (c_X5_holds hst M (1) (by have n1 := hw.1; have n2 := hw.2.1; have t1 := bw.1; have t2 := bw.2; omega)) cv_X5_holds dX5_hold_66 ml_X5_63 rfl rfl rfl rfl rfl (Nat.le_of_ble_eq_true rfl) (by decide) rfl rfl (by decide) ?_
      refine aw_st (st' := [iV 0]) (by rw [if_neg (by decide)]) ?_
      refine aw_if_ne (tgt := 74) dX5_hold_69 (by decide) (by decide) (fun h => absurd h (by decide)) (fun _ => ?_)
      refine aw_iconst dX5_hold_72 ?_
      exact aw_iret dX5_hold_73 rfl rfl (by decide) (by decide) ⟨0, rfl, (by first | (exfalso; have n1 := hw.1; have n2 := hw.2.1; have t1 := bw.1; have t2 := bw.2; omega) | exact (Or.inl ⟨by have n1 := hw.1; have n2 := hw.2.1; have t1 := bw.1; have t2 := bw.2; omega, by first | rfl | (have n1 := hw.1; have n2 := hw.2.1; have t1 := bw.1; have t2 := bw.2; omega), by rfl⟩) | exact (Or.inr (Or.inl ⟨by first | exact ⟨by omega, Or.inl ((show z29 = -1 by omega) ▸ h29.1)⟩ | exact ⟨by omega, Or.inr (by have n1 := hw.1; have n2 := hw.2.1; have t1 := bw.1; have t2 := bw.2; omega)⟩, by first | rfl | (have n1 := hw.1; have n2 := hw.2.1; have t1 := bw.1; have t2 := bw.2; omega), by rfl⟩)) | exact (Or.inr (Or.inr (by exact ⟨⟨by omega, by have n1 := hw.1; have n2 := hw.2.1; have t1 := bw.1; have t2 := bw.2; omega, z29, ⟨h29.1, by omega⟩, rfl⟩, rfl⟩))))⟩
  · refine aw_if_eq (tgt := 21) dX5_hold_7 (by decide) (by decide) (fun _ => ?_) (fun h => absurd (by decide) h)
    refine aw_iconst dX5_hold_21 ?_
    refine aw_istore_n (L2 := [some (rV K 30 0), some (iV (seats)), some (iV (minutes)), some (iV 0), none]) dX5_hold_22 rfl (by decide) rfl ?_
    refine aw_iload_n dX5_hold_23 rfl rfl ?_
    refine aw_if_eq (tgt := 35) dX5_hold_24 (by decide) (by decide) (fun _ => ?_) (fun h => absurd (by decide) h)
    refine aw_iconst dX5_hold_35 ?_
    refine aw_istore (L2 := [some (rV K 30 0), some (iV (seats)), some (iV (minutes)), some (iV 0), some (iV (-1))]) dX5_hold_36 (by decide) rfl ?_
    refine aw_aload_n dX5_hold_38 rfl rfl ?_
    refine aw_iload_n dX5_hold_39 rfl rfl ?_
    refine aw_if_ne (tgt := 47) dX5_hold_40 (by decide) (by decide) (fun h => absurd h (by decide)) (fun _ => ?_)
    refine aw_iconst dX5_hold_43 ?_
    refine aw_goto (tgt := 66) dX5_hold_44 (by decide) ?_
    refine aw_cVi (g := 30) (As := [iV 1]) (rest := []) (c_X5_holds hst M (1) (by have n1 := hw.1; have n2 := hw.2.1; have t1 := bw.1; have t2 := bw.2; omega)) cv_X5_holds dX5_hold_66 ml_X5_63 rfl rfl rfl rfl rfl (Nat.le_of_ble_eq_true rfl) (by decide) rfl rfl (by decide) ?_
    refine aw_st (st' := [iV 0]) (by rw [if_neg (by decide)]) ?_
    refine aw_if_ne (tgt := 74) dX5_hold_69 (by decide) (by decide) (fun h => absurd h (by decide)) (fun _ => ?_)
    refine aw_iconst dX5_hold_72 ?_
    exact aw_iret dX5_hold_73 rfl rfl (by decide) (by decide) ⟨0, rfl, (by first | (exfalso; have n1 := hw.1; have n2 := hw.2.1; have t1 := bw.1; have t2 := bw.2; omega) | exact (Or.inl ⟨by have n1 := hw.1; have n2 := hw.2.1; have t1 := bw.1; have t2 := bw.2; omega, by first | rfl | (have n1 := hw.1; have n2 := hw.2.1; have t1 := bw.1; have t2 := bw.2; omega), by rfl⟩) | exact (Or.inr (Or.inl ⟨by first | exact ⟨by omega, Or.inl ((show z29 = -1 by omega) ▸ h29.1)⟩ | exact ⟨by omega, Or.inr (by have n1 := hw.1; have n2 := hw.2.1; have t1 := bw.1; have t2 := bw.2; omega)⟩, by first | rfl | (have n1 := hw.1; have n2 := hw.2.1; have t1 := bw.1; have t2 := bw.2; omega), by rfl⟩)) | exact (Or.inr (Or.inr (by exact ⟨⟨by omega, by have n1 := hw.1; have n2 := hw.2.1; have t1 := bw.1; have t2 := bw.2; omega, z29, ⟨h29.1, by omega⟩, rfl⟩, rfl⟩))))⟩
set_option maxHeartbeats 4000000 in
set_option maxRecDepth 20000 in
theorem c_X5_holdAt {K : WPar} {l : Launch} (hst : l.stackTraces = false) (M : Mem) (row : Int) (first : Int) (seats : Int) (minutes : Int) (r_row : inR row) (r_first : inR first) (r_seats : inR seats) (r_minutes : inR minutes) (hw : HWm M) (bw : BWm M) (v_now : 0 ≤ M 30 0 1 ∧ M 30 0 1 ≤ 1000000) : CT K l iX5_holdAt [rV K 30 0, iV (row), iV (first), iV (seats), iV (minutes)] M (rZm (fun z m => ((¬ (0 ≤ row ∧ row < M 30 0 3 ∧ 0 ≤ first ∧ first < M 31 0 row)) ∧ z = 0 ∧ m = thr M 1) ∨ (((0 ≤ row ∧ row < M 30 0 3 ∧ 0 ≤ first ∧ first < M 31 0 row) ∧ ¬ ((1 ≤ seats ∧ seats ≤ 20) ∧ (1 ≤ minutes ∧ minutes ≤ 200))) ∧ z = 0 ∧ m = thr M 2) ∨ ((((0 ≤ row ∧ row < M 30 0 3 ∧ 0 ≤ first ∧ first < M 31 0 row) ∧ ((1 ≤ seats ∧ seats ≤ 20) ∧ (1 ≤ minutes ∧ minutes ≤ 200))) ∧ (¬ (1 ≤ seats ∧ 0 ≤ first ∧ first + seats ≤ M 31 0 row ∧ allF (oMd M row) first seats) ∨ ¬ M 30 0 8 < 100)) ∧ z = 0 ∧ m = thr M 3) ∨ ((((0 ≤ row ∧ row < M 30 0 3 ∧ 0 ≤ first ∧ first < M 31 0 row) ∧ ((1 ≤ seats ∧ seats ≤ 20) ∧ (1 ≤ minutes ∧ minutes ≤ 200))) ∧ (1 ≤ seats ∧ 0 ≤ first ∧ first + seats ≤ M 31 0 row ∧ allF (oMd M row) first seats) ∧ M 30 0 8 < 100) ∧ z = M 30 0 8 + 1 ∧ m = ownM (grtM (thr M 0) minutes) row first seats (M 30 0 8 + 1)))) := by
  refine aw_met [some (rV K 30 0), some (iV (row)), some (iV (first)), some (iV (seats)), some (iV (minutes)), none] hst (by decide) rfl (Nat.le_of_ble_eq_true rfl) rfl rfl (lcat rfl) ?_
  refine aw_rng (fun hM => ?_)
  refine aw_iload_n dX5_holdAt_0 rfl rfl ?_
  refine aw_iconst dX5_holdAt_1 ?_
  refine aw_bipush dX5_holdAt_2 rfl ?_
  refine aw_cSb (As := [iV (seats), iV 1, iV 20]) (rest := []) (c_X5_in hst M (seats) (1) (20) (by have n1 := hw.1; have n2 := hw.2.1; have t1 := bw.1; have t2 := bw.2; omega) (by have n1 := hw.1; have n2 := hw.2.1; have t1 := bw.1; have t2 := bw.2; omega) (by have n1 := hw.1; have n2 := hw.2.1; have t1 := bw.1; have t2 := bw.2; omega)) cs_X5_in dX5_holdAt_4 ml_X5_56 rfl rfl (Nat.le_of_ble_eq_true rfl) (by decide) rfl rfl (by decide) (fun h4 => ?_) (fun h4 => ?_)
  · refine aw_if_eq (tgt := 22) dX5_holdAt_7 (by decide) (by decide) (fun h => absurd h (by decide)) (fun _ => ?_)
    refine aw_iload dX5_holdAt_10 rfl ?_
    refine aw_cSb (As := [iV (minutes)]) (rest := []) (c_X5_isMinutes hst M (minutes) (by have n1 := hw.1; have n2 := hw.2.1; have t1 := bw.1; have t2 := bw.2; omega)) cs_X5_isMinutes dX5_holdAt_12 ml_X5_112 rfl rfl (Nat.le_of_ble_eq_true rfl) (by decide) rfl rfl (by decide) (fun h12 => ?_) (fun h12 => ?_)
    · refine aw_if_eq (tgt := 22) dX5_holdAt_15 (by decide) (by decide) (fun h => absurd h (by decide)) (fun _ => ?_)
      refine aw_iconst dX5_holdAt_18 ?_
      refine aw_goto (tgt := 23) dX5_holdAt_19 (by decide) ?_
      refine aw_istore (L2 := [some (rV K 30 0), some (iV (row)), some (iV (first)), some (iV (seats)), some (iV (minutes)), some (iV 1)]) dX5_holdAt_23 (by decide) rfl ?_
      refine aw_aload_n dX5_holdAt_25 rfl rfl ?_
      refine aw_aload_n dX5_holdAt_26 rfl rfl ?_
      refine aw_iload_n dX5_holdAt_27 rfl rfl ?_
      refine aw_iload_n dX5_holdAt_28 rfl rfl ?_
      refine aw_cVb (g := 30) (As := [iV (row), iV (first)]) (rest := [rV K 30 0]) (c_X5_isSeat hst M (row) (first) (by have n1 := hw.1; have n2 := hw.2.1; have t1 := bw.1; have t2 := bw.2; omega) (by have n1 := hw.1; have n2 := hw.2.1; have t1 := bw.1; have t2 := bw.2; omega) (by have n1 := hw.1; have n2 := hw.2.1; have t1 := bw.1; have t2 := bw.2; omega)) cv_X5_isSeat dX5_holdAt_29 ml_X5_70 rfl rfl rfl rfl rfl (Nat.le_of_ble_eq_true rfl) (by decide) rfl rfl (by decide) (fun h29 => ?_) (fun h29 => ?_)
      · refine aw_if_ne (tgt := 39) dX5_holdAt_32 (by decide) (by decide) (fun _ => ?_) (fun h => absurd h (by decide))
        refine aw_iload dX5_holdAt_39 rfl ?_
        refine aw_if_ne (tgt := 48) dX5_holdAt_41 (by decide) (by decide) (fun _ => ?_) (fun h => absurd h (by decide))
        refine aw_aload_n dX5_holdAt_48 rfl rfl ?_
        refine aw_iload_n dX5_holdAt_49 rfl rfl ?_
        refine aw_iload_n dX5_holdAt_50 rfl rfl ?_
        refine aw_cVr (g := 30) (As := [iV (row), iV (first)]) (rest := [rV K 30 0]) (c_X5_run hst M (row) (first) (by have n1 := hw.1; have n2 := hw.2.1; have t1 := bw.1; have t2 := bw.2; omega) (by have n1 := hw.1; have n2 := hw.2.1; have t1 := bw.1; have t2 := bw.2; omega) (by have n1 := hw.1; have n2 := hw.2.1; have t1 := bw.1; have t2 := bw.2; omega) (by omega) (by omega)) cv_X5_run dX5_holdAt_51 ml_X5_85 rfl rfl rfl rfl rfl (Nat.le_of_ble_eq_true rfl) (by decide) rfl rfl (by decide) (fun z51 (h51 : runR (M 31 0 row) (oMd M row) first z51) => ?_)
        refine aw_iload_n dX5_holdAt_54 rfl rfl ?_
        refine aw_icmp_lt (tgt := 67) dX5_holdAt_55 (by decide) (by have u1 := h51.1; have u2 := h51.2.1; have nr := hw.2.2 row (by omega) (by omega); have n1 := hw.1; have n2 := hw.2.1; have t1 := bw.1; have t2 := bw.2; omega) (by have n1 := hw.1; have n2 := hw.2.1; have t1 := bw.1; have t2 := bw.2; omega) (fun h55 => ?_) (fun h55 => ?_)
        · refine aw_iconst dX5_holdAt_67 ?_
          refine aw_goto (tgt := 72) dX5_holdAt_68 (by decide) ?_
          refine aw_cVi (g := 30) (As := [iV 3]) (rest := []) (c_X5_holds hst M (3) (by have n1 := hw.1; have n2 := hw.2.1; have t1 := bw.1; have t2 := bw.2; omega)) cv_X5_holds dX5_holdAt_72 ml_X5_63 rfl rfl rfl rfl rfl (Nat.le_of_ble_eq_true rfl) (by decide) rfl rfl (by decide) ?_
          refine aw_st (st' := [iV 0]) (by rw [if_neg (by decide)]) ?_
          refine aw_if_ne (tgt := 80) dX5_holdAt_75 (by decide) (by decide) (fun h => absurd h (by decide)) (fun _ => ?_)
          refine aw_iconst dX5_holdAt_78 ?_
          exact aw_iret dX5_holdAt_79 rfl rfl (by decide) (by decide) ⟨0, rfl, (by first | (exfalso; have n1 := hw.1; have n2 := hw.2.1; have t1 := bw.1; have t2 := bw.2; omega) | exact (Or.inl ⟨by have n1 := hw.1; have n2 := hw.2.1; have t1 := bw.1; have t2 := bw.2; omega, by first | rfl | (have n1 := hw.1; have n2 := hw.2.1; have t1 := bw.1; have t2 := bw.2; omega), by rfl⟩) | exact (Or.inr (Or.inl ⟨by have n1 := hw.1; have n2 := hw.2.1; have t1 := bw.1; have t2 := bw.2; omega, by first | rfl | (have n1 := hw.1; have n2 := hw.2.1; have t1 := bw.1; have t2 := bw.2; omega), by rfl⟩)) | exact (Or.inr (Or.inr (Or.inl ⟨by first | exact ⟨by omega, Or.inl (fun q => by have := (runR_le h51 (k := seats) (by omega)).mpr q.2.2; omega)⟩ | exact ⟨by omega, Or.inr (by have n1 := hw.1; have n2 := hw.2.1; have t1 := bw.1; have t2 := bw.2; omega)⟩, by first | rfl | (have n1 := hw.1; have n2 := hw.2.1; have t1 := bw.1; have t2 := bw.2; omega), by rfl⟩))) | exact (Or.inr (Or.inr (Or.inr ⟨by have rl := (runR_le h51 (k := seats) (by omega)).mp (by omega); exact ⟨by omega, ⟨by omega, by omega, rl.1, rl.2⟩, by have n1 := hw.1; have n2 := hw.2.1; have t1 := bw.1; have t2 := bw.2; omega⟩, by first | rfl | (have n1 := hw.1; have n2 := hw.2.1; have t1 := bw.1; have t2 := bw.2; omega), by rfl⟩))))⟩
        · refine aw_aload_n dX5_holdAt_58 rfl rfl ?_
          refine aw_geti (g := 30) rfl rfl ly_X5 rfl (k := 8) 8 rfl dX5_holdAt_59 (by decide) fl_X5_106 rfl (fun r59 => ?_)
          refine aw_bipush dX5_holdAt_62 rfl ?_
          refine aw_icmp_ne (tgt := 71) dX5_holdAt_64 (by decide) (by have n1 := hw.1; have n2 := hw.2.1; have t1 := bw.1; have t2 := bw.2; omega) (by have n1 := hw.1; have n2 := hw.2.1; have t1 := bw.1; have t2 := bw.2; omega) (fun h64 => ?_) (fun h64 => ?_)
          · refine aw_iconst dX5_holdAt_71 ?_
            refine aw_cVi (g := 30) (As := [iV 0]) (rest := []) (c_X5_holds hst M (0) (by have n1 := hw.1; have n2 := hw.2.1; have t1 := bw.1; have t2 := bw.2; omega)) cv_X5_holds dX5_holdAt_72 ml_X5_63 rfl rfl rfl rfl rfl (Nat.le_of_ble_eq_true rfl) (by decide) rfl rfl (by decide) ?_
            refine aw_st (st' := [iV 1]) (by rw [if_pos (by decide)]) ?_
            refine aw_if_ne (tgt := 80) dX5_holdAt_75 (by decide) (by decide) (fun _ => ?_) (fun h => absurd h (by decide))
            refine aw_aload_n dX5_holdAt_80 rfl rfl ?_
            refine aw_iload_n dX5_holdAt_81 rfl rfl ?_
            refine aw_iload_n dX5_holdAt_82 rfl rfl ?_
            refine aw_iload_n dX5_holdAt_83 rfl rfl ?_
            refine aw_aload_n dX5_holdAt_84 rfl rfl ?_
            refine aw_iload dX5_holdAt_85 rfl ?_
            refine aw_cVi (g := 30) (As := [iV (minutes)]) (rest := [iV (seats), iV (first), iV (row), rV K 30 0]) (c_X5_grants hst (thr M 0) (minutes) (by have n1 := hw.1; have n2 := hw.2.1; have t1 := bw.1; have t2 := bw.2; omega) (by exact BWm_t bw 0) (by show M 30 0 8 < 100; have n1 := hw.1; have n2 := hw.2.1; have t1 := bw.1; have t2 := bw.2; omega) (by exact v_now) (by omega)) cv_X5_grants dX5_holdAt_87 ml_X5_115 rfl rfl rfl rfl rfl (Nat.le_of_ble_eq_true rfl) (by decide) rfl rfl (by decide) ?_
            refine aw_st (st' := [iV (M 30 0 8 + 1), iV (seats), iV (first), iV (row), rV K 30 0]) (by rw [show ((thr M 0) 30 0 8 + 1 : Int) = M 30 0 8 + 1 from by rfl]) ?_
            refine aw_cVn (g := 30) (As := [iV (row), iV (first), iV (seats), iV (M 30 0 8 + 1)]) (rest := []) (c_X5_owns hst (grtM (thr M 0) minutes) (row) (first) (seats) (M 30 0 8 + 1) (by have rl := (runR_le h51 (k := seats) (by omega)).mp (by omega); have nr := hw.2.2 row (by omega) (by omega); have n1 := hw.1; have n2 := hw.2.1; have t1 := bw.1; have t2 := bw.2; omega) (by have rl := (runR_le h51 (k := seats) (by omega)).mp (by omega); have nr := hw.2.2 row (by omega) (by omega); have n1 := hw.1; have n2 := hw.2.1; have t1 := bw.1; have t2 := bw.2; omega) (by have rl := (runR_le h51 (k := seats) (by omega)).mp (by omega); have nr := hw.2.2 row (by omega) (by omega); have n1 := hw.1; have n2 := hw.2.1; have t1 := bw.1; have t2 := bw.2; omega) (by have rl := (runR_le h51 (k := seats) (by omega)).mp (by omega); have nr := hw.2.2 row (by omega) (by omega); have n1 := hw.1; have n2 := hw.2.1; have t1 := bw.1; have t2 := bw.2; omega) (by have rl := (runR_le h51 (k := seats) (by omega)).mp (by omega); have nr := hw.2.2 row (by omega) (by omega); have n1 := hw.1; have n2 := hw.2.1; have t1 := bw.1; have t2 := bw.2; omega)) cv_X5_owns dX5_holdAt_90 ml_X5_118 rfl rfl rfl rfl rfl (Nat.le_of_ble_eq_true rfl) (by decide) rfl rfl (by decide) ?_
            refine aw_aload_n dX5_holdAt_93 rfl rfl ?_
            refine aw_geti (g := 30) rfl rfl ly_X5 rfl (k := 8) 8 rfl dX5_holdAt_94 (by decide) fl_X5_106 rfl (fun r94 => ?_)
            refine aw_st (st' := [iV (M 30 0 8 + 1)]) (by rw [show ((ownM (grtM (thr M 0) minutes) row first seats (M 30 0 8 + 1)) 30 0 8 : Int) = M 30 0 8 + 1 from by rw [ownM_g (by decide), grtM_T]; rfl]) ?_
            exact aw_iret dX5_holdAt_97 rfl rfl (by decide) (by decide) ⟨M 30 0 8 + 1, rfl, (by first | (exfalso; have n1 := hw.1; have n2 := hw.2.1; have t1 := bw.1; have t2 := bw.2; omega) | exact (Or.inl ⟨by have n1 := hw.1; have n2 := hw.2.1; have t1 := bw.1; have t2 := bw.2; omega, by first | rfl | (have n1 := hw.1; have n2 := hw.2.1; have t1 := bw.1; have t2 := bw.2; omega), by rfl⟩) | exact (Or.inr (Or.inl ⟨by have n1 := hw.1; have n2 := hw.2.1; have t1 := bw.1; have t2 := bw.2; omega, by first | rfl | (have n1 := hw.1; have n2 := hw.2.1; have t1 := bw.1; have t2 := bw.2; omega), by rfl⟩)) | exact (Or.inr (Or.inr (Or.inl ⟨by first | exact ⟨by omega, Or.inl (fun q => by have := (runR_le h51 (k := seats) (by omega)).mpr q.2.2; omega)⟩ | exact ⟨by omega, Or.inr (by have n1 := hw.1; have n2 := hw.2.1; have t1 := bw.1; have t2 := bw.2; omega)⟩, by first | rfl | (have n1 := hw.1; have n2 := hw.2.1; have t1 := bw.1; have t2 := bw.2; omega), by rfl⟩))) | exact (Or.inr (Or.inr (Or.inr ⟨by have rl := (runR_le h51 (k := seats) (by omega)).mp (by omega); exact ⟨by omega, ⟨by omega, by omega, rl.1, rl.2⟩, by have n1 := hw.1; have n2 := hw.2.1; have t1 := bw.1; have t2 := bw.2; omega⟩, by first | rfl | (have n1 := hw.1; have n2 := hw.2.1; have t1 := bw.1; have t2 := bw.2; omega), by rfl⟩))))⟩
          · refine aw_iconst dX5_holdAt_67 ?_
            refine aw_goto (tgt := 72) dX5_holdAt_68 (by decide) ?_
            refine aw_cVi (g := 30) (As := [iV 3]) (rest := []) (c_X5_holds hst M (3) (by have n1 := hw.1; have n2 := hw.2.1; have t1 := bw.1; have t2 := bw.2; omega)) cv_X5_holds dX5_holdAt_72 ml_X5_63 rfl rfl rfl rfl rfl (Nat.le_of_ble_eq_true rfl) (by decide) rfl rfl (by decide) ?_
            refine aw_st (st' := [iV 0]) (by rw [if_neg (by decide)]) ?_
            refine aw_if_ne (tgt := 80) dX5_holdAt_75 (by decide) (by decide) (fun h => absurd h (by decide)) (fun _ => ?_)
            refine aw_iconst dX5_holdAt_78 ?_
            exact aw_iret dX5_holdAt_79 rfl rfl (by decide) (by decide) ⟨0, rfl, (by first | (exfalso; have n1 := hw.1; have n2 := hw.2.1; have t1 := bw.1; have t2 := bw.2; omega) | exact (Or.inl ⟨by have n1 := hw.1; have n2 := hw.2.1; have t1 := bw.1; have t2 := bw.2; omega, by first | rfl | (have n1 := hw.1; have n2 := hw.2.1; have t1 := bw.1; have t2 := bw.2; omega), by rfl⟩) | exact (Or.inr (Or.inl ⟨by have n1 := hw.1; have n2 := hw.2.1; have t1 := bw.1; have t2 := bw.2; omega, by first | rfl | (have n1 := hw.1; have n2 := hw.2.1; have t1 := bw.1; have t2 := bw.2; omega), by rfl⟩)) | exact (Or.inr (Or.inr (Or.inl ⟨by first | exact ⟨by omega, Or.inl (fun q => by have := (runR_le h51 (k := seats) (by omega)).mpr q.2.2; omega)⟩ | exact ⟨by omega, Or.inr (by have n1 := hw.1; have n2 := hw.2.1; have t1 := bw.1; have t2 := bw.2; omega)⟩, by first | rfl | (have n1 := hw.1; have n2 := hw.2.1; have t1 := bw.1; have t2 := bw.2; omega), by rfl⟩))) | exact (Or.inr (Or.inr (Or.inr ⟨by have rl := (runR_le h51 (k := seats) (by omega)).mp (by omega); exact ⟨by omega, ⟨by omega, by omega, rl.1, rl.2⟩, by have n1 := hw.1; have n2 := hw.2.1; have t1 := bw.1; have t2 := bw.2; omega⟩, by first | rfl | (have n1 := hw.1; have n2 := hw.2.1; have t1 := bw.1; have t2 := bw.2; omega), by rfl⟩))))⟩
      · refine aw_if_ne (tgt := 39) dX5_holdAt_32 (by decide) (by decide) (fun h => absurd h (by decide)) (fun _ => ?_)
        refine aw_iconst dX5_holdAt_35 ?_
        refine aw_goto (tgt := 72) dX5_holdAt_36 (by decide) ?_
        refine aw_cVi (g := 30) (As := [iV 1]) (rest := []) (c_X5_holds hst M (1) (by have n1 := hw.1; have n2 := hw.2.1; have t1 := bw.1; have t2 := bw.2; omega)) cv_X5_holds dX5_holdAt_72 ml_X5_63 rfl rfl rfl rfl rfl (Nat.le_of_ble_eq_true rfl) (by decide) rfl rfl (by decide) ?_
        refine aw_st (st' := [iV 0]) (by rw [if_neg (by decide)]) ?_
        refine aw_if_ne (tgt := 80) dX5_holdAt_75 (by decide) (by decide) (fun h => absurd h (by decide)) (fun _ => ?_)
        refine aw_iconst dX5_holdAt_78 ?_
        exact aw_iret dX5_holdAt_79 rfl rfl (by decide) (by decide) ⟨0, rfl, (by first | (exfalso; have n1 := hw.1; have n2 := hw.2.1; have t1 := bw.1; have t2 := bw.2; omega) | exact (Or.inl ⟨by have n1 := hw.1; have n2 := hw.2.1; have t1 := bw.1; have t2 := bw.2; omega, by first | rfl | (have n1 := hw.1; have n2 := hw.2.1; have t1 := bw.1; have t2 := bw.2; omega), by rfl⟩) | exact (Or.inr (Or.inl ⟨by have n1 := hw.1; have n2 := hw.2.1; have t1 := bw.1; have t2 := bw.2; omega, by first | rfl | (have n1 := hw.1; have n2 := hw.2.1; have t1 := bw.1; have t2 := bw.2; omega), by rfl⟩)) | exact (Or.inr (Or.inr (Or.inl ⟨by first | exact ⟨by omega, Or.inl (fun q => by have := (runR_le h51 (k := seats) (by omega)).mpr q.2.2; omega)⟩ | exact ⟨by omega, Or.inr (by have n1 := hw.1; have n2 := hw.2.1; have t1 := bw.1; have t2 := bw.2; omega)⟩, by first | rfl | (have n1 := hw.1; have n2 := hw.2.1; have t1 := bw.1; have t2 := bw.2; omega), by rfl⟩))) | exact (Or.inr (Or.inr (Or.inr ⟨by have rl := (runR_le h51 (k := seats) (by omega)).mp (by omega); exact ⟨by omega, ⟨by omega, by omega, rl.1, rl.2⟩, by have n1 := hw.1; have n2 := hw.2.1; have t1 := bw.1; have t2 := bw.2; omega⟩, by first | rfl | (have n1 := hw.1; have n2 := hw.2.1; have t1 := bw.1; have t2 := bw.2; omega), by rfl⟩))))⟩
    · refine aw_if_eq (tgt := 22) dX5_holdAt_15 (by decide) (by decide) (fun _ => ?_) (fun h => absurd (by decide) h)
      refine aw_iconst dX5_holdAt_22 ?_
      refine aw_istore (L2 := [some (rV K 30 0), some (iV (row)), some (iV (first)), some (iV (seats)), some (iV (minutes)), some (iV 0)]) dX5_holdAt_23 (by decide) rfl ?_
      refine aw_aload_n dX5_holdAt_25 rfl rfl ?_
      refine aw_aload_n dX5_holdAt_26 rfl rfl ?_
      refine aw_iload_n dX5_holdAt_27 rfl rfl ?_
      refine aw_iload_n dX5_holdAt_28 rfl rfl ?_
      refine aw_cVb (g := 30) (As := [iV (row), iV (first)]) (rest := [rV K 30 0]) (c_X5_isSeat hst M (row) (first) (by have n1 := hw.1; have n2 := hw.2.1; have t1 := bw.1; have t2 := bw.2; omega) (by have n1 := hw.1; have n2 := hw.2.1; have t1 := bw.1; have t2 := bw.2; omega) (by have n1 := hw.1; have n2 := hw.2.1; have t1 := bw.1; have t2 := bw.2; omega)) cv_X5_isSeat dX5_holdAt_29 ml_X5_70 rfl rfl rfl rfl rfl (Nat.le_of_ble_eq_true rfl) (by decide) rfl rfl (by decide) (fun h29 => ?_) (fun h29 => ?_)
      · refine aw_if_ne (tgt := 39) dX5_holdAt_32 (by decide) (by decide) (fun _ => ?_) (fun h => absurd h (by decide))
        refine aw_iload dX5_holdAt_39 rfl ?_
        refine aw_if_ne (tgt := 48) dX5_holdAt_41 (by decide) (by decide) (fun h => absurd h (by decide)) (fun _ => ?_)
        refine aw_iconst dX5_holdAt_44 ?_
        refine aw_goto (tgt := 72) dX5_holdAt_45 (by decide) ?_
        refine aw_cVi (g := 30) (As := [iV 2]) (rest := []) (c_X5_holds hst M (2) (by have n1 := hw.1; have n2 := hw.2.1; have t1 := bw.1; have t2 := bw.2; omega)) cv_X5_holds dX5_holdAt_72 ml_X5_63 rfl rfl rfl rfl rfl (Nat.le_of_ble_eq_true rfl) (by decide) rfl rfl (by decide) ?_
        refine aw_st (st' := [iV 0]) (by rw [if_neg (by decide)]) ?_
        refine aw_if_ne (tgt := 80) dX5_holdAt_75 (by decide) (by decide) (fun h => absurd h (by decide)) (fun _ => ?_)
        refine aw_iconst dX5_holdAt_78 ?_
        exact aw_iret dX5_holdAt_79 rfl rfl (by decide) (by decide) ⟨0, rfl, (by first | (exfalso; have n1 := hw.1; have n2 := hw.2.1; have t1 := bw.1; have t2 := bw.2; omega) | exact (Or.inl ⟨by have n1 := hw.1; have n2 := hw.2.1; have t1 := bw.1; have t2 := bw.2; omega, by first | rfl | (have n1 := hw.1; have n2 := hw.2.1; have t1 := bw.1; have t2 := bw.2; omega), by rfl⟩) | exact (Or.inr (Or.inl ⟨by have n1 := hw.1; have n2 := hw.2.1; have t1 := bw.1; have t2 := bw.2; omega, by first | rfl | (have n1 := hw.1; have n2 := hw.2.1; have t1 := bw.1; have t2 := bw.2; omega), by rfl⟩)) | exact (Or.inr (Or.inr (Or.inl ⟨by first | exact ⟨by omega, Or.inl (fun q => by have := (runR_le h51 (k := seats) (by omega)).mpr q.2.2; omega)⟩ | exact ⟨by omega, Or.inr (by have n1 := hw.1; have n2 := hw.2.1; have t1 := bw.1; have t2 := bw.2; omega)⟩, by first | rfl | (have n1 := hw.1; have n2 := hw.2.1; have t1 := bw.1; have t2 := bw.2; omega), by rfl⟩))) | exact (Or.inr (Or.inr (Or.inr ⟨by have rl := (runR_le h51 (k := seats) (by omega)).mp (by omega); exact ⟨by omega, ⟨by omega, by omega, rl.1, rl.2⟩, by have n1 := hw.1; have n2 := hw.2.1; have t1 := bw.1; have t2 := bw.2; omega⟩, by first | rfl | (have n1 := hw.1; have n2 := hw.2.1; have t1 := bw.1; have t2 := bw.2; omega), by rfl⟩))))⟩
      · refine aw_if_ne (tgt := 39) dX5_holdAt_32 (by decide) (by decide) (fun h => absurd h (by decide)) (fun _ => ?_)
        refine aw_iconst dX5_holdAt_35 ?_
        refine aw_goto (tgt := 72) dX5_holdAt_36 (by decide) ?_
        refine aw_cVi (g := 30) (As := [iV 1]) (rest := []) (c_X5_holds hst M (1) (by have n1 := hw.1; have n2 := hw.2.1; have t1 := bw.1; have t2 := bw.2; omega)) cv_X5_holds dX5_holdAt_72 ml_X5_63 rfl rfl rfl rfl rfl (Nat.le_of_ble_eq_true rfl) (by decide) rfl rfl (by decide) ?_
        refine aw_st (st' := [iV 0]) (by rw [if_neg (by decide)]) ?_
        refine aw_if_ne (tgt := 80) dX5_holdAt_75 (by decide) (by decide) (fun h => absurd h (by decide)) (fun _ => ?_)
        refine aw_iconst dX5_holdAt_78 ?_
        exact aw_iret dX5_holdAt_79 rfl rfl (by decide) (by decide) ⟨0, rfl, (by first | (exfalso; have n1 := hw.1; have n2 := hw.2.1; have t1 := bw.1; have t2 := bw.2; omega) | exact (Or.inl ⟨by have n1 := hw.1; have n2 := hw.2.1; have t1 := bw.1; have t2 := bw.2; omega, by first | rfl | (have n1 := hw.1; have n2 := hw.2.1; have t1 := bw.1; have t2 := bw.2; omega), by rfl⟩) | exact (Or.inr (Or.inl ⟨by have n1 := hw.1; have n2 := hw.2.1; have t1 := bw.1; have t2 := bw.2; omega, by first | rfl | (have n1 := hw.1; have n2 := hw.2.1; have t1 := bw.1; have t2 := bw.2; omega), by rfl⟩)) | exact (Or.inr (Or.inr (Or.inl ⟨by first | exact ⟨by omega, Or.inl (fun q => by have := (runR_le h51 (k := seats) (by omega)).mpr q.2.2; omega)⟩ | exact ⟨by omega, Or.inr (by have n1 := hw.1; have n2 := hw.2.1; have t1 := bw.1; have t2 := bw.2; omega)⟩, by first | rfl | (have n1 := hw.1; have n2 := hw.2.1; have t1 := bw.1; have t2 := bw.2; omega), by rfl⟩))) | exact (Or.inr (Or.inr (Or.inr ⟨by have rl := (runR_le h51 (k := seats) (by omega)).mp (by omega); exact ⟨by omega, ⟨by omega, by omega, rl.1, rl.2⟩, by have n1 := hw.1; have n2 := hw.2.1; have t1 := bw.1; have t2 := bw.2; omega⟩, by first | rfl | (have n1 := hw.1; have n2 := hw.2.1; have t1 := bw.1; have t2 := bw.2; omega), by rfl⟩))))⟩
  · refine aw_if_eq (tgt := 22) dX5_holdAt_7 (by decide) (by decide) (fun _ => ?_) (fun h => absurd (by decide) h)
    refine aw_iconst dX5_holdAt_22 ?_
    refine aw_istore (L2 := [some (rV K 30 0), some (iV (row)), some (iV (first)), some (iV (seats)), some (iV (minutes)), some (iV 0)]) dX5_holdAt_23 (by decide) rfl ?_
    refine aw_aload_n dX5_holdAt_25 rfl rfl ?_
    refine aw_aload_n dX5_holdAt_26 rfl rfl ?_
    refine aw_iload_n dX5_holdAt_27 rfl rfl ?_
    refine aw_iload_n dX5_holdAt_28 rfl rfl ?_
    refine aw_cVb (g := 30) (As := [iV (row), iV (first)]) (rest := [rV K 30 0]) (c_X5_isSeat hst M (row) (first) (by have n1 := hw.1; have n2 := hw.2.1; have t1 := bw.1; have t2 := bw.2; omega) (by have n1 := hw.1; have n2 := hw.2.1; have t1 := bw.1; have t2 := bw.2; omega) (by have n1 := hw.1; have n2 := hw.2.1; have t1 := bw.1; have t2 := bw.2; omega)) cv_X5_isSeat dX5_holdAt_29 ml_X5_70 rfl rfl rfl rfl rfl (Nat.le_of_ble_eq_true rfl) (by decide) rfl rfl (by decide) (fun h29 => ?_) (fun h29 => ?_)
    · refine aw_if_ne (tgt := 39) dX5_holdAt_32 (by decide) (by decide) (fun _ => ?_) (fun h => absurd h (by decide))
      refine aw_iload dX5_holdAt_39 rfl ?_
      refine aw_if_ne (tgt := 48) dX5_holdAt_41 (by decide) (by decide) (fun h => absurd h (by decide)) (fun _ => ?_)
      refine aw_iconst dX5_holdAt_44 ?_
      refine aw_goto (tgt := 72) dX5_holdAt_45 (by decide) ?_
      refine aw_cVi (g := 30) (As := [iV 2]) (rest := []) (c_X5_holds hst M (2) (by have n1 := hw.1; have n2 := hw.2.1; have t1 := bw.1; have t2 := bw.2; omega)) cv_X5_holds dX5_holdAt_72 ml_X5_63 rfl rfl rfl rfl rfl (Nat.le_of_ble_eq_true rfl) (by decide) rfl rfl (by decide) ?_
      refine aw_st (st' := [iV 0]) (by rw [if_neg (by decide)]) ?_
      refine aw_if_ne (tgt := 80) dX5_holdAt_75 (by decide) (by decide) (fun h => absurd h (by decide)) (fun _ => ?_)
      refine aw_iconst dX5_holdAt_78 ?_
      exact aw_iret dX5_holdAt_79 rfl rfl (by decide) (by decide) ⟨0, rfl, (by first | (exfalso; have n1 := hw.1; have n2 := hw.2.1; have t1 := bw.1; have t2 := bw.2; omega) | exact (Or.inl ⟨by have n1 := hw.1; have n2 := hw.2.1; have t1 := bw.1; have t2 := bw.2; omega, by first | rfl | (have n1 := hw.1; have n2 := hw.2.1; have t1 := bw.1; have t2 := bw.2; omega), by rfl⟩) | exact (Or.inr (Or.inl ⟨by have n1 := hw.1; have n2 := hw.2.1; have t1 := bw.1; have t2 := bw.2; omega, by first | rfl | (have n1 := hw.1; have n2 := hw.2.1; have t1 := bw.1; have t2 := bw.2; omega), by rfl⟩)) | exact (Or.inr (Or.inr (Or.inl ⟨by first | exact ⟨by omega, Or.inl (fun q => by have := (runR_le h51 (k := seats) (by omega)).mpr q.2.2; omega)⟩ | exact ⟨by omega, Or.inr (by have n1 := hw.1; have n2 := hw.2.1; have t1 := bw.1; have t2 := bw.2; omega)⟩, by first | rfl | (have n1 := hw.1; have n2 := hw.2.1; have t1 := bw.1; have t2 := bw.2; omega), by rfl⟩))) | exact (Or.inr (Or.inr (Or.inr ⟨by have rl := (runR_le h51 (k := seats) (by omega)).mp (by omega); exact ⟨by omega, ⟨by omega, by omega, rl.1, rl.2⟩, by have n1 := hw.1; have n2 := hw.2.1; have t1 := bw.1; have t2 := bw.2; omega⟩, by first | rfl | (have n1 := hw.1; have n2 := hw.2.1; have t1 := bw.1; have t2 := bw.2; omega), by rfl⟩))))⟩
    · refine aw_if_ne (tgt := 39) dX5_holdAt_32 (by decide) (by decide) (fun h => absurd h (by decide)) (fun _ => ?_)
      refine aw_iconst dX5_holdAt_35 ?_
      refine aw_goto (tgt := 72) dX5_holdAt_36 (by decide) ?_
      refine aw_cVi (g := 30) (As := [iV 1]) (rest := []) (c_X5_holds hst M (1) (by have n1 := hw.1; have n2 := hw.2.1; have t1 := bw.1; have t2 := bw.2; omega)) cv_X5_holds dX5_holdAt_72 ml_X5_63 rfl rfl rfl rfl rfl (Nat.le_of_ble_eq_true rfl) (by decide) rfl rfl (by decide) ?_
      refine aw_st (st' := [iV 0]) (by rw [if_neg (by decide)]) ?_
      refine aw_if_ne (tgt := 80) dX5_holdAt_75 (by decide) (by decide) (fun h => absurd h (by decide)) (fun _ => ?_)
      refine aw_iconst dX5_holdAt_78 ?_
      exact aw_iret dX5_holdAt_79 rfl rfl (by decide) (by decide) ⟨0, rfl, (by first | (exfalso; have n1 := hw.1; have n2 := hw.2.1; have t1 := bw.1; have t2 := bw.2; omega) | exact (Or.inl ⟨by have n1 := hw.1; have n2 := hw.2.1; have t1 := bw.1; have t2 := bw.2; omega, by first | rfl | (have n1 := hw.1; have n2 := hw.2.1; have t1 := bw.1; have t2 := bw.2; omega), by rfl⟩) | exact (Or.inr (Or.inl ⟨by have n1 := hw.1; have n2 := hw.2.1; have t1 := bw.1; have t2 := bw.2; omega, by first | rfl | (have n1 := hw.1; have n2 := hw.2.1; have t1 := bw.1; have t2 := bw.2; omega), by rfl⟩)) | exact (Or.inr (Or.inr (Or.inl ⟨by first | exact ⟨by omega, Or.inl (fun q => by have := (runR_le h51 (k := seats) (by omega)).mpr q.2.2; omega)⟩ | exact ⟨by omega, Or.inr (by have n1 := hw.1; have n2 := hw.2.1; have t1 := bw.1; have t2 := bw.2; omega)⟩, by first | rfl | (have n1 := hw.1; have n2 := hw.2.1; have t1 := bw.1; have t2 := bw.2; omega), by rfl⟩))) | exact (Or.inr (Or.inr (Or.inr ⟨by have rl := (runR_le h51 (k := seats) (by omega)).mp (by omega); exact ⟨by omega, ⟨by omega, by omega, rl.1, rl.2⟩, by have n1 := hw.1; have n2 := hw.2.1; have t1 := bw.1; have t2 := bw.2; omega⟩, by first | rfl | (have n1 := hw.1; have n2 := hw.2.1; have t1 := bw.1; have t2 := bw.2; omega), by rfl⟩))))⟩
set_option maxHeartbeats 4000000 in
set_option maxRecDepth 20000 in
theorem c_X5_rowsForGroup {K : WPar} {l : Launch} (hst : l.stackTraces = false) (M : Mem) (people : Int) (r_people : inR people) (hw : HWm M) : CT K l iX5_rowsForGroup [rV K 30 0, iV (people)] M (rZm (fun z m => ((¬ (2 ≤ people ∧ people ≤ 100)) ∧ z = 0 ∧ m = thr M 1) ∨ (((2 ≤ people ∧ people ≤ 100) ∧ (∀ b v : Int, ¬ cD M 0 b people v)) ∧ z = 0 ∧ ∃ m1, SFd M m1 ∧ m = thr m1 2) ∨ ((2 ≤ people ∧ people ≤ 100) ∧ ∃ m1, SFd M m1 ∧ SPLd M m1 people z ∧ m = thr m1 0))) := by
  refine aw_met [some (rV K 30 0), some (iV (people)), none] hst (by decide) rfl (Nat.le_of_ble_eq_true rfl) rfl rfl (lcat rfl) ?_
  refine aw_rng (fun hM => ?_)
  refine aw_iload_n dX5_rowsForGroup_0 rfl rfl ?_
  refine aw_cSb (As := [iV (people)]) (rest := []) (c_X5_isGroup hst M (people) (by omega)) cs_X5_isGroup dX5_rowsForGroup_1 ml_X5_137 rfl rfl (Nat.le_of_ble_eq_true rfl) (by decide) rfl rfl (by decide) (fun h1 => ?_) (fun h1 => ?_)
  · refine aw_if_eq (tgt := 15) dX5_rowsForGroup_4 (by decide) (by decide) (fun h => absurd h (by decide)) (fun _ => ?_)
    refine aw_aload_n dX5_rowsForGroup_7 rfl rfl ?_
    refine aw_iload_n dX5_rowsForGroup_8 rfl rfl ?_
    refine aw_cVw (g := 30) (As := [iV (people)]) (rest := []) (c_X5_splits hst M (people) (by omega) (by omega) (by omega)) cv_X5_splits dX5_rowsForGroup_9 ml_X5_140 rfl rfl rfl rfl rfl (Nat.le_of_ble_eq_true rfl) (by decide) rfl rfl (by decide) (fun z9 M9 (h9 : SFd M M9 ∧ ((z9 = 0 ∧ ∀ b v : Int, ¬ cD M 0 b people v) ∨ SPLd M M9 people z9)) => ?_)
    refine aw_goto (tgt := 16) dX5_rowsForGroup_12 (by decide) ?_
    refine aw_istore_n (L2 := [some (rV K 30 0), some (iV (people)), some (iV (z9))]) dX5_rowsForGroup_16 rfl (by decide) rfl ?_
    refine aw_aload_n dX5_rowsForGroup_17 rfl rfl ?_
    refine aw_iload_n dX5_rowsForGroup_18 rfl rfl ?_
    refine aw_cSb (As := [iV (people)]) (rest := [rV K 30 0]) (c_X5_isGroup hst M9 (people) (by omega)) cs_X5_isGroup dX5_rowsForGroup_19 ml_X5_137 rfl rfl (Nat.le_of_ble_eq_true rfl) (by decide) rfl rfl (by decide) (fun h19 => ?_) (fun h19 => ?_)
    · refine aw_if_ne (tgt := 29) dX5_rowsForGroup_22 (by decide) (by decide) (fun _ => ?_) (fun h => absurd h (by decide))
      refine aw_iload_n dX5_rowsForGroup_29 rfl rfl ?_
      refine aw_if_ne (tgt := 37) dX5_rowsForGroup_30 (by decide) (by rcases h9.2 with a | a; omega; (have a1 := a.1; have a2 := a.2.1; omega)) (fun h30 => ?_) (fun h30 => ?_)
      · refine aw_iconst dX5_rowsForGroup_37 ?_
        refine aw_cVi (g := 30) (As := [iV 0]) (rest := []) (c_X5_holds hst M9 (0) (by omega)) cv_X5_holds dX5_rowsForGroup_38 ml_X5_63 rfl rfl rfl rfl rfl (Nat.le_of_ble_eq_true rfl) (by decide) rfl rfl (by decide) ?_
        refine aw_st (st' := [iV 1]) (by rw [if_pos (by decide)]) ?_
        refine aw_if_eq (tgt := 48) dX5_rowsForGroup_41 (by decide) (by decide) (fun h => absurd h (by decide)) (fun _ => ?_)
        refine aw_iload_n dX5_rowsForGroup_44 rfl rfl ?_
        refine aw_goto (tgt := 49) dX5_rowsForGroup_45 (by decide) ?_
        exact aw_iret dX5_rowsForGroup_49 rfl rfl (by decide) (by decide) ⟨z9, rfl, (by first | (exfalso; omega) | exact (Or.inl ⟨by omega, by first | rfl | (omega), by rfl⟩) | exact (Or.inr (Or.inl (by exact ⟨⟨by omega, by rcases h9.2 with a | a; exact a.2; exact absurd a.1 (by omega)⟩, rfl, M9, h9.1, rfl⟩))) | exact (Or.inr (Or.inr (by exact ⟨by omega, M9, h9.1, by rcases h9.2 with a | a; exact absurd a.1 (by omega); exact a, rfl⟩))))⟩
      · refine aw_iconst dX5_rowsForGroup_33 ?_
        refine aw_goto (tgt := 38) dX5_rowsForGroup_34 (by decide) ?_
        refine aw_cVi (g := 30) (As := [iV 2]) (rest := []) (c_X5_holds hst M9 (2) (by omega)) cv_X5_holds dX5_rowsForGroup_38 ml_X5_63 rfl rfl rfl rfl rfl (Nat.le_of_ble_eq_true rfl) (by decide) rfl rfl (by decide) ?_
        refine aw_st (st' := [iV 0]) (by rw [if_neg (by decide)]) ?_
        refine aw_if_eq (tgt := 48) dX5_rowsForGroup_41 (by decide) (by decide) (fun _ => ?_) (fun h => absurd (by decide) h)
        refine aw_iconst dX5_rowsForGroup_48 ?_
        exact aw_iret dX5_rowsForGroup_49 rfl rfl (by decide) (by decide) ⟨0, rfl, (by first | (exfalso; omega) | exact (Or.inl ⟨by omega, by first | rfl | (omega), by rfl⟩) | exact (Or.inr (Or.inl (by exact ⟨⟨by omega, by rcases h9.2 with a | a; exact a.2; exact absurd a.1 (by omega)⟩, rfl, M9, h9.1, rfl⟩))) | exact (Or.inr (Or.inr (by exact ⟨by omega, M9, h9.1, by rcases h9.2 with a | a; exact absurd a.1 (by omega); exact a, rfl⟩))))⟩
    · refine aw_if_ne (tgt := 29) dX5_rowsForGroup_22 (by decide) (by decide) (fun h => absurd h (by decide)) (fun _ => ?_)
      refine aw_iconst dX5_rowsForGroup_25 ?_
      refine aw_goto (tgt := 38) dX5_rowsForGroup_26 (by decide) ?_
      refine aw_cVi (g := 30) (As := [iV 1]) (rest := []) (c_X5_holds hst M9 (1) (by omega)) cv_X5_holds dX5_rowsForGroup_38 ml_X5_63 rfl rfl rfl rfl rfl (Nat.le_of_ble_eq_true rfl) (by decide) rfl rfl (by decide) ?_
      refine aw_st (st' := [iV 0]) (by rw [if_neg (by decide)]) ?_
      refine aw_if_eq (tgt := 48) dX5_rowsForGroup_41 (by decide) (by decide) (fun _ => ?_) (fun h => absurd (by decide) h)
      refine aw_iconst dX5_rowsForGroup_48 ?_
      exact aw_iret dX5_rowsForGroup_49 rfl rfl (by decide) (by decide) ⟨0, rfl, (by first | (exfalso; omega) | exact (Or.inl ⟨by omega, by first | rfl | (omega), by rfl⟩) | exact (Or.inr (Or.inl (by exact ⟨⟨by omega, by rcases h9.2 with a | a; exact a.2; exact absurd a.1 (by omega)⟩, rfl, M9, h9.1, rfl⟩))) | exact (Or.inr (Or.inr (by exact ⟨by omega, M9, h9.1, by rcases h9.2 with a | a; exact absurd a.1 (by omega); exact a, rfl⟩))))⟩
  · refine aw_if_eq (tgt := 15) dX5_rowsForGroup_4 (by decide) (by decide) (fun _ => ?_) (fun h => absurd (by decide) h)
    refine aw_iconst dX5_rowsForGroup_15 ?_
    refine aw_istore_n (L2 := [some (rV K 30 0), some (iV (people)), some (iV 0)]) dX5_rowsForGroup_16 rfl (by decide) rfl ?_
    refine aw_aload_n dX5_rowsForGroup_17 rfl rfl ?_
    refine aw_iload_n dX5_rowsForGroup_18 rfl rfl ?_
    refine aw_cSb (As := [iV (people)]) (rest := [rV K 30 0]) (c_X5_isGroup hst M (people) (by omega)) cs_X5_isGroup dX5_rowsForGroup_19 ml_X5_137 rfl rfl (Nat.le_of_ble_eq_true rfl) (by decide) rfl rfl (by decide) (fun h19 => ?_) (fun h19 => ?_)
    · refine aw_if_ne (tgt := 29) dX5_rowsForGroup_22 (by decide) (by decide) (fun _ => ?_) (fun h => absurd h (by decide))
      refine aw_iload_n dX5_rowsForGroup_29 rfl rfl ?_
      refine aw_if_ne (tgt := 37) dX5_rowsForGroup_30 (by decide) (by decide) (fun h => absurd h (by decide)) (fun _ => ?_)
      refine aw_iconst dX5_rowsForGroup_33 ?_
      refine aw_goto (tgt := 38) dX5_rowsForGroup_34 (by decide) ?_
      refine aw_cVi (g := 30) (As := [iV 2]) (rest := []) (c_X5_holds hst M (2) (by omega)) cv_X5_holds dX5_rowsForGroup_38 ml_X5_63 rfl rfl rfl rfl rfl (Nat.le_of_ble_eq_true rfl) (by decide) rfl rfl (by decide) ?_
      refine aw_st (st' := [iV 0]) (by rw [if_neg (by decide)]) ?_
      refine aw_if_eq (tgt := 48) dX5_rowsForGroup_41 (by decide) (by decide) (fun _ => ?_) (fun h => absurd (by decide) h)
      refine aw_iconst dX5_rowsForGroup_48 ?_
      exact aw_iret dX5_rowsForGroup_49 rfl rfl (by decide) (by decide) ⟨0, rfl, (by first | (exfalso; omega) | exact (Or.inl ⟨by omega, by first | rfl | (omega), by rfl⟩) | exact (Or.inr (Or.inl (by exact ⟨⟨by omega, by rcases h9.2 with a | a; exact a.2; exact absurd a.1 (by omega)⟩, rfl, M9, h9.1, rfl⟩))) | exact (Or.inr (Or.inr (by exact ⟨by omega, M9, h9.1, by rcases h9.2 with a | a; exact absurd a.1 (by omega); exact a, rfl⟩))))⟩
    · refine aw_if_ne (tgt := 29) dX5_rowsForGroup_22 (by decide) (by decide) (fun h => absurd h (by decide)) (fun _ => ?_)
      refine aw_iconst dX5_rowsForGroup_25 ?_
      refine aw_goto (tgt := 38) dX5_rowsForGroup_26 (by decide) ?_
      refine aw_cVi (g := 30) (As := [iV 1]) (rest := []) (c_X5_holds hst M (1) (by omega)) cv_X5_holds dX5_rowsForGroup_38 ml_X5_63 rfl rfl rfl rfl rfl (Nat.le_of_ble_eq_true rfl) (by decide) rfl rfl (by decide) ?_
      refine aw_st (st' := [iV 0]) (by rw [if_neg (by decide)]) ?_
      refine aw_if_eq (tgt := 48) dX5_rowsForGroup_41 (by decide) (by decide) (fun _ => ?_) (fun h => absurd (by decide) h)
      refine aw_iconst dX5_rowsForGroup_48 ?_
      exact aw_iret dX5_rowsForGroup_49 rfl rfl (by decide) (by decide) ⟨0, rfl, (by first | (exfalso; omega) | exact (Or.inl ⟨by omega, by first | rfl | (omega), by rfl⟩) | exact (Or.inr (Or.inl (by exact ⟨⟨by omega, by rcases h9.2 with a | a; exact a.2; exact absurd a.1 (by omega)⟩, rfl, M9, h9.1, rfl⟩))) | exact (Or.inr (Or.inr (by exact ⟨by omega, M9, h9.1, by rcases h9.2 with a | a; exact absurd a.1 (by omega); exact a, rfl⟩))))⟩
set_option maxHeartbeats 4000000 in
set_option maxRecDepth 20000 in
theorem c_X5_seatsForGroup {K : WPar} {l : Launch} (hst : l.stackTraces = false) (M : Mem) (people : Int) (row : Int) (r_people : inR people) (r_row : inR row) (hw : HWm M) : CT K l iX5_seatsForGroup [rV K 30 0, iV (people), iV (row)] M (rZm (fun z m => ((¬ (0 ≤ row ∧ row < M 30 0 3)) ∧ z = 0 ∧ m = thr M 1) ∨ (((0 ≤ row ∧ row < M 30 0 3) ∧ ¬ (2 ≤ people ∧ people ≤ 100)) ∧ z = 0 ∧ m = thr M 2) ∨ ((((0 ≤ row ∧ row < M 30 0 3) ∧ (2 ≤ people ∧ people ≤ 100)) ∧ (∀ b v : Int, ¬ cD M 0 b people v)) ∧ z = 0 ∧ ∃ m1, SFd M m1 ∧ m = thr m1 3) ∨ (((0 ≤ row ∧ row < M 30 0 3) ∧ (2 ≤ people ∧ people ≤ 100)) ∧ ∃ m1 n, SFd M m1 ∧ SPLd M m1 people n ∧ z = m1 41 0 row ∧ m = thr m1 0))) := by
  refine aw_met [some (rV K 30 0), some (iV (people)), some (iV (row)), none, none] hst (by decide) rfl (Nat.le_of_ble_eq_true rfl) rfl rfl (lcat rfl) ?_
  refine aw_rng (fun hM => ?_)
  refine aw_aload_n dX5_seatsForGroup_0 rfl rfl ?_
  refine aw_iload_n dX5_seatsForGroup_1 rfl rfl ?_
  refine aw_cVb (g := 30) (As := [iV (row)]) (rest := []) (c_X5_isRow hst M (row) (by have n1 := hw.1; have n2 := hw.2.1; omega) (by have n1 := hw.1; have n2 := hw.2.1; omega)) cv_X5_isRow dX5_seatsForGroup_2 ml_X5_67 rfl rfl rfl rfl rfl (Nat.le_of_ble_eq_true rfl) (by decide) rfl rfl (by decide) (fun h2 => ?_) (fun h2 => ?_)
  · refine aw_if_eq (tgt := 19) dX5_seatsForGroup_5 (by decide) (by decide) (fun h => absurd h (by decide)) (fun _ => ?_)
    refine aw_iload_n dX5_seatsForGroup_8 rfl rfl ?_
    refine aw_cSb (As := [iV (people)]) (rest := []) (c_X5_isGroup hst M (people) (by have n1 := hw.1; have n2 := hw.2.1; omega)) cs_X5_isGroup dX5_seatsForGroup_9 ml_X5_137 rfl rfl (Nat.le_of_ble_eq_true rfl) (by decide) rfl rfl (by decide) (fun h9 => ?_) (fun h9 => ?_)
    · refine aw_if_eq (tgt := 19) dX5_seatsForGroup_12 (by decide) (by decide) (fun h => absurd h (by decide)) (fun _ => ?_)
      refine aw_iconst dX5_seatsForGroup_15 ?_
      refine aw_goto (tgt := 20) dX5_seatsForGroup_16 (by decide) ?_
      refine aw_istore_n (L2 := [some (rV K 30 0), some (iV (people)), some (iV (row)), some (iV 1), none]) dX5_seatsForGroup_20 rfl (by decide) rfl ?_
      refine aw_iload_n dX5_seatsForGroup_21 rfl rfl ?_
      refine aw_if_eq (tgt := 33) dX5_seatsForGroup_22 (by decide) (by decide) (fun h => absurd h (by decide)) (fun _ => ?_)
      refine aw_aload_n dX5_seatsForGroup_25 rfl rfl ?_
      refine aw_iload_n dX5_seatsForGroup_26 rfl rfl ?_
      refine aw_cVw (g := 30) (As := [iV (people)]) (rest := []) (c_X5_splits hst M (people) (by have n1 := hw.1; have n2 := hw.2.1; omega) (by have n1 := hw.1; have n2 := hw.2.1; omega) (by have n1 := hw.1; have n2 := hw.2.1; omega)) cv_X5_splits dX5_seatsForGroup_27 ml_X5_140 rfl rfl rfl rfl rfl (Nat.le_of_ble_eq_true rfl) (by decide) rfl rfl (by decide) (fun z27 M27 (h27 : SFd M M27 ∧ ((z27 = 0 ∧ ∀ b v : Int, ¬ cD M 0 b people v) ∨ SPLd M M27 people z27)) => ?_)
      have k3 : M27 30 0 3 = M 30 0 3 := (by rw [h27.1 30 (by decide) (by decide)]); have hwb : HWm M27 := HWm_f hw h27.1
      refine aw_goto (tgt := 34) dX5_seatsForGroup_30 (by decide) ?_
      refine aw_istore (L2 := [some (rV K 30 0), some (iV (people)), some (iV (row)), some (iV 1), some (iV (z27))]) dX5_seatsForGroup_34 (by decide) rfl ?_
      refine aw_aload_n dX5_seatsForGroup_36 rfl rfl ?_
      refine aw_aload_n dX5_seatsForGroup_37 rfl rfl ?_
      refine aw_iload_n dX5_seatsForGroup_38 rfl rfl ?_
      refine aw_cVb (g := 30) (As := [iV (row)]) (rest := [rV K 30 0]) (c_X5_isRow hst M27 (row) (by have n1 := hw.1; have n2 := hw.2.1; omega) (by first | exact hwb | exact hw)) cv_X5_isRow dX5_seatsForGroup_39 ml_X5_67 rfl rfl rfl rfl rfl (Nat.le_of_ble_eq_true rfl) (by decide) rfl rfl (by decide) (fun h39 => ?_) (fun h39 => ?_)
      · refine aw_if_ne (tgt := 49) dX5_seatsForGroup_42 (by decide) (by decide) (fun _ => ?_) (fun h => absurd h (by decide))
        refine aw_iload_n dX5_seatsForGroup_49 rfl rfl ?_
        refine aw_cSb (As := [iV (people)]) (rest := [rV K 30 0]) (c_X5_isGroup hst M27 (people) (by have n1 := hw.1; have n2 := hw.2.1; omega)) cs_X5_isGroup dX5_seatsForGroup_50 ml_X5_137 rfl rfl (Nat.le_of_ble_eq_true rfl) (by decide) rfl rfl (by decide) (fun h50 => ?_) (fun h50 => ?_)
        · refine aw_if_ne (tgt := 60) dX5_seatsForGroup_53 (by decide) (by decide) (fun _ => ?_) (fun h => absurd h (by decide))
          refine aw_iload dX5_seatsForGroup_60 rfl ?_
          refine aw_if_ne (tgt := 69) dX5_seatsForGroup_62 (by decide) (by rcases h27.2 with a | a; omega; (have a1 := a.1; have a2 := a.2.1; omega)) (fun h62 => ?_) (fun h62 => ?_)
          · refine aw_iconst dX5_seatsForGroup_69 ?_
            refine aw_cVi (g := 30) (As := [iV 0]) (rest := []) (c_X5_holds hst M27 (0) (by have n1 := hw.1; have n2 := hw.2.1; omega)) cv_X5_holds dX5_seatsForGroup_70 ml_X5_63 rfl rfl rfl rfl rfl (Nat.le_of_ble_eq_true rfl) (by decide) rfl rfl (by decide) ?_
            refine aw_st (st' := [iV 1]) (by rw [if_pos (by decide)]) ?_
            refine aw_if_eq (tgt := 85) dX5_seatsForGroup_73 (by decide) (by decide) (fun h => absurd h (by decide)) (fun _ => ?_)
            refine aw_aload_n dX5_seatsForGroup_76 rfl rfl ?_
            refine aw_getr (g := 30) rfl rfl ly_X5 rfl (k := 15) dX5_seatsForGroup_77 (by decide) fl_X5_40 rfl ?_
            refine aw_iload_n dX5_seatsForGroup_80 rfl rfl ?_
            refine aw_iald (g := 41) (n := 12) rfl (by decide) dX5_seatsForGroup_81 (by decide) (by show 0 ≤ row ∧ row < (12 : Int); have n1 := hw.1; have n2 := hw.2.1; omega) (fun r81 => ?_)
            have r81 : inR (M27 41 0 row) := r81
            refine aw_st (st' := [iV (M27 41 0 row)]) (by rw [show ((thr M27 0) 41 0 row : Int) = M27 41 0 row from by rfl]) ?_
            refine aw_goto (tgt := 86) dX5_seatsForGroup_82 (by decide) ?_
            exact aw_iret dX5_seatsForGroup_86 rfl rfl (by decide) (by decide) ⟨M27 41 0 row, rfl, (by first | (exfalso; have n1 := hw.1; have n2 := hw.2.1; omega) | exact (Or.inl ⟨by have n1 := hw.1; have n2 := hw.2.1; omega, by first | rfl | (have n1 := hw.1; have n2 := hw.2.1; omega), by rfl⟩) | exact (Or.inr (Or.inl ⟨by have n1 := hw.1; have n2 := hw.2.1; omega, by first | rfl | (have n1 := hw.1; have n2 := hw.2.1; omega), by rfl⟩)) | exact (Or.inr (Or.inr (Or.inl (by exact ⟨⟨by omega, by rcases h27.2 with a | a; exact a.2; exact absurd a.1 (by omega)⟩, rfl, M27, h27.1, rfl⟩)))) | exact (Or.inr (Or.inr (Or.inr (by exact ⟨by omega, M27, z27, h27.1, by rcases h27.2 with a | a; exact absurd a.1 (by omega); exact a, rfl, rfl⟩)))))⟩
          · refine aw_iconst dX5_seatsForGroup_65 ?_
            refine aw_goto (tgt := 70) dX5_seatsForGroup_66 (by decide) ?_
            refine aw_cVi (g := 30) (As := [iV 3]) (rest := []) (c_X5_holds hst M27 (3) (by have n1 := hw.1; have n2 := hw.2.1; omega)) cv_X5_holds dX5_seatsForGroup_70 ml_X5_63 rfl rfl rfl rfl rfl (Nat.le_of_ble_eq_true rfl) (by decide) rfl rfl (by decide) ?_
            refine aw_st (st' := [iV 0]) (by rw [if_neg (by decide)]) ?_
            refine aw_if_eq (tgt := 85) dX5_seatsForGroup_73 (by decide) (by decide) (fun _ => ?_) (fun h => absurd (by decide) h)
            refine aw_iconst dX5_seatsForGroup_85 ?_
            exact aw_iret dX5_seatsForGroup_86 rfl rfl (by decide) (by decide) ⟨0, rfl, (by first | (exfalso; have n1 := hw.1; have n2 := hw.2.1; omega) | exact (Or.inl ⟨by have n1 := hw.1; have n2 := hw.2.1; omega, by first | rfl | (have n1 := hw.1; have n2 := hw.2.1; omega), by rfl⟩) | exact (Or.inr (Or.inl ⟨by have n1 := hw.1; have n2 := hw.2.1; omega, by first | rfl | (have n1 := hw.1; have n2 := hw.2.1; omega), by rfl⟩)) | exact (Or.inr (Or.inr (Or.inl (by exact ⟨⟨by omega, by rcases h27.2 with a | a; exact a.2; exact absurd a.1 (by omega)⟩, rfl, M27, h27.1, rfl⟩)))) | exact (Or.inr (Or.inr (Or.inr (by exact ⟨by omega, M27, z27, h27.1, by rcases h27.2 with a | a; exact absurd a.1 (by omega); exact a, rfl, rfl⟩)))))⟩
        · refine aw_if_ne (tgt := 60) dX5_seatsForGroup_53 (by decide) (by decide) (fun h => absurd h (by decide)) (fun _ => ?_)
          refine aw_iconst dX5_seatsForGroup_56 ?_
          refine aw_goto (tgt := 70) dX5_seatsForGroup_57 (by decide) ?_
          refine aw_cVi (g := 30) (As := [iV 2]) (rest := []) (c_X5_holds hst M27 (2) (by have n1 := hw.1; have n2 := hw.2.1; omega)) cv_X5_holds dX5_seatsForGroup_70 ml_X5_63 rfl rfl rfl rfl rfl (Nat.le_of_ble_eq_true rfl) (by decide) rfl rfl (by decide) ?_
          refine aw_st (st' := [iV 0]) (by rw [if_neg (by decide)]) ?_
          refine aw_if_eq (tgt := 85) dX5_seatsForGroup_73 (by decide) (by decide) (fun _ => ?_) (fun h => absurd (by decide) h)
          refine aw_iconst dX5_seatsForGroup_85 ?_
          exact aw_iret dX5_seatsForGroup_86 rfl rfl (by decide) (by decide) ⟨0, rfl, (by first | (exfalso; have n1 := hw.1; have n2 := hw.2.1; omega) | exact (Or.inl ⟨by have n1 := hw.1; have n2 := hw.2.1; omega, by first | rfl | (have n1 := hw.1; have n2 := hw.2.1; omega), by rfl⟩) | exact (Or.inr (Or.inl ⟨by have n1 := hw.1; have n2 := hw.2.1; omega, by first | rfl | (have n1 := hw.1; have n2 := hw.2.1; omega), by rfl⟩)) | exact (Or.inr (Or.inr (Or.inl (by exact ⟨⟨by omega, by rcases h27.2 with a | a; exact a.2; exact absurd a.1 (by omega)⟩, rfl, M27, h27.1, rfl⟩)))) | exact (Or.inr (Or.inr (Or.inr (by exact ⟨by omega, M27, z27, h27.1, by rcases h27.2 with a | a; exact absurd a.1 (by omega); exact a, rfl, rfl⟩)))))⟩
      · refine aw_if_ne (tgt := 49) dX5_seatsForGroup_42 (by decide) (by decide) (fun h => absurd h (by decide)) (fun _ => ?_)
        refine aw_iconst dX5_seatsForGroup_45 ?_
        refine aw_goto (tgt := 70) dX5_seatsForGroup_46 (by decide) ?_
        refine aw_cVi (g := 30) (As := [iV 1]) (rest := []) (c_X5_holds hst M27 (1) (by have n1 := hw.1; have n2 := hw.2.1; omega)) cv_X5_holds dX5_seatsForGroup_70 ml_X5_63 rfl rfl rfl rfl rfl (Nat.le_of_ble_eq_true rfl) (by decide) rfl rfl (by decide) ?_
        refine aw_st (st' := [iV 0]) (by rw [if_neg (by decide)]) ?_
        refine aw_if_eq (tgt := 85) dX5_seatsForGroup_73 (by decide) (by decide) (fun _ => ?_) (fun h => absurd (by decide) h)
        refine aw_iconst dX5_seatsForGroup_85 ?_
        exact aw_iret dX5_seatsForGroup_86 rfl rfl (by decide) (by decide) ⟨0, rfl, (by first | (exfalso; have n1 := hw.1; have n2 := hw.2.1; omega) | exact (Or.inl ⟨by have n1 := hw.1; have n2 := hw.2.1; omega, by first | rfl | (have n1 := hw.1; have n2 := hw.2.1; omega), by rfl⟩) | exact (Or.inr (Or.inl ⟨by have n1 := hw.1; have n2 := hw.2.1; omega, by first | rfl | (have n1 := hw.1; have n2 := hw.2.1; omega), by rfl⟩)) | exact (Or.inr (Or.inr (Or.inl (by exact ⟨⟨by omega, by rcases h27.2 with a | a; exact a.2; exact absurd a.1 (by omega)⟩, rfl, M27, h27.1, rfl⟩)))) | exact (Or.inr (Or.inr (Or.inr (by exact ⟨by omega, M27, z27, h27.1, by rcases h27.2 with a | a; exact absurd a.1 (by omega); exact a, rfl, rfl⟩)))))⟩
    · refine aw_if_eq (tgt := 19) dX5_seatsForGroup_12 (by decide) (by decide) (fun _ => ?_) (fun h => absurd (by decide) h)
      refine aw_iconst dX5_seatsForGroup_19 ?_
      refine aw_istore_n (L2 := [some (rV K 30 0), some (iV (people)), some (iV (row)), some (iV 0), none]) dX5_seatsForGroup_20 rfl (by decide) rfl ?_
      refine aw_iload_n dX5_seatsForGroup_21 rfl rfl ?_
      refine aw_if_eq (tgt := 33) dX5_seatsForGroup_22 (by decide) (by decide) (fun _ => ?_) (fun h => absurd (by decide) h)
      refine aw_iconst dX5_seatsForGroup_33 ?_
      refine aw_istore (L2 := [some (rV K 30 0), some (iV (people)), some (iV (row)), some (iV 0), some (iV 0)]) dX5_seatsForGroup_34 (by decide) rfl ?_
      refine aw_aload_n dX5_seatsForGroup_36 rfl rfl ?_
      refine aw_aload_n dX5_seatsForGroup_37 rfl rfl ?_
      refine aw_iload_n dX5_seatsForGroup_38 rfl rfl ?_
      refine aw_cVb (g := 30) (As := [iV (row)]) (rest := [rV K 30 0]) (c_X5_isRow hst M (row) (by have n1 := hw.1; have n2 := hw.2.1; omega) (by first | exact hwb | exact hw)) cv_X5_isRow dX5_seatsForGroup_39 ml_X5_67 rfl rfl rfl rfl rfl (Nat.le_of_ble_eq_true rfl) (by decide) rfl rfl (by decide) (fun h39 => ?_) (fun h39 => ?_)
      · refine aw_if_ne (tgt := 49) dX5_seatsForGroup_42 (by decide) (by decide) (fun _ => ?_) (fun h => absurd h (by decide))
        refine aw_iload_n dX5_seatsForGroup_49 rfl rfl ?_
        refine aw_cSb (As := [iV (people)]) (rest := [rV K 30 0]) (c_X5_isGroup hst M (people) (by have n1 := hw.1; have n2 := hw.2.1; omega)) cs_X5_isGroup dX5_seatsForGroup_50 ml_X5_137 rfl rfl (Nat.le_of_ble_eq_true rfl) (by decide) rfl rfl (by decide) (fun h50 => ?_) (fun h50 => ?_)
        · refine aw_if_ne (tgt := 60) dX5_seatsForGroup_53 (by decide) (by decide) (fun _ => ?_) (fun h => absurd h (by decide))
          refine aw_iload dX5_seatsForGroup_60 rfl ?_
          refine aw_if_ne (tgt := 69) dX5_seatsForGroup_62 (by decide) (by decide) (fun h => absurd h (by decide)) (fun _ => ?_)
          refine aw_iconst dX5_seatsForGroup_65 ?_
          refine aw_goto (tgt := 70) dX5_seatsForGroup_66 (by decide) ?_
          refine aw_cVi (g := 30) (As := [iV 3]) (rest := []) (c_X5_holds hst M (3) (by have n1 := hw.1; have n2 := hw.2.1; omega)) cv_X5_holds dX5_seatsForGroup_70 ml_X5_63 rfl rfl rfl rfl rfl (Nat.le_of_ble_eq_true rfl) (by decide) rfl rfl (by decide) ?_
          refine aw_st (st' := [iV 0]) (by rw [if_neg (by decide)]) ?_
          refine aw_if_eq (tgt := 85) dX5_seatsForGroup_73 (by decide) (by decide) (fun _ => ?_) (fun h => absurd (by decide) h)
          refine aw_iconst dX5_seatsForGroup_85 ?_
          exact aw_iret dX5_seatsForGroup_86 rfl rfl (by decide) (by decide) ⟨0, rfl, (by first | (exfalso; have n1 := hw.1; have n2 := hw.2.1; omega) | exact (Or.inl ⟨by have n1 := hw.1; have n2 := hw.2.1; omega, by first | rfl | (have n1 := hw.1; have n2 := hw.2.1; omega), by rfl⟩) | exact (Or.inr (Or.inl ⟨by have n1 := hw.1; have n2 := hw.2.1; omega, by first | rfl | (have n1 := hw.1; have n2 := hw.2.1; omega), by rfl⟩)) | exact (Or.inr (Or.inr (Or.inl (by exact ⟨⟨by omega, by rcases h27.2 with a | a; exact a.2; exact absurd a.1 (by omega)⟩, rfl, M27, h27.1, rfl⟩)))) | exact (Or.inr (Or.inr (Or.inr (by exact ⟨by omega, M27, z27, h27.1, by rcases h27.2 with a | a; exact absurd a.1 (by omega); exact a, rfl, rfl⟩)))))⟩
        · refine aw_if_ne (tgt := 60) dX5_seatsForGroup_53 (by decide) (by decide) (fun h => absurd h (by decide)) (fun _ => ?_)
          refine aw_iconst dX5_seatsForGroup_56 ?_
          refine aw_goto (tgt := 70) dX5_seatsForGroup_57 (by decide) ?_
          refine aw_cVi (g := 30) (As := [iV 2]) (rest := []) (c_X5_holds hst M (2) (by have n1 := hw.1; have n2 := hw.2.1; omega)) cv_X5_holds dX5_seatsForGroup_70 ml_X5_63 rfl rfl rfl rfl rfl (Nat.le_of_ble_eq_true rfl) (by decide) rfl rfl (by decide) ?_
          refine aw_st (st' := [iV 0]) (by rw [if_neg (by decide)]) ?_
          refine aw_if_eq (tgt := 85) dX5_seatsForGroup_73 (by decide) (by decide) (fun _ => ?_) (fun h => absurd (by decide) h)
          refine aw_iconst dX5_seatsForGroup_85 ?_
          exact aw_iret dX5_seatsForGroup_86 rfl rfl (by decide) (by decide) ⟨0, rfl, (by first | (exfalso; have n1 := hw.1; have n2 := hw.2.1; omega) | exact (Or.inl ⟨by have n1 := hw.1; have n2 := hw.2.1; omega, by first | rfl | (have n1 := hw.1; have n2 := hw.2.1; omega), by rfl⟩) | exact (Or.inr (Or.inl ⟨by have n1 := hw.1; have n2 := hw.2.1; omega, by first | rfl | (have n1 := hw.1; have n2 := hw.2.1; omega), by rfl⟩)) | exact (Or.inr (Or.inr (Or.inl (by exact ⟨⟨by omega, by rcases h27.2 with a | a; exact a.2; exact absurd a.1 (by omega)⟩, rfl, M27, h27.1, rfl⟩)))) | exact (Or.inr (Or.inr (Or.inr (by exact ⟨by omega, M27, z27, h27.1, by rcases h27.2 with a | a; exact absurd a.1 (by omega); exact a, rfl, rfl⟩)))))⟩
      · refine aw_if_ne (tgt := 49) dX5_seatsForGroup_42 (by decide) (by decide) (fun h => absurd h (by decide)) (fun _ => ?_)
        refine aw_iconst dX5_seatsForGroup_45 ?_
        refine aw_goto (tgt := 70) dX5_seatsForGroup_46 (by decide) ?_
        refine aw_cVi (g := 30) (As := [iV 1]) (rest := []) (c_X5_holds hst M (1) (by have n1 := hw.1; have n2 := hw.2.1; omega)) cv_X5_holds dX5_seatsForGroup_70 ml_X5_63 rfl rfl rfl rfl rfl (Nat.le_of_ble_eq_true rfl) (by decide) rfl rfl (by decide) ?_
        refine aw_st (st' := [iV 0]) (by rw [if_neg (by decide)]) ?_
        refine aw_if_eq (tgt := 85) dX5_seatsForGroup_73 (by decide) (by decide) (fun _ => ?_) (fun h => absurd (by decide) h)
        refine aw_iconst dX5_seatsForGroup_85 ?_
        exact aw_iret dX5_seatsForGroup_86 rfl rfl (by decide) (by decide) ⟨0, rfl, (by first | (exfalso; have n1 := hw.1; have n2 := hw.2.1; omega) | exact (Or.inl ⟨by have n1 := hw.1; have n2 := hw.2.1; omega, by first | rfl | (have n1 := hw.1; have n2 := hw.2.1; omega), by rfl⟩) | exact (Or.inr (Or.inl ⟨by have n1 := hw.1; have n2 := hw.2.1; omega, by first | rfl | (have n1 := hw.1; have n2 := hw.2.1; omega), by rfl⟩)) | exact (Or.inr (Or.inr (Or.inl (by exact ⟨⟨by omega, by rcases h27.2 with a | a; exact a.2; exact absurd a.1 (by omega)⟩, rfl, M27, h27.1, rfl⟩)))) | exact (Or.inr (Or.inr (Or.inr (by exact ⟨by omega, M27, z27, h27.1, by rcases h27.2 with a | a; exact absurd a.1 (by omega); exact a, rfl, rfl⟩)))))⟩
  · refine aw_if_eq (tgt := 19) dX5_seatsForGroup_5 (by decide) (by decide) (fun _ => ?_) (fun h => absurd (by decide) h)
    refine aw_iconst dX5_seatsForGroup_19 ?_
    refine aw_istore_n (L2 := [some (rV K 30 0), some (iV (people)), some (iV (row)), some (iV 0), none]) dX5_seatsForGroup_20 rfl (by decide) rfl ?_
    refine aw_iload_n dX5_seatsForGroup_21 rfl rfl ?_
    refine aw_if_eq (tgt := 33) dX5_seatsForGroup_22 (by decide) (by decide) (fun _ => ?_) (fun h => absurd (by decide) h)
    refine aw_iconst dX5_seatsForGroup_33 ?_
    refine aw_istore (L2 := [some (rV K 30 0), some (iV (people)), some (iV (row)), some (iV 0), some (iV 0)]) dX5_seatsForGroup_34 (by decide) rfl ?_
    refine aw_aload_n dX5_seatsForGroup_36 rfl rfl ?_
    refine aw_aload_n dX5_seatsForGroup_37 rfl rfl ?_
    refine aw_iload_n dX5_seatsForGroup_38 rfl rfl ?_
    refine aw_cVb (g := 30) (As := [iV (row)]) (rest := [rV K 30 0]) (c_X5_isRow hst M (row) (by have n1 := hw.1; have n2 := hw.2.1; omega) (by first | exact hwb | exact hw)) cv_X5_isRow dX5_seatsForGroup_39 ml_X5_67 rfl rfl rfl rfl rfl (Nat.le_of_ble_eq_true rfl) (by decide) rfl rfl (by decide) (fun h39 => ?_) (fun h39 => ?_)
    · refine aw_if_ne (tgt := 49) dX5_seatsForGroup_42 (by decide) (by decide) (fun _ => ?_) (fun h => absurd h (by decide))
      refine aw_iload_n dX5_seatsForGroup_49 rfl rfl ?_
      refine aw_cSb (As := [iV (people)]) (rest := [rV K 30 0]) (c_X5_isGroup hst M (people) (by have n1 := hw.1; have n2 := hw.2.1; omega)) cs_X5_isGroup dX5_seatsForGroup_50 ml_X5_137 rfl rfl (Nat.le_of_ble_eq_true rfl) (by decide) rfl rfl (by decide) (fun h50 => ?_) (fun h50 => ?_)
      · refine aw_if_ne (tgt := 60) dX5_seatsForGroup_53 (by decide) (by decide) (fun _ => ?_) (fun h => absurd h (by decide))
        refine aw_iload dX5_seatsForGroup_60 rfl ?_
        refine aw_if_ne (tgt := 69) dX5_seatsForGroup_62 (by decide) (by decide) (fun h => absurd h (by decide)) (fun _ => ?_)
        refine aw_iconst dX5_seatsForGroup_65 ?_
        refine aw_goto (tgt := 70) dX5_seatsForGroup_66 (by decide) ?_
        refine aw_cVi (g := 30) (As := [iV 3]) (rest := []) (c_X5_holds hst M (3) (by have n1 := hw.1; have n2 := hw.2.1; omega)) cv_X5_holds dX5_seatsForGroup_70 ml_X5_63 rfl rfl rfl rfl rfl (Nat.le_of_ble_eq_true rfl) (by decide) rfl rfl (by decide) ?_
        refine aw_st (st' := [iV 0]) (by rw [if_neg (by decide)]) ?_
        refine aw_if_eq (tgt := 85) dX5_seatsForGroup_73 (by decide) (by decide) (fun _ => ?_) (fun h => absurd (by decide) h)
        refine aw_iconst dX5_seatsForGroup_85 ?_
        exact aw_iret dX5_seatsForGroup_86 rfl rfl (by decide) (by decide) ⟨0, rfl, (by first | (exfalso; have n1 := hw.1; have n2 := hw.2.1; omega) | exact (Or.inl ⟨by have n1 := hw.1; have n2 := hw.2.1; omega, by first | rfl | (have n1 := hw.1; have n2 := hw.2.1; omega), by rfl⟩) | exact (Or.inr (Or.inl ⟨by have n1 := hw.1; have n2 := hw.2.1; omega, by first | rfl | (have n1 := hw.1; have n2 := hw.2.1; omega), by rfl⟩)) | exact (Or.inr (Or.inr (Or.inl (by exact ⟨⟨by omega, by rcases h27.2 with a | a; exact a.2; exact absurd a.1 (by omega)⟩, rfl, M27, h27.1, rfl⟩)))) | exact (Or.inr (Or.inr (Or.inr (by exact ⟨by omega, M27, z27, h27.1, by rcases h27.2 with a | a; exact absurd a.1 (by omega); exact a, rfl, rfl⟩)))))⟩
      · refine aw_if_ne (tgt := 60) dX5_seatsForGroup_53 (by decide) (by decide) (fun h => absurd h (by decide)) (fun _ => ?_)
        refine aw_iconst dX5_seatsForGroup_56 ?_
        refine aw_goto (tgt := 70) dX5_seatsForGroup_57 (by decide) ?_
        refine aw_cVi (g := 30) (As := [iV 2]) (rest := []) (c_X5_holds hst M (2) (by have n1 := hw.1; have n2 := hw.2.1; omega)) cv_X5_holds dX5_seatsForGroup_70 ml_X5_63 rfl rfl rfl rfl rfl (Nat.le_of_ble_eq_true rfl) (by decide) rfl rfl (by decide) ?_
        refine aw_st (st' := [iV 0]) (by rw [if_neg (by decide)]) ?_
        refine aw_if_eq (tgt := 85) dX5_seatsForGroup_73 (by decide) (by decide) (fun _ => ?_) (fun h => absurd (by decide) h)
        refine aw_iconst dX5_seatsForGroup_85 ?_
        exact aw_iret dX5_seatsForGroup_86 rfl rfl (by decide) (by decide) ⟨0, rfl, (by first | (exfalso; have n1 := hw.1; have n2 := hw.2.1; omega) | exact (Or.inl ⟨by have n1 := hw.1; have n2 := hw.2.1; omega, by first | rfl | (have n1 := hw.1; have n2 := hw.2.1; omega), by rfl⟩) | exact (Or.inr (Or.inl ⟨by have n1 := hw.1; have n2 := hw.2.1; omega, by first | rfl | (have n1 := hw.1; have n2 := hw.2.1; omega), by rfl⟩)) | exact (Or.inr (Or.inr (Or.inl (by exact ⟨⟨by omega, by rcases h27.2 with a | a; exact a.2; exact absurd a.1 (by omega)⟩, rfl, M27, h27.1, rfl⟩)))) | exact (Or.inr (Or.inr (Or.inr (by exact ⟨by omega, M27, z27, h27.1, by rcases h27.2 with a | a; exact absurd a.1 (by omega); exact a, rfl, rfl⟩)))))⟩
    · refine aw_if_ne (tgt := 49) dX5_seatsForGroup_42 (by decide) (by decide) (fun h => absurd h (by decide)) (fun _ => ?_)
      refine aw_iconst dX5_seatsForGroup_45 ?_
      refine aw_goto (tgt := 70) dX5_seatsForGroup_46 (by decide) ?_
      refine aw_cVi (g := 30) (As := [iV 1]) (rest := []) (c_X5_holds hst M (1) (by have n1 := hw.1; have n2 := hw.2.1; omega)) cv_X5_holds dX5_seatsForGroup_70 ml_X5_63 rfl rfl rfl rfl rfl (Nat.le_of_ble_eq_true rfl) (by decide) rfl rfl (by decide) ?_
      refine aw_st (st' := [iV 0]) (by rw [if_neg (by decide)]) ?_
      refine aw_if_eq (tgt := 85) dX5_seatsForGroup_73 (by decide) (by decide) (fun _ => ?_) (fun h => absurd (by decide) h)
      refine aw_iconst dX5_seatsForGroup_85 ?_
      exact aw_iret dX5_seatsForGroup_86 rfl rfl (by decide) (by decide) ⟨0, rfl, (by first | (exfalso; have n1 := hw.1; have n2 := hw.2.1; omega) | exact (Or.inl ⟨by have n1 := hw.1; have n2 := hw.2.1; omega, by first | rfl | (have n1 := hw.1; have n2 := hw.2.1; omega), by rfl⟩) | exact (Or.inr (Or.inl ⟨by have n1 := hw.1; have n2 := hw.2.1; omega, by first | rfl | (have n1 := hw.1; have n2 := hw.2.1; omega), by rfl⟩)) | exact (Or.inr (Or.inr (Or.inl (by exact ⟨⟨by omega, by rcases h27.2 with a | a; exact a.2; exact absurd a.1 (by omega)⟩, rfl, M27, h27.1, rfl⟩)))) | exact (Or.inr (Or.inr (Or.inr (by exact ⟨by omega, M27, z27, h27.1, by rcases h27.2 with a | a; exact absurd a.1 (by omega); exact a, rfl, rfl⟩)))))⟩
set_option maxHeartbeats 4000000 in
set_option maxRecDepth 20000 in
theorem c_X5_holdGroup {K : WPar} {l : Launch} (hst : l.stackTraces = false) (M : Mem) (people : Int) (minutes : Int) (r_people : inR people) (r_minutes : inR minutes) (hw : HWm M) (bw : BWm M) (v_now : 0 ≤ M 30 0 1 ∧ M 30 0 1 ≤ 1000000) : CT K l iX5_holdGroup [rV K 30 0, iV (people), iV (minutes)] M (rZm (fun z m => ((¬ ((2 ≤ people ∧ people ≤ 100) ∧ (1 ≤ minutes ∧ minutes ≤ 200))) ∧ z = 0 ∧ m = thr M 1) ∨ ((((2 ≤ people ∧ people ≤ 100) ∧ (1 ≤ minutes ∧ minutes ≤ 200)) ∧ ((∀ b v : Int, ¬ cD M 0 b people v) ∨ ¬ M 30 0 8 < 100)) ∧ z = 0 ∧ ∃ m1, SFd M m1 ∧ m = thr m1 2) ∨ ((((2 ≤ people ∧ people ≤ 100) ∧ (1 ≤ minutes ∧ minutes ≤ 200)) ∧ M 30 0 8 < 100) ∧ z = M 30 0 8 + 1 ∧ ∃ m1 n, SFd M m1 ∧ SPLd M m1 people n ∧ m = hgS m1 (grtM (thr m1 0) minutes) (M 30 0 8 + 1) (M 30 0 3).toNat))) := by
  refine aw_met [some (rV K 30 0), some (iV (people)), some (iV (minutes)), none, none, none, none] hst (by decide) rfl (Nat.le_of_ble_eq_true rfl) rfl rfl (lcat rfl) ?_
  refine aw_rng (fun hM => ?_)
  refine aw_iload_n dX5_holdGroup_0 rfl rfl ?_
  refine aw_cSb (As := [iV (people)]) (rest := []) (c_X5_isGroup hst M (people) (by have n1 := hw.1; have n2 := hw.2.1; have t1 := bw.1; have t2 := bw.2; omega)) cs_X5_isGroup dX5_holdGroup_1 ml_X5_137 rfl rfl (Nat.le_of_ble_eq_true rfl) (by decide) rfl rfl (by decide) (fun h1 => ?_) (fun h1 => ?_)
  · refine aw_if_eq (tgt := 18) dX5_holdGroup_4 (by decide) (by decide) (fun h => absurd h (by decide)) (fun _ => ?_)
    refine aw_iload_n dX5_holdGroup_7 rfl rfl ?_
    refine aw_cSb (As := [iV (minutes)]) (rest := []) (c_X5_isMinutes hst M (minutes) (by have n1 := hw.1; have n2 := hw.2.1; have t1 := bw.1; have t2 := bw.2; omega)) cs_X5_isMinutes dX5_holdGroup_8 ml_X5_112 rfl rfl (Nat.le_of_ble_eq_true rfl) (by decide) rfl rfl (by decide) (fun h8 => ?_) (fun h8 => ?_)
    · refine aw_if_eq (tgt := 18) dX5_holdGroup_11 (by decide) (by decide) (fun h => absurd h (by decide)) (fun _ => ?_)
      refine aw_iconst dX5_holdGroup_14 ?_
      refine aw_goto (tgt := 19) dX5_holdGroup_15 (by decide) ?_
      refine aw_istore_n (L2 := [some (rV K 30 0), some (iV (people)), some (iV (minutes)), some (iV 1), none, none, none]) dX5_holdGroup_19 rfl (by decide) rfl ?_
      refine aw_iload_n dX5_holdGroup_20 rfl rfl ?_
      refine aw_if_eq (tgt := 32) dX5_holdGroup_21 (by decide) (by decide) (fun h => absurd h (by decide)) (fun _ => ?_)
      refine aw_aload_n dX5_holdGroup_24 rfl rfl ?_
      refine aw_iload_n dX5_holdGroup_25 rfl rfl ?_
      refine aw_cVw (g := 30) (As := [iV (people)]) (rest := []) (c_X5_splits hst M (people) (by have n1 := hw.1; have n2 := hw.2.1; have t1 := bw.1; have t2 := bw.2; omega) (by have n1 := hw.1; have n2 := hw.2.1; have t1 := bw.1; have t2 := bw.2; omega) (by have n1 := hw.1; have n2 := hw.2.1; have t1 := bw.1; have t2 := bw.2; omega)) cv_X5_splits dX5_holdGroup_26 ml_X5_140 rfl rfl rfl rfl rfl (Nat.le_of_ble_eq_true rfl) (by decide) rfl rfl (by decide) (fun z26 M26 (h26 : SFd M M26 ∧ ((z26 = 0 ∧ ∀ b v : Int, ¬ cD M 0 b people v) ∨ SPLd M M26 people z26)) => ?_)
      have k3 : M26 30 0 3 = M 30 0 3 := (by rw [h26.1 30 (by decide) (by decide)]); have k8 : M26 30 0 8 = M 30 0 8 := (by rw [h26.1 30 (by decide) (by decide)]); have k1 : M26 30 0 1 = M 30 0 1 := (by rw [h26.1 30 (by decide) (by decide)]); have hwa : HWm M26 := HWm_f hw h26.1; have bwa : BWm M26 := BWm_g bw k8
      refine aw_goto (tgt := 33) dX5_holdGroup_29 (by decide) ?_
      refine aw_istore (L2 := [some (rV K 30 0), some (iV (people)), some (iV (minutes)), some (iV 1), some (iV (z26)), none, none]) dX5_holdGroup_33 (by decide) rfl ?_
      refine aw_aload_n dX5_holdGroup_35 rfl rfl ?_
      refine aw_iload_n dX5_holdGroup_36 rfl rfl ?_
      refine aw_if_ne (tgt := 44) dX5_holdGroup_37 (by decide) (by decide) (fun _ => ?_) (fun h => absurd h (by decide))
      refine aw_iload dX5_holdGroup_44 rfl ?_
      refine aw_if_eq (tgt := 58) dX5_holdGroup_46 (by decide) (by rcases h26.2 with a | a; omega; (have a1 := a.1; have a2 := a.2.1; omega)) (fun h46 => ?_) (fun h46 => ?_)
      · refine aw_iconst dX5_holdGroup_58 ?_
        refine aw_goto (tgt := 63) dX5_holdGroup_59 (by decide) ?_
        refine aw_cVi (g := 30) (As := [iV 2]) (rest := []) (c_X5_holds hst M26 (2) (by have n1 := hw.1; have n2 := hw.2.1; have t1 := bw.1; have t2 := bw.2; omega)) cv_X5_holds dX5_holdGroup_63 ml_X5_63 rfl rfl rfl rfl rfl (Nat.le_of_ble_eq_true rfl) (by decide) rfl rfl (by decide) ?_
        refine aw_st (st' := [iV 0]) (by rw [if_neg (by decide)]) ?_
        refine aw_if_ne (tgt := 71) dX5_holdGroup_66 (by decide) (by decide) (fun h => absurd h (by decide)) (fun _ => ?_)
        refine aw_iconst dX5_holdGroup_69 ?_
        exact aw_iret dX5_holdGroup_70 rfl rfl (by decide) (by decide) ⟨0, rfl, (by first | (exfalso; have n1 := hw.1; have n2 := hw.2.1; have t1 := bw.1; have t2 := bw.2; omega) | exact (Or.inl ⟨by have n1 := hw.1; have n2 := hw.2.1; have t1 := bw.1; have t2 := bw.2; omega, by first | rfl | (have n1 := hw.1; have n2 := hw.2.1; have t1 := bw.1; have t2 := bw.2; omega), by rfl⟩) | exact (Or.inr (Or.inl (by first | exact ⟨⟨by omega, Or.inl (by rcases h26.2 with a | a; exact a.2; exact absurd a.1 (by omega))⟩, rfl, M26, h26.1, rfl⟩ | exact ⟨⟨by omega, Or.inr (by have n1 := hw.1; have n2 := hw.2.1; have t1 := bw.1; have t2 := bw.2; omega)⟩, rfl, M26, h26.1, rfl⟩))) | exact (Or.inr (Or.inr (by exact ⟨⟨by omega, by have n1 := hw.1; have n2 := hw.2.1; have t1 := bw.1; have t2 := bw.2; omega⟩, rfl, M26, z26, h26.1, hsp, by have q : row = M 30 0 3 := (by omega); rw [← hMc, q, ← hMb]⟩))))⟩
      · refine aw_aload_n dX5_holdGroup_49 rfl rfl ?_
        refine aw_geti (g := 30) rfl rfl ly_X5 rfl (k := 8) 8 rfl dX5_holdGroup_50 (by decide) fl_X5_106 rfl (fun r50 => ?_)
        refine aw_bipush dX5_holdGroup_53 rfl ?_
        refine aw_icmp_ne (tgt := 62) dX5_holdGroup_55 (by decide) (by have n1 := hw.1; have n2 := hw.2.1; have t1 := bw.1; have t2 := bw.2; omega) (by have n1 := hw.1; have n2 := hw.2.1; have t1 := bw.1; have t2 := bw.2; omega) (fun h55 => ?_) (fun h55 => ?_)
        · refine aw_iconst dX5_holdGroup_62 ?_
          refine aw_cVi (g := 30) (As := [iV 0]) (rest := []) (c_X5_holds hst M26 (0) (by have n1 := hw.1; have n2 := hw.2.1; have t1 := bw.1; have t2 := bw.2; omega)) cv_X5_holds dX5_holdGroup_63 ml_X5_63 rfl rfl rfl rfl rfl (Nat.le_of_ble_eq_true rfl) (by decide) rfl rfl (by decide) ?_
          refine aw_st (st' := [iV 1]) (by rw [if_pos (by decide)]) ?_
          refine aw_if_ne (tgt := 71) dX5_holdGroup_66 (by decide) (by decide) (fun _ => ?_) (fun h => absurd h (by decide))
          have hsp : SPLd M M26 people z26 := (by rcases h26.2 with a | a; exact absurd a.1 (by omega); exact a); have sk := SPLd_ok hw hsp; have q31 : M26 31 = M 31 := h26.1 31 (by decide) (by decide); have q32 : M26 32 = M 32 := h26.1 32 (by decide) (by decide); have q34 : M26 34 = M 34 := h26.1 34 (by decide) (by decide); have qo : oMd M26 = oMd M := (by funext r s; unfold oMd; rw [q34])
          refine aw_aload_n dX5_holdGroup_71 rfl rfl ?_
          refine aw_iload_n dX5_holdGroup_72 rfl rfl ?_
          refine aw_cVi (g := 30) (As := [iV (minutes)]) (rest := []) (c_X5_grants hst (thr M26 0) (minutes) (by have n1 := hw.1; have n2 := hw.2.1; have t1 := bw.1; have t2 := bw.2; omega) (by exact BWm_t bwa 0) (by show M26 30 0 8 < 100; have n1 := hw.1; have n2 := hw.2.1; have t1 := bw.1; have t2 := bw.2; omega) (by show 0 ≤ M26 30 0 1 ∧ M26 30 0 1 ≤ 1000000; omega) (by omega)) cv_X5_grants dX5_holdGroup_73 ml_X5_115 rfl rfl rfl rfl rfl (Nat.le_of_ble_eq_true rfl) (by decide) rfl rfl (by decide) ?_
          refine aw_st (st' := [iV (M 30 0 8 + 1)]) (by rw [show ((thr M26 0) 30 0 8 + 1 : Int) = M 30 0 8 + 1 from by show M26 30 0 8 + 1 = _; rw [k8]]) ?_
          generalize hMb : grtM (thr M26 0) minutes = Mb
          have gb : ∀ g : Nat, g ≠ 30 → g ≠ 35 → g ≠ 36 → g ≠ 39 → Mb g = M26 g := (fun g g1 g2 g3 g4 => by rw [← hMb, grtM_g g1 g2 g3 g4]; exact thr_g g1); have b3 : Mb 30 0 3 = M 30 0 3 := (by rw [← hMb, grtM_j (by decide)]; exact k3); have hwb : HWm Mb := HWm_g hw b3 ((gb 31 (by decide) (by decide) (by decide) (by decide)).trans q31) ((gb 32 (by decide) (by decide) (by decide) (by decide)).trans q32) ((gb 33 (by decide) (by decide) (by decide) (by decide)).trans (h26.1 33 (by decide) (by decide)))
          refine aw_istore (L2 := [some (rV K 30 0), some (iV (people)), some (iV (minutes)), some (iV 1), some (iV (z26)), some (iV (M 30 0 8 + 1)), none]) dX5_holdGroup_76 (by decide) rfl ?_
          refine aw_iconst dX5_holdGroup_78 ?_
          refine aw_istore (L2 := [some (rV K 30 0), some (iV (people)), some (iV (minutes)), some (iV 1), some (iV (z26)), some (iV (M 30 0 8 + 1)), some (iV 0)]) dX5_holdGroup_79 (by decide) rfl ?_
          have lp81 : ∀ (n81 : Nat) (row : Int), (0 ≤ row ∧ row ≤ M 30 0 3) → ((M 30 0 3 - row).toNat) < n81 → AW K l iX5_holdGroup (ZM K iX5_holdGroup (rZm (fun z m => ((¬ ((2 ≤ people ∧ people ≤ 100) ∧ (1 ≤ minutes ∧ minutes ≤ 200))) ∧ z = 0 ∧ m = thr M 1) ∨ ((((2 ≤ people ∧ people ≤ 100) ∧ (1 ≤ minutes ∧ minutes ≤ 200)) ∧ ((∀ b v : Int, ¬ cD M 0 b people v) ∨ ¬ M 30 0 8 < 100)) ∧ z = 0 ∧ ∃ m1, SFd M m1 ∧ m = thr m1 2) ∨ ((((2 ≤ people ∧ people ≤ 100) ∧ (1 ≤ minutes ∧ minutes ≤ 200)) ∧ M 30 0 8 < 100) ∧ z = M 30 0 8 + 1 ∧ ∃ m1 n, SFd M m1 ∧ SPLd M m1 people n ∧ m = hgS m1 (grtM (thr m1 0) minutes) (M 30 0 8 + 1) (M 30 0 3).toNat)))) 81 [some (rV K 30 0), some (iV (people)), some (iV (minutes)), some (iV 1), some (iV (z26)), some (iV (M 30 0 8 + 1)), some (iV (row))] [] (hgS M26 Mb (M 30 0 8 + 1) (Int.toNat row)) 0 0 := by
            intro n81
            induction n81 with
            | zero =>
              intro row e1 hm81
              exact absurd hm81 (Nat.not_lt_zero _)
            | succ n81 ih81 =>
              intro row e1 hm81
              generalize hMc : hgS M26 Mb (M 30 0 8 + 1) (Int.toNat row) = Mc
              have gc : ∀ g : Nat, g ≠ 34 → Mc g = Mb g := (fun g g1 => by rw [← hMc]; exact hgS_g g1 _); have c3 : Mc 30 0 3 = M 30 0 3 := (by rw [gc 30 (by decide)]; exact b3); have hwc : HWm Mc := HWm_g hwb (by rw [c3, b3]) (gc 31 (by decide)) (gc 32 (by decide)) (gc 33 (by decide)); have c41 : Mc 41 = M26 41 := (gc 41 (by decide)).trans (gb 41 (by decide) (by decide) (by decide) (by decide)); have c31 : Mc 31 = M 31 := ((gc 31 (by decide)).trans (gb 31 (by decide) (by decide) (by decide) (by decide))).trans q31; have c32 : Mc 32 = M 32 := ((gc 32 (by decide)).trans (gb 32 (by decide) (by decide) (by decide) (by decide))).trans q32; have b34 : Mb 34 = M 34 := (gb 34 (by decide) (by decide) (by decide) (by decide)).trans q34; have crow : ∀ a : Int, 0 ≤ a → oMd Mc row a = oMd M row a := (fun a a0 => by show Mc 34 0 (20 * row + a) = M 34 0 (20 * row + a); rw [← hMc, hgS_row _ (fun r r0 r1 r2 => by rw [q31, q32, qo]; have k := sk r r0 (by omega); have k2 := k.2 r2; have n3 := hw.2.2 r r0 (by omega); omega) _ (by omega), b34])
              refine aw_iload dX5_holdGroup_81 rfl ?_
              refine aw_aload_n dX5_holdGroup_83 rfl rfl ?_
              refine aw_geti (g := 30) rfl rfl ly_X5 rfl (k := 3) 3 rfl dX5_holdGroup_84 (by decide) fl_X5_60 rfl (fun r84 => ?_)
              refine aw_icmp_ge (tgt := 135) dX5_holdGroup_87 (by decide) (by have n1 := hw.1; have n2 := hw.2.1; have t1 := bw.1; have t2 := bw.2; omega) (by have n1 := hw.1; have n2 := hw.2.1; have t1 := bw.1; have t2 := bw.2; omega) (fun h87 => ?_) (fun h87 => ?_)
              · refine aw_iload dX5_holdGroup_135 rfl ?_
                exact aw_iret dX5_holdGroup_137 rfl rfl (by decide) (by decide) ⟨M 30 0 8 + 1, rfl, (by first | (exfalso; have n1 := hw.1; have n2 := hw.2.1; have t1 := bw.1; have t2 := bw.2; omega) | exact (Or.inl ⟨by have n1 := hw.1; have n2 := hw.2.1; have t1 := bw.1; have t2 := bw.2; omega, by first | rfl | (have n1 := hw.1; have n2 := hw.2.1; have t1 := bw.1; have t2 := bw.2; omega), by rfl⟩) | exact (Or.inr (Or.inl (by first | exact ⟨⟨by omega, Or.inl (by rcases h26.2 with a | a; exact a.2; exact absurd a.1 (by omega))⟩, rfl, M26, h26.1, rfl⟩ | exact ⟨⟨by omega, Or.inr (by have n1 := hw.1; have n2 := hw.2.1; have t1 := bw.1; have t2 := bw.2; omega)⟩, rfl, M26, h26.1, rfl⟩))) | exact (Or.inr (Or.inr (by exact ⟨⟨by omega, by have n1 := hw.1; have n2 := hw.2.1; have t1 := bw.1; have t2 := bw.2; omega⟩, rfl, M26, z26, h26.1, hsp, by have q : row = M 30 0 3 := (by omega); rw [← hMc, q, ← hMb]⟩))))⟩
              · refine aw_aload_n dX5_holdGroup_90 rfl rfl ?_
                refine aw_getr (g := 30) rfl rfl ly_X5 rfl (k := 15) dX5_holdGroup_91 (by decide) fl_X5_40 rfl ?_
                refine aw_iload dX5_holdGroup_94 rfl ?_
                refine aw_iald (g := 41) (n := 12) rfl (by decide) dX5_holdGroup_96 (by decide) (by show 0 ≤ row ∧ row < (12 : Int); have n1 := hw.1; have n2 := hw.2.1; have t1 := bw.1; have t2 := bw.2; omega) (fun r96 => ?_)
                refine aw_st (st' := [iV (M26 41 0 row)]) (by rw [show (Mc 41 0 row : Int) = M26 41 0 row from by rw [c41]]) ?_
                refine aw_if_le (tgt := 129) dX5_holdGroup_97 (by decide) (by have kb := (sk row e1.1 (by omega)).1; omega) (fun h97 => ?_) (fun h97 => ?_)
                · refine aw_iinc (L2 := [some (rV K 30 0), some (iV (people)), some (iV (minutes)), some (iV 1), some (iV (z26)), some (iV (M 30 0 8 + 1)), some (iV (row + 1))]) dX5_holdGroup_129 rfl (by decide) rfl ?_
                  refine aw_goto (tgt := 81) dX5_holdGroup_132 (by decide) ?_
                  refine aw_mem (M' := hgS M26 Mb (M 30 0 8 + 1) (Int.toNat (row + 1))) (by first | rw [hgS_s e1.1, if_pos (by omega), q31, q32, qo, hMc, ← fz] | rw [hgS_s e1.1, if_neg (by omega), hMc]) ?_
                  exact ih81 (row + 1) (by omega) (by omega)
                · have kr := (sk row e1.1 (by omega)).2 (by omega); have kb := (sk row e1.1 (by omega)).1; have nr := hw.2.2 row e1.1 (by omega)
                  refine aw_aload_n dX5_holdGroup_100 rfl rfl ?_
                  refine aw_iload dX5_holdGroup_101 rfl ?_
                  refine aw_aload_n dX5_holdGroup_103 rfl rfl ?_
                  refine aw_iload dX5_holdGroup_104 rfl ?_
                  refine aw_aload_n dX5_holdGroup_106 rfl rfl ?_
                  refine aw_getr (g := 30) rfl rfl ly_X5 rfl (k := 15) dX5_holdGroup_107 (by decide) fl_X5_40 rfl ?_
                  refine aw_iload dX5_holdGroup_110 rfl ?_
                  refine aw_iald (g := 41) (n := 12) rfl (by decide) dX5_holdGroup_112 (by decide) (by show 0 ≤ row ∧ row < (12 : Int); have n1 := hw.1; have n2 := hw.2.1; have t1 := bw.1; have t2 := bw.2; omega) (fun r112 => ?_)
                  refine aw_st (st' := [iV (M26 41 0 row), iV (row), rV K 30 0, iV (row), rV K 30 0]) (by rw [show (Mc 41 0 row : Int) = M26 41 0 row from by rw [c41]]) ?_
                  refine aw_iconst dX5_holdGroup_113 ?_
                  refine aw_cVr (g := 30) (As := [iV (row), iV (M26 41 0 row), iV 0]) (rest := [iV (row), rV K 30 0]) (c_X5_firstIn hst Mc (row) (M26 41 0 row) (0) (by have n1 := hw.1; have n2 := hw.2.1; have t1 := bw.1; have t2 := bw.2; omega) (by have n1 := hw.1; have n2 := hw.2.1; have t1 := bw.1; have t2 := bw.2; omega) (by have n1 := hw.1; have n2 := hw.2.1; have t1 := bw.1; have t2 := bw.2; omega) (by exact hwc) (by omega) (by omega)) cv_X5_firstIn dX5_holdGroup_114 ml_X5_95 rfl rfl rfl rfl rfl (Nat.le_of_ble_eq_true rfl) (by decide) rfl rfl (by decide) (fun z114 (h114 : isBest (cB (Mc 31 0) (oMd Mc) (M26 41 0 row) (0 = 0) row) (vBR (Mc 32 0) (Mc 31 0) (M26 41 0 row) row) z114) => ?_)
                  have fz : z114 = bFst (M 31 0) (oMd M) (M 32 0) (M26 41 0 row) row := (by have hb := isBest_al (Q := True) (by decide) h114; rw [c31, c32] at hb; exact bFst_cg (fun a a0 a1 => crow a a0) hb)
                  refine aw_aload_n dX5_holdGroup_117 rfl rfl ?_
                  refine aw_getr (g := 30) rfl rfl ly_X5 rfl (k := 15) dX5_holdGroup_118 (by decide) fl_X5_40 rfl ?_
                  refine aw_iload dX5_holdGroup_121 rfl ?_
                  refine aw_iald (g := 41) (n := 12) rfl (by decide) dX5_holdGroup_123 (by decide) (by show 0 ≤ row ∧ row < (12 : Int); have n1 := hw.1; have n2 := hw.2.1; have t1 := bw.1; have t2 := bw.2; omega) (fun r123 => ?_)
                  refine aw_st (st' := [iV (M26 41 0 row), iV (z114), iV (row), rV K 30 0]) (by rw [show (Mc 41 0 row : Int) = M26 41 0 row from by rw [c41]]) ?_
                  refine aw_iload dX5_holdGroup_124 rfl ?_
                  refine aw_cVn (g := 30) (As := [iV (row), iV (z114), iV (M26 41 0 row), iV (M 30 0 8 + 1)]) (rest := []) (c_X5_owns hst Mc (row) (z114) (M26 41 0 row) (M 30 0 8 + 1) (by have n1 := hw.1; have n2 := hw.2.1; have t1 := bw.1; have t2 := bw.2; omega) (by have n1 := hw.1; have n2 := hw.2.1; have t1 := bw.1; have t2 := bw.2; omega) (by have n1 := hw.1; have n2 := hw.2.1; have t1 := bw.1; have t2 := bw.2; omega) (by have n1 := hw.1; have n2 := hw.2.1; have t1 := bw.1; have t2 := bw.2; omega) (by have n1 := hw.1; have n2 := hw.2.1; have t1 := bw.1; have t2 := bw.2; omega)) cv_X5_owns dX5_holdGroup_126 ml_X5_118 rfl rfl rfl rfl rfl (Nat.le_of_ble_eq_true rfl) (by decide) rfl rfl (by decide) ?_
                  refine aw_iinc (L2 := [some (rV K 30 0), some (iV (people)), some (iV (minutes)), some (iV 1), some (iV (z26)), some (iV (M 30 0 8 + 1)), some (iV (row + 1))]) dX5_holdGroup_129 rfl (by decide) rfl ?_
                  refine aw_goto (tgt := 81) dX5_holdGroup_132 (by decide) ?_
                  refine aw_mem (M' := hgS M26 Mb (M 30 0 8 + 1) (Int.toNat (row + 1))) (by first | rw [hgS_s e1.1, if_pos (by omega), q31, q32, qo, hMc, ← fz] | rw [hgS_s e1.1, if_neg (by omega), hMc]) ?_
                  exact ih81 (row + 1) (by omega) (by omega)
          refine aw_mem (M' := hgS M26 Mb (M 30 0 8 + 1) (Int.toNat 0)) (by rfl) ?_
          exact lp81 (((M 30 0 3 - 0).toNat) + 1) (0) (by exact ⟨Int.le_refl 0, hw.1⟩) (Nat.lt_succ_self _)
        · refine aw_iconst dX5_holdGroup_58 ?_
          refine aw_goto (tgt := 63) dX5_holdGroup_59 (by decide) ?_
          refine aw_cVi (g := 30) (As := [iV 2]) (rest := []) (c_X5_holds hst M26 (2) (by have n1 := hw.1; have n2 := hw.2.1; have t1 := bw.1; have t2 := bw.2; omega)) cv_X5_holds dX5_holdGroup_63 ml_X5_63 rfl rfl rfl rfl rfl (Nat.le_of_ble_eq_true rfl) (by decide) rfl rfl (by decide) ?_
          refine aw_st (st' := [iV 0]) (by rw [if_neg (by decide)]) ?_
          refine aw_if_ne (tgt := 71) dX5_holdGroup_66 (by decide) (by decide) (fun h => absurd h (by decide)) (fun _ => ?_)
          refine aw_iconst dX5_holdGroup_69 ?_
          exact aw_iret dX5_holdGroup_70 rfl rfl (by decide) (by decide) ⟨0, rfl, (by first | (exfalso; have n1 := hw.1; have n2 := hw.2.1; have t1 := bw.1; have t2 := bw.2; omega) | exact (Or.inl ⟨by have n1 := hw.1; have n2 := hw.2.1; have t1 := bw.1; have t2 := bw.2; omega, by first | rfl | (have n1 := hw.1; have n2 := hw.2.1; have t1 := bw.1; have t2 := bw.2; omega), by rfl⟩) | exact (Or.inr (Or.inl (by first | exact ⟨⟨by omega, Or.inl (by rcases h26.2 with a | a; exact a.2; exact absurd a.1 (by omega))⟩, rfl, M26, h26.1, rfl⟩ | exact ⟨⟨by omega, Or.inr (by have n1 := hw.1; have n2 := hw.2.1; have t1 := bw.1; have t2 := bw.2; omega)⟩, rfl, M26, h26.1, rfl⟩))) | exact (Or.inr (Or.inr (by exact ⟨⟨by omega, by have n1 := hw.1; have n2 := hw.2.1; have t1 := bw.1; have t2 := bw.2; omega⟩, rfl, M26, z26, h26.1, hsp, by have q : row = M 30 0 3 := (by omega); rw [← hMc, q, ← hMb]⟩))))⟩
    · refine aw_if_eq (tgt := 18) dX5_holdGroup_11 (by decide) (by decide) (fun _ => ?_) (fun h => absurd (by decide) h)
      refine aw_iconst dX5_holdGroup_18 ?_
      refine aw_istore_n (L2 := [some (rV K 30 0), some (iV (people)), some (iV (minutes)), some (iV 0), none, none, none]) dX5_holdGroup_19 rfl (by decide) rfl ?_
      refine aw_iload_n dX5_holdGroup_20 rfl rfl ?_
      refine aw_if_eq (tgt := 32) dX5_holdGroup_21 (by decide) (by decide) (fun _ => ?_) (fun h => absurd (by decide) h)
      refine aw_iconst dX5_holdGroup_32 ?_
      refine aw_istore (L2 := [some (rV K 30 0), some (iV (people)), some (iV (minutes)), some (iV 0), some (iV 0), none, none]) dX5_holdGroup_33 (by decide) rfl ?_
      refine aw_aload_n dX5_holdGroup_35 rfl rfl ?_
      refine aw_iload_n dX5_holdGroup_36 rfl rfl ?_
      refine aw_if_ne (tgt := 44) dX5_holdGroup_37 (by decide) (by decide) (fun h => absurd h (by decide)) (fun _ => ?_)
      refine aw_iconst dX5_holdGroup_40 ?_
      refine aw_goto (tgt := 63) dX5_holdGroup_41 (by decide) ?_
      refine aw_cVi (g := 30) (As := [iV 1]) (rest := []) (c_X5_holds hst M (1) (by have n1 := hw.1; have n2 := hw.2.1; have t1 := bw.1; have t2 := bw.2; omega)) cv_X5_holds dX5_holdGroup_63 ml_X5_63 rfl rfl rfl rfl rfl (Nat.le_of_ble_eq_true rfl) (by decide) rfl rfl (by decide) ?_
      refine aw_st (st' := [iV 0]) (by rw [if_neg (by decide)]) ?_
      refine aw_if_ne (tgt := 71) dX5_holdGroup_66 (by decide) (by decide) (fun h => absurd h (by decide)) (fun _ => ?_)
      refine aw_iconst dX5_holdGroup_69 ?_
      exact aw_iret dX5_holdGroup_70 rfl rfl (by decide) (by decide) ⟨0, rfl, (by first | (exfalso; have n1 := hw.1; have n2 := hw.2.1; have t1 := bw.1; have t2 := bw.2; omega) | exact (Or.inl ⟨by have n1 := hw.1; have n2 := hw.2.1; have t1 := bw.1; have t2 := bw.2; omega, by first | rfl | (have n1 := hw.1; have n2 := hw.2.1; have t1 := bw.1; have t2 := bw.2; omega), by rfl⟩) | exact (Or.inr (Or.inl (by first | exact ⟨⟨by omega, Or.inl (by rcases h26.2 with a | a; exact a.2; exact absurd a.1 (by omega))⟩, rfl, M26, h26.1, rfl⟩ | exact ⟨⟨by omega, Or.inr (by have n1 := hw.1; have n2 := hw.2.1; have t1 := bw.1; have t2 := bw.2; omega)⟩, rfl, M26, h26.1, rfl⟩))) | exact (Or.inr (Or.inr (by exact ⟨⟨by omega, by have n1 := hw.1; have n2 := hw.2.1; have t1 := bw.1; have t2 := bw.2; omega⟩, rfl, M26, z26, h26.1, hsp, by have q : row = M 30 0 3 := (by omega); rw [← hMc, q, ← hMb]⟩))))⟩
  · refine aw_if_eq (tgt := 18) dX5_holdGroup_4 (by decide) (by decide) (fun _ => ?_) (fun h => absurd (by decide) h)
    refine aw_iconst dX5_holdGroup_18 ?_
    refine aw_istore_n (L2 := [some (rV K 30 0), some (iV (people)), some (iV (minutes)), some (iV 0), none, none, none]) dX5_holdGroup_19 rfl (by decide) rfl ?_
    refine aw_iload_n dX5_holdGroup_20 rfl rfl ?_
    refine aw_if_eq (tgt := 32) dX5_holdGroup_21 (by decide) (by decide) (fun _ => ?_) (fun h => absurd (by decide) h)
    refine aw_iconst dX5_holdGroup_32 ?_
    refine aw_istore (L2 := [some (rV K 30 0), some (iV (people)), some (iV (minutes)), some (iV 0), some (iV 0), none, none]) dX5_holdGroup_33 (by decide) rfl ?_
    refine aw_aload_n dX5_holdGroup_35 rfl rfl ?_
    refine aw_iload_n dX5_holdGroup_36 rfl rfl ?_
    refine aw_if_ne (tgt := 44) dX5_holdGroup_37 (by decide) (by decide) (fun h => absurd h (by decide)) (fun _ => ?_)
    refine aw_iconst dX5_holdGroup_40 ?_
    refine aw_goto (tgt := 63) dX5_holdGroup_41 (by decide) ?_
    refine aw_cVi (g := 30) (As := [iV 1]) (rest := []) (c_X5_holds hst M (1) (by have n1 := hw.1; have n2 := hw.2.1; have t1 := bw.1; have t2 := bw.2; omega)) cv_X5_holds dX5_holdGroup_63 ml_X5_63 rfl rfl rfl rfl rfl (Nat.le_of_ble_eq_true rfl) (by decide) rfl rfl (by decide) ?_
    refine aw_st (st' := [iV 0]) (by rw [if_neg (by decide)]) ?_
    refine aw_if_ne (tgt := 71) dX5_holdGroup_66 (by decide) (by decide) (fun h => absurd h (by decide)) (fun _ => ?_)
    refine aw_iconst dX5_holdGroup_69 ?_
    exact aw_iret dX5_holdGroup_70 rfl rfl (by decide) (by decide) ⟨0, rfl, (by first | (exfalso; have n1 := hw.1; have n2 := hw.2.1; have t1 := bw.1; have t2 := bw.2; omega) | exact (Or.inl ⟨by have n1 := hw.1; have n2 := hw.2.1; have t1 := bw.1; have t2 := bw.2; omega, by first | rfl | (have n1 := hw.1; have n2 := hw.2.1; have t1 := bw.1; have t2 := bw.2; omega), by rfl⟩) | exact (Or.inr (Or.inl (by first | exact ⟨⟨by omega, Or.inl (by rcases h26.2 with a | a; exact a.2; exact absurd a.1 (by omega))⟩, rfl, M26, h26.1, rfl⟩ | exact ⟨⟨by omega, Or.inr (by have n1 := hw.1; have n2 := hw.2.1; have t1 := bw.1; have t2 := bw.2; omega)⟩, rfl, M26, h26.1, rfl⟩))) | exact (Or.inr (Or.inr (by exact ⟨⟨by omega, by have n1 := hw.1; have n2 := hw.2.1; have t1 := bw.1; have t2 := bw.2; omega⟩, rfl, M26, z26, h26.1, hsp, by have q : row = M 30 0 3 := (by omega); rw [← hMc, q, ← hMb]⟩))))⟩
set_option maxHeartbeats 4000000 in
set_option maxRecDepth 20000 in
theorem c_X5_ticketState {K : WPar} {l : Launch} (hst : l.stackTraces = false) (M : Mem) (ticket : Int) (r_ticket : inR ticket) (bw : BWm M) : CT K l iX5_ticketState [rV K 30 0, iV (ticket)] M (rZm (fun z m => ((¬ (1 ≤ ticket ∧ ticket ≤ M 30 0 8)) ∧ z = 0 ∧ m = thr M 1) ∨ ((1 ≤ ticket ∧ ticket ≤ M 30 0 8) ∧ z = M 35 0 ticket ∧ m = thr M 0))) := by
  refine aw_met [some (rV K 30 0), some (iV (ticket))] hst (by decide) rfl (Nat.le_of_ble_eq_true rfl) rfl rfl (lcat rfl) ?_
  refine aw_rng (fun hM => ?_)
  refine aw_aload_n dX5_ticketState_0 rfl rfl ?_
  refine aw_aload_n dX5_ticketState_1 rfl rfl ?_
  refine aw_iload_n dX5_ticketState_2 rfl rfl ?_
  refine aw_cVb (g := 30) (As := [iV (ticket)]) (rest := [rV K 30 0]) (c_X5_isTicket hst M (ticket) (by have t1 := bw.1; have t2 := bw.2; omega) (by have t1 := bw.1; have t2 := bw.2; omega)) cv_X5_isTicket dX5_ticketState_3 ml_X5_143 rfl rfl rfl rfl rfl (Nat.le_of_ble_eq_true rfl) (by decide) rfl rfl (by decide) (fun h3 => ?_) (fun h3 => ?_)
  · refine aw_if_eq (tgt := 13) dX5_ticketState_6 (by decide) (by decide) (fun h => absurd h (by decide)) (fun _ => ?_)
    refine aw_iconst dX5_ticketState_9 ?_
    refine aw_goto (tgt := 14) dX5_ticketState_10 (by decide) ?_
    refine aw_cVi (g := 30) (As := [iV 0]) (rest := []) (c_X5_holds hst M (0) (by have t1 := bw.1; have t2 := bw.2; omega)) cv_X5_holds dX5_ticketState_14 ml_X5_63 rfl rfl rfl rfl rfl (Nat.le_of_ble_eq_true rfl) (by decide) rfl rfl (by decide) ?_
    refine aw_st (st' := [iV 1]) (by rw [if_pos (by decide)]) ?_
    refine aw_if_eq (tgt := 29) dX5_ticketState_17 (by decide) (by decide) (fun h => absurd h (by decide)) (fun _ => ?_)
    refine aw_aload_n dX5_ticketState_20 rfl rfl ?_
    refine aw_getr (g := 30) rfl rfl ly_X5 rfl (k := 9) dX5_ticketState_21 (by decide) fl_X5_22 rfl ?_
    refine aw_iload_n dX5_ticketState_24 rfl rfl ?_
    refine aw_iald (g := 35) (n := 101) rfl (by decide) dX5_ticketState_25 (by decide) (by show 0 ≤ ticket ∧ ticket < (101 : Int); have t1 := bw.1; have t2 := bw.2; omega) (fun r25 => ?_)
    have r25 : inR (M 35 0 ticket) := r25
    refine aw_st (st' := [iV (M 35 0 ticket)]) (by rw [show ((thr M 0) 35 0 ticket : Int) = M 35 0 ticket from by rfl]) ?_
    refine aw_goto (tgt := 30) dX5_ticketState_26 (by decide) ?_
    exact aw_iret dX5_ticketState_30 rfl rfl (by decide) (by decide) ⟨M 35 0 ticket, rfl, (by first | (exfalso; have t1 := bw.1; have t2 := bw.2; omega) | exact (Or.inl ⟨by have t1 := bw.1; have t2 := bw.2; omega, by first | rfl | (have t1 := bw.1; have t2 := bw.2; omega), by rfl⟩) | exact (Or.inr ⟨by have t1 := bw.1; have t2 := bw.2; omega, by first | rfl | (have t1 := bw.1; have t2 := bw.2; omega), by rfl⟩))⟩
  · refine aw_if_eq (tgt := 13) dX5_ticketState_6 (by decide) (by decide) (fun _ => ?_) (fun h => absurd (by decide) h)
    refine aw_iconst dX5_ticketState_13 ?_
    refine aw_cVi (g := 30) (As := [iV 1]) (rest := []) (c_X5_holds hst M (1) (by have t1 := bw.1; have t2 := bw.2; omega)) cv_X5_holds dX5_ticketState_14 ml_X5_63 rfl rfl rfl rfl rfl (Nat.le_of_ble_eq_true rfl) (by decide) rfl rfl (by decide) ?_
    refine aw_st (st' := [iV 0]) (by rw [if_neg (by decide)]) ?_
    refine aw_if_eq (tgt := 29) dX5_ticketState_17 (by decide) (by decide) (fun _ => ?_) (fun h => absurd (by decide) h)
    refine aw_iconst dX5_ticketState_29 ?_
    exact aw_iret dX5_ticketState_30 rfl rfl (by decide) (by decide) ⟨0, rfl, (by first | (exfalso; have t1 := bw.1; have t2 := bw.2; omega) | exact (Or.inl ⟨by have t1 := bw.1; have t2 := bw.2; omega, by first | rfl | (have t1 := bw.1; have t2 := bw.2; omega), by rfl⟩) | exact (Or.inr ⟨by have t1 := bw.1; have t2 := bw.2; omega, by first | rfl | (have t1 := bw.1; have t2 := bw.2; omega), by rfl⟩))⟩
set_option maxHeartbeats 4000000 in
set_option maxRecDepth 20000 in
theorem c_X5_many {K : WPar} {l : Launch} (hst : l.stackTraces = false) (M : Mem) (ticket : Int) (r_ticket : inR ticket) : CT K l iX5_many [rV K 30 0, iV (ticket)] M (rI (manyM M ticket) (M)) := by
  refine aw_met [some (rV K 30 0), some (iV (ticket)), none, none] hst (by decide) rfl (Nat.le_of_ble_eq_true rfl) rfl rfl (lcat rfl) ?_
  refine aw_rng (fun hM => ?_)
  refine aw_iconst dX5_many_0 ?_
  refine aw_istore_n (L2 := [some (rV K 30 0), some (iV (ticket)), some (iV 0), none]) dX5_many_1 rfl (by decide) rfl ?_
  refine aw_iconst dX5_many_2 ?_
  refine aw_istore_n (L2 := [some (rV K 30 0), some (iV (ticket)), some (iV 0), some (iV 0)]) dX5_many_3 rfl (by decide) rfl ?_
  have lp4 : ∀ (n4 : Nat) (acc pl : Int), (0 ≤ pl ∧ pl ≤ 240) → (acc = sumI (fun a => if M 34 0 a = ticket then 1 else 0) pl) → (0 ≤ acc ∧ acc ≤ pl) → (((240 : Int) - pl).toNat) < n4 → AW K l iX5_many (ZM K iX5_many (rI (manyM M ticket) (M))) 4 [some (rV K 30 0), some (iV (ticket)), some (iV (acc)), some (iV (pl))] [] (M) 0 0 := by
    intro n4
    induction n4 with
    | zero =>
      intro acc pl e1 e2 e3 hm4
      exact absurd hm4 (Nat.not_lt_zero _)
    | succ n4 ih4 =>
      intro acc pl e1 e2 e3 hm4
      refine aw_iload_n dX5_many_4 rfl rfl ?_
      refine aw_sipush dX5_many_5 rfl ?_
      refine aw_icmp_ge (tgt := 35) dX5_many_8 (by decide) (by omega) (by omega) (fun h8 => ?_) (fun h8 => ?_)
      · refine aw_iload_n dX5_many_35 rfl rfl ?_
        exact aw_iret dX5_many_36 rfl rfl (by decide) (by decide) ⟨congrArg (fun z => Sum.inl (some z)) (by have q : pl = 240 := (by omega); rw [e2, q]), (by rfl)⟩
      · refine aw_iload_n dX5_many_11 rfl rfl ?_
        refine aw_aload_n dX5_many_12 rfl rfl ?_
        refine aw_getr (g := 30) rfl rfl ly_X5 rfl (k := 7) dX5_many_13 (by decide) fl_X5_19 rfl ?_
        refine aw_iload_n dX5_many_16 rfl rfl ?_
        refine aw_iald (g := 34) (n := 240) rfl (by decide) dX5_many_17 (by decide) (by show 0 ≤ pl ∧ pl < (240 : Int); omega) (fun r17 => ?_)
        refine aw_iload_n dX5_many_18 rfl rfl ?_
        refine aw_icmp_ne (tgt := 26) dX5_many_19 (by decide) (by omega) (by omega) (fun h19 => ?_) (fun h19 => ?_)
        · refine aw_iconst dX5_many_26 ?_
          refine aw_iadd dX5_many_27 ?_
          refine aw_istore_n (L2 := [some (rV K 30 0), some (iV (ticket)), some (iV (acc + 0)), some (iV (pl))]) dX5_many_28 rfl (by decide) rfl ?_
          refine aw_iinc (L2 := [some (rV K 30 0), some (iV (ticket)), some (iV (acc + 0)), some (iV (pl + 1))]) dX5_many_29 rfl (by decide) rfl ?_
          refine aw_goto (tgt := 4) dX5_many_32 (by decide) ?_
          exact ih4 (acc + 0) (pl + 1) (by omega) (by first | rw [sumI_s e1.1, if_pos (by assumption), e2] | rw [sumI_s e1.1, if_neg (by assumption), e2]) (by omega) (by omega)
        · refine aw_iconst dX5_many_22 ?_
          refine aw_goto (tgt := 27) dX5_many_23 (by decide) ?_
          refine aw_iadd dX5_many_27 ?_
          refine aw_istore_n (L2 := [some (rV K 30 0), some (iV (ticket)), some (iV (acc + 1)), some (iV (pl))]) dX5_many_28 rfl (by decide) rfl ?_
          refine aw_iinc (L2 := [some (rV K 30 0), some (iV (ticket)), some (iV (acc + 1)), some (iV (pl + 1))]) dX5_many_29 rfl (by decide) rfl ?_
          refine aw_goto (tgt := 4) dX5_many_32 (by decide) ?_
          exact ih4 (acc + 1) (pl + 1) (by omega) (by first | rw [sumI_s e1.1, if_pos (by assumption), e2] | rw [sumI_s e1.1, if_neg (by assumption), e2]) (by omega) (by omega)
  exact lp4 ((((240 : Int) - 0).toNat) + 1) (0) (0) (by omega) (by rfl) (by omega) (Nat.lt_succ_self _)
set_option maxHeartbeats 4000000 in
set_option maxRecDepth 20000 in
theorem c_X5_seatsOf {K : WPar} {l : Launch} (hst : l.stackTraces = false) (M : Mem) (ticket : Int) (r_ticket : inR ticket) (bw : BWm M) : CT K l iX5_seatsOf [rV K 30 0, iV (ticket)] M (rZm (fun z m => ((¬ (1 ≤ ticket ∧ ticket ≤ M 30 0 8)) ∧ z = 0 ∧ m = thr M 1) ∨ ((1 ≤ ticket ∧ ticket ≤ M 30 0 8) ∧ z = manyM M ticket ∧ m = thr M 0))) := by
  refine aw_met [some (rV K 30 0), some (iV (ticket))] hst (by decide) rfl (Nat.le_of_ble_eq_true rfl) rfl rfl (lcat rfl) ?_
  refine aw_rng (fun hM => ?_)
  refine aw_aload_n dX5_seatsOf_0 rfl rfl ?_
  refine aw_aload_n dX5_seatsOf_1 rfl rfl ?_
  refine aw_iload_n dX5_seatsOf_2 rfl rfl ?_
  refine aw_cVb (g := 30) (As := [iV (ticket)]) (rest := [rV K 30 0]) (c_X5_isTicket hst M (ticket) (by have t1 := bw.1; have t2 := bw.2; omega) (by have t1 := bw.1; have t2 := bw.2; omega)) cv_X5_isTicket dX5_seatsOf_3 ml_X5_143 rfl rfl rfl rfl rfl (Nat.le_of_ble_eq_true rfl) (by decide) rfl rfl (by decide) (fun h3 => ?_) (fun h3 => ?_)
  · refine aw_if_eq (tgt := 13) dX5_seatsOf_6 (by decide) (by decide) (fun h => absurd h (by decide)) (fun _ => ?_)
    refine aw_iconst dX5_seatsOf_9 ?_
    refine aw_goto (tgt := 14) dX5_seatsOf_10 (by decide) ?_
    refine aw_cVi (g := 30) (As := [iV 0]) (rest := []) (c_X5_holds hst M (0) (by have t1 := bw.1; have t2 := bw.2; omega)) cv_X5_holds dX5_seatsOf_14 ml_X5_63 rfl rfl rfl rfl rfl (Nat.le_of_ble_eq_true rfl) (by decide) rfl rfl (by decide) ?_
    refine aw_st (st' := [iV 1]) (by rw [if_pos (by decide)]) ?_
    refine aw_if_eq (tgt := 28) dX5_seatsOf_17 (by decide) (by decide) (fun h => absurd h (by decide)) (fun _ => ?_)
    refine aw_aload_n dX5_seatsOf_20 rfl rfl ?_
    refine aw_iload_n dX5_seatsOf_21 rfl rfl ?_
    refine aw_cVi (g := 30) (As := [iV (ticket)]) (rest := []) (c_X5_many hst (thr M 0) (ticket) (by have t1 := bw.1; have t2 := bw.2; omega)) cv_X5_many dX5_seatsOf_22 ml_X5_146 rfl rfl rfl rfl rfl (Nat.le_of_ble_eq_true rfl) (by decide) rfl rfl (by decide) ?_
    refine aw_st (st' := [iV (manyM M ticket)]) (by rw [show (manyM (thr M 0) ticket : Int) = manyM M ticket from by rfl]) ?_
    refine aw_goto (tgt := 29) dX5_seatsOf_25 (by decide) ?_
    exact aw_iret dX5_seatsOf_29 rfl rfl (by decide) (by decide) ⟨manyM M ticket, rfl, (by first | (exfalso; have t1 := bw.1; have t2 := bw.2; omega) | exact (Or.inl ⟨by have t1 := bw.1; have t2 := bw.2; omega, by first | rfl | (have t1 := bw.1; have t2 := bw.2; omega), by rfl⟩) | exact (Or.inr ⟨by have t1 := bw.1; have t2 := bw.2; omega, by first | rfl | (have t1 := bw.1; have t2 := bw.2; omega), by rfl⟩))⟩
  · refine aw_if_eq (tgt := 13) dX5_seatsOf_6 (by decide) (by decide) (fun _ => ?_) (fun h => absurd (by decide) h)
    refine aw_iconst dX5_seatsOf_13 ?_
    refine aw_cVi (g := 30) (As := [iV 1]) (rest := []) (c_X5_holds hst M (1) (by have t1 := bw.1; have t2 := bw.2; omega)) cv_X5_holds dX5_seatsOf_14 ml_X5_63 rfl rfl rfl rfl rfl (Nat.le_of_ble_eq_true rfl) (by decide) rfl rfl (by decide) ?_
    refine aw_st (st' := [iV 0]) (by rw [if_neg (by decide)]) ?_
    refine aw_if_eq (tgt := 28) dX5_seatsOf_17 (by decide) (by decide) (fun _ => ?_) (fun h => absurd (by decide) h)
    refine aw_iconst dX5_seatsOf_28 ?_
    exact aw_iret dX5_seatsOf_29 rfl rfl (by decide) (by decide) ⟨0, rfl, (by first | (exfalso; have t1 := bw.1; have t2 := bw.2; omega) | exact (Or.inl ⟨by have t1 := bw.1; have t2 := bw.2; omega, by first | rfl | (have t1 := bw.1; have t2 := bw.2; omega), by rfl⟩) | exact (Or.inr ⟨by have t1 := bw.1; have t2 := bw.2; omega, by first | rfl | (have t1 := bw.1; have t2 := bw.2; omega), by rfl⟩))⟩
set_option maxHeartbeats 4000000 in
set_option maxRecDepth 20000 in
theorem c_X5_priced {K : WPar} {l : Launch} (hst : l.stackTraces = false) (M : Mem) (ticket : Int) (r_ticket : inR ticket) (v_pr : ∀ r : Int, 0 ≤ r → r < 12 → 0 ≤ M 33 0 r ∧ M 33 0 r ≤ 10000) : CT K l iX5_priced [rV K 30 0, iV (ticket)] M (rI (pricM M ticket) (M)) := by
  refine aw_met [some (rV K 30 0), some (iV (ticket)), none, none] hst (by decide) rfl (Nat.le_of_ble_eq_true rfl) rfl rfl (lcat rfl) ?_
  refine aw_rng (fun hM => ?_)
  refine aw_iconst dX5_priced_0 ?_
  refine aw_istore_n (L2 := [some (rV K 30 0), some (iV (ticket)), some (iV 0), none]) dX5_priced_1 rfl (by decide) rfl ?_
  refine aw_iconst dX5_priced_2 ?_
  refine aw_istore_n (L2 := [some (rV K 30 0), some (iV (ticket)), some (iV 0), some (iV 0)]) dX5_priced_3 rfl (by decide) rfl ?_
  have lp4 : ∀ (n4 : Nat) (acc pl : Int), (0 ≤ pl ∧ pl ≤ 240) → (acc = sumI (fun a => if M 34 0 a = ticket then M 33 0 (a / 20) else 0) pl) → (0 ≤ acc ∧ acc ≤ 10000 * pl) → (((240 : Int) - pl).toNat) < n4 → AW K l iX5_priced (ZM K iX5_priced (rI (pricM M ticket) (M))) 4 [some (rV K 30 0), some (iV (ticket)), some (iV (acc)), some (iV (pl))] [] (M) 0 0 := by
    intro n4
    induction n4 with
    | zero =>
      intro acc pl e1 e2 e3 hm4
      exact absurd hm4 (Nat.not_lt_zero _)
    | succ n4 ih4 =>
      intro acc pl e1 e2 e3 hm4
      refine aw_iload_n dX5_priced_4 rfl rfl ?_
      refine aw_sipush dX5_priced_5 rfl ?_
      refine aw_icmp_ge (tgt := 43) dX5_priced_8 (by decide) (by omega) (by omega) (fun h8 => ?_) (fun h8 => ?_)
      · refine aw_iload_n dX5_priced_43 rfl rfl ?_
        exact aw_iret dX5_priced_44 rfl rfl (by decide) (by decide) ⟨congrArg (fun z => Sum.inl (some z)) (by have q : pl = 240 := (by omega); rw [e2, q]), (by rfl)⟩
      · refine aw_iload_n dX5_priced_11 rfl rfl ?_
        refine aw_aload_n dX5_priced_12 rfl rfl ?_
        refine aw_getr (g := 30) rfl rfl ly_X5 rfl (k := 7) dX5_priced_13 (by decide) fl_X5_19 rfl ?_
        refine aw_iload_n dX5_priced_16 rfl rfl ?_
        refine aw_iald (g := 34) (n := 240) rfl (by decide) dX5_priced_17 (by decide) (by show 0 ≤ pl ∧ pl < (240 : Int); omega) (fun r17 => ?_)
        refine aw_iload_n dX5_priced_18 rfl rfl ?_
        refine aw_icmp_ne (tgt := 34) dX5_priced_19 (by decide) (by omega) (by omega) (fun h19 => ?_) (fun h19 => ?_)
        · refine aw_iconst dX5_priced_34 ?_
          refine aw_iadd dX5_priced_35 ?_
          refine aw_istore_n (L2 := [some (rV K 30 0), some (iV (ticket)), some (iV (acc + 0)), some (iV (pl))]) dX5_priced_36 rfl (by decide) rfl ?_
          refine aw_iinc (L2 := [some (rV K 30 0), some (iV (ticket)), some (iV (acc + 0)), some (iV (pl + 1))]) dX5_priced_37 rfl (by decide) rfl ?_
          refine aw_goto (tgt := 4) dX5_priced_40 (by decide) ?_
          exact ih4 (acc + 0) (pl + 1) (by omega) (by first | rw [sumI_s e1.1, if_pos (by assumption), e2] | rw [sumI_s e1.1, if_neg (by assumption), e2]) (by first | omega | (have q := v_pr (pl / 20) (by omega) (by omega); omega)) (by omega)
        · refine aw_aload_n dX5_priced_22 rfl rfl ?_
          refine aw_getr (g := 30) rfl rfl ly_X5 rfl (k := 6) dX5_priced_23 (by decide) fl_X5_16 rfl ?_
          refine aw_iload_n dX5_priced_26 rfl rfl ?_
          refine aw_bipush dX5_priced_27 rfl ?_
          refine aw_idiv dX5_priced_29 (by omega) (by omega) ?_
          refine aw_iald (g := 33) (n := 12) rfl (by decide) dX5_priced_30 (by decide) (by show 0 ≤ (pl / 20) ∧ (pl / 20) < (12 : Int); omega) (fun r30 => ?_)
          refine aw_goto (tgt := 35) dX5_priced_31 (by decide) ?_
          refine aw_iadd dX5_priced_35 ?_
          refine aw_istore_n (L2 := [some (rV K 30 0), some (iV (ticket)), some (iV (acc + (M 33 0 (pl / 20)))), some (iV (pl))]) dX5_priced_36 rfl (by decide) rfl ?_
          refine aw_iinc (L2 := [some (rV K 30 0), some (iV (ticket)), some (iV (acc + (M 33 0 (pl / 20)))), some (iV (pl + 1))]) dX5_priced_37 rfl (by decide) rfl ?_
          refine aw_goto (tgt := 4) dX5_priced_40 (by decide) ?_
          exact ih4 (acc + (M 33 0 (pl / 20))) (pl + 1) (by omega) (by first | rw [sumI_s e1.1, if_pos (by assumption), e2] | rw [sumI_s e1.1, if_neg (by assumption), e2]) (by first | omega | (have q := v_pr (pl / 20) (by omega) (by omega); omega)) (by omega)
  exact lp4 ((((240 : Int) - 0).toNat) + 1) (0) (0) (by omega) (by rfl) (by omega) (Nat.lt_succ_self _)
set_option maxHeartbeats 4000000 in
set_option maxRecDepth 20000 in
theorem c_X5_priceOf {K : WPar} {l : Launch} (hst : l.stackTraces = false) (M : Mem) (ticket : Int) (r_ticket : inR ticket) (bw : BWm M) (v_pr : ∀ r : Int, 0 ≤ r → r < 12 → 0 ≤ M 33 0 r ∧ M 33 0 r ≤ 10000) : CT K l iX5_priceOf [rV K 30 0, iV (ticket)] M (rZm (fun z m => ((¬ (1 ≤ ticket ∧ ticket ≤ M 30 0 8)) ∧ z = 0 ∧ m = thr M 1) ∨ ((1 ≤ ticket ∧ ticket ≤ M 30 0 8) ∧ z = pricM M ticket ∧ m = thr M 0))) := by
  refine aw_met [some (rV K 30 0), some (iV (ticket))] hst (by decide) rfl (Nat.le_of_ble_eq_true rfl) rfl rfl (lcat rfl) ?_
  refine aw_rng (fun hM => ?_)
  refine aw_aload_n dX5_priceOf_0 rfl rfl ?_
  refine aw_aload_n dX5_priceOf_1 rfl rfl ?_
  refine aw_iload_n dX5_priceOf_2 rfl rfl ?_
  refine aw_cVb (g := 30) (As := [iV (ticket)]) (rest := [rV K 30 0]) (c_X5_isTicket hst M (ticket) (by have t1 := bw.1; have t2 := bw.2; omega) (by have t1 := bw.1; have t2 := bw.2; omega)) cv_X5_isTicket dX5_priceOf_3 ml_X5_143 rfl rfl rfl rfl rfl (Nat.le_of_ble_eq_true rfl) (by decide) rfl rfl (by decide) (fun h3 => ?_) (fun h3 => ?_)
  · refine aw_if_eq (tgt := 13) dX5_priceOf_6 (by decide) (by decide) (fun h => absurd h (by decide)) (fun _ => ?_)
    refine aw_iconst dX5_priceOf_9 ?_
    refine aw_goto (tgt := 14) dX5_priceOf_10 (by decide) ?_
    refine aw_cVi (g := 30) (As := [iV 0]) (rest := []) (c_X5_holds hst M (0) (by have t1 := bw.1; have t2 := bw.2; omega)) cv_X5_holds dX5_priceOf_14 ml_X5_63 rfl rfl rfl rfl rfl (Nat.le_of_ble_eq_true rfl) (by decide) rfl rfl (by decide) ?_
    refine aw_st (st' := [iV 1]) (by rw [if_pos (by decide)]) ?_
    refine aw_if_eq (tgt := 28) dX5_priceOf_17 (by decide) (by decide) (fun h => absurd h (by decide)) (fun _ => ?_)
    refine aw_aload_n dX5_priceOf_20 rfl rfl ?_
    refine aw_iload_n dX5_priceOf_21 rfl rfl ?_
    refine aw_cVi (g := 30) (As := [iV (ticket)]) (rest := []) (c_X5_priced hst (thr M 0) (ticket) (by have t1 := bw.1; have t2 := bw.2; omega) (by exact v_pr)) cv_X5_priced dX5_priceOf_22 ml_X5_149 rfl rfl rfl rfl rfl (Nat.le_of_ble_eq_true rfl) (by decide) rfl rfl (by decide) ?_
    refine aw_st (st' := [iV (pricM M ticket)]) (by rw [show (pricM (thr M 0) ticket : Int) = pricM M ticket from by rfl]) ?_
    refine aw_goto (tgt := 29) dX5_priceOf_25 (by decide) ?_
    exact aw_iret dX5_priceOf_29 rfl rfl (by decide) (by decide) ⟨pricM M ticket, rfl, (by first | (exfalso; have t1 := bw.1; have t2 := bw.2; omega) | exact (Or.inl ⟨by have t1 := bw.1; have t2 := bw.2; omega, by first | rfl | (have t1 := bw.1; have t2 := bw.2; omega), by rfl⟩) | exact (Or.inr ⟨by have t1 := bw.1; have t2 := bw.2; omega, by first | rfl | (have t1 := bw.1; have t2 := bw.2; omega), by rfl⟩))⟩
  · refine aw_if_eq (tgt := 13) dX5_priceOf_6 (by decide) (by decide) (fun _ => ?_) (fun h => absurd (by decide) h)
    refine aw_iconst dX5_priceOf_13 ?_
    refine aw_cVi (g := 30) (As := [iV 1]) (rest := []) (c_X5_holds hst M (1) (by have t1 := bw.1; have t2 := bw.2; omega)) cv_X5_holds dX5_priceOf_14 ml_X5_63 rfl rfl rfl rfl rfl (Nat.le_of_ble_eq_true rfl) (by decide) rfl rfl (by decide) ?_
    refine aw_st (st' := [iV 0]) (by rw [if_neg (by decide)]) ?_
    refine aw_if_eq (tgt := 28) dX5_priceOf_17 (by decide) (by decide) (fun _ => ?_) (fun h => absurd (by decide) h)
    refine aw_iconst dX5_priceOf_28 ?_
    exact aw_iret dX5_priceOf_29 rfl rfl (by decide) (by decide) ⟨0, rfl, (by first | (exfalso; have t1 := bw.1; have t2 := bw.2; omega) | exact (Or.inl ⟨by have t1 := bw.1; have t2 := bw.2; omega, by first | rfl | (have t1 := bw.1; have t2 := bw.2; omega), by rfl⟩) | exact (Or.inr ⟨by have t1 := bw.1; have t2 := bw.2; omega, by first | rfl | (have t1 := bw.1; have t2 := bw.2; omega), by rfl⟩))⟩
set_option maxHeartbeats 4000000 in
set_option maxRecDepth 20000 in
theorem c_X5_extend {K : WPar} {l : Launch} (hst : l.stackTraces = false) (M : Mem) (ticket : Int) (minutes : Int) (r_ticket : inR ticket) (r_minutes : inR minutes) (bw : BWm M) (v_now : 0 ≤ M 30 0 1 ∧ M 30 0 1 ≤ 1000000) (v_x : 1 ≤ ticket → ticket ≤ M 30 0 8 → M 37 0 ticket ≤ 2) : CT K l iX5_extend [rV K 30 0, iV (ticket), iV (minutes)] M (rZm (fun z m => ((¬ (1 ≤ ticket ∧ ticket ≤ M 30 0 8)) ∧ z = 0 ∧ m = thr M 1) ∨ (((1 ≤ ticket ∧ ticket ≤ M 30 0 8) ∧ ¬ (1 ≤ minutes ∧ minutes ≤ 200)) ∧ z = 0 ∧ m = thr M 2) ∨ ((((1 ≤ ticket ∧ ticket ≤ M 30 0 8) ∧ (1 ≤ minutes ∧ minutes ≤ 200)) ∧ ¬ (M 35 0 ticket = 0 ∧ M 37 0 ticket ≠ 2)) ∧ z = 0 ∧ m = thr M 3) ∨ ((((1 ≤ ticket ∧ ticket ≤ M 30 0 8) ∧ (1 ≤ minutes ∧ minutes ≤ 200)) ∧ (M 35 0 ticket = 0 ∧ M 37 0 ticket ≠ 2)) ∧ z = M 30 0 1 + minutes ∧ m = updM (updM (thr M 0) 37 0 ticket (M 37 0 ticket + 1)) 36 0 ticket (M 30 0 1 + minutes)))) := by
  refine aw_met [some (rV K 30 0), some (iV (ticket)), some (iV (minutes))] hst (by decide) rfl (Nat.le_of_ble_eq_true rfl) rfl rfl (lcat rfl) ?_
  refine aw_rng (fun hM => ?_)
  have x37 := hM 37 0 ticket; have x35 := hM 35 0 ticket
  refine aw_aload_n dX5_extend_0 rfl rfl ?_
  refine aw_aload_n dX5_extend_1 rfl rfl ?_
  refine aw_iload_n dX5_extend_2 rfl rfl ?_
  refine aw_cVb (g := 30) (As := [iV (ticket)]) (rest := [rV K 30 0]) (c_X5_isTicket hst M (ticket) (by have t1 := bw.1; have t2 := bw.2; omega) (by have t1 := bw.1; have t2 := bw.2; omega)) cv_X5_isTicket dX5_extend_3 ml_X5_143 rfl rfl rfl rfl rfl (Nat.le_of_ble_eq_true rfl) (by decide) rfl rfl (by decide) (fun h3 => ?_) (fun h3 => ?_)
  · refine aw_if_ne (tgt := 13) dX5_extend_6 (by decide) (by decide) (fun _ => ?_) (fun h => absurd h (by decide))
    refine aw_iload_n dX5_extend_13 rfl rfl ?_
    refine aw_cSb (As := [iV (minutes)]) (rest := [rV K 30 0]) (c_X5_isMinutes hst M (minutes) (by have t1 := bw.1; have t2 := bw.2; omega)) cs_X5_isMinutes dX5_extend_14 ml_X5_112 rfl rfl (Nat.le_of_ble_eq_true rfl) (by decide) rfl rfl (by decide) (fun h14 => ?_) (fun h14 => ?_)
    · refine aw_if_ne (tgt := 24) dX5_extend_17 (by decide) (by decide) (fun _ => ?_) (fun h => absurd h (by decide))
      refine aw_aload_n dX5_extend_24 rfl rfl ?_
      refine aw_getr (g := 30) rfl rfl ly_X5 rfl (k := 9) dX5_extend_25 (by decide) fl_X5_22 rfl ?_
      refine aw_iload_n dX5_extend_28 rfl rfl ?_
      refine aw_iald (g := 35) (n := 101) rfl (by decide) dX5_extend_29 (by decide) (by show 0 ≤ ticket ∧ ticket < (101 : Int); have t1 := bw.1; have t2 := bw.2; omega) (fun r29 => ?_)
      refine aw_if_ne (tgt := 43) dX5_extend_30 (by decide) (by have t1 := bw.1; have t2 := bw.2; omega) (fun h30 => ?_) (fun h30 => ?_)
      · refine aw_iconst dX5_extend_43 ?_
        refine aw_goto (tgt := 48) dX5_extend_44 (by decide) ?_
        refine aw_cVi (g := 30) (As := [iV 3]) (rest := []) (c_X5_holds hst M (3) (by have t1 := bw.1; have t2 := bw.2; omega)) cv_X5_holds dX5_extend_48 ml_X5_63 rfl rfl rfl rfl rfl (Nat.le_of_ble_eq_true rfl) (by decide) rfl rfl (by decide) ?_
        refine aw_st (st' := [iV 0]) (by rw [if_neg (by decide)]) ?_
        refine aw_if_ne (tgt := 56) dX5_extend_51 (by decide) (by decide) (fun h => absurd h (by decide)) (fun _ => ?_)
        refine aw_iconst dX5_extend_54 ?_
        exact aw_iret dX5_extend_55 rfl rfl (by decide) (by decide) ⟨0, rfl, (by first | (exfalso; have t1 := bw.1; have t2 := bw.2; omega) | exact (Or.inl ⟨by have t1 := bw.1; have t2 := bw.2; omega, by first | rfl | (have t1 := bw.1; have t2 := bw.2; omega), by rfl⟩) | exact (Or.inr (Or.inl ⟨by have t1 := bw.1; have t2 := bw.2; omega, by first | rfl | (have t1 := bw.1; have t2 := bw.2; omega), by rfl⟩)) | exact (Or.inr (Or.inr (Or.inl ⟨by have t1 := bw.1; have t2 := bw.2; omega, by first | rfl | (have t1 := bw.1; have t2 := bw.2; omega), by rfl⟩))) | exact (Or.inr (Or.inr (Or.inr ⟨by have t1 := bw.1; have t2 := bw.2; omega, by first | rfl | (have t1 := bw.1; have t2 := bw.2; omega), by rfl⟩))))⟩
      · refine aw_aload_n dX5_extend_33 rfl rfl ?_
        refine aw_getr (g := 30) rfl rfl ly_X5 rfl (k := 11) dX5_extend_34 (by decide) fl_X5_28 rfl ?_
        refine aw_iload_n dX5_extend_37 rfl rfl ?_
        refine aw_iald (g := 37) (n := 101) rfl (by decide) dX5_extend_38 (by decide) (by show 0 ≤ ticket ∧ ticket < (101 : Int); have t1 := bw.1; have t2 := bw.2; omega) (fun r38 => ?_)
        refine aw_iconst dX5_extend_39 ?_
        refine aw_icmp_ne (tgt := 47) dX5_extend_40 (by decide) (by have t1 := bw.1; have t2 := bw.2; omega) (by have t1 := bw.1; have t2 := bw.2; omega) (fun h40 => ?_) (fun h40 => ?_)
        · refine aw_iconst dX5_extend_47 ?_
          refine aw_cVi (g := 30) (As := [iV 0]) (rest := []) (c_X5_holds hst M (0) (by have t1 := bw.1; have t2 := bw.2; omega)) cv_X5_holds dX5_extend_48 ml_X5_63 rfl rfl rfl rfl rfl (Nat.le_of_ble_eq_true rfl) (by decide) rfl rfl (by decide) ?_
          refine aw_st (st' := [iV 1]) (by rw [if_pos (by decide)]) ?_
          refine aw_if_ne (tgt := 56) dX5_extend_51 (by decide) (by decide) (fun _ => ?_) (fun h => absurd h (by decide))
          refine aw_aload_n dX5_extend_56 rfl rfl ?_
          refine aw_getr (g := 30) rfl rfl ly_X5 rfl (k := 11) dX5_extend_57 (by decide) fl_X5_28 rfl ?_
          refine aw_iload_n dX5_extend_60 rfl rfl ?_
          refine aw_dup2 dX5_extend_61 rfl rfl ?_
          refine aw_iald (g := 37) (n := 101) rfl (by decide) dX5_extend_62 (by decide) (by show 0 ≤ ticket ∧ ticket < (101 : Int); have t1 := bw.1; have t2 := bw.2; omega) (fun r62 => ?_)
          have r62 : inR (M 37 0 ticket) := r62
          refine aw_st (st' := [iV (M 37 0 ticket), iV (ticket), rV K 37 0]) (by rw [show ((thr M 0) 37 0 ticket : Int) = M 37 0 ticket from by rfl]) ?_
          refine aw_iconst dX5_extend_63 ?_
          refine aw_iadd dX5_extend_64 ?_
          refine aw_iast (g := 37) (n := 101) (M' := updM (thr M 0) 37 0 ticket ((M 37 0 ticket) + 1)) rfl (by decide) dX5_extend_65 (by decide) (by show 0 ≤ ticket ∧ ticket < (101 : Int); have t1 := bw.1; have t2 := bw.2; omega) (by have t1 := bw.1; have t2 := bw.2; omega) rfl ?_
          refine aw_aload_n dX5_extend_66 rfl rfl ?_
          refine aw_getr (g := 30) rfl rfl ly_X5 rfl (k := 10) dX5_extend_67 (by decide) fl_X5_25 rfl ?_
          refine aw_iload_n dX5_extend_70 rfl rfl ?_
          refine aw_aload_n dX5_extend_71 rfl rfl ?_
          refine aw_geti (g := 30) rfl rfl ly_X5 rfl (k := 1) 1 rfl dX5_extend_72 (by decide) fl_X5_109 rfl (fun r72 => ?_)
          refine aw_st (st' := [iV (M 30 0 1), iV (ticket), rV K 36 0]) (by rw [show ((updM (thr M 0) 37 0 ticket ((M 37 0 ticket) + 1)) 30 0 1 : Int) = M 30 0 1 from by rfl]) ?_
          refine aw_iload_n dX5_extend_75 rfl rfl ?_
          refine aw_iadd dX5_extend_76 ?_
          refine aw_iast (g := 36) (n := 101) (M' := updM (updM (thr M 0) 37 0 ticket ((M 37 0 ticket) + 1)) 36 0 ticket ((M 30 0 1) + minutes)) rfl (by decide) dX5_extend_77 (by decide) (by show 0 ≤ ticket ∧ ticket < (101 : Int); have t1 := bw.1; have t2 := bw.2; omega) (by have t1 := bw.1; have t2 := bw.2; omega) rfl ?_
          refine aw_aload_n dX5_extend_78 rfl rfl ?_
          refine aw_getr (g := 30) rfl rfl ly_X5 rfl (k := 10) dX5_extend_79 (by decide) fl_X5_25 rfl ?_
          refine aw_iload_n dX5_extend_82 rfl rfl ?_
          refine aw_iald (g := 36) (n := 101) rfl (by decide) dX5_extend_83 (by decide) (by show 0 ≤ ticket ∧ ticket < (101 : Int); have t1 := bw.1; have t2 := bw.2; omega) (fun r83 => ?_)
          refine aw_st (st' := [iV (M 30 0 1 + minutes)]) (by rw [show ((updM (updM (thr M 0) 37 0 ticket ((M 37 0 ticket) + 1)) 36 0 ticket ((M 30 0 1) + minutes)) 36 0 ticket : Int) = M 30 0 1 + minutes from by exact updM_same]) ?_
          exact aw_iret dX5_extend_84 rfl rfl (by decide) (by decide) ⟨M 30 0 1 + minutes, rfl, (by first | (exfalso; have t1 := bw.1; have t2 := bw.2; omega) | exact (Or.inl ⟨by have t1 := bw.1; have t2 := bw.2; omega, by first | rfl | (have t1 := bw.1; have t2 := bw.2; omega), by rfl⟩) | exact (Or.inr (Or.inl ⟨by have t1 := bw.1; have t2 := bw.2; omega, by first | rfl | (have t1 := bw.1; have t2 := bw.2; omega), by rfl⟩)) | exact (Or.inr (Or.inr (Or.inl ⟨by have t1 := bw.1; have t2 := bw.2; omega, by first | rfl | (have t1 := bw.1; have t2 := bw.2; omega), by rfl⟩))) | exact (Or.inr (Or.inr (Or.inr ⟨by have t1 := bw.1; have t2 := bw.2; omega, by first | rfl | (have t1 := bw.1; have t2 := bw.2; omega), by rfl⟩))))⟩
        · refine aw_iconst dX5_extend_43 ?_
          refine aw_goto (tgt := 48) dX5_extend_44 (by decide) ?_
          refine aw_cVi (g := 30) (As := [iV 3]) (rest := []) (c_X5_holds hst M (3) (by have t1 := bw.1; have t2 := bw.2; omega)) cv_X5_holds dX5_extend_48 ml_X5_63 rfl rfl rfl rfl rfl (Nat.le_of_ble_eq_true rfl) (by decide) rfl rfl (by decide) ?_
          refine aw_st (st' := [iV 0]) (by rw [if_neg (by decide)]) ?_
          refine aw_if_ne (tgt := 56) dX5_extend_51 (by decide) (by decide) (fun h => absurd h (by decide)) (fun _ => ?_)
          refine aw_iconst dX5_extend_54 ?_
          exact aw_iret dX5_extend_55 rfl rfl (by decide) (by decide) ⟨0, rfl, (by first | (exfalso; have t1 := bw.1; have t2 := bw.2; omega) | exact (Or.inl ⟨by have t1 := bw.1; have t2 := bw.2; omega, by first | rfl | (have t1 := bw.1; have t2 := bw.2; omega), by rfl⟩) | exact (Or.inr (Or.inl ⟨by have t1 := bw.1; have t2 := bw.2; omega, by first | rfl | (have t1 := bw.1; have t2 := bw.2; omega), by rfl⟩)) | exact (Or.inr (Or.inr (Or.inl ⟨by have t1 := bw.1; have t2 := bw.2; omega, by first | rfl | (have t1 := bw.1; have t2 := bw.2; omega), by rfl⟩))) | exact (Or.inr (Or.inr (Or.inr ⟨by have t1 := bw.1; have t2 := bw.2; omega, by first | rfl | (have t1 := bw.1; have t2 := bw.2; omega), by rfl⟩))))⟩
    · refine aw_if_ne (tgt := 24) dX5_extend_17 (by decide) (by decide) (fun h => absurd h (by decide)) (fun _ => ?_)
      refine aw_iconst dX5_extend_20 ?_
      refine aw_goto (tgt := 48) dX5_extend_21 (by decide) ?_
      refine aw_cVi (g := 30) (As := [iV 2]) (rest := []) (c_X5_holds hst M (2) (by have t1 := bw.1; have t2 := bw.2; omega)) cv_X5_holds dX5_extend_48 ml_X5_63 rfl rfl rfl rfl rfl (Nat.le_of_ble_eq_true rfl) (by decide) rfl rfl (by decide) ?_
      refine aw_st (st' := [iV 0]) (by rw [if_neg (by decide)]) ?_
      refine aw_if_ne (tgt := 56) dX5_extend_51 (by decide) (by decide) (fun h => absurd h (by decide)) (fun _ => ?_)
      refine aw_iconst dX5_extend_54 ?_
      exact aw_iret dX5_extend_55 rfl rfl (by decide) (by decide) ⟨0, rfl, (by first | (exfalso; have t1 := bw.1; have t2 := bw.2; omega) | exact (Or.inl ⟨by have t1 := bw.1; have t2 := bw.2; omega, by first | rfl | (have t1 := bw.1; have t2 := bw.2; omega), by rfl⟩) | exact (Or.inr (Or.inl ⟨by have t1 := bw.1; have t2 := bw.2; omega, by first | rfl | (have t1 := bw.1; have t2 := bw.2; omega), by rfl⟩)) | exact (Or.inr (Or.inr (Or.inl ⟨by have t1 := bw.1; have t2 := bw.2; omega, by first | rfl | (have t1 := bw.1; have t2 := bw.2; omega), by rfl⟩))) | exact (Or.inr (Or.inr (Or.inr ⟨by have t1 := bw.1; have t2 := bw.2; omega, by first | rfl | (have t1 := bw.1; have t2 := bw.2; omega), by rfl⟩))))⟩
  · refine aw_if_ne (tgt := 13) dX5_extend_6 (by decide) (by decide) (fun h => absurd h (by decide)) (fun _ => ?_)
    refine aw_iconst dX5_extend_9 ?_
    refine aw_goto (tgt := 48) dX5_extend_10 (by decide) ?_
    refine aw_cVi (g := 30) (As := [iV 1]) (rest := []) (c_X5_holds hst M (1) (by have t1 := bw.1; have t2 := bw.2; omega)) cv_X5_holds dX5_extend_48 ml_X5_63 rfl rfl rfl rfl rfl (Nat.le_of_ble_eq_true rfl) (by decide) rfl rfl (by decide) ?_
    refine aw_st (st' := [iV 0]) (by rw [if_neg (by decide)]) ?_
    refine aw_if_ne (tgt := 56) dX5_extend_51 (by decide) (by decide) (fun h => absurd h (by decide)) (fun _ => ?_)
    refine aw_iconst dX5_extend_54 ?_
    exact aw_iret dX5_extend_55 rfl rfl (by decide) (by decide) ⟨0, rfl, (by first | (exfalso; have t1 := bw.1; have t2 := bw.2; omega) | exact (Or.inl ⟨by have t1 := bw.1; have t2 := bw.2; omega, by first | rfl | (have t1 := bw.1; have t2 := bw.2; omega), by rfl⟩) | exact (Or.inr (Or.inl ⟨by have t1 := bw.1; have t2 := bw.2; omega, by first | rfl | (have t1 := bw.1; have t2 := bw.2; omega), by rfl⟩)) | exact (Or.inr (Or.inr (Or.inl ⟨by have t1 := bw.1; have t2 := bw.2; omega, by first | rfl | (have t1 := bw.1; have t2 := bw.2; omega), by rfl⟩))) | exact (Or.inr (Or.inr (Or.inr ⟨by have t1 := bw.1; have t2 := bw.2; omega, by first | rfl | (have t1 := bw.1; have t2 := bw.2; omega), by rfl⟩))))⟩
set_option maxHeartbeats 4000000 in
set_option maxRecDepth 20000 in
theorem c_X5_pay {K : WPar} {l : Launch} (hst : l.stackTraces = false) (M : Mem) (ticket : Int) (r_ticket : inR ticket) (bw : BWm M) (v_pr : ∀ r : Int, 0 ≤ r → r < 12 → 0 ≤ M 33 0 r ∧ M 33 0 r ≤ 10000) (v_bal : -1300000000 ≤ M 30 0 2 ∧ M 30 0 2 ≤ 1300000000) : CT K l iX5_pay [rV K 30 0, iV (ticket)] M (rZm (fun z m => ((¬ (1 ≤ ticket ∧ ticket ≤ M 30 0 8)) ∧ z = 0 ∧ m = thr M 1) ∨ (((1 ≤ ticket ∧ ticket ≤ M 30 0 8) ∧ ¬ M 35 0 ticket = 0) ∧ z = 0 ∧ m = thr M 2) ∨ (((1 ≤ ticket ∧ ticket ≤ M 30 0 8) ∧ M 35 0 ticket = 0) ∧ z = pricM M ticket ∧ m = updM (updM (updM (thr M 0) 35 0 ticket 1) 38 0 ticket (pricM M ticket)) 30 0 2 (M 30 0 2 + pricM M ticket)))) := by
  refine aw_met [some (rV K 30 0), some (iV (ticket))] hst (by decide) rfl (Nat.le_of_ble_eq_true rfl) rfl rfl (lcat rfl) ?_
  refine aw_rng (fun hM => ?_)
  refine aw_aload_n dX5_pay_0 rfl rfl ?_
  refine aw_aload_n dX5_pay_1 rfl rfl ?_
  refine aw_iload_n dX5_pay_2 rfl rfl ?_
  refine aw_cVb (g := 30) (As := [iV (ticket)]) (rest := [rV K 30 0]) (c_X5_isTicket hst M (ticket) (by have pb := pricM_bd v_pr ticket; have t1 := bw.1; have t2 := bw.2; omega) (by have pb := pricM_bd v_pr ticket; have t1 := bw.1; have t2 := bw.2; omega)) cv_X5_isTicket dX5_pay_3 ml_X5_143 rfl rfl rfl rfl rfl (Nat.le_of_ble_eq_true rfl) (by decide) rfl rfl (by decide) (fun h3 => ?_) (fun h3 => ?_)
  · refine aw_if_ne (tgt := 13) dX5_pay_6 (by decide) (by decide) (fun _ => ?_) (fun h => absurd h (by decide))
    refine aw_aload_n dX5_pay_13 rfl rfl ?_
    refine aw_getr (g := 30) rfl rfl ly_X5 rfl (k := 9) dX5_pay_14 (by decide) fl_X5_22 rfl ?_
    refine aw_iload_n dX5_pay_17 rfl rfl ?_
    refine aw_iald (g := 35) (n := 101) rfl (by decide) dX5_pay_18 (by decide) (by show 0 ≤ ticket ∧ ticket < (101 : Int); have pb := pricM_bd v_pr ticket; have t1 := bw.1; have t2 := bw.2; omega) (fun r18 => ?_)
    refine aw_if_eq (tgt := 26) dX5_pay_19 (by decide) (by have pb := pricM_bd v_pr ticket; have t1 := bw.1; have t2 := bw.2; omega) (fun h19 => ?_) (fun h19 => ?_)
    · refine aw_iconst dX5_pay_26 ?_
      refine aw_cVi (g := 30) (As := [iV 0]) (rest := []) (c_X5_holds hst M (0) (by have pb := pricM_bd v_pr ticket; have t1 := bw.1; have t2 := bw.2; omega)) cv_X5_holds dX5_pay_27 ml_X5_63 rfl rfl rfl rfl rfl (Nat.le_of_ble_eq_true rfl) (by decide) rfl rfl (by decide) ?_
      refine aw_st (st' := [iV 1]) (by rw [if_pos (by decide)]) ?_
      refine aw_if_ne (tgt := 35) dX5_pay_30 (by decide) (by decide) (fun _ => ?_) (fun h => absurd h (by decide))
      refine aw_aload_n dX5_pay_35 rfl rfl ?_
      refine aw_getr (g := 30) rfl rfl ly_X5 rfl (k := 9) dX5_pay_36 (by decide) fl_X5_22 rfl ?_
      refine aw_iload_n dX5_pay_39 rfl rfl ?_
      refine aw_iconst dX5_pay_40 ?_
      refine aw_iast (g := 35) (n := 101) (M' := updM (thr M 0) 35 0 ticket 1) rfl (by decide) dX5_pay_41 (by decide) (by show 0 ≤ ticket ∧ ticket < (101 : Int); have pb := pricM_bd v_pr ticket; have t1 := bw.1; have t2 := bw.2; omega) (by have pb := pricM_bd v_pr ticket; have t1 := bw.1; have t2 := bw.2; omega) rfl ?_
      refine aw_aload_n dX5_pay_42 rfl rfl ?_
      refine aw_getr (g := 30) rfl rfl ly_X5 rfl (k := 12) dX5_pay_43 (by decide) fl_X5_31 rfl ?_
      refine aw_iload_n dX5_pay_46 rfl rfl ?_
      refine aw_aload_n dX5_pay_47 rfl rfl ?_
      refine aw_iload_n dX5_pay_48 rfl rfl ?_
      refine aw_cVi (g := 30) (As := [iV (ticket)]) (rest := [iV (ticket), rV K 38 0]) (c_X5_priced hst (updM (thr M 0) 35 0 ticket 1) (ticket) (by have pb := pricM_bd v_pr ticket; have t1 := bw.1; have t2 := bw.2; omega) (by exact v_pr)) cv_X5_priced dX5_pay_49 ml_X5_149 rfl rfl rfl rfl rfl (Nat.le_of_ble_eq_true rfl) (by decide) rfl rfl (by decide) ?_
      refine aw_st (st' := [iV (pricM M ticket), iV (ticket), rV K 38 0]) (by rw [show (pricM (updM (thr M 0) 35 0 ticket 1) ticket : Int) = pricM M ticket from by rfl]) ?_
      refine aw_iast (g := 38) (n := 101) (M' := updM ((updM (thr M 0) 35 0 ticket 1)) 38 0 ticket (pricM M ticket)) rfl (by decide) dX5_pay_52 (by decide) (by show 0 ≤ ticket ∧ ticket < (101 : Int); have pb := pricM_bd v_pr ticket; have t1 := bw.1; have t2 := bw.2; omega) (by have pb := pricM_bd v_pr ticket; have t1 := bw.1; have t2 := bw.2; omega) rfl ?_
      refine aw_aload_n dX5_pay_53 rfl rfl ?_
      refine aw_dup dX5_pay_54 rfl ?_
      refine aw_geti (g := 30) rfl rfl ly_X5 rfl (k := 2) 2 rfl dX5_pay_55 (by decide) fl_X5_152 rfl (fun r55 => ?_)
      refine aw_st (st' := [iV (M 30 0 2), rV K 30 0]) (by rw [show ((updM ((updM (thr M 0) 35 0 ticket 1)) 38 0 ticket (pricM M ticket)) 30 0 2 : Int) = M 30 0 2 from by rfl]) ?_
      refine aw_aload_n dX5_pay_58 rfl rfl ?_
      refine aw_getr (g := 30) rfl rfl ly_X5 rfl (k := 12) dX5_pay_59 (by decide) fl_X5_31 rfl ?_
      refine aw_iload_n dX5_pay_62 rfl rfl ?_
      refine aw_iald (g := 38) (n := 101) rfl (by decide) dX5_pay_63 (by decide) (by show 0 ≤ ticket ∧ ticket < (101 : Int); have pb := pricM_bd v_pr ticket; have t1 := bw.1; have t2 := bw.2; omega) (fun r63 => ?_)
      refine aw_st (st' := [iV (pricM M ticket), iV (M 30 0 2), rV K 30 0]) (by rw [show ((updM ((updM (thr M 0) 35 0 ticket 1)) 38 0 ticket (pricM M ticket)) 38 0 ticket : Int) = pricM M ticket from by exact updM_same]) ?_
      refine aw_iadd dX5_pay_64 ?_
      refine aw_puti (g := 30) tyX5 tyX5_ok nmX5 rfl rfl ly_X5 rfl (k := 2) 2 rfl (M' := updM (updM ((updM (thr M 0) 35 0 ticket 1)) 38 0 ticket (pricM M ticket)) 30 0 2 ((M 30 0 2) + (pricM M ticket))) dX5_pay_65 (by decide) fl_X5_152 rfl rfl (by decide +kernel) (by have pb := pricM_bd v_pr ticket; have t1 := bw.1; have t2 := bw.2; omega) rfl ?_
      refine aw_aload_n dX5_pay_68 rfl rfl ?_
      refine aw_getr (g := 30) rfl rfl ly_X5 rfl (k := 12) dX5_pay_69 (by decide) fl_X5_31 rfl ?_
      refine aw_iload_n dX5_pay_72 rfl rfl ?_
      refine aw_iald (g := 38) (n := 101) rfl (by decide) dX5_pay_73 (by decide) (by show 0 ≤ ticket ∧ ticket < (101 : Int); have pb := pricM_bd v_pr ticket; have t1 := bw.1; have t2 := bw.2; omega) (fun r73 => ?_)
      refine aw_st (st' := [iV (pricM M ticket)]) (by rw [show ((updM (updM ((updM (thr M 0) 35 0 ticket 1)) 38 0 ticket (pricM M ticket)) 30 0 2 ((M 30 0 2) + (pricM M ticket))) 38 0 ticket : Int) = pricM M ticket from by rw [updM_g (by decide)]; exact updM_same]) ?_
      exact aw_iret dX5_pay_74 rfl rfl (by decide) (by decide) ⟨pricM M ticket, rfl, (by first | (exfalso; have pb := pricM_bd v_pr ticket; have t1 := bw.1; have t2 := bw.2; omega) | exact (Or.inl ⟨by have pb := pricM_bd v_pr ticket; have t1 := bw.1; have t2 := bw.2; omega, by first | rfl | (have pb := pricM_bd v_pr ticket; have t1 := bw.1; have t2 := bw.2; omega), by rfl⟩) | exact (Or.inr (Or.inl ⟨by have pb := pricM_bd v_pr ticket; have t1 := bw.1; have t2 := bw.2; omega, by first | rfl | (have pb := pricM_bd v_pr ticket; have t1 := bw.1; have t2 := bw.2; omega), by rfl⟩)) | exact (Or.inr (Or.inr ⟨by have pb := pricM_bd v_pr ticket; have t1 := bw.1; have t2 := bw.2; omega, by first | rfl | (have pb := pricM_bd v_pr ticket; have t1 := bw.1; have t2 := bw.2; omega), by rfl⟩)))⟩
    · refine aw_iconst dX5_pay_22 ?_
      refine aw_goto (tgt := 27) dX5_pay_23 (by decide) ?_
      refine aw_cVi (g := 30) (As := [iV 2]) (rest := []) (c_X5_holds hst M (2) (by have pb := pricM_bd v_pr ticket; have t1 := bw.1; have t2 := bw.2; omega)) cv_X5_holds dX5_pay_27 ml_X5_63 rfl rfl rfl rfl rfl (Nat.le_of_ble_eq_true rfl) (by decide) rfl rfl (by decide) ?_
      refine aw_st (st' := [iV 0]) (by rw [if_neg (by decide)]) ?_
      refine aw_if_ne (tgt := 35) dX5_pay_30 (by decide) (by decide) (fun h => absurd h (by decide)) (fun _ => ?_)
      refine aw_iconst dX5_pay_33 ?_
      exact aw_iret dX5_pay_34 rfl rfl (by decide) (by decide) ⟨0, rfl, (by first | (exfalso; have pb := pricM_bd v_pr ticket; have t1 := bw.1; have t2 := bw.2; omega) | exact (Or.inl ⟨by have pb := pricM_bd v_pr ticket; have t1 := bw.1; have t2 := bw.2; omega, by first | rfl | (have pb := pricM_bd v_pr ticket; have t1 := bw.1; have t2 := bw.2; omega), by rfl⟩) | exact (Or.inr (Or.inl ⟨by have pb := pricM_bd v_pr ticket; have t1 := bw.1; have t2 := bw.2; omega, by first | rfl | (have pb := pricM_bd v_pr ticket; have t1 := bw.1; have t2 := bw.2; omega), by rfl⟩)) | exact (Or.inr (Or.inr ⟨by have pb := pricM_bd v_pr ticket; have t1 := bw.1; have t2 := bw.2; omega, by first | rfl | (have pb := pricM_bd v_pr ticket; have t1 := bw.1; have t2 := bw.2; omega), by rfl⟩)))⟩
  · refine aw_if_ne (tgt := 13) dX5_pay_6 (by decide) (by decide) (fun h => absurd h (by decide)) (fun _ => ?_)
    refine aw_iconst dX5_pay_9 ?_
    refine aw_goto (tgt := 27) dX5_pay_10 (by decide) ?_
    refine aw_cVi (g := 30) (As := [iV 1]) (rest := []) (c_X5_holds hst M (1) (by have pb := pricM_bd v_pr ticket; have t1 := bw.1; have t2 := bw.2; omega)) cv_X5_holds dX5_pay_27 ml_X5_63 rfl rfl rfl rfl rfl (Nat.le_of_ble_eq_true rfl) (by decide) rfl rfl (by decide) ?_
    refine aw_st (st' := [iV 0]) (by rw [if_neg (by decide)]) ?_
    refine aw_if_ne (tgt := 35) dX5_pay_30 (by decide) (by decide) (fun h => absurd h (by decide)) (fun _ => ?_)
    refine aw_iconst dX5_pay_33 ?_
    exact aw_iret dX5_pay_34 rfl rfl (by decide) (by decide) ⟨0, rfl, (by first | (exfalso; have pb := pricM_bd v_pr ticket; have t1 := bw.1; have t2 := bw.2; omega) | exact (Or.inl ⟨by have pb := pricM_bd v_pr ticket; have t1 := bw.1; have t2 := bw.2; omega, by first | rfl | (have pb := pricM_bd v_pr ticket; have t1 := bw.1; have t2 := bw.2; omega), by rfl⟩) | exact (Or.inr (Or.inl ⟨by have pb := pricM_bd v_pr ticket; have t1 := bw.1; have t2 := bw.2; omega, by first | rfl | (have pb := pricM_bd v_pr ticket; have t1 := bw.1; have t2 := bw.2; omega), by rfl⟩)) | exact (Or.inr (Or.inr ⟨by have pb := pricM_bd v_pr ticket; have t1 := bw.1; have t2 := bw.2; omega, by first | rfl | (have pb := pricM_bd v_pr ticket; have t1 := bw.1; have t2 := bw.2; omega), by rfl⟩)))⟩
set_option maxHeartbeats 4000000 in
set_option maxRecDepth 20000 in
theorem c_X5_closes {K : WPar} {l : Launch} (hst : l.stackTraces = false) (M : Mem) (ticket : Int) (state : Int) (r_ticket : inR ticket) (r_state : inR state) (v_t : 1 ≤ ticket ∧ ticket ≤ 100) : CT K l iX5_closes [rV K 30 0, iV (ticket), iV (state)] M (rN (cloM M ticket state 240)) := by
  refine aw_met [some (rV K 30 0), some (iV (ticket)), some (iV (state)), none] hst (by decide) rfl (Nat.le_of_ble_eq_true rfl) rfl rfl (lcat rfl) ?_
  refine aw_rng (fun hM => ?_)
  refine aw_aload_n dX5_closes_0 rfl rfl ?_
  refine aw_getr (g := 30) rfl rfl ly_X5 rfl (k := 9) dX5_closes_1 (by decide) fl_X5_22 rfl ?_
  refine aw_iload_n dX5_closes_4 rfl rfl ?_
  refine aw_iload_n dX5_closes_5 rfl rfl ?_
  refine aw_iast (g := 35) (n := 101) (M' := updM M 35 0 ticket state) rfl (by decide) dX5_closes_6 (by decide) (by show 0 ≤ ticket ∧ ticket < (101 : Int); omega) (by omega) rfl ?_
  refine aw_iconst dX5_closes_7 ?_
  refine aw_istore_n (L2 := [some (rV K 30 0), some (iV (ticket)), some (iV (state)), some (iV 0)]) dX5_closes_8 rfl (by decide) rfl ?_
  have lp9 : ∀ (n9 : Nat) (pl : Int), (0 ≤ pl ∧ pl ≤ 240) → (((240 : Int) - pl).toNat) < n9 → AW K l iX5_closes (ZM K iX5_closes (rN (cloM M ticket state 240))) 9 [some (rV K 30 0), some (iV (ticket)), some (iV (state)), some (iV (pl))] [] (cloM M ticket state pl) 0 0 := by
    intro n9
    induction n9 with
    | zero =>
      intro pl e1 hm9
      exact absurd hm9 (Nat.not_lt_zero _)
    | succ n9 ih9 =>
      intro pl e1 hm9
      refine aw_iload_n dX5_closes_9 rfl rfl ?_
      refine aw_sipush dX5_closes_10 rfl ?_
      refine aw_icmp_ge (tgt := 48) dX5_closes_13 (by decide) (by omega) (by omega) (fun h13 => ?_) (fun h13 => ?_)
      · exact aw_vret dX5_closes_48 rfl (by decide) (by decide) ⟨rfl, (by have q : pl = 240 := (by omega); rw [q])⟩
      · refine aw_aload_n dX5_closes_16 rfl rfl ?_
        refine aw_getr (g := 30) rfl rfl ly_X5 rfl (k := 7) dX5_closes_17 (by decide) fl_X5_19 rfl ?_
        refine aw_iload_n dX5_closes_20 rfl rfl ?_
        refine aw_aload_n dX5_closes_21 rfl rfl ?_
        refine aw_getr (g := 30) rfl rfl ly_X5 rfl (k := 7) dX5_closes_22 (by decide) fl_X5_19 rfl ?_
        refine aw_iload_n dX5_closes_25 rfl rfl ?_
        refine aw_iald (g := 34) (n := 240) rfl (by decide) dX5_closes_26 (by decide) (by show 0 ≤ pl ∧ pl < (240 : Int); omega) (fun r26 => ?_)
        refine aw_iload_n dX5_closes_27 rfl rfl ?_
        refine aw_icmp_ne (tgt := 35) dX5_closes_28 (by decide) (by omega) (by omega) (fun h28 => ?_) (fun h28 => ?_)
        · refine aw_aload_n dX5_closes_35 rfl rfl ?_
          refine aw_getr (g := 30) rfl rfl ly_X5 rfl (k := 7) dX5_closes_36 (by decide) fl_X5_19 rfl ?_
          refine aw_iload_n dX5_closes_39 rfl rfl ?_
          refine aw_iald (g := 34) (n := 240) rfl (by decide) dX5_closes_40 (by decide) (by show 0 ≤ pl ∧ pl < (240 : Int); omega) (fun r40 => ?_)
          refine aw_iast (g := 34) (n := 240) (M' := updM (cloM M ticket state pl) 34 0 pl ((cloM M ticket state pl) 34 0 pl)) rfl (by decide) dX5_closes_41 (by decide) (by show 0 ≤ pl ∧ pl < (240 : Int); omega) (by omega) rfl ?_
          refine aw_iinc (L2 := [some (rV K 30 0), some (iV (ticket)), some (iV (state)), some (iV (pl + 1))]) dX5_closes_42 rfl (by decide) rfl ?_
          refine aw_goto (tgt := 9) dX5_closes_45 (by decide) ?_
          refine aw_mem (M' := cloM M ticket state (pl + 1)) (by first | exact (cloM_y e1.1 (by assumption)).symm | exact (cloM_n (by assumption)).symm | exact cloM_y e1.1 (by assumption) | exact cloM_n (by assumption)) ?_
          exact ih9 (pl + 1) (by omega) (by omega)
        · refine aw_iconst dX5_closes_31 ?_
          refine aw_goto (tgt := 41) dX5_closes_32 (by decide) ?_
          refine aw_iast (g := 34) (n := 240) (M' := updM (cloM M ticket state pl) 34 0 pl 0) rfl (by decide) dX5_closes_41 (by decide) (by show 0 ≤ pl ∧ pl < (240 : Int); omega) (by omega) rfl ?_
          refine aw_iinc (L2 := [some (rV K 30 0), some (iV (ticket)), some (iV (state)), some (iV (pl + 1))]) dX5_closes_42 rfl (by decide) rfl ?_
          refine aw_goto (tgt := 9) dX5_closes_45 (by decide) ?_
          refine aw_mem (M' := cloM M ticket state (pl + 1)) (by first | exact (cloM_y e1.1 (by assumption)).symm | exact (cloM_n (by assumption)).symm | exact cloM_y e1.1 (by assumption) | exact cloM_n (by assumption)) ?_
          exact ih9 (pl + 1) (by omega) (by omega)
  refine aw_mem (M' := cloM M ticket state 0) (by exact cloM_0 _ _ _) ?_
  exact lp9 ((((240 : Int) - 0).toNat) + 1) (0) (by omega) (Nat.lt_succ_self _)
set_option maxHeartbeats 4000000 in
set_option maxRecDepth 20000 in
theorem c_X5_cancel {K : WPar} {l : Launch} (hst : l.stackTraces = false) (M : Mem) (ticket : Int) (r_ticket : inR ticket) (bw : BWm M) (v_bal : -1300000000 ≤ M 30 0 2 ∧ M 30 0 2 ≤ 1300000000) (v_pd : 1 ≤ ticket → ticket ≤ M 30 0 8 → 0 ≤ M 38 0 ticket ∧ M 38 0 ticket ≤ 2400000) : CT K l iX5_cancel [rV K 30 0, iV (ticket)] M (rZm (fun z m => ((¬ (1 ≤ ticket ∧ ticket ≤ M 30 0 8)) ∧ z = 0 ∧ m = thr M 1) ∨ (((1 ≤ ticket ∧ ticket ≤ M 30 0 8) ∧ 1 < M 35 0 ticket) ∧ z = 0 ∧ m = thr M 2) ∨ (((1 ≤ ticket ∧ ticket ≤ M 30 0 8) ∧ ¬ 1 < M 35 0 ticket) ∧ z = M 38 0 ticket ∧ m = updM (cloM (thr M 0) ticket 3 240) 30 0 2 (M 30 0 2 - M 38 0 ticket)))) := by
  refine aw_met [some (rV K 30 0), some (iV (ticket))] hst (by decide) rfl (Nat.le_of_ble_eq_true rfl) rfl rfl (lcat rfl) ?_
  refine aw_rng (fun hM => ?_)
  refine aw_aload_n dX5_cancel_0 rfl rfl ?_
  refine aw_aload_n dX5_cancel_1 rfl rfl ?_
  refine aw_iload_n dX5_cancel_2 rfl rfl ?_
  refine aw_cVb (g := 30) (As := [iV (ticket)]) (rest := [rV K 30 0]) (c_X5_isTicket hst M (ticket) (by have t1 := bw.1; have t2 := bw.2; omega) (by have t1 := bw.1; have t2 := bw.2; omega)) cv_X5_isTicket dX5_cancel_3 ml_X5_143 rfl rfl rfl rfl rfl (Nat.le_of_ble_eq_true rfl) (by decide) rfl rfl (by decide) (fun h3 => ?_) (fun h3 => ?_)
  · refine aw_if_ne (tgt := 13) dX5_cancel_6 (by decide) (by decide) (fun _ => ?_) (fun h => absurd h (by decide))
    refine aw_aload_n dX5_cancel_13 rfl rfl ?_
    refine aw_getr (g := 30) rfl rfl ly_X5 rfl (k := 9) dX5_cancel_14 (by decide) fl_X5_22 rfl ?_
    refine aw_iload_n dX5_cancel_17 rfl rfl ?_
    refine aw_iald (g := 35) (n := 101) rfl (by decide) dX5_cancel_18 (by decide) (by show 0 ≤ ticket ∧ ticket < (101 : Int); have t1 := bw.1; have t2 := bw.2; omega) (fun r18 => ?_)
    refine aw_iconst dX5_cancel_19 ?_
    refine aw_icmp_le (tgt := 27) dX5_cancel_20 (by decide) (by have t1 := bw.1; have t2 := bw.2; omega) (by have t1 := bw.1; have t2 := bw.2; omega) (fun h20 => ?_) (fun h20 => ?_)
    · refine aw_iconst dX5_cancel_27 ?_
      refine aw_cVi (g := 30) (As := [iV 0]) (rest := []) (c_X5_holds hst M (0) (by have t1 := bw.1; have t2 := bw.2; omega)) cv_X5_holds dX5_cancel_28 ml_X5_63 rfl rfl rfl rfl rfl (Nat.le_of_ble_eq_true rfl) (by decide) rfl rfl (by decide) ?_
      refine aw_st (st' := [iV 1]) (by rw [if_pos (by decide)]) ?_
      refine aw_if_ne (tgt := 36) dX5_cancel_31 (by decide) (by decide) (fun _ => ?_) (fun h => absurd h (by decide))
      refine aw_aload_n dX5_cancel_36 rfl rfl ?_
      refine aw_iload_n dX5_cancel_37 rfl rfl ?_
      refine aw_iconst dX5_cancel_38 ?_
      refine aw_cVn (g := 30) (As := [iV (ticket), iV 3]) (rest := []) (c_X5_closes hst (thr M 0) (ticket) (3) (by have t1 := bw.1; have t2 := bw.2; omega) (by have t1 := bw.1; have t2 := bw.2; omega) (by have t1 := bw.1; have t2 := bw.2; omega)) cv_X5_closes dX5_cancel_39 ml_X5_155 rfl rfl rfl rfl rfl (Nat.le_of_ble_eq_true rfl) (by decide) rfl rfl (by decide) ?_
      refine aw_aload_n dX5_cancel_42 rfl rfl ?_
      refine aw_dup dX5_cancel_43 rfl ?_
      refine aw_geti (g := 30) rfl rfl ly_X5 rfl (k := 2) 2 rfl dX5_cancel_44 (by decide) fl_X5_152 rfl (fun r44 => ?_)
      refine aw_st (st' := [iV (M 30 0 2), rV K 30 0]) (by rw [show ((cloM (thr M 0) ticket 3 240) 30 0 2 : Int) = M 30 0 2 from by rw [cloM_g (by decide) (by decide)]; rfl]) ?_
      refine aw_aload_n dX5_cancel_47 rfl rfl ?_
      refine aw_getr (g := 30) rfl rfl ly_X5 rfl (k := 12) dX5_cancel_48 (by decide) fl_X5_31 rfl ?_
      refine aw_iload_n dX5_cancel_51 rfl rfl ?_
      refine aw_iald (g := 38) (n := 101) rfl (by decide) dX5_cancel_52 (by decide) (by show 0 ≤ ticket ∧ ticket < (101 : Int); have t1 := bw.1; have t2 := bw.2; omega) (fun r52 => ?_)
      refine aw_st (st' := [iV (M 38 0 ticket), iV (M 30 0 2), rV K 30 0]) (by rw [show ((cloM (thr M 0) ticket 3 240) 38 0 ticket : Int) = M 38 0 ticket from by rw [cloM_g (by decide) (by decide)]; rfl]) ?_
      refine aw_isub dX5_cancel_53 ?_
      refine aw_puti (g := 30) tyX5 tyX5_ok nmX5 rfl rfl ly_X5 rfl (k := 2) 2 rfl (M' := updM (cloM (thr M 0) ticket 3 240) 30 0 2 ((M 30 0 2) - (M 38 0 ticket))) dX5_cancel_54 (by decide) fl_X5_152 rfl rfl (by decide +kernel) (by have t1 := bw.1; have t2 := bw.2; omega) rfl ?_
      refine aw_aload_n dX5_cancel_57 rfl rfl ?_
      refine aw_getr (g := 30) rfl rfl ly_X5 rfl (k := 12) dX5_cancel_58 (by decide) fl_X5_31 rfl ?_
      refine aw_iload_n dX5_cancel_61 rfl rfl ?_
      refine aw_iald (g := 38) (n := 101) rfl (by decide) dX5_cancel_62 (by decide) (by show 0 ≤ ticket ∧ ticket < (101 : Int); have t1 := bw.1; have t2 := bw.2; omega) (fun r62 => ?_)
      refine aw_st (st' := [iV (M 38 0 ticket)]) (by rw [show ((updM (cloM (thr M 0) ticket 3 240) 30 0 2 ((M 30 0 2) - (M 38 0 ticket))) 38 0 ticket : Int) = M 38 0 ticket from by rw [updM_g (by decide), cloM_g (by decide) (by decide)]; rfl]) ?_
      exact aw_iret dX5_cancel_63 rfl rfl (by decide) (by decide) ⟨M 38 0 ticket, rfl, (by first | (exfalso; have t1 := bw.1; have t2 := bw.2; omega) | exact (Or.inl ⟨by have t1 := bw.1; have t2 := bw.2; omega, by first | rfl | (have t1 := bw.1; have t2 := bw.2; omega), by rfl⟩) | exact (Or.inr (Or.inl ⟨by have t1 := bw.1; have t2 := bw.2; omega, by first | rfl | (have t1 := bw.1; have t2 := bw.2; omega), by rfl⟩)) | exact (Or.inr (Or.inr ⟨by have t1 := bw.1; have t2 := bw.2; omega, by first | rfl | (have t1 := bw.1; have t2 := bw.2; omega), by rfl⟩)))⟩
    · refine aw_iconst dX5_cancel_23 ?_
      refine aw_goto (tgt := 28) dX5_cancel_24 (by decide) ?_
      refine aw_cVi (g := 30) (As := [iV 2]) (rest := []) (c_X5_holds hst M (2) (by have t1 := bw.1; have t2 := bw.2; omega)) cv_X5_holds dX5_cancel_28 ml_X5_63 rfl rfl rfl rfl rfl (Nat.le_of_ble_eq_true rfl) (by decide) rfl rfl (by decide) ?_
      refine aw_st (st' := [iV 0]) (by rw [if_neg (by decide)]) ?_
      refine aw_if_ne (tgt := 36) dX5_cancel_31 (by decide) (by decide) (fun h => absurd h (by decide)) (fun _ => ?_)
      refine aw_iconst dX5_cancel_34 ?_
      exact aw_iret dX5_cancel_35 rfl rfl (by decide) (by decide) ⟨0, rfl, (by first | (exfalso; have t1 := bw.1; have t2 := bw.2; omega) | exact (Or.inl ⟨by have t1 := bw.1; have t2 := bw.2; omega, by first | rfl | (have t1 := bw.1; have t2 := bw.2; omega), by rfl⟩) | exact (Or.inr (Or.inl ⟨by have t1 := bw.1; have t2 := bw.2; omega, by first | rfl | (have t1 := bw.1; have t2 := bw.2; omega), by rfl⟩)) | exact (Or.inr (Or.inr ⟨by have t1 := bw.1; have t2 := bw.2; omega, by first | rfl | (have t1 := bw.1; have t2 := bw.2; omega), by rfl⟩)))⟩
  · refine aw_if_ne (tgt := 13) dX5_cancel_6 (by decide) (by decide) (fun h => absurd h (by decide)) (fun _ => ?_)
    refine aw_iconst dX5_cancel_9 ?_
    refine aw_goto (tgt := 28) dX5_cancel_10 (by decide) ?_
    refine aw_cVi (g := 30) (As := [iV 1]) (rest := []) (c_X5_holds hst M (1) (by have t1 := bw.1; have t2 := bw.2; omega)) cv_X5_holds dX5_cancel_28 ml_X5_63 rfl rfl rfl rfl rfl (Nat.le_of_ble_eq_true rfl) (by decide) rfl rfl (by decide) ?_
    refine aw_st (st' := [iV 0]) (by rw [if_neg (by decide)]) ?_
    refine aw_if_ne (tgt := 36) dX5_cancel_31 (by decide) (by decide) (fun h => absurd h (by decide)) (fun _ => ?_)
    refine aw_iconst dX5_cancel_34 ?_
    exact aw_iret dX5_cancel_35 rfl rfl (by decide) (by decide) ⟨0, rfl, (by first | (exfalso; have t1 := bw.1; have t2 := bw.2; omega) | exact (Or.inl ⟨by have t1 := bw.1; have t2 := bw.2; omega, by first | rfl | (have t1 := bw.1; have t2 := bw.2; omega), by rfl⟩) | exact (Or.inr (Or.inl ⟨by have t1 := bw.1; have t2 := bw.2; omega, by first | rfl | (have t1 := bw.1; have t2 := bw.2; omega), by rfl⟩)) | exact (Or.inr (Or.inr ⟨by have t1 := bw.1; have t2 := bw.2; omega, by first | rfl | (have t1 := bw.1; have t2 := bw.2; omega), by rfl⟩)))⟩
set_option maxHeartbeats 4000000 in
set_option maxRecDepth 20000 in
theorem c_X5_pass {K : WPar} {l : Launch} (hst : l.stackTraces = false) (M : Mem) (minutes : Int) (r_minutes : inR minutes) (bw : BWm M) (v_now : 0 ≤ M 30 0 1 ∧ M 30 0 1 ≤ 1000000) : CT K l iX5_pass [rV K 30 0, iV (minutes)] M (rZm (fun z m => ((¬ (1 ≤ minutes ∧ minutes ≤ 1000)) ∧ z = 0 ∧ m = thr M 1) ∨ (((1 ≤ minutes ∧ minutes ≤ 1000) ∧ z = pdaC M minutes) ∧ m = pdaM M minutes))) := by
  refine aw_met [some (rV K 30 0), some (iV (minutes)), none, none] hst (by decide) rfl (Nat.le_of_ble_eq_true rfl) rfl rfl (lcat rfl) ?_
  refine aw_rng (fun hM => ?_)
  refine aw_aload_n dX5_pass_0 rfl rfl ?_
  refine aw_iload_n dX5_pass_1 rfl rfl ?_
  refine aw_iconst dX5_pass_2 ?_
  refine aw_sipush dX5_pass_3 rfl ?_
  refine aw_cSb (As := [iV (minutes), iV 1, iV 1000]) (rest := [rV K 30 0]) (c_X5_in hst M (minutes) (1) (1000) (by have t1 := bw.1; have t2 := bw.2; omega) (by have t1 := bw.1; have t2 := bw.2; omega) (by have t1 := bw.1; have t2 := bw.2; omega)) cs_X5_in dX5_pass_6 ml_X5_56 rfl rfl (Nat.le_of_ble_eq_true rfl) (by decide) rfl rfl (by decide) (fun h6 => ?_) (fun h6 => ?_)
  · refine aw_if_eq (tgt := 16) dX5_pass_9 (by decide) (by decide) (fun h => absurd h (by decide)) (fun _ => ?_)
    refine aw_iconst dX5_pass_12 ?_
    refine aw_goto (tgt := 17) dX5_pass_13 (by decide) ?_
    refine aw_cVi (g := 30) (As := [iV 0]) (rest := []) (c_X5_holds hst M (0) (by have t1 := bw.1; have t2 := bw.2; omega)) cv_X5_holds dX5_pass_17 ml_X5_63 rfl rfl rfl rfl rfl (Nat.le_of_ble_eq_true rfl) (by decide) rfl rfl (by decide) ?_
    refine aw_st (st' := [iV 1]) (by rw [if_pos (by decide)]) ?_
    refine aw_if_ne (tgt := 25) dX5_pass_20 (by decide) (by decide) (fun _ => ?_) (fun h => absurd h (by decide))
    refine aw_aload_n dX5_pass_25 rfl rfl ?_
    refine aw_dup dX5_pass_26 rfl ?_
    refine aw_geti (g := 30) rfl rfl ly_X5 rfl (k := 1) 1 rfl dX5_pass_27 (by decide) fl_X5_109 rfl (fun r27 => ?_)
    refine aw_st (st' := [iV (M 30 0 1), rV K 30 0]) (by rw [show ((thr M 0) 30 0 1 : Int) = M 30 0 1 from by rfl]) ?_
    refine aw_iload_n dX5_pass_30 rfl rfl ?_
    refine aw_iadd dX5_pass_31 ?_
    refine aw_puti (g := 30) tyX5 tyX5_ok nmX5 rfl rfl ly_X5 rfl (k := 1) 1 rfl (M' := updM (thr M 0) 30 0 1 ((M 30 0 1) + minutes)) dX5_pass_32 (by decide) fl_X5_109 rfl rfl (by decide +kernel) (by have t1 := bw.1; have t2 := bw.2; omega) rfl ?_
    generalize hMa : updM (thr M 0) 30 0 1 ((M 30 0 1) + minutes) = Ma
    have b8 : Ma 30 0 8 = M 30 0 8 := (by rw [← hMa]; rfl); have b1 : Ma 30 0 1 = M 30 0 1 + minutes := (by rw [← hMa]; exact updM_same)
    refine aw_iconst dX5_pass_35 ?_
    refine aw_istore_n (L2 := [some (rV K 30 0), some (iV (minutes)), some (iV 0), none]) dX5_pass_36 rfl (by decide) rfl ?_
    refine aw_iconst dX5_pass_37 ?_
    refine aw_istore_n (L2 := [some (rV K 30 0), some (iV (minutes)), some (iV 0), some (iV 1)]) dX5_pass_38 rfl (by decide) rfl ?_
    have lp39 : ∀ (n39 : Nat) (cnt t : Int), (1 ≤ t ∧ t ≤ M 30 0 8 + 1) → (cnt = pdC Ma (Int.toNat (t - 1))) → ((M 30 0 8 + 1 - t).toNat) < n39 → AW K l iX5_pass (ZM K iX5_pass (rZm (fun z m => ((¬ (1 ≤ minutes ∧ minutes ≤ 1000)) ∧ z = 0 ∧ m = thr M 1) ∨ (((1 ≤ minutes ∧ minutes ≤ 1000) ∧ z = pdaC M minutes) ∧ m = pdaM M minutes)))) 39 [some (rV K 30 0), some (iV (minutes)), some (iV (cnt)), some (iV (t))] [] (pdS Ma (Int.toNat (t - 1))) 0 0 := by
      intro n39
      induction n39 with
      | zero =>
        intro cnt t e1 e2 hm39
        exact absurd hm39 (Nat.not_lt_zero _)
      | succ n39 ih39 =>
        intro cnt t e1 e2 hm39
        generalize hMc : pdS Ma (Int.toNat (t - 1)) = Mc
        have hc : ∀ g : Nat, g ≠ 34 → g ≠ 35 → Mc g = Ma g := (fun g g1 g2 => by rw [← hMc]; exact pdS_g g1 g2 _); have c8 : Mc 30 0 8 = M 30 0 8 := (by rw [hc 30 (by decide) (by decide)]; exact b8); have c1 : Mc 30 0 1 = M 30 0 1 + minutes := (by rw [hc 30 (by decide) (by decide)]; exact b1); have pst := pdS_s (M := Ma) e1.1; have pbd := pdC_bd Ma (t - 1).toNat; rw [hMc, b1] at pst; refine aw_rng (fun hM_c => ?_)
        refine aw_iload_n dX5_pass_39 rfl rfl ?_
        refine aw_aload_n dX5_pass_40 rfl rfl ?_
        refine aw_geti (g := 30) rfl rfl ly_X5 rfl (k := 8) 8 rfl dX5_pass_41 (by decide) fl_X5_106 rfl (fun r41 => ?_)
        refine aw_icmp_gt (tgt := 84) dX5_pass_44 (by decide) (by have t1 := bw.1; have t2 := bw.2; omega) (by have t1 := bw.1; have t2 := bw.2; omega) (fun h44 => ?_) (fun h44 => ?_)
        · refine aw_iload_n dX5_pass_84 rfl rfl ?_
          exact aw_iret dX5_pass_85 rfl rfl (by decide) (by decide) ⟨cnt, rfl, (by first | (exfalso; have t1 := bw.1; have t2 := bw.2; omega) | exact (Or.inl ⟨by have t1 := bw.1; have t2 := bw.2; omega, by first | rfl | (have t1 := bw.1; have t2 := bw.2; omega), by rfl⟩) | exact (Or.inr (by have q : t - 1 = M 30 0 8 := (by omega); exact ⟨⟨by omega, by rw [e2, q, ← hMa]; rfl⟩, by rw [← hMc, q, ← hMa]; rfl⟩)))⟩
        · refine aw_aload_n dX5_pass_47 rfl rfl ?_
          refine aw_getr (g := 30) rfl rfl ly_X5 rfl (k := 9) dX5_pass_48 (by decide) fl_X5_22 rfl ?_
          refine aw_iload_n dX5_pass_51 rfl rfl ?_
          refine aw_iald (g := 35) (n := 101) rfl (by decide) dX5_pass_52 (by decide) (by show 0 ≤ t ∧ t < (101 : Int); have t1 := bw.1; have t2 := bw.2; omega) (fun r52 => ?_)
          refine aw_if_ne (tgt := 78) dX5_pass_53 (by decide) (by have t1 := bw.1; have t2 := bw.2; omega) (fun h53 => ?_) (fun h53 => ?_)
          · refine aw_iinc (L2 := [some (rV K 30 0), some (iV (minutes)), some (iV (cnt)), some (iV (t + 1))]) dX5_pass_78 rfl (by decide) rfl ?_
            refine aw_goto (tgt := 39) dX5_pass_81 (by decide) ?_
            refine aw_mem (M' := pdS Ma (Int.toNat ((t + 1) - 1))) (by first | rw [pst.1, if_neg (by omega)] | rw [pst.1, if_pos (by omega)]) ?_
            exact ih39 (cnt) (t + 1) (by have t1 := bw.1; have t2 := bw.2; omega) (by first | rw [pst.2, if_neg (by omega), e2] | rw [pst.2, if_pos (by omega), e2]) (by omega)
          · refine aw_aload_n dX5_pass_56 rfl rfl ?_
            refine aw_getr (g := 30) rfl rfl ly_X5 rfl (k := 10) dX5_pass_57 (by decide) fl_X5_25 rfl ?_
            refine aw_iload_n dX5_pass_60 rfl rfl ?_
            refine aw_iald (g := 36) (n := 101) rfl (by decide) dX5_pass_61 (by decide) (by show 0 ≤ t ∧ t < (101 : Int); have t1 := bw.1; have t2 := bw.2; omega) (fun r61 => ?_)
            refine aw_st (st' := [iV (Ma 36 0 t)]) (by rw [show (Mc 36 0 t : Int) = Ma 36 0 t from by rw [hc 36 (by decide) (by decide)]]) ?_
            refine aw_aload_n dX5_pass_62 rfl rfl ?_
            refine aw_geti (g := 30) rfl rfl ly_X5 rfl (k := 1) 1 rfl dX5_pass_63 (by decide) fl_X5_109 rfl (fun r63 => ?_)
            refine aw_icmp_gt (tgt := 78) dX5_pass_66 (by decide) (by have q := hM_c 36 0 t; rw [hc 36 (by decide) (by decide)] at q; exact q) (by have t1 := bw.1; have t2 := bw.2; omega) (fun h66 => ?_) (fun h66 => ?_)
            · refine aw_iinc (L2 := [some (rV K 30 0), some (iV (minutes)), some (iV (cnt)), some (iV (t + 1))]) dX5_pass_78 rfl (by decide) rfl ?_
              refine aw_goto (tgt := 39) dX5_pass_81 (by decide) ?_
              refine aw_mem (M' := pdS Ma (Int.toNat ((t + 1) - 1))) (by first | rw [pst.1, if_neg (by omega)] | rw [pst.1, if_pos (by omega)]) ?_
              exact ih39 (cnt) (t + 1) (by have t1 := bw.1; have t2 := bw.2; omega) (by first | rw [pst.2, if_neg (by omega), e2] | rw [pst.2, if_pos (by omega), e2]) (by omega)
            · refine aw_aload_n dX5_pass_69 rfl rfl ?_
              refine aw_iload_n dX5_pass_70 rfl rfl ?_
              refine aw_iconst dX5_pass_71 ?_
              refine aw_cVn (g := 30) (As := [iV (t), iV 2]) (rest := []) (c_X5_closes hst Mc (t) (2) (by have t1 := bw.1; have t2 := bw.2; omega) (by have t1 := bw.1; have t2 := bw.2; omega) (by have t1 := bw.1; have t2 := bw.2; omega)) cv_X5_closes dX5_pass_72 ml_X5_155 rfl rfl rfl rfl rfl (Nat.le_of_ble_eq_true rfl) (by decide) rfl rfl (by decide) ?_
              refine aw_iinc (L2 := [some (rV K 30 0), some (iV (minutes)), some (iV (cnt + 1)), some (iV (t))]) dX5_pass_75 rfl (by decide) rfl ?_
              refine aw_iinc (L2 := [some (rV K 30 0), some (iV (minutes)), some (iV (cnt + 1)), some (iV (t + 1))]) dX5_pass_78 rfl (by decide) rfl ?_
              refine aw_goto (tgt := 39) dX5_pass_81 (by decide) ?_
              refine aw_mem (M' := pdS Ma (Int.toNat ((t + 1) - 1))) (by first | rw [pst.1, if_neg (by omega)] | rw [pst.1, if_pos (by omega)]) ?_
              exact ih39 (cnt + 1) (t + 1) (by have t1 := bw.1; have t2 := bw.2; omega) (by first | rw [pst.2, if_neg (by omega), e2] | rw [pst.2, if_pos (by omega), e2]) (by omega)
    refine aw_mem (M' := pdS Ma (Int.toNat (1 - 1))) (by rfl) ?_
    exact lp39 (((M 30 0 8 + 1 - 1).toNat) + 1) (0) (1) (by have t1 := bw.1; have t2 := bw.2; omega) (by rfl) (Nat.lt_succ_self _)
  · refine aw_if_eq (tgt := 16) dX5_pass_9 (by decide) (by decide) (fun _ => ?_) (fun h => absurd (by decide) h)
    refine aw_iconst dX5_pass_16 ?_
    refine aw_cVi (g := 30) (As := [iV 1]) (rest := []) (c_X5_holds hst M (1) (by have t1 := bw.1; have t2 := bw.2; omega)) cv_X5_holds dX5_pass_17 ml_X5_63 rfl rfl rfl rfl rfl (Nat.le_of_ble_eq_true rfl) (by decide) rfl rfl (by decide) ?_
    refine aw_st (st' := [iV 0]) (by rw [if_neg (by decide)]) ?_
    refine aw_if_ne (tgt := 25) dX5_pass_20 (by decide) (by decide) (fun h => absurd h (by decide)) (fun _ => ?_)
    refine aw_iconst dX5_pass_23 ?_
    exact aw_iret dX5_pass_24 rfl rfl (by decide) (by decide) ⟨0, rfl, (by first | (exfalso; have t1 := bw.1; have t2 := bw.2; omega) | exact (Or.inl ⟨by have t1 := bw.1; have t2 := bw.2; omega, by first | rfl | (have t1 := bw.1; have t2 := bw.2; omega), by rfl⟩) | exact (Or.inr (by have q : t - 1 = M 30 0 8 := (by omega); exact ⟨⟨by omega, by rw [e2, q, ← hMa]; rfl⟩, by rw [← hMc, q, ← hMa]; rfl⟩)))⟩
set_option maxHeartbeats 4000000 in
set_option maxRecDepth 20000 in
theorem c_X5_nextExpiry {K : WPar} {l : Launch} (hst : l.stackTraces = false) (M : Mem) (bw : BWm M) (v_en : ∀ t : Int, 1 ≤ t → t ≤ M 30 0 8 → 0 ≤ M 36 0 t) : CT K l iX5_nextExpiry [rV K 30 0] M (rZm (fun z m => (((isEarl (M 30 0 8) (M 35 0) (M 36 0) (-1)) ∧ z = 0) ∧ m = thr M 1) ∨ (((isEarl (M 30 0 8) (M 35 0) (M 36 0) z) ∧ z ≠ -1) ∧ m = thr M 0))) := by
  refine aw_met [some (rV K 30 0), none, none] hst (by decide) rfl (Nat.le_of_ble_eq_true rfl) rfl rfl (lcat rfl) ?_
  refine aw_rng (fun hM => ?_)
  refine aw_iconst dX5_nextExpiry_0 ?_
  refine aw_istore_n (L2 := [some (rV K 30 0), some (iV (-1)), none]) dX5_nextExpiry_1 rfl (by decide) rfl ?_
  refine aw_iconst dX5_nextExpiry_2 ?_
  refine aw_istore_n (L2 := [some (rV K 30 0), some (iV (-1)), some (iV 1)]) dX5_nextExpiry_3 rfl (by decide) rfl ?_
  have lp4 : ∀ (n4 : Nat) (fnd t : Int), (1 ≤ t ∧ t ≤ M 30 0 8 + 1) → (-1 ≤ fnd ∧ inR fnd) → (isEarl (t - 1) (M 35 0) (M 36 0) fnd) → ((M 30 0 8 + 1 - t).toNat) < n4 → AW K l iX5_nextExpiry (ZM K iX5_nextExpiry (rZm (fun z m => (((isEarl (M 30 0 8) (M 35 0) (M 36 0) (-1)) ∧ z = 0) ∧ m = thr M 1) ∨ (((isEarl (M 30 0 8) (M 35 0) (M 36 0) z) ∧ z ≠ -1) ∧ m = thr M 0)))) 4 [some (rV K 30 0), some (iV (fnd)), some (iV (t))] [] (M) 0 0 := by
    intro n4
    induction n4 with
    | zero =>
      intro fnd t e1 e3 e2 hm4
      exact absurd hm4 (Nat.not_lt_zero _)
    | succ n4 ih4 =>
      intro fnd t e1 e3 e2 hm4
      refine aw_iload_n dX5_nextExpiry_4 rfl rfl ?_
      refine aw_aload_n dX5_nextExpiry_5 rfl rfl ?_
      refine aw_geti (g := 30) rfl rfl ly_X5 rfl (k := 8) 8 rfl dX5_nextExpiry_6 (by decide) fl_X5_106 rfl (fun r6 => ?_)
      refine aw_icmp_gt (tgt := 48) dX5_nextExpiry_9 (by decide) (by have t1 := bw.1; have t2 := bw.2; omega) (by have t1 := bw.1; have t2 := bw.2; omega) (fun h9 => ?_) (fun h9 => ?_)
      · refine aw_aload_n dX5_nextExpiry_48 rfl rfl ?_
        refine aw_iload_n dX5_nextExpiry_49 rfl rfl ?_
        refine aw_if_ge (tgt := 57) dX5_nextExpiry_50 (by decide) (by have t1 := bw.1; have t2 := bw.2; omega) (fun h50 => ?_) (fun h50 => ?_)
        · refine aw_iconst dX5_nextExpiry_57 ?_
          refine aw_cVi (g := 30) (As := [iV 0]) (rest := []) (c_X5_holds hst M (0) (by have t1 := bw.1; have t2 := bw.2; omega)) cv_X5_holds dX5_nextExpiry_58 ml_X5_63 rfl rfl rfl rfl rfl (Nat.le_of_ble_eq_true rfl) (by decide) rfl rfl (by decide) ?_
          refine aw_st (st' := [iV 1]) (by rw [if_pos (by decide)]) ?_
          refine aw_if_eq (tgt := 68) dX5_nextExpiry_61 (by decide) (by decide) (fun h => absurd h (by decide)) (fun _ => ?_)
          refine aw_iload_n dX5_nextExpiry_64 rfl rfl ?_
          refine aw_goto (tgt := 69) dX5_nextExpiry_65 (by decide) ?_
          exact aw_iret dX5_nextExpiry_69 rfl rfl (by decide) (by decide) ⟨fnd, rfl, (by first | (exfalso; have t1 := bw.1; have t2 := bw.2; omega) | exact (Or.inl (by have q : t - 1 = M 30 0 8 := (by omega); exact ⟨⟨by rw [← q]; exact (show fnd = -1 by omega) ▸ e2, rfl⟩, rfl⟩)) | exact (Or.inr (by have q : t - 1 = M 30 0 8 := (by omega); exact ⟨⟨by rw [← q]; exact e2, by omega⟩, rfl⟩)))⟩
        · refine aw_iconst dX5_nextExpiry_53 ?_
          refine aw_goto (tgt := 58) dX5_nextExpiry_54 (by decide) ?_
          refine aw_cVi (g := 30) (As := [iV 1]) (rest := []) (c_X5_holds hst M (1) (by have t1 := bw.1; have t2 := bw.2; omega)) cv_X5_holds dX5_nextExpiry_58 ml_X5_63 rfl rfl rfl rfl rfl (Nat.le_of_ble_eq_true rfl) (by decide) rfl rfl (by decide) ?_
          refine aw_st (st' := [iV 0]) (by rw [if_neg (by decide)]) ?_
          refine aw_if_eq (tgt := 68) dX5_nextExpiry_61 (by decide) (by decide) (fun _ => ?_) (fun h => absurd (by decide) h)
          refine aw_iconst dX5_nextExpiry_68 ?_
          exact aw_iret dX5_nextExpiry_69 rfl rfl (by decide) (by decide) ⟨0, rfl, (by first | (exfalso; have t1 := bw.1; have t2 := bw.2; omega) | exact (Or.inl (by have q : t - 1 = M 30 0 8 := (by omega); exact ⟨⟨by rw [← q]; exact (show fnd = -1 by omega) ▸ e2, rfl⟩, rfl⟩)) | exact (Or.inr (by have q : t - 1 = M 30 0 8 := (by omega); exact ⟨⟨by rw [← q]; exact e2, by omega⟩, rfl⟩)))⟩
      · refine aw_aload_n dX5_nextExpiry_12 rfl rfl ?_
        refine aw_getr (g := 30) rfl rfl ly_X5 rfl (k := 9) dX5_nextExpiry_13 (by decide) fl_X5_22 rfl ?_
        refine aw_iload_n dX5_nextExpiry_16 rfl rfl ?_
        refine aw_iald (g := 35) (n := 101) rfl (by decide) dX5_nextExpiry_17 (by decide) (by show 0 ≤ t ∧ t < (101 : Int); have t1 := bw.1; have t2 := bw.2; omega) (fun r17 => ?_)
        refine aw_if_ne (tgt := 42) dX5_nextExpiry_18 (by decide) (by have t1 := bw.1; have t2 := bw.2; omega) (fun h18 => ?_) (fun h18 => ?_)
        · refine aw_iinc (L2 := [some (rV K 30 0), some (iV (fnd)), some (iV (t + 1))]) dX5_nextExpiry_42 rfl (by decide) rfl ?_
          refine aw_goto (tgt := 4) dX5_nextExpiry_45 (by decide) ?_
          exact ih4 (fnd) (t + 1) (by have t1 := bw.1; have t2 := bw.2; omega) (by first | exact e3 | (have q := v_en t e1.1 (by omega); exact ⟨by omega, hM _ _ _⟩)) (by first | exact isEarl_skip e2 (by assumption) | exact isEarl_take e2 e1.1 (by assumption) (v_en t e1.1 (by omega)) (Or.inl (by omega)) | exact isEarl_take e2 e1.1 (by assumption) (v_en t e1.1 (by omega)) (Or.inr (by omega)) | exact isEarl_keep e2 (by omega) (by omega)) (by omega)
        · refine aw_iload_n dX5_nextExpiry_21 rfl rfl ?_
          refine aw_if_lt (tgt := 35) dX5_nextExpiry_22 (by decide) (by have t1 := bw.1; have t2 := bw.2; omega) (fun h22 => ?_) (fun h22 => ?_)
          · refine aw_aload_n dX5_nextExpiry_35 rfl rfl ?_
            refine aw_getr (g := 30) rfl rfl ly_X5 rfl (k := 10) dX5_nextExpiry_36 (by decide) fl_X5_25 rfl ?_
            refine aw_iload_n dX5_nextExpiry_39 rfl rfl ?_
            refine aw_iald (g := 36) (n := 101) rfl (by decide) dX5_nextExpiry_40 (by decide) (by show 0 ≤ t ∧ t < (101 : Int); have t1 := bw.1; have t2 := bw.2; omega) (fun r40 => ?_)
            refine aw_istore_n (L2 := [some (rV K 30 0), some (iV (M 36 0 t)), some (iV (t))]) dX5_nextExpiry_41 rfl (by decide) rfl ?_
            refine aw_iinc (L2 := [some (rV K 30 0), some (iV (M 36 0 t)), some (iV (t + 1))]) dX5_nextExpiry_42 rfl (by decide) rfl ?_
            refine aw_goto (tgt := 4) dX5_nextExpiry_45 (by decide) ?_
            exact ih4 (M 36 0 t) (t + 1) (by have t1 := bw.1; have t2 := bw.2; omega) (by first | exact e3 | (have q := v_en t e1.1 (by omega); exact ⟨by omega, hM _ _ _⟩)) (by first | exact isEarl_skip e2 (by assumption) | exact isEarl_take e2 e1.1 (by assumption) (v_en t e1.1 (by omega)) (Or.inl (by omega)) | exact isEarl_take e2 e1.1 (by assumption) (v_en t e1.1 (by omega)) (Or.inr (by omega)) | exact isEarl_keep e2 (by omega) (by omega)) (by omega)
          · refine aw_aload_n dX5_nextExpiry_25 rfl rfl ?_
            refine aw_getr (g := 30) rfl rfl ly_X5 rfl (k := 10) dX5_nextExpiry_26 (by decide) fl_X5_25 rfl ?_
            refine aw_iload_n dX5_nextExpiry_29 rfl rfl ?_
            refine aw_iald (g := 36) (n := 101) rfl (by decide) dX5_nextExpiry_30 (by decide) (by show 0 ≤ t ∧ t < (101 : Int); have t1 := bw.1; have t2 := bw.2; omega) (fun r30 => ?_)
            refine aw_iload_n dX5_nextExpiry_31 rfl rfl ?_
            refine aw_icmp_ge (tgt := 42) dX5_nextExpiry_32 (by decide) (by have t1 := bw.1; have t2 := bw.2; omega) (by have t1 := bw.1; have t2 := bw.2; omega) (fun h32 => ?_) (fun h32 => ?_)
            · refine aw_iinc (L2 := [some (rV K 30 0), some (iV (fnd)), some (iV (t + 1))]) dX5_nextExpiry_42 rfl (by decide) rfl ?_
              refine aw_goto (tgt := 4) dX5_nextExpiry_45 (by decide) ?_
              exact ih4 (fnd) (t + 1) (by have t1 := bw.1; have t2 := bw.2; omega) (by first | exact e3 | (have q := v_en t e1.1 (by omega); exact ⟨by omega, hM _ _ _⟩)) (by first | exact isEarl_skip e2 (by assumption) | exact isEarl_take e2 e1.1 (by assumption) (v_en t e1.1 (by omega)) (Or.inl (by omega)) | exact isEarl_take e2 e1.1 (by assumption) (v_en t e1.1 (by omega)) (Or.inr (by omega)) | exact isEarl_keep e2 (by omega) (by omega)) (by omega)
            · refine aw_aload_n dX5_nextExpiry_35 rfl rfl ?_
              refine aw_getr (g := 30) rfl rfl ly_X5 rfl (k := 10) dX5_nextExpiry_36 (by decide) fl_X5_25 rfl ?_
              refine aw_iload_n dX5_nextExpiry_39 rfl rfl ?_
              refine aw_iald (g := 36) (n := 101) rfl (by decide) dX5_nextExpiry_40 (by decide) (by show 0 ≤ t ∧ t < (101 : Int); have t1 := bw.1; have t2 := bw.2; omega) (fun r40 => ?_)
              refine aw_istore_n (L2 := [some (rV K 30 0), some (iV (M 36 0 t)), some (iV (t))]) dX5_nextExpiry_41 rfl (by decide) rfl ?_
              refine aw_iinc (L2 := [some (rV K 30 0), some (iV (M 36 0 t)), some (iV (t + 1))]) dX5_nextExpiry_42 rfl (by decide) rfl ?_
              refine aw_goto (tgt := 4) dX5_nextExpiry_45 (by decide) ?_
              exact ih4 (M 36 0 t) (t + 1) (by have t1 := bw.1; have t2 := bw.2; omega) (by first | exact e3 | (have q := v_en t e1.1 (by omega); exact ⟨by omega, hM _ _ _⟩)) (by first | exact isEarl_skip e2 (by assumption) | exact isEarl_take e2 e1.1 (by assumption) (v_en t e1.1 (by omega)) (Or.inl (by omega)) | exact isEarl_take e2 e1.1 (by assumption) (v_en t e1.1 (by omega)) (Or.inr (by omega)) | exact isEarl_keep e2 (by omega) (by omega)) (by omega)
  exact lp4 (((M 30 0 8 + 1 - 1).toNat) + 1) (-1) (1) (by have t1 := bw.1; have t2 := bw.2; omega) (by exact ⟨Int.le_refl _, by decide⟩) (by exact isEarl_0 _ _) (Nat.lt_succ_self _)
set_option maxHeartbeats 4000000 in
set_option maxRecDepth 20000 in
theorem c_X5_firstOf {K : WPar} {l : Launch} (hst : l.stackTraces = false) (M : Mem) (ticket : Int) (r_ticket : inR ticket) : CT K l iX5_firstOf [rV K 30 0, iV (ticket)] M (rR (fun z => isFst (M 34 0) ticket 240 z) (M)) := by
  refine aw_met [some (rV K 30 0), some (iV (ticket)), none] hst (by decide) rfl (Nat.le_of_ble_eq_true rfl) rfl rfl (lcat rfl) ?_
  refine aw_rng (fun hM => ?_)
  refine aw_iconst dX5_firstOf_0 ?_
  refine aw_istore_n (L2 := [some (rV K 30 0), some (iV (ticket)), some (iV 0)]) dX5_firstOf_1 rfl (by decide) rfl ?_
  have lp2 : ∀ (n2 : Nat) (pl : Int), (0 ≤ pl ∧ pl ≤ 240) → (∀ a : Int, 0 ≤ a → a < pl → M 34 0 a ≠ ticket) → (((240 : Int) - pl).toNat) < n2 → AW K l iX5_firstOf (ZM K iX5_firstOf (rR (fun z => isFst (M 34 0) ticket 240 z) (M))) 2 [some (rV K 30 0), some (iV (ticket)), some (iV (pl))] [] (M) 0 0 := by
    intro n2
    induction n2 with
    | zero =>
      intro pl e1 e2 hm2
      exact absurd hm2 (Nat.not_lt_zero _)
    | succ n2 ih2 =>
      intro pl e1 e2 hm2
      refine aw_iload_n dX5_firstOf_2 rfl rfl ?_
      refine aw_sipush dX5_firstOf_3 rfl ?_
      refine aw_icmp_ge (tgt := 27) dX5_firstOf_6 (by decide) (by omega) (by omega) (fun h6 => ?_) (fun h6 => ?_)
      · refine aw_iconst dX5_firstOf_27 ?_
        exact aw_iret dX5_firstOf_28 rfl rfl (by decide) (by decide) ⟨-1, rfl, (by exact Or.inl ⟨rfl, fun a a0 a1 => e2 a a0 (by omega)⟩), (by rfl)⟩
      · refine aw_aload_n dX5_firstOf_9 rfl rfl ?_
        refine aw_getr (g := 30) rfl rfl ly_X5 rfl (k := 7) dX5_firstOf_10 (by decide) fl_X5_19 rfl ?_
        refine aw_iload_n dX5_firstOf_13 rfl rfl ?_
        refine aw_iald (g := 34) (n := 240) rfl (by decide) dX5_firstOf_14 (by decide) (by show 0 ≤ pl ∧ pl < (240 : Int); omega) (fun r14 => ?_)
        refine aw_iload_n dX5_firstOf_15 rfl rfl ?_
        refine aw_icmp_ne (tgt := 21) dX5_firstOf_16 (by decide) (by omega) (by omega) (fun h16 => ?_) (fun h16 => ?_)
        · refine aw_iinc (L2 := [some (rV K 30 0), some (iV (ticket)), some (iV (pl + 1))]) dX5_firstOf_21 rfl (by decide) rfl ?_
          refine aw_goto (tgt := 2) dX5_firstOf_24 (by decide) ?_
          exact ih2 (pl + 1) (by omega) (by intro a a0 a1; by_cases e : a = pl; (subst e; assumption); exact e2 a a0 (by omega)) (by omega)
        · refine aw_iload_n dX5_firstOf_19 rfl rfl ?_
          exact aw_iret dX5_firstOf_20 rfl rfl (by decide) (by decide) ⟨pl, rfl, (by exact Or.inr ⟨e1.1, by omega, h16, e2⟩), (by rfl)⟩
  exact lp2 ((((240 : Int) - 0).toNat) + 1) (0) (by omega) (by intro a a0 a1; omega) (Nat.lt_succ_self _)
set_option maxHeartbeats 4000000 in
set_option maxRecDepth 20000 in
theorem c_X5_lastOf {K : WPar} {l : Launch} (hst : l.stackTraces = false) (M : Mem) (ticket : Int) (r_ticket : inR ticket) : CT K l iX5_lastOf [rV K 30 0, iV (ticket)] M (rR (fun z => isLst (M 34 0) ticket 240 z) (M)) := by
  refine aw_met [some (rV K 30 0), some (iV (ticket)), none, none] hst (by decide) rfl (Nat.le_of_ble_eq_true rfl) rfl rfl (lcat rfl) ?_
  refine aw_rng (fun hM => ?_)
  refine aw_iconst dX5_lastOf_0 ?_
  refine aw_istore_n (L2 := [some (rV K 30 0), some (iV (ticket)), some (iV (-1)), none]) dX5_lastOf_1 rfl (by decide) rfl ?_
  refine aw_iconst dX5_lastOf_2 ?_
  refine aw_istore_n (L2 := [some (rV K 30 0), some (iV (ticket)), some (iV (-1)), some (iV 0)]) dX5_lastOf_3 rfl (by decide) rfl ?_
  have lp4 : ∀ (n4 : Nat) (lst pl : Int), (0 ≤ pl ∧ pl ≤ 240) → (isLst (M 34 0) ticket pl lst) → (((240 : Int) - pl).toNat) < n4 → AW K l iX5_lastOf (ZM K iX5_lastOf (rR (fun z => isLst (M 34 0) ticket 240 z) (M))) 4 [some (rV K 30 0), some (iV (ticket)), some (iV (lst)), some (iV (pl))] [] (M) 0 0 := by
    intro n4
    induction n4 with
    | zero =>
      intro lst pl e1 e2 hm4
      exact absurd hm4 (Nat.not_lt_zero _)
    | succ n4 ih4 =>
      intro lst pl e1 e2 hm4
      refine aw_iload_n dX5_lastOf_4 rfl rfl ?_
      refine aw_sipush dX5_lastOf_5 rfl ?_
      refine aw_icmp_ge (tgt := 33) dX5_lastOf_8 (by decide) (by omega) (by omega) (fun h8 => ?_) (fun h8 => ?_)
      · refine aw_iload_n dX5_lastOf_33 rfl rfl ?_
        exact aw_iret dX5_lastOf_34 rfl rfl (by decide) (by decide) ⟨lst, rfl, (by have q : pl = 240 := (by omega); rw [← q]; exact e2), (by rfl)⟩
      · refine aw_aload_n dX5_lastOf_11 rfl rfl ?_
        refine aw_getr (g := 30) rfl rfl ly_X5 rfl (k := 7) dX5_lastOf_12 (by decide) fl_X5_19 rfl ?_
        refine aw_iload_n dX5_lastOf_15 rfl rfl ?_
        refine aw_iald (g := 34) (n := 240) rfl (by decide) dX5_lastOf_16 (by decide) (by show 0 ≤ pl ∧ pl < (240 : Int); omega) (fun r16 => ?_)
        refine aw_iload_n dX5_lastOf_17 rfl rfl ?_
        refine aw_icmp_ne (tgt := 25) dX5_lastOf_18 (by decide) (by omega) (by omega) (fun h18 => ?_) (fun h18 => ?_)
        · refine aw_iload_n dX5_lastOf_25 rfl rfl ?_
          refine aw_istore_n (L2 := [some (rV K 30 0), some (iV (ticket)), some (iV (lst)), some (iV (pl))]) dX5_lastOf_26 rfl (by decide) rfl ?_
          refine aw_iinc (L2 := [some (rV K 30 0), some (iV (ticket)), some (iV (lst)), some (iV (pl + 1))]) dX5_lastOf_27 rfl (by decide) rfl ?_
          refine aw_goto (tgt := 4) dX5_lastOf_30 (by decide) ?_
          exact ih4 (lst) (pl + 1) (by omega) (by have q := isLst_s e1.1 e2; first | (rw [if_pos (by assumption)] at q; exact q) | (rw [if_neg (by assumption)] at q; exact q)) (by omega)
        · refine aw_iload_n dX5_lastOf_21 rfl rfl ?_
          refine aw_goto (tgt := 26) dX5_lastOf_22 (by decide) ?_
          refine aw_istore_n (L2 := [some (rV K 30 0), some (iV (ticket)), some (iV (pl)), some (iV (pl))]) dX5_lastOf_26 rfl (by decide) rfl ?_
          refine aw_iinc (L2 := [some (rV K 30 0), some (iV (ticket)), some (iV (pl)), some (iV (pl + 1))]) dX5_lastOf_27 rfl (by decide) rfl ?_
          refine aw_goto (tgt := 4) dX5_lastOf_30 (by decide) ?_
          exact ih4 (pl) (pl + 1) (by omega) (by have q := isLst_s e1.1 e2; first | (rw [if_pos (by assumption)] at q; exact q) | (rw [if_neg (by assumption)] at q; exact q)) (by omega)
  exact lp4 ((((240 : Int) - 0).toNat) + 1) (-1) (0) (by omega) (by exact Or.inl ⟨rfl, fun a a0 a1 => by omega⟩) (Nat.lt_succ_self _)
set_option maxHeartbeats 4000000 in
set_option maxRecDepth 20000 in
theorem c_X5_mayWish {K : WPar} {l : Launch} (hst : l.stackTraces = false) (M : Mem) (ticket : Int) (row : Int) (r_ticket : inR ticket) (r_row : inR row) (v_t : 1 ≤ ticket ∧ ticket ≤ 100) (v_ex : M 35 0 ticket = 1 → ∃ a : Int, 0 ≤ a ∧ a < 240 ∧ M 34 0 a = ticket) : CT K l iX5_mayWish [rV K 30 0, iV (ticket), iV (row)] M (rB (M 35 0 ticket = 1 ∧ ∃ f g : Int, isFst (M 34 0) ticket 240 f ∧ isLst (M 34 0) ticket 240 g ∧ f / 20 = g / 20 ∧ f / 20 ≠ row) (M)) := by
  refine aw_met [some (rV K 30 0), some (iV (ticket)), some (iV (row))] hst (by decide) rfl (Nat.le_of_ble_eq_true rfl) rfl rfl (lcat rfl) ?_
  refine aw_rng (fun hM => ?_)
  refine aw_aload_n dX5_mayWish_0 rfl rfl ?_
  refine aw_getr (g := 30) rfl rfl ly_X5 rfl (k := 9) dX5_mayWish_1 (by decide) fl_X5_22 rfl ?_
  refine aw_iload_n dX5_mayWish_4 rfl rfl ?_
  refine aw_iald (g := 35) (n := 101) rfl (by decide) dX5_mayWish_5 (by decide) (by show 0 ≤ ticket ∧ ticket < (101 : Int); omega) (fun r5 => ?_)
  refine aw_iconst dX5_mayWish_6 ?_
  refine aw_icmp_ne (tgt := 45) dX5_mayWish_7 (by decide) (by omega) (by omega) (fun h7 => ?_) (fun h7 => ?_)
  · refine aw_iconst dX5_mayWish_45 ?_
    exact aw_iret dX5_mayWish_46 rfl rfl (by decide) (by decide) ⟨Or.inr ⟨rfl, by first | exact ⟨by assumption, z12, z20, h12, h20, by assumption, by rw [isFst_u h12 h31]; assumption⟩ | exact fun q => by omega | (rintro ⟨_, f, g, a1, a2, a3, a4⟩; have b1 := isFst_u a1 h12; have b2 := isLst_u a2 h20; subst b1 b2; first | exact absurd a3 (by assumption) | (have b3 := isFst_u h31 h12; subst b3; exact absurd (by assumption) a4))⟩, (by rfl)⟩
  · refine aw_aload_n dX5_mayWish_10 rfl rfl ?_
    refine aw_iload_n dX5_mayWish_11 rfl rfl ?_
    refine aw_cVr (g := 30) (As := [iV (ticket)]) (rest := []) (c_X5_firstOf hst M (ticket) (by omega)) cv_X5_firstOf dX5_mayWish_12 ml_X5_158 rfl rfl rfl rfl rfl (Nat.le_of_ble_eq_true rfl) (by decide) rfl rfl (by decide) (fun z12 (h12 : isFst (M 34 0) ticket 240 z12) => ?_)
    refine aw_bipush dX5_mayWish_15 rfl ?_
    have f12 := isFst_0 h12 (v_ex h7)
    refine aw_idiv dX5_mayWish_17 (by omega) (by omega) ?_
    refine aw_aload_n dX5_mayWish_18 rfl rfl ?_
    refine aw_iload_n dX5_mayWish_19 rfl rfl ?_
    refine aw_cVr (g := 30) (As := [iV (ticket)]) (rest := [iV (z12 / 20)]) (c_X5_lastOf hst M (ticket) (by omega)) cv_X5_lastOf dX5_mayWish_20 ml_X5_161 rfl rfl rfl rfl rfl (Nat.le_of_ble_eq_true rfl) (by decide) rfl rfl (by decide) (fun z20 (h20 : isLst (M 34 0) ticket 240 z20) => ?_)
    refine aw_bipush dX5_mayWish_23 rfl ?_
    have f20 := isLst_0 h20 (v_ex h7)
    refine aw_idiv dX5_mayWish_25 (by omega) (by omega) ?_
    refine aw_icmp_ne (tgt := 45) dX5_mayWish_26 (by decide) (by omega) (by omega) (fun h26 => ?_) (fun h26 => ?_)
    · refine aw_iconst dX5_mayWish_45 ?_
      exact aw_iret dX5_mayWish_46 rfl rfl (by decide) (by decide) ⟨Or.inr ⟨rfl, by first | exact ⟨by assumption, z12, z20, h12, h20, by assumption, by rw [isFst_u h12 h31]; assumption⟩ | exact fun q => by omega | (rintro ⟨_, f, g, a1, a2, a3, a4⟩; have b1 := isFst_u a1 h12; have b2 := isLst_u a2 h20; subst b1 b2; first | exact absurd a3 (by assumption) | (have b3 := isFst_u h31 h12; subst b3; exact absurd (by assumption) a4))⟩, (by rfl)⟩
    · refine aw_aload_n dX5_mayWish_29 rfl rfl ?_
      refine aw_iload_n dX5_mayWish_30 rfl rfl ?_
      refine aw_cVr (g := 30) (As := [iV (ticket)]) (rest := []) (c_X5_firstOf hst M (ticket) (by omega)) cv_X5_firstOf dX5_mayWish_31 ml_X5_158 rfl rfl rfl rfl rfl (Nat.le_of_ble_eq_true rfl) (by decide) rfl rfl (by decide) (fun z31 (h31 : isFst (M 34 0) ticket 240 z31) => ?_)
      refine aw_bipush dX5_mayWish_34 rfl ?_
      have f31 := isFst_0 h31 (v_ex h7)
      refine aw_idiv dX5_mayWish_36 (by omega) (by omega) ?_
      refine aw_iload_n dX5_mayWish_37 rfl rfl ?_
      refine aw_icmp_eq (tgt := 45) dX5_mayWish_38 (by decide) (by omega) (by omega) (fun h38 => ?_) (fun h38 => ?_)
      · refine aw_iconst dX5_mayWish_45 ?_
        exact aw_iret dX5_mayWish_46 rfl rfl (by decide) (by decide) ⟨Or.inr ⟨rfl, by first | exact ⟨by assumption, z12, z20, h12, h20, by assumption, by rw [isFst_u h12 h31]; assumption⟩ | exact fun q => by omega | (rintro ⟨_, f, g, a1, a2, a3, a4⟩; have b1 := isFst_u a1 h12; have b2 := isLst_u a2 h20; subst b1 b2; first | exact absurd a3 (by assumption) | (have b3 := isFst_u h31 h12; subst b3; exact absurd (by assumption) a4))⟩, (by rfl)⟩
      · refine aw_iconst dX5_mayWish_41 ?_
        refine aw_goto (tgt := 46) dX5_mayWish_42 (by decide) ?_
        exact aw_iret dX5_mayWish_46 rfl rfl (by decide) (by decide) ⟨Or.inl ⟨rfl, by first | exact ⟨by assumption, z12, z20, h12, h20, by assumption, by rw [isFst_u h12 h31]; assumption⟩ | exact fun q => by omega | (rintro ⟨_, f, g, a1, a2, a3, a4⟩; have b1 := isFst_u a1 h12; have b2 := isLst_u a2 h20; subst b1 b2; first | exact absurd a3 (by assumption) | (have b3 := isFst_u h31 h12; subst b3; exact absurd (by assumption) a4))⟩, (by rfl)⟩
set_option maxHeartbeats 4000000 in
set_option maxRecDepth 20000 in
theorem c_X5_wish {K : WPar} {l : Launch} (hst : l.stackTraces = false) (M : Mem) (ticket : Int) (row : Int) (r_ticket : inR ticket) (r_row : inR row) (hw : HWm M) (bw : BWm M) (v_ex : 1 ≤ ticket → ticket ≤ M 30 0 8 → M 35 0 ticket = 1 → ∃ a : Int, 0 ≤ a ∧ a < 240 ∧ M 34 0 a = ticket) : CT K l iX5_wish [rV K 30 0, iV (ticket), iV (row)] M (rZm (fun z m => ((¬ ((1 ≤ ticket ∧ ticket ≤ M 30 0 8) ∧ (0 ≤ row ∧ row < M 30 0 3))) ∧ z = 0 ∧ m = thr M 1) ∨ ((((1 ≤ ticket ∧ ticket ≤ M 30 0 8) ∧ (0 ≤ row ∧ row < M 30 0 3)) ∧ ¬ (M 35 0 ticket = 1 ∧ ∃ f g : Int, isFst (M 34 0) ticket 240 f ∧ isLst (M 34 0) ticket 240 g ∧ f / 20 = g / 20 ∧ f / 20 ≠ row)) ∧ z = 0 ∧ m = thr M 2) ∨ ((((1 ≤ ticket ∧ ticket ≤ M 30 0 8) ∧ (0 ≤ row ∧ row < M 30 0 3)) ∧ (M 35 0 ticket = 1 ∧ ∃ f g : Int, isFst (M 34 0) ticket 240 f ∧ isLst (M 34 0) ticket 240 g ∧ f / 20 = g / 20 ∧ f / 20 ≠ row)) ∧ z = M 39 0 ticket ∧ m = updM (thr M 0) 39 0 ticket row))) := by
  refine aw_met [some (rV K 30 0), some (iV (ticket)), some (iV (row)), none] hst (by decide) rfl (Nat.le_of_ble_eq_true rfl) rfl rfl (lcat rfl) ?_
  refine aw_rng (fun hM => ?_)
  refine aw_aload_n dX5_wish_0 rfl rfl ?_
  refine aw_aload_n dX5_wish_1 rfl rfl ?_
  refine aw_iload_n dX5_wish_2 rfl rfl ?_
  refine aw_cVb (g := 30) (As := [iV (ticket)]) (rest := [rV K 30 0]) (c_X5_isTicket hst M (ticket) (by have n1 := hw.1; have n2 := hw.2.1; have t1 := bw.1; have t2 := bw.2; omega) (by have n1 := hw.1; have n2 := hw.2.1; have t1 := bw.1; have t2 := bw.2; omega)) cv_X5_isTicket dX5_wish_3 ml_X5_143 rfl rfl rfl rfl rfl (Nat.le_of_ble_eq_true rfl) (by decide) rfl rfl (by decide) (fun h3 => ?_) (fun h3 => ?_)
  · refine aw_if_eq (tgt := 17) dX5_wish_6 (by decide) (by decide) (fun h => absurd h (by decide)) (fun _ => ?_)
    refine aw_aload_n dX5_wish_9 rfl rfl ?_
    refine aw_iload_n dX5_wish_10 rfl rfl ?_
    refine aw_cVb (g := 30) (As := [iV (row)]) (rest := [rV K 30 0]) (c_X5_isRow hst M (row) (by have n1 := hw.1; have n2 := hw.2.1; have t1 := bw.1; have t2 := bw.2; omega) (by have n1 := hw.1; have n2 := hw.2.1; have t1 := bw.1; have t2 := bw.2; omega)) cv_X5_isRow dX5_wish_11 ml_X5_67 rfl rfl rfl rfl rfl (Nat.le_of_ble_eq_true rfl) (by decide) rfl rfl (by decide) (fun h11 => ?_) (fun h11 => ?_)
    · refine aw_if_ne (tgt := 21) dX5_wish_14 (by decide) (by decide) (fun _ => ?_) (fun h => absurd h (by decide))
      refine aw_aload_n dX5_wish_21 rfl rfl ?_
      refine aw_iload_n dX5_wish_22 rfl rfl ?_
      refine aw_iload_n dX5_wish_23 rfl rfl ?_
      refine aw_cVb (g := 30) (As := [iV (ticket), iV (row)]) (rest := [rV K 30 0]) (c_X5_mayWish hst M (ticket) (row) (by have n1 := hw.1; have n2 := hw.2.1; have t1 := bw.1; have t2 := bw.2; omega) (by have n1 := hw.1; have n2 := hw.2.1; have t1 := bw.1; have t2 := bw.2; omega) (by have n1 := hw.1; have n2 := hw.2.1; have t1 := bw.1; have t2 := bw.2; omega) (by exact v_ex h3.1 h3.2)) cv_X5_mayWish dX5_wish_24 ml_X5_164 rfl rfl rfl rfl rfl (Nat.le_of_ble_eq_true rfl) (by decide) rfl rfl (by decide) (fun h24 => ?_) (fun h24 => ?_)
      · refine aw_if_eq (tgt := 34) dX5_wish_27 (by decide) (by decide) (fun h => absurd h (by decide)) (fun _ => ?_)
        refine aw_iconst dX5_wish_30 ?_
        refine aw_goto (tgt := 35) dX5_wish_31 (by decide) ?_
        refine aw_cVi (g := 30) (As := [iV 0]) (rest := []) (c_X5_holds hst M (0) (by have n1 := hw.1; have n2 := hw.2.1; have t1 := bw.1; have t2 := bw.2; omega)) cv_X5_holds dX5_wish_35 ml_X5_63 rfl rfl rfl rfl rfl (Nat.le_of_ble_eq_true rfl) (by decide) rfl rfl (by decide) ?_
        refine aw_st (st' := [iV 1]) (by rw [if_pos (by decide)]) ?_
        refine aw_if_ne (tgt := 43) dX5_wish_38 (by decide) (by decide) (fun _ => ?_) (fun h => absurd h (by decide))
        refine aw_aload_n dX5_wish_43 rfl rfl ?_
        refine aw_getr (g := 30) rfl rfl ly_X5 rfl (k := 13) dX5_wish_44 (by decide) fl_X5_34 rfl ?_
        refine aw_iload_n dX5_wish_47 rfl rfl ?_
        refine aw_iald (g := 39) (n := 101) rfl (by decide) dX5_wish_48 (by decide) (by show 0 ≤ ticket ∧ ticket < (101 : Int); have n1 := hw.1; have n2 := hw.2.1; have t1 := bw.1; have t2 := bw.2; omega) (fun r48 => ?_)
        have r48 : inR (M 39 0 ticket) := r48
        refine aw_st (st' := [iV (M 39 0 ticket)]) (by rw [show ((thr M 0) 39 0 ticket : Int) = M 39 0 ticket from by rfl]) ?_
        refine aw_istore_n (L2 := [some (rV K 30 0), some (iV (ticket)), some (iV (row)), some (iV (M 39 0 ticket))]) dX5_wish_49 rfl (by decide) rfl ?_
        refine aw_aload_n dX5_wish_50 rfl rfl ?_
        refine aw_getr (g := 30) rfl rfl ly_X5 rfl (k := 13) dX5_wish_51 (by decide) fl_X5_34 rfl ?_
        refine aw_iload_n dX5_wish_54 rfl rfl ?_
        refine aw_iload_n dX5_wish_55 rfl rfl ?_
        refine aw_iast (g := 39) (n := 101) (M' := updM (thr M 0) 39 0 ticket row) rfl (by decide) dX5_wish_56 (by decide) (by show 0 ≤ ticket ∧ ticket < (101 : Int); have n1 := hw.1; have n2 := hw.2.1; have t1 := bw.1; have t2 := bw.2; omega) (by have n1 := hw.1; have n2 := hw.2.1; have t1 := bw.1; have t2 := bw.2; omega) rfl ?_
        refine aw_iload_n dX5_wish_57 rfl rfl ?_
        exact aw_iret dX5_wish_58 rfl rfl (by decide) (by decide) ⟨M 39 0 ticket, rfl, (by first | (exfalso; have n1 := hw.1; have n2 := hw.2.1; have t1 := bw.1; have t2 := bw.2; omega) | exact (Or.inl ⟨by have n1 := hw.1; have n2 := hw.2.1; have t1 := bw.1; have t2 := bw.2; omega, by first | rfl | (have n1 := hw.1; have n2 := hw.2.1; have t1 := bw.1; have t2 := bw.2; omega), by rfl⟩) | exact (Or.inr (Or.inl ⟨by exact ⟨by omega, by assumption⟩, by first | rfl | (have n1 := hw.1; have n2 := hw.2.1; have t1 := bw.1; have t2 := bw.2; omega), by rfl⟩)) | exact (Or.inr (Or.inr ⟨by exact ⟨by omega, by assumption⟩, by first | rfl | (have n1 := hw.1; have n2 := hw.2.1; have t1 := bw.1; have t2 := bw.2; omega), by rfl⟩)))⟩
      · refine aw_if_eq (tgt := 34) dX5_wish_27 (by decide) (by decide) (fun _ => ?_) (fun h => absurd (by decide) h)
        refine aw_iconst dX5_wish_34 ?_
        refine aw_cVi (g := 30) (As := [iV 2]) (rest := []) (c_X5_holds hst M (2) (by have n1 := hw.1; have n2 := hw.2.1; have t1 := bw.1; have t2 := bw.2; omega)) cv_X5_holds dX5_wish_35 ml_X5_63 rfl rfl rfl rfl rfl (Nat.le_of_ble_eq_true rfl) (by decide) rfl rfl (by decide) ?_
        refine aw_st (st' := [iV 0]) (by rw [if_neg (by decide)]) ?_
        refine aw_if_ne (tgt := 43) dX5_wish_38 (by decide) (by decide) (fun h => absurd h (by decide)) (fun _ => ?_)
        refine aw_iconst dX5_wish_41 ?_
        exact aw_iret dX5_wish_42 rfl rfl (by decide) (by decide) ⟨0, rfl, (by first | (exfalso; have n1 := hw.1; have n2 := hw.2.1; have t1 := bw.1; have t2 := bw.2; omega) | exact (Or.inl ⟨by have n1 := hw.1; have n2 := hw.2.1; have t1 := bw.1; have t2 := bw.2; omega, by first | rfl | (have n1 := hw.1; have n2 := hw.2.1; have t1 := bw.1; have t2 := bw.2; omega), by rfl⟩) | exact (Or.inr (Or.inl ⟨by exact ⟨by omega, by assumption⟩, by first | rfl | (have n1 := hw.1; have n2 := hw.2.1; have t1 := bw.1; have t2 := bw.2; omega), by rfl⟩)) | exact (Or.inr (Or.inr ⟨by exact ⟨by omega, by assumption⟩, by first | rfl | (have n1 := hw.1; have n2 := hw.2.1; have t1 := bw.1; have t2 := bw.2; omega), by rfl⟩)))⟩
    · refine aw_if_ne (tgt := 21) dX5_wish_14 (by decide) (by decide) (fun h => absurd h (by decide)) (fun _ => ?_)
      refine aw_iconst dX5_wish_17 ?_
      refine aw_goto (tgt := 35) dX5_wish_18 (by decide) ?_
      refine aw_cVi (g := 30) (As := [iV 1]) (rest := []) (c_X5_holds hst M (1) (by have n1 := hw.1; have n2 := hw.2.1; have t1 := bw.1; have t2 := bw.2; omega)) cv_X5_holds dX5_wish_35 ml_X5_63 rfl rfl rfl rfl rfl (Nat.le_of_ble_eq_true rfl) (by decide) rfl rfl (by decide) ?_
      refine aw_st (st' := [iV 0]) (by rw [if_neg (by decide)]) ?_
      refine aw_if_ne (tgt := 43) dX5_wish_38 (by decide) (by decide) (fun h => absurd h (by decide)) (fun _ => ?_)
      refine aw_iconst dX5_wish_41 ?_
      exact aw_iret dX5_wish_42 rfl rfl (by decide) (by decide) ⟨0, rfl, (by first | (exfalso; have n1 := hw.1; have n2 := hw.2.1; have t1 := bw.1; have t2 := bw.2; omega) | exact (Or.inl ⟨by have n1 := hw.1; have n2 := hw.2.1; have t1 := bw.1; have t2 := bw.2; omega, by first | rfl | (have n1 := hw.1; have n2 := hw.2.1; have t1 := bw.1; have t2 := bw.2; omega), by rfl⟩) | exact (Or.inr (Or.inl ⟨by exact ⟨by omega, by assumption⟩, by first | rfl | (have n1 := hw.1; have n2 := hw.2.1; have t1 := bw.1; have t2 := bw.2; omega), by rfl⟩)) | exact (Or.inr (Or.inr ⟨by exact ⟨by omega, by assumption⟩, by first | rfl | (have n1 := hw.1; have n2 := hw.2.1; have t1 := bw.1; have t2 := bw.2; omega), by rfl⟩)))⟩
  · refine aw_if_eq (tgt := 17) dX5_wish_6 (by decide) (by decide) (fun _ => ?_) (fun h => absurd (by decide) h)
    refine aw_iconst dX5_wish_17 ?_
    refine aw_goto (tgt := 35) dX5_wish_18 (by decide) ?_
    refine aw_cVi (g := 30) (As := [iV 1]) (rest := []) (c_X5_holds hst M (1) (by have n1 := hw.1; have n2 := hw.2.1; have t1 := bw.1; have t2 := bw.2; omega)) cv_X5_holds dX5_wish_35 ml_X5_63 rfl rfl rfl rfl rfl (Nat.le_of_ble_eq_true rfl) (by decide) rfl rfl (by decide) ?_
    refine aw_st (st' := [iV 0]) (by rw [if_neg (by decide)]) ?_
    refine aw_if_ne (tgt := 43) dX5_wish_38 (by decide) (by decide) (fun h => absurd h (by decide)) (fun _ => ?_)
    refine aw_iconst dX5_wish_41 ?_
    exact aw_iret dX5_wish_42 rfl rfl (by decide) (by decide) ⟨0, rfl, (by first | (exfalso; have n1 := hw.1; have n2 := hw.2.1; have t1 := bw.1; have t2 := bw.2; omega) | exact (Or.inl ⟨by have n1 := hw.1; have n2 := hw.2.1; have t1 := bw.1; have t2 := bw.2; omega, by first | rfl | (have n1 := hw.1; have n2 := hw.2.1; have t1 := bw.1; have t2 := bw.2; omega), by rfl⟩) | exact (Or.inr (Or.inl ⟨by exact ⟨by omega, by assumption⟩, by first | rfl | (have n1 := hw.1; have n2 := hw.2.1; have t1 := bw.1; have t2 := bw.2; omega), by rfl⟩)) | exact (Or.inr (Or.inr ⟨by exact ⟨by omega, by assumption⟩, by first | rfl | (have n1 := hw.1; have n2 := hw.2.1; have t1 := bw.1; have t2 := bw.2; omega), by rfl⟩)))⟩
set_option maxHeartbeats 4000000 in
set_option maxRecDepth 20000 in
theorem c_X5_hasWish {K : WPar} {l : Launch} (hst : l.stackTraces = false) (M : Mem) (ticket : Int) (r_ticket : inR ticket) (v_t : 1 ≤ ticket ∧ ticket ≤ 100) : CT K l iX5_hasWish [rV K 30 0, iV (ticket)] M (rB (M 35 0 ticket = 1 ∧ 0 ≤ M 39 0 ticket) (M)) := by
  refine aw_met [some (rV K 30 0), some (iV (ticket))] hst (by decide) rfl (Nat.le_of_ble_eq_true rfl) rfl rfl (lcat rfl) ?_
  refine aw_rng (fun hM => ?_)
  have x39 := hM 39 0 ticket; have x35 := hM 35 0 ticket
  refine aw_aload_n dX5_hasWish_0 rfl rfl ?_
  refine aw_getr (g := 30) rfl rfl ly_X5 rfl (k := 9) dX5_hasWish_1 (by decide) fl_X5_22 rfl ?_
  refine aw_iload_n dX5_hasWish_4 rfl rfl ?_
  refine aw_iald (g := 35) (n := 101) rfl (by decide) dX5_hasWish_5 (by decide) (by show 0 ≤ ticket ∧ ticket < (101 : Int); omega) (fun r5 => ?_)
  refine aw_iconst dX5_hasWish_6 ?_
  refine aw_icmp_ne (tgt := 23) dX5_hasWish_7 (by decide) (by omega) (by omega) (fun h7 => ?_) (fun h7 => ?_)
  · refine aw_iconst dX5_hasWish_23 ?_
    exact aw_iret dX5_hasWish_24 rfl rfl (by decide) (by decide) ⟨Or.inr ⟨rfl, by omega⟩, (by rfl)⟩
  · refine aw_aload_n dX5_hasWish_10 rfl rfl ?_
    refine aw_getr (g := 30) rfl rfl ly_X5 rfl (k := 13) dX5_hasWish_11 (by decide) fl_X5_34 rfl ?_
    refine aw_iload_n dX5_hasWish_14 rfl rfl ?_
    refine aw_iald (g := 39) (n := 101) rfl (by decide) dX5_hasWish_15 (by decide) (by show 0 ≤ ticket ∧ ticket < (101 : Int); omega) (fun r15 => ?_)
    refine aw_if_lt (tgt := 23) dX5_hasWish_16 (by decide) (by omega) (fun h16 => ?_) (fun h16 => ?_)
    · refine aw_iconst dX5_hasWish_23 ?_
      exact aw_iret dX5_hasWish_24 rfl rfl (by decide) (by decide) ⟨Or.inr ⟨rfl, by omega⟩, (by rfl)⟩
    · refine aw_iconst dX5_hasWish_19 ?_
      refine aw_goto (tgt := 24) dX5_hasWish_20 (by decide) ?_
      exact aw_iret dX5_hasWish_24 rfl rfl (by decide) (by decide) ⟨Or.inl ⟨rfl, by omega⟩, (by rfl)⟩
