set_option maxHeartbeats 4000000 in
set_option maxRecDepth 20000 in
theorem c_X0_stepsOf {K : WPar} {l : Launch} (hst : l.stackTraces = false) (M : Mem) (row : Int) (r_row : inR row) (hw : HW M) : CT K l iX0_stepsOf [rV K 27 0, iV (row)] M (rI (if 0 ≤ row ∧ row < M 1 0 4 then M 28 0 row else 13) (M)) := by
  refine aw_met [some (rV K 27 0), some (iV (row))] hst (by decide) rfl (Nat.le_of_ble_eq_true rfl) rfl rfl (lcat rfl) ?_
  refine aw_rng (fun hM => ?_)
  refine aw_aload_n dX0_stepsOf_0 rfl rfl ?_
  refine aw_getr (g := 27) rfl rfl ly_X0 rfl (k := 0) dX0_stepsOf_1 (by decide) fl_X0_9 rfl ?_
  refine aw_iload_n dX0_stepsOf_4 rfl rfl ?_
  refine aw_cVb (g := 1) (As := [iV (row)]) (rest := []) (c_X2_hasRow hst M (row) (by have n1 := hw.1; have n2 := hw.2.1; omega)) cv_X2_hasRow dX0_stepsOf_5 ml_X0_65 rfl rfl rfl rfl rfl (Nat.le_of_ble_eq_true rfl) (by decide) rfl rfl (by decide) (fun h5 => ?_) (fun h5 => ?_)
  · refine aw_if_eq (tgt := 20) dX0_stepsOf_8 (by decide) (by decide) (fun h => absurd h (by decide)) (fun _ => ?_)
    refine aw_aload_n dX0_stepsOf_11 rfl rfl ?_
    refine aw_getr (g := 27) rfl rfl ly_X0 rfl (k := 2) dX0_stepsOf_12 (by decide) fl_X0_19 rfl ?_
    refine aw_iload_n dX0_stepsOf_15 rfl rfl ?_
    refine aw_iald (g := 28) (n := 12) rfl (by decide) dX0_stepsOf_16 (by decide) (by show 0 ≤ row ∧ row < (12 : Int); have n1 := hw.1; have n2 := hw.2.1; omega) (fun r16 => ?_)
    refine aw_goto (tgt := 22) dX0_stepsOf_17 (by decide) ?_
    exact aw_iret dX0_stepsOf_22 rfl rfl (by decide) (by decide) ⟨congrArg (fun z => Sum.inl (some z)) (by first | rfl | omega), (by rfl)⟩
  · refine aw_if_eq (tgt := 20) dX0_stepsOf_8 (by decide) (by decide) (fun _ => ?_) (fun h => absurd (by decide) h)
    refine aw_bipush dX0_stepsOf_20 rfl ?_
    exact aw_iret dX0_stepsOf_22 rfl rfl (by decide) (by decide) ⟨congrArg (fun z => Sum.inl (some z)) (by first | rfl | omega), (by rfl)⟩
set_option maxHeartbeats 4000000 in
set_option maxRecDepth 20000 in
theorem c_X0_takesPart {K : WPar} {l : Launch} (hst : l.stackTraces = false) (M : Mem) (t : Int) (r_t : inR t) (bw : BW M) (v_t : 1 ≤ t ∧ t ≤ M 7 0 8) : CT K l iX0_takesPart [rV K 27 0, iV (t)] M (rB (ptM M (M 27 0 5) t) (M)) := by
  refine aw_met [some (rV K 27 0), some (iV (t))] hst (by decide) rfl (Nat.le_of_ble_eq_true rfl) rfl rfl (lcat rfl) ?_
  refine aw_rng (fun hM => ?_)
  have x1 := hM 15 0 t; have x2 := hM 9 0 t
  refine aw_aload_n dX0_takesPart_0 rfl rfl ?_
  refine aw_getr (g := 27) rfl rfl ly_X0 rfl (k := 1) dX0_takesPart_1 (by decide) fl_X0_15 rfl ?_
  refine aw_iload_n dX0_takesPart_4 rfl rfl ?_
  refine aw_cVi (g := 7) (As := [iV (t)]) (rest := []) (c_X3_wishOf hst M (t) (by have h1 := bw.1; have h2 := bw.2; omega) (by have h1 := bw.1; have h2 := bw.2; omega)) cv_X3_wishOf dX0_takesPart_5 ml_X0_55 rfl rfl rfl rfl rfl (Nat.le_of_ble_eq_true rfl) (by decide) rfl rfl (by decide) ?_
  refine aw_st (st' := [iV (M 15 0 t)]) (by rw [show (if 1 ≤ t ∧ t ≤ M 7 0 8 then M 15 0 t else -1 : Int) = M 15 0 t from by exact if_pos v_t]) ?_
  refine aw_iconst dX0_takesPart_8 ?_
  refine aw_icmp_eq (tgt := 31) dX0_takesPart_9 (by decide) (by have h1 := bw.1; have h2 := bw.2; omega) (by have h1 := bw.1; have h2 := bw.2; omega) (fun h9 => ?_) (fun h9 => ?_)
  · refine aw_iconst dX0_takesPart_31 ?_
    exact aw_iret dX0_takesPart_32 rfl rfl (by decide) (by decide) ⟨Or.inr ⟨rfl, by have h1 := bw.1; have h2 := bw.2; omega⟩, (by rfl)⟩
  · refine aw_aload_n dX0_takesPart_12 rfl rfl ?_
    refine aw_getr (g := 27) rfl rfl ly_X0 rfl (k := 1) dX0_takesPart_13 (by decide) fl_X0_15 rfl ?_
    refine aw_iload_n dX0_takesPart_16 rfl rfl ?_
    refine aw_cVi (g := 7) (As := [iV (t)]) (rest := []) (c_X3_sizeOf hst M (t) (by have h1 := bw.1; have h2 := bw.2; omega) (by have h1 := bw.1; have h2 := bw.2; omega)) cv_X3_sizeOf dX0_takesPart_17 ml_X0_33 rfl rfl rfl rfl rfl (Nat.le_of_ble_eq_true rfl) (by decide) rfl rfl (by decide) ?_
    refine aw_st (st' := [iV (M 9 0 t)]) (by rw [show (if 1 ≤ t ∧ t ≤ M 7 0 8 then M 9 0 t else 0 : Int) = M 9 0 t from by exact if_pos v_t]) ?_
    refine aw_aload_n dX0_takesPart_20 rfl rfl ?_
    refine aw_geti (g := 27) rfl rfl ly_X0 rfl (k := 5) 5 rfl dX0_takesPart_21 (by decide) fl_X0_30 rfl (fun r21 => ?_)
    refine aw_icmp_ne (tgt := 31) dX0_takesPart_24 (by decide) (by have h1 := bw.1; have h2 := bw.2; omega) (by have h1 := bw.1; have h2 := bw.2; omega) (fun h24 => ?_) (fun h24 => ?_)
    · refine aw_iconst dX0_takesPart_31 ?_
      exact aw_iret dX0_takesPart_32 rfl rfl (by decide) (by decide) ⟨Or.inr ⟨rfl, by have h1 := bw.1; have h2 := bw.2; omega⟩, (by rfl)⟩
    · refine aw_iconst dX0_takesPart_27 ?_
      refine aw_goto (tgt := 32) dX0_takesPart_28 (by decide) ?_
      exact aw_iret dX0_takesPart_32 rfl rfl (by decide) (by decide) ⟨Or.inl ⟨rfl, by have h1 := bw.1; have h2 := bw.2; omega⟩, (by rfl)⟩
set_option maxHeartbeats 4000000 in
set_option maxRecDepth 20000 in
theorem c_X0_markEnds {K : WPar} {l : Launch} (hst : l.stackTraces = false) (M : Mem) (fr : Int) (r_fr : inR fr) (hw : HW M) (v_se : 1 ≤ M 27 0 5 ∧ M 27 0 5 ≤ 20) : CT K l iX0_markEnds [rV K 27 0, iV (fr)] M (rMm (fun m => (∀ g : Nat, g ≠ 28 → m g = M g) ∧ ∀ r : Int, 0 ≤ r → r < M 1 0 4 → mkR M m (M 27 0 5) fr r)) := by
  refine aw_met [some (rV K 27 0), some (iV (fr)), none, none] hst (by decide) rfl (Nat.le_of_ble_eq_true rfl) rfl rfl (lcat rfl) ?_
  refine aw_rng (fun hM => ?_)
  refine aw_iconst dX0_markEnds_0 ?_
  refine aw_istore_n (L2 := [some (rV K 27 0), some (iV (fr)), some (iV 0), none]) dX0_markEnds_1 rfl (by decide) rfl ?_
  have lp2 : ∀ (n2 : Nat) (row : Int) (m1 : Mem), (0 ≤ row ∧ row ≤ M 1 0 4) → (∀ g : Nat, g ≠ 28 → m1 g = M g) → (∀ r : Int, 0 ≤ r → r < row → mkR M m1 (M 27 0 5) fr r) → ((M 1 0 4 - row).toNat) < n2 → AW K l iX0_markEnds (ZM K iX0_markEnds (rMm (fun m => (∀ g : Nat, g ≠ 28 → m g = M g) ∧ ∀ r : Int, 0 ≤ r → r < M 1 0 4 → mkR M m (M 27 0 5) fr r))) 2 [some (rV K 27 0), some (iV (fr)), some (iV (row)), none] [] (m1) 0 0 := by
    intro n2
    induction n2 with
    | zero =>
      intro row m1 e1 e2 e3 hm2
      exact absurd hm2 (Nat.not_lt_zero _)
    | succ n2 ih2 =>
      intro row m1 e1 e2 e3 hm2
      have a1 := e2 1 (by decide); have a2 := e2 2 (by decide); have a3 := e2 3 (by decide); have a6 := e2 6 (by decide); have a27 := e2 27 (by decide); have hw1 : HW m1 := HW_g hw a1 a2 a3 (e2 4 (by decide)); have b1 : m1 1 0 4 = M 1 0 4 := (by rw [a1]); have b27 : m1 27 0 5 = M 27 0 5 := (by rw [a27])
      refine aw_iload_n dX0_markEnds_2 rfl rfl ?_
      refine aw_aload_n dX0_markEnds_3 rfl rfl ?_
      refine aw_getr (g := 27) rfl rfl ly_X0 rfl (k := 0) dX0_markEnds_4 (by decide) fl_X0_9 rfl ?_
      refine aw_cVi (g := 1) (As := []) (rest := [iV (row)]) (c_X2_rowCount hst m1) cv_X2_rowCount dX0_markEnds_7 ml_X0_46 rfl rfl rfl rfl rfl (Nat.le_of_ble_eq_true rfl) (by decide) rfl rfl (by decide) ?_
      refine aw_icmp_ge (tgt := 63) dX0_markEnds_10 (by decide) (by have n1 := hw.1; have n2 := hw.2.1; omega) (by have n1 := hw.1; have n2 := hw.2.1; omega) (fun h10 => ?_) (fun h10 => ?_)
      · exact aw_vret dX0_markEnds_63 rfl (by decide) (by decide) ⟨rfl, (by exact ⟨e2, fun r r1 r2 => e3 r r1 (by omega)⟩)⟩
      · refine aw_iload_n dX0_markEnds_13 rfl rfl ?_
        refine aw_iload_n dX0_markEnds_14 rfl rfl ?_
        refine aw_icmp_eq (tgt := 35) dX0_markEnds_15 (by decide) (by have n1 := hw.1; have n2 := hw.2.1; omega) (by have n1 := hw.1; have n2 := hw.2.1; omega) (fun h15 => ?_) (fun h15 => ?_)
        · refine aw_iconst dX0_markEnds_35 ?_
          refine aw_goto (tgt := 40) dX0_markEnds_36 (by decide) ?_
          refine aw_istore_n (L2 := [some (rV K 27 0), some (iV (fr)), some (iV (row)), some (iV 1)]) dX0_markEnds_40 rfl (by decide) rfl ?_
          refine aw_aload_n dX0_markEnds_41 rfl rfl ?_
          refine aw_getr (g := 27) rfl rfl ly_X0 rfl (k := 2) dX0_markEnds_42 (by decide) fl_X0_19 rfl ?_
          refine aw_iload_n dX0_markEnds_45 rfl rfl ?_
          refine aw_iload_n dX0_markEnds_46 rfl rfl ?_
          refine aw_if_eq (tgt := 54) dX0_markEnds_47 (by decide) (by decide) (fun h => absurd h (by decide)) (fun _ => ?_)
          refine aw_iconst dX0_markEnds_50 ?_
          refine aw_goto (tgt := 56) dX0_markEnds_51 (by decide) ?_
          refine aw_iast (g := 28) (n := 12) (M' := updM m1 28 0 row 0) rfl (by decide) dX0_markEnds_56 (by decide) (by show 0 ≤ row ∧ row < (12 : Int); have n1 := hw.1; have n2 := hw.2.1; omega) (by have n1 := hw.1; have n2 := hw.2.1; omega) rfl ?_
          refine aw_iinc (L2 := [some (rV K 27 0), some (iV (fr)), some (iV (row + 1)), some (iV 1)]) dX0_markEnds_57 rfl (by decide) rfl ?_
          refine aw_goto (tgt := 2) dX0_markEnds_60 (by decide) ?_
          refine aw_weak (L' := [some (rV K 27 0), some (iV (fr)), some (iV (row + 1)), none]) ⟨Or.inr rfl, Or.inr rfl, Or.inr rfl, Or.inl rfl, trivial⟩ ?_
          exact ih2 (row + 1) (updM m1 28 0 row 0) (by have n1 := hw.1; have n2 := hw.2.1; omega) (by intro g hg; rw [updM_g hg]; exact e2 g hg) (by intro r r1 r2; by_cases e : r = row; (subst e; unfold mkR; rw [updM_same]; first | exact Or.inl ⟨rfl, ⟨r1, by omega⟩, Or.inl h15⟩ | exact Or.inl ⟨rfl, ⟨r1, by omega⟩, Or.inr (hok.mpr h32)⟩ | exact Or.inr ⟨rfl, fun q => q.2.elim h15 (fun z => hok.mp z h32)⟩); (unfold mkR; rw [updM_j e]; exact e3 r r1 (by omega))) (by have n1 := hw.1; have n2 := hw.2.1; omega)
        · refine aw_aload_n dX0_markEnds_18 rfl rfl ?_
          refine aw_getr (g := 27) rfl rfl ly_X0 rfl (k := 0) dX0_markEnds_19 (by decide) fl_X0_9 rfl ?_
          refine aw_iload_n dX0_markEnds_22 rfl rfl ?_
          refine aw_aload_n dX0_markEnds_23 rfl rfl ?_
          refine aw_geti (g := 27) rfl rfl ly_X0 rfl (k := 5) 5 rfl dX0_markEnds_24 (by decide) fl_X0_30 rfl (fun r24 => ?_)
          refine aw_iconst dX0_markEnds_27 ?_
          refine aw_cVr (g := 1) (As := [iV (row), iV (m1 27 0 5), iV 1]) (rest := []) (c_X2_greatestIn hst m1 (row) (m1 27 0 5) (1) (by have n1 := hw.1; have n2 := hw.2.1; omega) (by have n1 := hw.1; have n2 := hw.2.1; omega) (by have n1 := hw.1; have n2 := hw.2.1; omega) (by exact hw1) (by omega) (by omega)) cv_X2_greatestIn dX0_markEnds_28 ml_X0_69 rfl rfl rfl rfl rfl (Nat.le_of_ble_eq_true rfl) (by decide) rfl rfl (by decide) (fun z28 (h28 : isBest (cB (m1 2 0) (m1 6) (m1 27 0 5) (1 ≠ 0) row) (vBR (m1 3 0) (m1 2 0) (m1 27 0 5) row) z28) => ?_)
          have hok := h28; rw [a2, a3, a6, b27] at hok; replace hok := (okM_z hok).2
          refine aw_iconst dX0_markEnds_31 ?_
          refine aw_icmp_eq (tgt := 39) dX0_markEnds_32 (by decide) (by rcases isBest_in h28 with q | q; omega; (have w := q.2.1; have w2 := hw1.2.2 row e1.1 (by omega); omega)) (by have n1 := hw.1; have n2 := hw.2.1; omega) (fun h32 => ?_) (fun h32 => ?_)
          · refine aw_iconst dX0_markEnds_39 ?_
            refine aw_istore_n (L2 := [some (rV K 27 0), some (iV (fr)), some (iV (row)), some (iV 0)]) dX0_markEnds_40 rfl (by decide) rfl ?_
            refine aw_aload_n dX0_markEnds_41 rfl rfl ?_
            refine aw_getr (g := 27) rfl rfl ly_X0 rfl (k := 2) dX0_markEnds_42 (by decide) fl_X0_19 rfl ?_
            refine aw_iload_n dX0_markEnds_45 rfl rfl ?_
            refine aw_iload_n dX0_markEnds_46 rfl rfl ?_
            refine aw_if_eq (tgt := 54) dX0_markEnds_47 (by decide) (by decide) (fun _ => ?_) (fun h => absurd (by decide) h)
            refine aw_bipush dX0_markEnds_54 rfl ?_
            refine aw_iast (g := 28) (n := 12) (M' := updM m1 28 0 row 13) rfl (by decide) dX0_markEnds_56 (by decide) (by show 0 ≤ row ∧ row < (12 : Int); have n1 := hw.1; have n2 := hw.2.1; omega) (by have n1 := hw.1; have n2 := hw.2.1; omega) rfl ?_
            refine aw_iinc (L2 := [some (rV K 27 0), some (iV (fr)), some (iV (row + 1)), some (iV 0)]) dX0_markEnds_57 rfl (by decide) rfl ?_
            refine aw_goto (tgt := 2) dX0_markEnds_60 (by decide) ?_
            refine aw_weak (L' := [some (rV K 27 0), some (iV (fr)), some (iV (row + 1)), none]) ⟨Or.inr rfl, Or.inr rfl, Or.inr rfl, Or.inl rfl, trivial⟩ ?_
            exact ih2 (row + 1) (updM m1 28 0 row 13) (by have n1 := hw.1; have n2 := hw.2.1; omega) (by intro g hg; rw [updM_g hg]; exact e2 g hg) (by intro r r1 r2; by_cases e : r = row; (subst e; unfold mkR; rw [updM_same]; first | exact Or.inl ⟨rfl, ⟨r1, by omega⟩, Or.inl h15⟩ | exact Or.inl ⟨rfl, ⟨r1, by omega⟩, Or.inr (hok.mpr h32)⟩ | exact Or.inr ⟨rfl, fun q => q.2.elim h15 (fun z => hok.mp z h32)⟩); (unfold mkR; rw [updM_j e]; exact e3 r r1 (by omega))) (by have n1 := hw.1; have n2 := hw.2.1; omega)
          · refine aw_iconst dX0_markEnds_35 ?_
            refine aw_goto (tgt := 40) dX0_markEnds_36 (by decide) ?_
            refine aw_istore_n (L2 := [some (rV K 27 0), some (iV (fr)), some (iV (row)), some (iV 1)]) dX0_markEnds_40 rfl (by decide) rfl ?_
            refine aw_aload_n dX0_markEnds_41 rfl rfl ?_
            refine aw_getr (g := 27) rfl rfl ly_X0 rfl (k := 2) dX0_markEnds_42 (by decide) fl_X0_19 rfl ?_
            refine aw_iload_n dX0_markEnds_45 rfl rfl ?_
            refine aw_iload_n dX0_markEnds_46 rfl rfl ?_
            refine aw_if_eq (tgt := 54) dX0_markEnds_47 (by decide) (by decide) (fun h => absurd h (by decide)) (fun _ => ?_)
            refine aw_iconst dX0_markEnds_50 ?_
            refine aw_goto (tgt := 56) dX0_markEnds_51 (by decide) ?_
            refine aw_iast (g := 28) (n := 12) (M' := updM m1 28 0 row 0) rfl (by decide) dX0_markEnds_56 (by decide) (by show 0 ≤ row ∧ row < (12 : Int); have n1 := hw.1; have n2 := hw.2.1; omega) (by have n1 := hw.1; have n2 := hw.2.1; omega) rfl ?_
            refine aw_iinc (L2 := [some (rV K 27 0), some (iV (fr)), some (iV (row + 1)), some (iV 1)]) dX0_markEnds_57 rfl (by decide) rfl ?_
            refine aw_goto (tgt := 2) dX0_markEnds_60 (by decide) ?_
            refine aw_weak (L' := [some (rV K 27 0), some (iV (fr)), some (iV (row + 1)), none]) ⟨Or.inr rfl, Or.inr rfl, Or.inr rfl, Or.inl rfl, trivial⟩ ?_
            exact ih2 (row + 1) (updM m1 28 0 row 0) (by have n1 := hw.1; have n2 := hw.2.1; omega) (by intro g hg; rw [updM_g hg]; exact e2 g hg) (by intro r r1 r2; by_cases e : r = row; (subst e; unfold mkR; rw [updM_same]; first | exact Or.inl ⟨rfl, ⟨r1, by omega⟩, Or.inl h15⟩ | exact Or.inl ⟨rfl, ⟨r1, by omega⟩, Or.inr (hok.mpr h32)⟩ | exact Or.inr ⟨rfl, fun q => q.2.elim h15 (fun z => hok.mp z h32)⟩); (unfold mkR; rw [updM_j e]; exact e3 r r1 (by omega))) (by have n1 := hw.1; have n2 := hw.2.1; omega)
  exact lp2 (((M 1 0 4 - 0).toNat) + 1) (0) (M) (by exact ⟨Int.le_refl 0, hw.1⟩) (by exact fun _ _ => rfl) (by intro r r1 r2; omega) (Nat.lt_succ_self _)
set_option maxHeartbeats 4000000 in
set_option maxRecDepth 20000 in
theorem c_X0_shortenSteps {K : WPar} {l : Launch} (hst : l.stackTraces = false) (M : Mem) (fr : Int) (hw : HW M) (bw : BW M) (xw : XW M) (v_sn : sndS (M 1 0 4) (RM M (M 27 0 5) fr) (M 28 0)) : CT K l iX0_shortenSteps [rV K 27 0] M (rMm (fun m => shR M m (M 27 0 5) fr)) := by
  refine aw_met [some (rV K 27 0), none, none, none] hst (by decide) rfl (Nat.le_of_ble_eq_true rfl) rfl rfl (lcat rfl) ?_
  refine aw_rng (fun hM => ?_)
  refine aw_iconst dX0_shortenSteps_0 ?_
  refine aw_istore_n (L2 := [some (rV K 27 0), some (iV 1), none, none]) dX0_shortenSteps_1 rfl (by decide) rfl ?_
  have lp2 : ∀ (n2 : Nat) (t : Int) (m1 : Mem), (1 ≤ t ∧ t ≤ M 7 0 8 + 1) → (shP M m1 (M 27 0 5) fr t) → ((M 7 0 8 + 1 - t).toNat) < n2 → AW K l iX0_shortenSteps (ZM K iX0_shortenSteps (rMm (fun m => shR M m (M 27 0 5) fr))) 2 [some (rV K 27 0), some (iV (t)), none, none] [] (m1) 0 0 := by
    intro n2
    induction n2 with
    | zero =>
      intro t m1 e1 e2 hm2
      exact absurd hm2 (Nat.not_lt_zero _)
    | succ n2 ih2 =>
      intro t m1 e1 e2 hm2
      have a1 := e2.1 1 (by decide); have a2 := e2.1 2 (by decide); have a3 := e2.1 3 (by decide); have a7 := e2.1 7 (by decide); have a9 := e2.1 9 (by decide); have a13 := e2.1 13 (by decide); have a15 := e2.1 15 (by decide); have a27 := e2.1 27 (by decide); have hw1 : HW m1 := HW_g hw a1 a2 a3 (e2.1 4 (by decide)); have bw1 : BW m1 := BW_g bw a7; have b1 : m1 1 0 4 = M 1 0 4 := (by rw [a1]); have b7 : m1 7 0 8 = M 7 0 8 := (by rw [a7]); have b27 : m1 27 0 5 = M 27 0 5 := (by rw [a27]); have b13 : m1 13 0 t = M 13 0 t := (by rw [a13]); have b15 : m1 15 0 t = M 15 0 t := (by rw [a15]); have b9 : m1 9 0 t = M 9 0 t := (by rw [a9]); have x13 := hM 13 0 t; have x15 := hM 15 0 t
      refine aw_iload_n dX0_shortenSteps_2 rfl rfl ?_
      refine aw_aload_n dX0_shortenSteps_3 rfl rfl ?_
      refine aw_getr (g := 27) rfl rfl ly_X0 rfl (k := 1) dX0_shortenSteps_4 (by decide) fl_X0_15 rfl ?_
      refine aw_cVi (g := 7) (As := []) (rest := [iV (t)]) (c_X3_count hst m1) cv_X3_count dX0_shortenSteps_7 ml_X0_73 rfl rfl rfl rfl rfl (Nat.le_of_ble_eq_true rfl) (by decide) rfl rfl (by decide) ?_
      refine aw_icmp_gt (tgt := 78) dX0_shortenSteps_10 (by decide) (by have h1 := bw.1; have h2 := bw.2; omega) (by have h1 := bw.1; have h2 := bw.2; omega) (fun h10 => ?_) (fun h10 => ?_)
      · exact aw_vret dX0_shortenSteps_78 rfl (by decide) (by decide) ⟨rfl, (by exact ⟨e2.1, e2.2.1, e2.2.2.1, fun t t1 t2 => e2.2.2.2 t t1 (by omega)⟩)⟩
      · refine aw_aload_n dX0_shortenSteps_13 rfl rfl ?_
        refine aw_getr (g := 27) rfl rfl ly_X0 rfl (k := 1) dX0_shortenSteps_14 (by decide) fl_X0_15 rfl ?_
        refine aw_iload_n dX0_shortenSteps_17 rfl rfl ?_
        refine aw_cVi (g := 7) (As := [iV (t)]) (rest := []) (c_X3_rowOf hst m1 (t) (by have h1 := bw.1; have h2 := bw.2; omega) (by exact bw1)) cv_X3_rowOf dX0_shortenSteps_18 ml_X0_39 rfl rfl rfl rfl rfl (Nat.le_of_ble_eq_true rfl) (by decide) rfl rfl (by decide) ?_
        refine aw_st (st' := [iV (M 13 0 t)]) (by rw [show (if 1 ≤ t ∧ t ≤ m1 7 0 8 then m1 13 0 t else -1 : Int) = M 13 0 t from by rw [if_pos (by omega), b13]]) ?_
        refine aw_istore_n (L2 := [some (rV K 27 0), some (iV (t)), some (iV (M 13 0 t)), none]) dX0_shortenSteps_21 rfl (by decide) rfl ?_
        refine aw_aload_n dX0_shortenSteps_22 rfl rfl ?_
        refine aw_iload_n dX0_shortenSteps_23 rfl rfl ?_
        refine aw_cVb (g := 27) (As := [iV (t)]) (rest := []) (c_X0_takesPart hst m1 (t) (by have h1 := bw.1; have h2 := bw.2; omega) (by exact bw1) (by omega)) cv_X0_takesPart dX0_shortenSteps_24 ml_X0_76 rfl rfl rfl rfl rfl (Nat.le_of_ble_eq_true rfl) (by decide) rfl rfl (by decide) (fun h24 => ?_) (fun h24 => ?_)
        · refine aw_if_eq (tgt := 72) dX0_shortenSteps_27 (by decide) (by decide) (fun h => absurd h (by decide)) (fun _ => ?_)
          have n12 := hw.2.1; have hpt : ptM M (M 27 0 5) t := ⟨by rw [← b15]; exact h24.1, by rw [← b9, ← b27]; exact h24.2⟩; have hpr := xw.pt.1 t e1.1 (by omega) hpt; have hpw := xw.pt.2 t e1.1 (by omega) hpt; have sr := e2.2.1 (M 13 0 t) hpr.1 hpr.2; have sw := e2.2.1 (M 15 0 t) hpw.1 hpw.2
          refine aw_aload_n dX0_shortenSteps_30 rfl rfl ?_
          refine aw_getr (g := 27) rfl rfl ly_X0 rfl (k := 0) dX0_shortenSteps_31 (by decide) fl_X0_9 rfl ?_
          refine aw_iload_n dX0_shortenSteps_34 rfl rfl ?_
          refine aw_cVb (g := 1) (As := [iV (M 13 0 t)]) (rest := []) (c_X2_hasRow hst m1 (M 13 0 t) (by have h1 := bw.1; have h2 := bw.2; omega)) cv_X2_hasRow dX0_shortenSteps_35 ml_X0_65 rfl rfl rfl rfl rfl (Nat.le_of_ble_eq_true rfl) (by decide) rfl rfl (by decide) (fun h35 => ?_) (fun h35 => ?_)
          · refine aw_if_eq (tgt := 72) dX0_shortenSteps_38 (by decide) (by decide) (fun h => absurd h (by decide)) (fun _ => ?_)
            refine aw_aload_n dX0_shortenSteps_41 rfl rfl ?_
            refine aw_aload_n dX0_shortenSteps_42 rfl rfl ?_
            refine aw_getr (g := 27) rfl rfl ly_X0 rfl (k := 1) dX0_shortenSteps_43 (by decide) fl_X0_15 rfl ?_
            refine aw_iload_n dX0_shortenSteps_46 rfl rfl ?_
            refine aw_cVi (g := 7) (As := [iV (t)]) (rest := [rV K 27 0]) (c_X3_wishOf hst m1 (t) (by have h1 := bw.1; have h2 := bw.2; omega) (by exact bw1)) cv_X3_wishOf dX0_shortenSteps_47 ml_X0_55 rfl rfl rfl rfl rfl (Nat.le_of_ble_eq_true rfl) (by decide) rfl rfl (by decide) ?_
            refine aw_st (st' := [iV (M 15 0 t), rV K 27 0]) (by rw [show (if 1 ≤ t ∧ t ≤ m1 7 0 8 then m1 15 0 t else -1 : Int) = M 15 0 t from by rw [if_pos (by omega), b15]]) ?_
            refine aw_cVi (g := 27) (As := [iV (M 15 0 t)]) (rest := []) (c_X0_stepsOf hst m1 (M 15 0 t) (by have h1 := bw.1; have h2 := bw.2; omega) (by exact hw1)) cv_X0_stepsOf dX0_shortenSteps_50 ml_X0_58 rfl rfl rfl rfl rfl (Nat.le_of_ble_eq_true rfl) (by decide) rfl rfl (by decide) ?_
            refine aw_st (st' := [iV (m1 28 0 (M 15 0 t))]) (by rw [show (if 0 ≤ (M 15 0 t) ∧ (M 15 0 t) < m1 1 0 4 then m1 28 0 (M 15 0 t) else 13 : Int) = m1 28 0 (M 15 0 t) from by exact if_pos ⟨by omega, by omega⟩]) ?_
            refine aw_iconst dX0_shortenSteps_53 ?_
            refine aw_iadd dX0_shortenSteps_54 ?_
            refine aw_istore_n (L2 := [some (rV K 27 0), some (iV (t)), some (iV (M 13 0 t)), some (iV ((m1 28 0 (M 15 0 t)) + 1))]) dX0_shortenSteps_55 rfl (by decide) rfl ?_
            refine aw_aload_n dX0_shortenSteps_56 rfl rfl ?_
            refine aw_getr (g := 27) rfl rfl ly_X0 rfl (k := 2) dX0_shortenSteps_57 (by decide) fl_X0_19 rfl ?_
            refine aw_iload_n dX0_shortenSteps_60 rfl rfl ?_
            refine aw_aload_n dX0_shortenSteps_61 rfl rfl ?_
            refine aw_getr (g := 27) rfl rfl ly_X0 rfl (k := 2) dX0_shortenSteps_62 (by decide) fl_X0_19 rfl ?_
            refine aw_iload_n dX0_shortenSteps_65 rfl rfl ?_
            refine aw_iald (g := 28) (n := 12) rfl (by decide) dX0_shortenSteps_66 (by decide) (by show 0 ≤ (M 13 0 t) ∧ (M 13 0 t) < (12 : Int); have h1 := bw.1; have h2 := bw.2; omega) (fun r66 => ?_)
            refine aw_iload_n dX0_shortenSteps_67 rfl rfl ?_
            refine aw_mmin (by have h1 := bw.1; have h2 := bw.2; omega) (by have h1 := bw.1; have h2 := bw.2; omega) dX0_shortenSteps_68 ml_X0_79 (by decide) (Nat.le_of_ble_eq_true rfl) (by decide) (by decide) ?_
            refine aw_iast (g := 28) (n := 12) (M' := updM m1 28 0 (M 13 0 t) (min (m1 28 0 (M 13 0 t)) ((m1 28 0 (M 15 0 t)) + 1))) rfl (by decide) dX0_shortenSteps_71 (by decide) (by show 0 ≤ (M 13 0 t) ∧ (M 13 0 t) < (12 : Int); have h1 := bw.1; have h2 := bw.2; omega) (by have h1 := bw.1; have h2 := bw.2; omega) rfl ?_
            refine aw_iinc (L2 := [some (rV K 27 0), some (iV (t + 1)), some (iV (M 13 0 t)), some (iV ((m1 28 0 (M 15 0 t)) + 1))]) dX0_shortenSteps_72 rfl (by decide) rfl ?_
            refine aw_goto (tgt := 2) dX0_shortenSteps_75 (by decide) ?_
            refine aw_weak (L' := [some (rV K 27 0), some (iV (t + 1)), none, none]) ⟨Or.inr rfl, Or.inr rfl, Or.inl rfl, Or.inl rfl, trivial⟩ ?_
            exact ih2 (t + 1) (updM m1 28 0 (M 13 0 t) (min (m1 28 0 (M 13 0 t)) ((m1 28 0 (M 15 0 t)) + 1))) (by have h1 := bw.1; have h2 := bw.2; omega) (by first | exact shP_no e2 (fun q => h24 ⟨by rw [b15]; exact q.1, by rw [b9, b27]; exact q.2⟩) | exact shP_s xw e2 e1.1 (by omega) hpt) (by have h1 := bw.1; have h2 := bw.2; omega)
          · exact False.elim (by omega)
        · refine aw_if_eq (tgt := 72) dX0_shortenSteps_27 (by decide) (by decide) (fun _ => ?_) (fun h => absurd (by decide) h)
          refine aw_iinc (L2 := [some (rV K 27 0), some (iV (t + 1)), some (iV (M 13 0 t)), none]) dX0_shortenSteps_72 rfl (by decide) rfl ?_
          refine aw_goto (tgt := 2) dX0_shortenSteps_75 (by decide) ?_
          refine aw_weak (L' := [some (rV K 27 0), some (iV (t + 1)), none, none]) ⟨Or.inr rfl, Or.inr rfl, Or.inl rfl, Or.inr rfl, trivial⟩ ?_
          exact ih2 (t + 1) (m1) (by have h1 := bw.1; have h2 := bw.2; omega) (by first | exact shP_no e2 (fun q => h24 ⟨by rw [b15]; exact q.1, by rw [b9, b27]; exact q.2⟩) | exact shP_s xw e2 e1.1 (by omega) hpt) (by have h1 := bw.1; have h2 := bw.2; omega)
  exact lp2 (((M 7 0 8 + 1 - 1).toNat) + 1) (1) (M) (by have h1 := bw.1; have h2 := bw.2; omega) (by exact ⟨fun _ _ => rfl, v_sn, fun _ _ _ => Int.le_refl _, fun t t1 t2 => by omega⟩) (Nat.lt_succ_self _)
set_option maxHeartbeats 4000000 in
set_option maxRecDepth 20000 in
theorem c_X0_lowestIn {K : WPar} {l : Launch} (hst : l.stackTraces = false) (M : Mem) (row : Int) (stp : Int) (r_row : inR row) (r_stp : inR stp) (hw : HW M) (bw : BW M) (xw : XW M) : CT K l iX0_lowestIn [rV K 27 0, iV (row), iV (stp)] M (rR (fun z => lowR M row stp z) (M)) := by
  refine aw_met [some (rV K 27 0), some (iV (row)), some (iV (stp)), none] hst (by decide) rfl (Nat.le_of_ble_eq_true rfl) rfl rfl (lcat rfl) ?_
  refine aw_rng (fun hM => ?_)
  refine aw_iconst dX0_lowestIn_0 ?_
  refine aw_istore_n (L2 := [some (rV K 27 0), some (iV (row)), some (iV (stp)), some (iV 1)]) dX0_lowestIn_1 rfl (by decide) rfl ?_
  have lp2 : ∀ (n2 : Nat) (t : Int), (1 ≤ t ∧ t ≤ M 7 0 8 + 1) → (∀ x : Int, 1 ≤ x → x < t → ¬ (ptM M (M 27 0 5) x ∧ M 13 0 x = row ∧ M 28 0 (M 15 0 x) = stp)) → ((M 7 0 8 + 1 - t).toNat) < n2 → AW K l iX0_lowestIn (ZM K iX0_lowestIn (rR (fun z => lowR M row stp z) (M))) 2 [some (rV K 27 0), some (iV (row)), some (iV (stp)), some (iV (t))] [] (M) 0 0 := by
    intro n2
    induction n2 with
    | zero =>
      intro t e1 e2 hm2
      exact absurd hm2 (Nat.not_lt_zero _)
    | succ n2 ih2 =>
      intro t e1 e2 hm2
      have x13 := hM 13 0 t; have x15 := hM 15 0 t
      refine aw_iload_n dX0_lowestIn_2 rfl rfl ?_
      refine aw_aload_n dX0_lowestIn_3 rfl rfl ?_
      refine aw_getr (g := 27) rfl rfl ly_X0 rfl (k := 1) dX0_lowestIn_4 (by decide) fl_X0_15 rfl ?_
      refine aw_cVi (g := 7) (As := []) (rest := [iV (t)]) (c_X3_count hst M) cv_X3_count dX0_lowestIn_7 ml_X0_73 rfl rfl rfl rfl rfl (Nat.le_of_ble_eq_true rfl) (by decide) rfl rfl (by decide) ?_
      refine aw_icmp_gt (tgt := 57) dX0_lowestIn_10 (by decide) (by have h1 := bw.1; have h2 := bw.2; omega) (by have h1 := bw.1; have h2 := bw.2; omega) (fun h10 => ?_) (fun h10 => ?_)
      · refine aw_iconst dX0_lowestIn_57 ?_
        exact aw_iret dX0_lowestIn_58 rfl rfl (by decide) (by decide) ⟨-1, rfl, (by exact Or.inl ⟨rfl, fun x x1 x2 => e2 x x1 (by omega)⟩), (by rfl)⟩
      · refine aw_aload_n dX0_lowestIn_13 rfl rfl ?_
        refine aw_iload_n dX0_lowestIn_14 rfl rfl ?_
        refine aw_cVb (g := 27) (As := [iV (t)]) (rest := []) (c_X0_takesPart hst M (t) (by have h1 := bw.1; have h2 := bw.2; omega) (by have h1 := bw.1; have h2 := bw.2; omega) (by have h1 := bw.1; have h2 := bw.2; omega)) cv_X0_takesPart dX0_lowestIn_15 ml_X0_76 rfl rfl rfl rfl rfl (Nat.le_of_ble_eq_true rfl) (by decide) rfl rfl (by decide) (fun h15 => ?_) (fun h15 => ?_)
        · refine aw_if_eq (tgt := 51) dX0_lowestIn_18 (by decide) (by decide) (fun h => absurd h (by decide)) (fun _ => ?_)
          refine aw_aload_n dX0_lowestIn_21 rfl rfl ?_
          refine aw_getr (g := 27) rfl rfl ly_X0 rfl (k := 1) dX0_lowestIn_22 (by decide) fl_X0_15 rfl ?_
          refine aw_iload_n dX0_lowestIn_25 rfl rfl ?_
          refine aw_cVi (g := 7) (As := [iV (t)]) (rest := []) (c_X3_rowOf hst M (t) (by have h1 := bw.1; have h2 := bw.2; omega) (by have h1 := bw.1; have h2 := bw.2; omega)) cv_X3_rowOf dX0_lowestIn_26 ml_X0_39 rfl rfl rfl rfl rfl (Nat.le_of_ble_eq_true rfl) (by decide) rfl rfl (by decide) ?_
          refine aw_st (st' := [iV (M 13 0 t)]) (by rw [show (if 1 ≤ t ∧ t ≤ M 7 0 8 then M 13 0 t else -1 : Int) = M 13 0 t from by exact if_pos (by omega)]) ?_
          refine aw_iload_n dX0_lowestIn_29 rfl rfl ?_
          refine aw_icmp_ne (tgt := 51) dX0_lowestIn_30 (by decide) (by have h1 := bw.1; have h2 := bw.2; omega) (by have h1 := bw.1; have h2 := bw.2; omega) (fun h30 => ?_) (fun h30 => ?_)
          · refine aw_iinc (L2 := [some (rV K 27 0), some (iV (row)), some (iV (stp)), some (iV (t + 1))]) dX0_lowestIn_51 rfl (by decide) rfl ?_
            refine aw_goto (tgt := 2) dX0_lowestIn_54 (by decide) ?_
            exact ih2 (t + 1) (by have h1 := bw.1; have h2 := bw.2; omega) (by intro x x1 x2; by_cases e : x = t; (subst e; intro q; first | exact h15 q.1 | exact h30 q.2.1 | exact h46 q.2.2); exact e2 x x1 (by omega)) (by have h1 := bw.1; have h2 := bw.2; omega)
          · refine aw_aload_n dX0_lowestIn_33 rfl rfl ?_
            refine aw_aload_n dX0_lowestIn_34 rfl rfl ?_
            refine aw_getr (g := 27) rfl rfl ly_X0 rfl (k := 1) dX0_lowestIn_35 (by decide) fl_X0_15 rfl ?_
            refine aw_iload_n dX0_lowestIn_38 rfl rfl ?_
            refine aw_cVi (g := 7) (As := [iV (t)]) (rest := [rV K 27 0]) (c_X3_wishOf hst M (t) (by have h1 := bw.1; have h2 := bw.2; omega) (by have h1 := bw.1; have h2 := bw.2; omega)) cv_X3_wishOf dX0_lowestIn_39 ml_X0_55 rfl rfl rfl rfl rfl (Nat.le_of_ble_eq_true rfl) (by decide) rfl rfl (by decide) ?_
            refine aw_st (st' := [iV (M 15 0 t), rV K 27 0]) (by rw [show (if 1 ≤ t ∧ t ≤ M 7 0 8 then M 15 0 t else -1 : Int) = M 15 0 t from by exact if_pos (by omega)]) ?_
            refine aw_cVi (g := 27) (As := [iV (M 15 0 t)]) (rest := []) (c_X0_stepsOf hst M (M 15 0 t) (by have h1 := bw.1; have h2 := bw.2; omega) (by have h1 := bw.1; have h2 := bw.2; omega)) cv_X0_stepsOf dX0_lowestIn_42 ml_X0_58 rfl rfl rfl rfl rfl (Nat.le_of_ble_eq_true rfl) (by decide) rfl rfl (by decide) ?_
            refine aw_st (st' := [iV (M 28 0 (M 15 0 t))]) (by rw [show (if 0 ≤ (M 15 0 t) ∧ (M 15 0 t) < M 1 0 4 then M 28 0 (M 15 0 t) else 13 : Int) = M 28 0 (M 15 0 t) from by have q := xw.pt.2 t e1.1 (by omega) h15; exact if_pos (by omega)]) ?_
            refine aw_iload_n dX0_lowestIn_45 rfl rfl ?_
            refine aw_icmp_ne (tgt := 51) dX0_lowestIn_46 (by decide) (by exact hM 28 0 (M 15 0 t)) (by have h1 := bw.1; have h2 := bw.2; omega) (fun h46 => ?_) (fun h46 => ?_)
            · refine aw_iinc (L2 := [some (rV K 27 0), some (iV (row)), some (iV (stp)), some (iV (t + 1))]) dX0_lowestIn_51 rfl (by decide) rfl ?_
              refine aw_goto (tgt := 2) dX0_lowestIn_54 (by decide) ?_
              exact ih2 (t + 1) (by have h1 := bw.1; have h2 := bw.2; omega) (by intro x x1 x2; by_cases e : x = t; (subst e; intro q; first | exact h15 q.1 | exact h30 q.2.1 | exact h46 q.2.2); exact e2 x x1 (by omega)) (by have h1 := bw.1; have h2 := bw.2; omega)
            · refine aw_iload_n dX0_lowestIn_49 rfl rfl ?_
              exact aw_iret dX0_lowestIn_50 rfl rfl (by decide) (by decide) ⟨t, rfl, (by exact Or.inr ⟨e1.1, by omega, ⟨h15, h30, h46⟩, e2⟩), (by rfl)⟩
        · refine aw_if_eq (tgt := 51) dX0_lowestIn_18 (by decide) (by decide) (fun _ => ?_) (fun h => absurd (by decide) h)
          refine aw_iinc (L2 := [some (rV K 27 0), some (iV (row)), some (iV (stp)), some (iV (t + 1))]) dX0_lowestIn_51 rfl (by decide) rfl ?_
          refine aw_goto (tgt := 2) dX0_lowestIn_54 (by decide) ?_
          exact ih2 (t + 1) (by have h1 := bw.1; have h2 := bw.2; omega) (by intro x x1 x2; by_cases e : x = t; (subst e; intro q; first | exact h15 q.1 | exact h30 q.2.1 | exact h46 q.2.2); exact e2 x x1 (by omega)) (by have h1 := bw.1; have h2 := bw.2; omega)
  exact lp2 (((M 7 0 8 + 1 - 1).toNat) + 1) (1) (by have h1 := bw.1; have h2 := bw.2; omega) (by intro x x1 x2; omega) (Nat.lt_succ_self _)
set_option maxHeartbeats 4000000 in
set_option maxRecDepth 20000 in
theorem c_X0_collect {K : WPar} {l : Launch} (hst : l.stackTraces = false) (M : Mem) (ticket : Int) (stp : Int) (fr : Int) (r_ticket : inR ticket) (r_stp : inR stp) (hw : HW M) (bw : BW M) (xw : XW M) (v_t : 1 ≤ ticket ∧ ticket ≤ M 7 0 8) (v_w : 0 ≤ M 15 0 ticket ∧ M 15 0 ticket < M 1 0 4) (v_d : 0 ≤ stp ∧ stp ≤ 11) (v_S : ∀ r : Int, 0 ≤ r → r < M 1 0 4 → isD (RM M (M 27 0 5) fr) r (M 28 0 r)) (v_D : isD (RM M (M 27 0 5) fr) (M 15 0 ticket) stp) : CT K l iX0_collect [rV K 27 0, iV (ticket), iV (stp)] M (rMm (fun m => (∀ g : Nat, g ≠ 27 → g ≠ 29 → m g = M g) ∧ m 27 0 5 = M 27 0 5 ∧ m 27 0 4 = stp + 1 ∧ isChain (M 7 0 8) (RM M (M 27 0 5) fr) (ptM M (M 27 0 5)) (M 13 0) (M 15 0) ticket stp (m 29 0))) := by
  refine aw_met [some (rV K 27 0), some (iV (ticket)), some (iV (stp)), none, none] hst (by decide) rfl (Nat.le_of_ble_eq_true rfl) rfl rfl (lcat rfl) ?_
  refine aw_rng (fun hM => ?_)
  refine aw_iload_n dX0_collect_0 rfl rfl ?_
  refine aw_istore_n (L2 := [some (rV K 27 0), some (iV (ticket)), some (iV (stp)), some (iV (ticket)), none]) dX0_collect_1 rfl (by decide) rfl ?_
  refine aw_aload_n dX0_collect_2 rfl rfl ?_
  refine aw_getr (g := 27) rfl rfl ly_X0 rfl (k := 3) dX0_collect_3 (by decide) fl_X0_23 rfl ?_
  refine aw_iconst dX0_collect_6 ?_
  refine aw_iload_n dX0_collect_7 rfl rfl ?_
  refine aw_iast (g := 29) (n := 13) (M' := updM M 29 0 0 ticket) rfl (by decide) dX0_collect_8 (by decide) (by show 0 ≤ 0 ∧ 0 < (13 : Int); have h1 := bw.1; have h2 := bw.2; omega) (by have h1 := bw.1; have h2 := bw.2; omega) rfl ?_
  refine aw_aload_n dX0_collect_9 rfl rfl ?_
  refine aw_iconst dX0_collect_10 ?_
  refine aw_puti (g := 27) tyX0 tyX0_ok nmX0 rfl rfl ly_X0 rfl (k := 4) 4 rfl (M' := updM (updM M 29 0 0 ticket) 27 0 4 1) dX0_collect_11 (by decide) fl_X0_26 rfl rfl (by decide +kernel) (by have h1 := bw.1; have h2 := bw.2; omega) rfl ?_
  refine aw_iload_n dX0_collect_14 rfl rfl ?_
  refine aw_istore (L2 := [some (rV K 27 0), some (iV (ticket)), some (iV (stp)), some (iV (ticket)), some (iV (stp))]) dX0_collect_15 (by decide) rfl ?_
  have lp17 : ∀ (n17 : Nat) (cur lef : Int) (m1 : Mem), (0 ≤ lef ∧ lef ≤ stp) → (colP M m1 ticket stp lef cur (M 27 0 5) fr) → (lef.toNat) < n17 → AW K l iX0_collect (ZM K iX0_collect (rMm (fun m => (∀ g : Nat, g ≠ 27 → g ≠ 29 → m g = M g) ∧ m 27 0 5 = M 27 0 5 ∧ m 27 0 4 = stp + 1 ∧ isChain (M 7 0 8) (RM M (M 27 0 5) fr) (ptM M (M 27 0 5)) (M 13 0) (M 15 0) ticket stp (m 29 0)))) 17 [some (rV K 27 0), some (iV (ticket)), some (iV (stp)), some (iV (cur)), some (iV (lef))] [] (m1) 0 0 := by
    intro n17
    induction n17 with
    | zero =>
      intro cur lef m1 e1 e2 hm17
      exact absurd hm17 (Nat.not_lt_zero _)
    | succ n17 ih17 =>
      intro cur lef m1 e1 e2 hm17
      have a1 := e2.1 1 (by decide) (by decide); have a2 := e2.1 2 (by decide) (by decide); have a3 := e2.1 3 (by decide) (by decide); have a7 := e2.1 7 (by decide) (by decide); have a9 := e2.1 9 (by decide) (by decide); have a13 := e2.1 13 (by decide) (by decide); have a15 := e2.1 15 (by decide) (by decide); have a28 := e2.1 28 (by decide) (by decide); have hw1 : HW m1 := HW_g hw a1 a2 a3 (e2.1 4 (by decide) (by decide)); have bw1 : BW m1 := BW_g bw a7; have xw1 : XW m1 := XW_cg (fun g hg => e2.1 g (by omega) (by omega)) xw; have b7 : m1 7 0 8 = M 7 0 8 := (by rw [a7]); have b27 := e2.2.1; have b274 := e2.2.2.1; have b15 : m1 15 0 cur = M 15 0 cur := (by rw [a15]); have ec := e2.2.2.2.2; have x15 := hM 15 0 cur
      refine aw_iload dX0_collect_17 rfl ?_
      refine aw_if_le (tgt := 77) dX0_collect_19 (by decide) (by have h1 := bw.1; have h2 := bw.2; omega) (fun h19 => ?_) (fun h19 => ?_)
      · exact aw_vret dX0_collect_77 rfl (by decide) (by decide) ⟨rfl, (by have q : lef = 0 := (by omega); subst q; refine ⟨e2.1, b27, by omega, e2.2.2.2.2.2.2.2.2.1, fun k k1 k2 => e2.2.2.2.2.2.2.2.2.2 k k1 (by omega)⟩)⟩
      · refine aw_aload_n dX0_collect_22 rfl rfl ?_
        refine aw_geti (g := 27) rfl rfl ly_X0 rfl (k := 4) 4 rfl dX0_collect_23 (by decide) fl_X0_26 rfl (fun r23 => ?_)
        refine aw_aload_n dX0_collect_26 rfl rfl ?_
        refine aw_getr (g := 27) rfl rfl ly_X0 rfl (k := 3) dX0_collect_27 (by decide) fl_X0_23 rfl ?_
        refine aw_alen (g := 29) (n := 13) rfl dX0_collect_30 (by decide) ?_
        refine aw_icmp_ge (tgt := 77) dX0_collect_31 (by decide) (by have h1 := bw.1; have h2 := bw.2; omega) (by have h1 := bw.1; have h2 := bw.2; omega) (fun h31 => absurd h31 (by have h1 := bw.1; have h2 := bw.2; omega)) (fun h31 => ?_)
        refine aw_aload_n dX0_collect_34 rfl rfl ?_
        refine aw_aload_n dX0_collect_35 rfl rfl ?_
        refine aw_getr (g := 27) rfl rfl ly_X0 rfl (k := 1) dX0_collect_36 (by decide) fl_X0_15 rfl ?_
        refine aw_iload_n dX0_collect_39 rfl rfl ?_
        refine aw_cVi (g := 7) (As := [iV (cur)]) (rest := [rV K 27 0]) (c_X3_wishOf hst m1 (cur) (by have h1 := bw.1; have h2 := bw.2; omega) (by exact bw1)) cv_X3_wishOf dX0_collect_40 ml_X0_55 rfl rfl rfl rfl rfl (Nat.le_of_ble_eq_true rfl) (by decide) rfl rfl (by decide) ?_
        refine aw_st (st' := [iV (M 15 0 cur), rV K 27 0]) (by rw [show (if 1 ≤ cur ∧ cur ≤ m1 7 0 8 then m1 15 0 cur else -1 : Int) = M 15 0 cur from by rw [if_pos (by omega), b15]]) ?_
        refine aw_iload dX0_collect_43 rfl ?_
        refine aw_iconst dX0_collect_45 ?_
        refine aw_isub dX0_collect_46 ?_
        refine aw_cVr (g := 27) (As := [iV (M 15 0 cur), iV (lef - 1)]) (rest := []) (c_X0_lowestIn hst m1 (M 15 0 cur) (lef - 1) (by have h1 := bw.1; have h2 := bw.2; omega) (by have h1 := bw.1; have h2 := bw.2; omega) (by exact hw1) (by exact bw1) (by exact xw1)) cv_X0_lowestIn dX0_collect_47 ml_X0_85 rfl rfl rfl rfl rfl (Nat.le_of_ble_eq_true rfl) (by decide) rfl rfl (by decide) (fun z47 (h47 : lowR m1 (M 15 0 cur) (lef - 1) z47) => ?_)
        have hlow := h47; unfold lowR ptM at hlow; rw [a7, a9, a13, a15, a28, b27] at hlow; have hcol := col_s xw v_S (by omega) e1.2 (by omega) e2 hlow
        refine aw_istore_n (L2 := [some (rV K 27 0), some (iV (ticket)), some (iV (stp)), some (iV (z47)), some (iV (lef))]) dX0_collect_50 rfl (by decide) rfl ?_
        refine aw_aload_n dX0_collect_51 rfl rfl ?_
        refine aw_getr (g := 27) rfl rfl ly_X0 rfl (k := 3) dX0_collect_52 (by decide) fl_X0_23 rfl ?_
        refine aw_aload_n dX0_collect_55 rfl rfl ?_
        refine aw_geti (g := 27) rfl rfl ly_X0 rfl (k := 4) 4 rfl dX0_collect_56 (by decide) fl_X0_26 rfl (fun r56 => ?_)
        refine aw_iload_n dX0_collect_59 rfl rfl ?_
        refine aw_iast (g := 29) (n := 13) (M' := updM m1 29 0 (m1 27 0 4) z47) rfl (by decide) dX0_collect_60 (by decide) (by show 0 ≤ (m1 27 0 4) ∧ (m1 27 0 4) < (13 : Int); have h1 := bw.1; have h2 := bw.2; omega) (by have h1 := bw.1; have h2 := bw.2; omega) rfl ?_
        refine aw_aload_n dX0_collect_61 rfl rfl ?_
        refine aw_dup dX0_collect_62 rfl ?_
        refine aw_geti (g := 27) rfl rfl ly_X0 rfl (k := 4) 4 rfl dX0_collect_63 (by decide) fl_X0_26 rfl (fun r63 => ?_)
        refine aw_st (st' := [iV (m1 27 0 4), rV K 27 0]) (by rw [show ((updM m1 29 0 (m1 27 0 4) z47) 27 0 4 : Int) = m1 27 0 4 from by simp [updM_g, updM_same]]) ?_
        refine aw_iconst dX0_collect_66 ?_
        refine aw_iadd dX0_collect_67 ?_
        refine aw_puti (g := 27) tyX0 tyX0_ok nmX0 rfl rfl ly_X0 rfl (k := 4) 4 rfl (M' := updM (updM m1 29 0 (m1 27 0 4) z47) 27 0 4 ((m1 27 0 4) + 1)) dX0_collect_68 (by decide) fl_X0_26 rfl rfl (by decide +kernel) (by have h1 := bw.1; have h2 := bw.2; omega) rfl ?_
        refine aw_iinc (L2 := [some (rV K 27 0), some (iV (ticket)), some (iV (stp)), some (iV (z47)), some (iV (lef + (-1)))]) dX0_collect_71 rfl (by decide) rfl ?_
        refine aw_goto (tgt := 17) dX0_collect_74 (by decide) ?_
        exact ih17 (z47) (lef + (-1)) (updM (updM m1 29 0 (m1 27 0 4) z47) 27 0 4 ((m1 27 0 4) + 1)) (by have h1 := bw.1; have h2 := bw.2; omega) (by exact hcol.1) (by omega)
  exact lp17 ((stp.toNat) + 1) (ticket) (stp) (updM (updM M 29 0 0 ticket) 27 0 4 1) (by have h1 := bw.1; have h2 := bw.2; omega) (by exact col_0 rfl v_t.1 v_t.2 v_w v_D) (Nat.lt_succ_self _)
set_option maxHeartbeats 4000000 in
set_option maxRecDepth 20000 in
theorem c_X0_find {K : WPar} {l : Launch} (hst : l.stackTraces = false) (M : Mem) (ticket : Int) (r_ticket : inR ticket) (hw : HW M) (bw : BW M) (xw : XW M) (v_t : 1 ≤ ticket ∧ ticket ≤ M 7 0 8) (v_w : M 15 0 ticket ≠ -1) (v_sz : 1 ≤ M 9 0 ticket ∧ M 9 0 ticket ≤ 20) : CT K l iX0_find [rV K 27 0, iV (ticket)] M (rBM (fun m => XF M m ∧ XFOUND M m ticket (M 9 0 ticket) (M 13 0 ticket)) (fun m => XF M m ∧ ∀ k : Nat, ¬ RM M (M 9 0 ticket) (M 13 0 ticket) k (M 15 0 ticket))) := by
  refine aw_met [some (rV K 27 0), some (iV (ticket)), none] hst (by decide) rfl (Nat.le_of_ble_eq_true rfl) rfl rfl (lcat rfl) ?_
  refine aw_rng (fun hM => ?_)
  have pw := xw ticket v_t.1 v_t.2; have x13 := hM 13 0 ticket; have x15 := hM 15 0 ticket; have x9 := hM 9 0 ticket; have n1 := hw.1; have n2 := hw.2.1; have t1 := bw.1; have t2 := bw.2
  refine aw_aload_n dX0_find_0 rfl rfl ?_
  refine aw_iconst dX0_find_1 ?_
  refine aw_puti (g := 27) tyX0 tyX0_ok nmX0 rfl rfl ly_X0 rfl (k := 4) 4 rfl (M' := updM M 27 0 4 0) dX0_find_2 (by decide) fl_X0_26 rfl rfl (by decide +kernel) (by omega) rfl ?_
  generalize hMa : updM M 27 0 4 0 = Ma
  have ha : ∀ g : Nat, g ≠ 27 → Ma g = M g := (fun g hg => by rw [← hMa, updM_g hg])
  refine aw_aload_n dX0_find_5 rfl rfl ?_
  refine aw_aload_n dX0_find_6 rfl rfl ?_
  refine aw_getr (g := 27) rfl rfl ly_X0 rfl (k := 1) dX0_find_7 (by decide) fl_X0_15 rfl ?_
  refine aw_iload_n dX0_find_10 rfl rfl ?_
  refine aw_cVi (g := 7) (As := [iV (ticket)]) (rest := [rV K 27 0]) (c_X3_sizeOf hst Ma (ticket) (by omega) (by exact BW_g bw (ha 7 (by decide)))) cv_X3_sizeOf dX0_find_11 ml_X0_33 rfl rfl rfl rfl rfl (Nat.le_of_ble_eq_true rfl) (by decide) rfl rfl (by decide) ?_
  refine aw_st (st' := [iV (M 9 0 ticket), rV K 27 0]) (by rw [show (if 1 ≤ ticket ∧ ticket ≤ Ma 7 0 8 then Ma 9 0 ticket else 0 : Int) = M 9 0 ticket from by rw [ha 7 (by decide), ha 9 (by decide)]; exact if_pos v_t]) ?_
  refine aw_puti (g := 27) tyX0 tyX0_ok nmX0 rfl rfl ly_X0 rfl (k := 5) 5 rfl (M' := updM Ma 27 0 5 (M 9 0 ticket)) dX0_find_14 (by decide) fl_X0_30 rfl rfl (by decide +kernel) (by omega) rfl ?_
  generalize hMb : updM Ma 27 0 5 (M 9 0 ticket) = Mb
  have hb : ∀ g : Nat, g ≠ 27 → Mb g = M g := (fun g hg => by rw [← hMb, updM_g hg]; exact ha g hg); have hb5 : Mb 27 0 5 = M 9 0 ticket := (by rw [← hMb, updM_same]); have hblo : ∀ g : Nat, g < 16 → Mb g = M g := (fun g hg => hb g (by omega))
  refine aw_aload_n dX0_find_17 rfl rfl ?_
  refine aw_aload_n dX0_find_18 rfl rfl ?_
  refine aw_getr (g := 27) rfl rfl ly_X0 rfl (k := 1) dX0_find_19 (by decide) fl_X0_15 rfl ?_
  refine aw_iload_n dX0_find_22 rfl rfl ?_
  refine aw_cVi (g := 7) (As := [iV (ticket)]) (rest := [rV K 27 0]) (c_X3_rowOf hst Mb (ticket) (by omega) (by exact BW_g bw (hb 7 (by decide)))) cv_X3_rowOf dX0_find_23 ml_X0_39 rfl rfl rfl rfl rfl (Nat.le_of_ble_eq_true rfl) (by decide) rfl rfl (by decide) ?_
  refine aw_st (st' := [iV (M 13 0 ticket), rV K 27 0]) (by rw [show (if 1 ≤ ticket ∧ ticket ≤ Mb 7 0 8 then Mb 13 0 ticket else -1 : Int) = M 13 0 ticket from by rw [hb 7 (by decide), hb 13 (by decide)]; exact if_pos v_t]) ?_
  refine aw_cVm (g := 27) (As := [iV (M 13 0 ticket)]) (rest := []) (c_X0_markEnds hst Mb (M 13 0 ticket) (by omega) (by exact HW_g hw (hb 1 (by decide)) (hb 2 (by decide)) (hb 3 (by decide)) (hb 4 (by decide))) (by omega)) cv_X0_markEnds dX0_find_26 ml_X0_42 rfl rfl rfl rfl rfl (Nat.le_of_ble_eq_true rfl) (by decide) rfl rfl (by decide) (fun M26 (h26 : (∀ g : Nat, g ≠ 28 → M26 g = Mb g) ∧ ∀ r : Int, 0 ≤ r → r < Mb 1 0 4 → mkR Mb M26 (Mb 27 0 5) (M 13 0 ticket) r) => ?_)
  have hmk : ∀ r : Int, 0 ≤ r → r < M 1 0 4 → mkR M M26 (M 9 0 ticket) (M 13 0 ticket) r := (fun r r0 r1 => by have q := h26.2 r r0 (by rw [hb 1 (by decide)]; exact r1); rw [hb5] at q; exact mkR_cg hblo q)
  refine aw_iconst dX0_find_29 ?_
  refine aw_istore_n (L2 := [some (rV K 27 0), some (iV (ticket)), some (iV 0)]) dX0_find_30 rfl (by decide) rfl ?_
  have lp31 : ∀ (n31 : Nat) (rnd : Int) (m1 : Mem), (0 ≤ rnd ∧ rnd ≤ M 1 0 4) → (∀ g : Nat, g ≠ 27 → g ≠ 28 → m1 g = M g) → (m1 27 0 5 = M 9 0 ticket) → (sndS (M 1 0 4) (RM M (M 9 0 ticket) (M 13 0 ticket)) (m1 28 0)) → (cplS (M 1 0 4) (RM M (M 9 0 ticket) (M 13 0 ticket)) (m1 28 0) rnd) → ((M 1 0 4 - rnd).toNat) < n31 → AW K l iX0_find (ZM K iX0_find (rBM (fun m => XF M m ∧ XFOUND M m ticket (M 9 0 ticket) (M 13 0 ticket)) (fun m => XF M m ∧ ∀ k : Nat, ¬ RM M (M 9 0 ticket) (M 13 0 ticket) k (M 15 0 ticket)))) 31 [some (rV K 27 0), some (iV (ticket)), some (iV (rnd))] [] (m1) 0 0 := by
    intro n31
    induction n31 with
    | zero =>
      intro rnd m1 e1 e2 e3 e4 e5 hm31
      exact absurd hm31 (Nat.not_lt_zero _)
    | succ n31 ih31 =>
      intro rnd m1 e1 e2 e3 e4 e5 hm31
      have a1 := e2 1 (by decide) (by decide); have a7 := e2 7 (by decide) (by decide); have a15 := e2 15 (by decide) (by decide); have lo : ∀ g : Nat, g < 16 → m1 g = M g := (fun g hg => e2 g (by omega) (by omega)); have hw1 : HW m1 := HW_g hw a1 (lo 2 (by decide)) (lo 3 (by decide)) (lo 4 (by decide)); have bw1 : BW m1 := BW_g bw a7; have xw1 : XW m1 := XW_cg lo xw; have b1 : m1 1 0 4 = M 1 0 4 := (by rw [a1]); have b7 : m1 7 0 8 = M 7 0 8 := (by rw [a7])
      refine aw_iload_n dX0_find_31 rfl rfl ?_
      refine aw_aload_n dX0_find_32 rfl rfl ?_
      refine aw_getr (g := 27) rfl rfl ly_X0 rfl (k := 0) dX0_find_33 (by decide) fl_X0_9 rfl ?_
      refine aw_cVi (g := 1) (As := []) (rest := [iV (rnd)]) (c_X2_rowCount hst m1) cv_X2_rowCount dX0_find_36 ml_X0_46 rfl rfl rfl rfl rfl (Nat.le_of_ble_eq_true rfl) (by decide) rfl rfl (by decide) ?_
      refine aw_icmp_ge (tgt := 52) dX0_find_39 (by decide) (by omega) (by omega) (fun h39 => ?_) (fun h39 => ?_)
      · have hrn : rnd = M 1 0 4 := (by omega); rw [hrn] at e5; have hS := exactS n2 (fun r hr => hr.1) xw.pt.1 e4 e5; have hq := hS (M 15 0 ticket) (by omega) (by omega); have hq2 : 0 ≤ m1 28 0 (M 15 0 ticket) ∧ m1 28 0 (M 15 0 ticket) ≤ 13 := (by rcases hq with ⟨a, _⟩ | ⟨a, b, _⟩; omega; omega)
        refine aw_aload_n dX0_find_52 rfl rfl ?_
        refine aw_aload_n dX0_find_53 rfl rfl ?_
        refine aw_getr (g := 27) rfl rfl ly_X0 rfl (k := 1) dX0_find_54 (by decide) fl_X0_15 rfl ?_
        refine aw_iload_n dX0_find_57 rfl rfl ?_
        refine aw_cVi (g := 7) (As := [iV (ticket)]) (rest := [rV K 27 0]) (c_X3_wishOf hst m1 (ticket) (by omega) (by exact bw1)) cv_X3_wishOf dX0_find_58 ml_X0_55 rfl rfl rfl rfl rfl (Nat.le_of_ble_eq_true rfl) (by decide) rfl rfl (by decide) ?_
        refine aw_st (st' := [iV (M 15 0 ticket), rV K 27 0]) (by rw [show (if 1 ≤ ticket ∧ ticket ≤ m1 7 0 8 then m1 15 0 ticket else -1 : Int) = M 15 0 ticket from by rw [b7, a15]; exact if_pos v_t]) ?_
        refine aw_cVi (g := 27) (As := [iV (M 15 0 ticket)]) (rest := []) (c_X0_stepsOf hst m1 (M 15 0 ticket) (by omega) (by exact hw1)) cv_X0_stepsOf dX0_find_61 ml_X0_58 rfl rfl rfl rfl rfl (Nat.le_of_ble_eq_true rfl) (by decide) rfl rfl (by decide) ?_
        refine aw_st (st' := [iV (m1 28 0 (M 15 0 ticket))]) (by rw [show (if 0 ≤ (M 15 0 ticket) ∧ (M 15 0 ticket) < m1 1 0 4 then m1 28 0 (M 15 0 ticket) else 13 : Int) = m1 28 0 (M 15 0 ticket) from by exact if_pos ⟨by omega, by omega⟩]) ?_
        refine aw_istore_n (L2 := [some (rV K 27 0), some (iV (ticket)), some (iV (m1 28 0 (M 15 0 ticket)))]) dX0_find_64 rfl (by decide) rfl ?_
        refine aw_iload_n dX0_find_65 rfl rfl ?_
        refine aw_bipush dX0_find_66 rfl ?_
        refine aw_icmp_lt (tgt := 73) dX0_find_68 (by decide) (by omega) (by omega) (fun h68 => ?_) (fun h68 => ?_)
        · have q := hS (M 15 0 ticket) (by omega) (by omega); have q2 : m1 28 0 (M 15 0 ticket) ≤ 11 := (by rcases q with q | ⟨q1, q2, q3, q4⟩; omega; (have := reach_lt (fun r hr => hr.1) xw.pt.1 q3 (fun k hk => by have := q4 k hk; omega); omega))
          refine aw_aload_n dX0_find_73 rfl rfl ?_
          refine aw_iload_n dX0_find_74 rfl rfl ?_
          refine aw_iload_n dX0_find_75 rfl rfl ?_
          refine aw_cVm (g := 27) (As := [iV (ticket), iV (m1 28 0 (M 15 0 ticket))]) (rest := []) (c_X0_collect hst m1 (ticket) (m1 28 0 (M 15 0 ticket)) (M 13 0 ticket) (by omega) (by omega) (by exact hw1) (by exact bw1) (by exact xw1) (by omega) (by rw [a15, b1]; omega) (by rcases q with q | q; omega; exact ⟨q.1, q2⟩) (by intro r r0 r1; rw [e3, RM_cg lo]; exact hS r r0 (by omega)) (by rw [e3, RM_cg lo, a15]; exact q)) cv_X0_collect dX0_find_76 ml_X0_61 rfl rfl rfl rfl rfl (Nat.le_of_ble_eq_true rfl) (by decide) rfl rfl (by decide) (fun M76 (h76 : (∀ g : Nat, g ≠ 27 → g ≠ 29 → M76 g = m1 g) ∧ M76 27 0 5 = m1 27 0 5 ∧ M76 27 0 4 = (m1 28 0 (M 15 0 ticket)) + 1 ∧ isChain (m1 7 0 8) (RM m1 (m1 27 0 5) (M 13 0 ticket)) (ptM m1 (m1 27 0 5)) (m1 13 0) (m1 15 0) ticket (m1 28 0 (M 15 0 ticket)) (M76 29 0)) => ?_)
          refine aw_iconst dX0_find_79 ?_
          exact aw_iret dX0_find_80 rfl rfl (by decide) (by decide) (by have c := h76; rw [e3, RM_cg lo, a7, lo 13 (by decide), a15] at c; have c4 : ptM m1 (M 9 0 ticket) = ptM M (M 9 0 ticket) := (by unfold ptM; rw [a15, lo 9 (by decide)]); rw [c4] at c; exact Or.inl ⟨rfl, fun g g1 g2 g3 => (c.1 g g1 g3).trans (e2 g g1 g2), m1 28 0 (M 15 0 ticket), by rcases q with q | q; omega; exact q.1, q2, q, c.2.2.1, c.2.1, c.2.2.2⟩)
        · refine aw_iconst dX0_find_71 ?_
          exact aw_iret dX0_find_72 rfl rfl (by decide) (by decide) (Or.inr ⟨rfl, fun g g1 g2 g3 => e2 g g1 g2, by have q := hS (M 15 0 ticket) (by omega) (by omega); rcases q with q | q; exact q.2; omega⟩)
      · refine aw_aload_n dX0_find_42 rfl rfl ?_
        refine aw_cVm (g := 27) (As := []) (rest := []) (c_X0_shortenSteps hst m1 (M 13 0 ticket) (by exact hw1) (by exact bw1) (by exact xw1) (by rw [b1, e3, RM_cg lo]; exact e4)) cv_X0_shortenSteps dX0_find_43 ml_X0_52 rfl rfl rfl rfl rfl (Nat.le_of_ble_eq_true rfl) (by decide) rfl rfl (by decide) (fun M43 (h43 : shR m1 M43 (m1 27 0 5) (M 13 0 ticket)) => ?_)
        have hsh := h43; rw [e3] at hsh; replace hsh := shR_cg lo hsh
        refine aw_iinc (L2 := [some (rV K 27 0), some (iV (ticket)), some (iV (rnd + 1))]) dX0_find_46 rfl (by decide) rfl ?_
        refine aw_goto (tgt := 31) dX0_find_49 (by decide) ?_
        exact ih31 (rnd + 1) (M43) (by omega) (by intro g g1 g2; rw [hsh.1 g g2]; exact e2 g g1 g2) (by rw [hsh.1 27 (by decide)]; exact e3) (by exact hsh.2.1) (by exact cplS_s e1.1 xw.pt.2 e5 hsh.2.2.1 hsh.2.2.2) (by omega)
  exact lp31 (((M 1 0 4 - 0).toNat) + 1) (0) (M26) (by omega) (by intro g g1 g2; rw [h26.1 g g2]; exact hb g g1) (by rw [h26.1 27 (by decide)]; exact hb5) (by exact (sndS_0 hmk).1) (by exact (sndS_0 hmk).2) (Nat.lt_succ_self _)
set_option maxHeartbeats 4000000 in
set_option maxRecDepth 20000 in
theorem c_X0_move {K : WPar} {l : Launch} (hst : l.stackTraces = false) (M : Mem) (t : Int) (row : Int) (first : Int) (r_t : inR t) (r_row : inR row) (r_first : inR first) (hw : HW M) (bw : BW M) (v_t : 1 ≤ t ∧ t ≤ M 7 0 8) (v_m : 0 ≤ row ∧ row < M 1 0 4 ∧ 0 ≤ first ∧ 1 ≤ M 27 0 5 ∧ first + M 27 0 5 ≤ M 2 0 row) : CT K l iX0_move [rV K 27 0, iV (t), iV (row), iV (first)] M (rN (mvM M t row first (M 27 0 5))) := by
  refine aw_met [some (rV K 27 0), some (iV (t)), some (iV (row)), some (iV (first))] hst (by decide) rfl (Nat.le_of_ble_eq_true rfl) rfl rfl (lcat rfl) ?_
  refine aw_rng (fun hM => ?_)
  have n1 := hw.1; have n2 := hw.2.1; have n3 := hw.2.2 row v_m.1 v_m.2.1
  refine aw_aload_n dX0_move_0 rfl rfl ?_
  refine aw_getr (g := 27) rfl rfl ly_X0 rfl (k := 0) dX0_move_1 (by decide) fl_X0_9 rfl ?_
  refine aw_iload_n dX0_move_4 rfl rfl ?_
  refine aw_iload_n dX0_move_5 rfl rfl ?_
  refine aw_aload_n dX0_move_6 rfl rfl ?_
  refine aw_geti (g := 27) rfl rfl ly_X0 rfl (k := 5) 5 rfl dX0_move_7 (by decide) fl_X0_30 rfl (fun r7 => ?_)
  refine aw_iload_n dX0_move_10 rfl rfl ?_
  refine aw_cVn (g := 1) (As := [iV (row), iV (first), iV (M 27 0 5), iV (t)]) (rest := []) (c_X2_give hst M (row) (first) (M 27 0 5) (t) (by omega) (by omega) (by omega) (by omega) (by omega) (by omega) (by omega)) cv_X2_give dX0_move_11 ml_X0_91 rfl rfl rfl rfl rfl (Nat.le_of_ble_eq_true rfl) (by decide) rfl rfl (by decide) ?_
  generalize hMa : giveM M row first (M 27 0 5) t = Ma
  have ha : ∀ g : Nat, g ≠ 6 → Ma g = M g := (fun g hg => by rw [← hMa, giveM_g hg]); have bwa : BW Ma := BW_g bw (ha 7 (by decide)); have b7 : Ma 7 0 8 = M 7 0 8 := (by rw [ha 7 (by decide)])
  refine aw_aload_n dX0_move_14 rfl rfl ?_
  refine aw_getr (g := 27) rfl rfl ly_X0 rfl (k := 1) dX0_move_15 (by decide) fl_X0_15 rfl ?_
  refine aw_iload_n dX0_move_18 rfl rfl ?_
  refine aw_iload_n dX0_move_19 rfl rfl ?_
  refine aw_iload_n dX0_move_20 rfl rfl ?_
  refine aw_cVn (g := 7) (As := [iV (t), iV (row), iV (first)]) (rest := []) (c_X3_putAt hst Ma (t) (row) (first) (by omega) (by omega) (by omega) (by exact bwa) (by omega)) cv_X3_putAt dX0_move_21 ml_X0_99 rfl rfl rfl rfl rfl (Nat.le_of_ble_eq_true rfl) (by decide) rfl rfl (by decide) ?_
  have bwb : BW (updM (updM Ma 13 0 t row) 14 0 t first) := BW_g bwa (by rw [updM_g (by decide), updM_g (by decide)]); have b8 : updM (updM Ma 13 0 t row) 14 0 t first 7 0 8 = M 7 0 8 := (by rw [updM_g (by decide), updM_g (by decide)]; exact b7)
  refine aw_aload_n dX0_move_24 rfl rfl ?_
  refine aw_getr (g := 27) rfl rfl ly_X0 rfl (k := 1) dX0_move_25 (by decide) fl_X0_15 rfl ?_
  refine aw_iload_n dX0_move_28 rfl rfl ?_
  refine aw_iconst dX0_move_29 ?_
  refine aw_cVn (g := 7) (As := [iV (t), iV (-1)]) (rest := []) (c_X3_setWish hst (updM (updM Ma 13 0 t row) 14 0 t first) (t) (-1) (by omega) (by omega) (by exact bwb) (by omega)) cv_X3_setWish dX0_move_30 ml_X0_102 rfl rfl rfl rfl rfl (Nat.le_of_ble_eq_true rfl) (by decide) rfl rfl (by decide) ?_
  exact aw_vret dX0_move_33 rfl (by decide) (by decide) ⟨rfl, (by rw [← hMa]; rfl)⟩
set_option maxHeartbeats 4000000 in
set_option maxRecDepth 20000 in
theorem c_X0_carryOut {K : WPar} {l : Launch} (hst : l.stackTraces = false) (M : Mem) (hw : HW M) (bw : BW M) (v_l : 1 ≤ M 27 0 4 ∧ M 27 0 4 ≤ 13) (v_z : 1 ≤ M 27 0 5 ∧ M 27 0 5 ≤ 20) (v_c : ∀ x : Int, 0 ≤ x → x ≤ M 27 0 4 - 1 → (1 ≤ M 29 0 x ∧ M 29 0 x ≤ M 7 0 8) ∧ vpl M (M 27 0 5) (M 13 0 (M 29 0 x)) (M 14 0 (M 29 0 x))) (v_w : 0 ≤ M 15 0 (M 29 0 (M 27 0 4 - 1)) ∧ M 15 0 (M 29 0 (M 27 0 4 - 1)) < M 1 0 4) : CT K l iX0_carryOut [rV K 27 0] M (rI (M 27 0 4) (exM M)) := by
  refine aw_met [some (rV K 27 0), none, none, none, none, none, none, none, none] hst (by decide) rfl (Nat.le_of_ble_eq_true rfl) rfl rfl (lcat rfl) ?_
  refine aw_rng (fun hM => ?_)
  have n1 := hw.1; have n2 := hw.2.1; have t1 := bw.1; have t2 := bw.2; have c0 := v_c 0 (by omega) (by omega); have cl := v_c (M 27 0 4 - 1) (by omega) (by omega); have w0 := hw.2.2 (M 13 0 (M 29 0 0)) c0.2.1 c0.2.2.1; have wl := hw.2.2 (M 15 0 (M 29 0 (M 27 0 4 - 1))) v_w.1 v_w.2
  refine aw_aload_n dX0_carryOut_0 rfl rfl ?_
  refine aw_geti (g := 27) rfl rfl ly_X0 rfl (k := 4) 4 rfl dX0_carryOut_1 (by decide) fl_X0_26 rfl (fun r1 => ?_)
  refine aw_iconst dX0_carryOut_4 ?_
  refine aw_icmp_lt (tgt := 20) dX0_carryOut_5 (by decide) (by omega) (by omega) (fun h5 => absurd h5 (by omega)) (fun h5 => ?_)
  refine aw_aload_n dX0_carryOut_8 rfl rfl ?_
  refine aw_geti (g := 27) rfl rfl ly_X0 rfl (k := 4) 4 rfl dX0_carryOut_9 (by decide) fl_X0_26 rfl (fun r9 => ?_)
  refine aw_aload_n dX0_carryOut_12 rfl rfl ?_
  refine aw_getr (g := 27) rfl rfl ly_X0 rfl (k := 3) dX0_carryOut_13 (by decide) fl_X0_23 rfl ?_
  refine aw_alen (g := 29) (n := 13) rfl dX0_carryOut_16 (by decide) ?_
  refine aw_icmp_le (tgt := 22) dX0_carryOut_17 (by decide) (by omega) (by omega) (fun h17 => ?_) (fun h17 => absurd (by omega) h17)
  refine aw_aload_n dX0_carryOut_22 rfl rfl ?_
  refine aw_getr (g := 27) rfl rfl ly_X0 rfl (k := 3) dX0_carryOut_23 (by decide) fl_X0_23 rfl ?_
  refine aw_iconst dX0_carryOut_26 ?_
  refine aw_iald (g := 29) (n := 13) rfl (by decide) dX0_carryOut_27 (by decide) (by show 0 ≤ 0 ∧ 0 < (13 : Int); omega) (fun r27 => ?_)
  refine aw_istore_n (L2 := [some (rV K 27 0), some (iV (M 29 0 0)), none, none, none, none, none, none, none]) dX0_carryOut_28 rfl (by decide) rfl ?_
  refine aw_aload_n dX0_carryOut_29 rfl rfl ?_
  refine aw_getr (g := 27) rfl rfl ly_X0 rfl (k := 1) dX0_carryOut_30 (by decide) fl_X0_15 rfl ?_
  refine aw_iload_n dX0_carryOut_33 rfl rfl ?_
  refine aw_cVi (g := 7) (As := [iV (M 29 0 0)]) (rest := []) (c_X3_rowOf hst M (M 29 0 0) (by exact ⟨by omega, by omega⟩) (by omega)) cv_X3_rowOf dX0_carryOut_34 ml_X0_39 rfl rfl rfl rfl rfl (Nat.le_of_ble_eq_true rfl) (by decide) rfl rfl (by decide) ?_
  refine aw_st (st' := [iV (M 13 0 (M 29 0 0))]) (by rw [show (if 1 ≤ (M 29 0 0) ∧ (M 29 0 0) ≤ M 7 0 8 then M 13 0 (M 29 0 0) else -1 : Int) = M 13 0 (M 29 0 0) from by exact if_pos c0.1]) ?_
  refine aw_istore_n (L2 := [some (rV K 27 0), some (iV (M 29 0 0)), some (iV (M 13 0 (M 29 0 0))), none, none, none, none, none, none]) dX0_carryOut_37 rfl (by decide) rfl ?_
  refine aw_aload_n dX0_carryOut_38 rfl rfl ?_
  refine aw_getr (g := 27) rfl rfl ly_X0 rfl (k := 1) dX0_carryOut_39 (by decide) fl_X0_15 rfl ?_
  refine aw_iload_n dX0_carryOut_42 rfl rfl ?_
  refine aw_cVi (g := 7) (As := [iV (M 29 0 0)]) (rest := []) (c_X3_firstOf hst M (M 29 0 0) (by exact ⟨by omega, by omega⟩) (by omega)) cv_X3_firstOf dX0_carryOut_43 ml_X0_88 rfl rfl rfl rfl rfl (Nat.le_of_ble_eq_true rfl) (by decide) rfl rfl (by decide) ?_
  refine aw_st (st' := [iV (M 14 0 (M 29 0 0))]) (by rw [show (if 1 ≤ (M 29 0 0) ∧ (M 29 0 0) ≤ M 7 0 8 then M 14 0 (M 29 0 0) else -1 : Int) = M 14 0 (M 29 0 0) from by exact if_pos c0.1]) ?_
  refine aw_istore_n (L2 := [some (rV K 27 0), some (iV (M 29 0 0)), some (iV (M 13 0 (M 29 0 0))), some (iV (M 14 0 (M 29 0 0))), none, none, none, none, none]) dX0_carryOut_46 rfl (by decide) rfl ?_
  refine aw_aload_n dX0_carryOut_47 rfl rfl ?_
  refine aw_getr (g := 27) rfl rfl ly_X0 rfl (k := 3) dX0_carryOut_48 (by decide) fl_X0_23 rfl ?_
  refine aw_aload_n dX0_carryOut_51 rfl rfl ?_
  refine aw_geti (g := 27) rfl rfl ly_X0 rfl (k := 4) 4 rfl dX0_carryOut_52 (by decide) fl_X0_26 rfl (fun r52 => ?_)
  refine aw_iconst dX0_carryOut_55 ?_
  refine aw_isub dX0_carryOut_56 ?_
  refine aw_iald (g := 29) (n := 13) rfl (by decide) dX0_carryOut_57 (by decide) (by show 0 ≤ ((M 27 0 4) - 1) ∧ ((M 27 0 4) - 1) < (13 : Int); omega) (fun r57 => ?_)
  refine aw_istore (L2 := [some (rV K 27 0), some (iV (M 29 0 0)), some (iV (M 13 0 (M 29 0 0))), some (iV (M 14 0 (M 29 0 0))), some (iV (M 29 0 ((M 27 0 4) - 1))), none, none, none, none]) dX0_carryOut_58 (by decide) rfl ?_
  refine aw_aload_n dX0_carryOut_60 rfl rfl ?_
  refine aw_getr (g := 27) rfl rfl ly_X0 rfl (k := 1) dX0_carryOut_61 (by decide) fl_X0_15 rfl ?_
  refine aw_iload dX0_carryOut_64 rfl ?_
  refine aw_cVi (g := 7) (As := [iV (M 29 0 ((M 27 0 4) - 1))]) (rest := []) (c_X3_wishOf hst M (M 29 0 ((M 27 0 4) - 1)) (by exact ⟨by omega, by omega⟩) (by omega)) cv_X3_wishOf dX0_carryOut_66 ml_X0_55 rfl rfl rfl rfl rfl (Nat.le_of_ble_eq_true rfl) (by decide) rfl rfl (by decide) ?_
  refine aw_st (st' := [iV (M 15 0 (M 29 0 (M 27 0 4 - 1)))]) (by rw [show (if 1 ≤ (M 29 0 ((M 27 0 4) - 1)) ∧ (M 29 0 ((M 27 0 4) - 1)) ≤ M 7 0 8 then M 15 0 (M 29 0 ((M 27 0 4) - 1)) else -1 : Int) = M 15 0 (M 29 0 (M 27 0 4 - 1)) from by exact if_pos cl.1]) ?_
  refine aw_istore (L2 := [some (rV K 27 0), some (iV (M 29 0 0)), some (iV (M 13 0 (M 29 0 0))), some (iV (M 14 0 (M 29 0 0))), some (iV (M 29 0 ((M 27 0 4) - 1))), some (iV (M 15 0 (M 29 0 (M 27 0 4 - 1)))), none, none, none]) dX0_carryOut_69 (by decide) rfl ?_
  refine aw_aload_n dX0_carryOut_71 rfl rfl ?_
  refine aw_getr (g := 27) rfl rfl ly_X0 rfl (k := 0) dX0_carryOut_72 (by decide) fl_X0_9 rfl ?_
  refine aw_iload dX0_carryOut_75 rfl ?_
  refine aw_aload_n dX0_carryOut_77 rfl rfl ?_
  refine aw_geti (g := 27) rfl rfl ly_X0 rfl (k := 5) 5 rfl dX0_carryOut_78 (by decide) fl_X0_30 rfl (fun r78 => ?_)
  refine aw_iconst dX0_carryOut_81 ?_
  refine aw_cVr (g := 1) (As := [iV (M 15 0 (M 29 0 (M 27 0 4 - 1))), iV (M 27 0 5), iV 1]) (rest := []) (c_X2_greatestIn hst M (M 15 0 (M 29 0 (M 27 0 4 - 1))) (M 27 0 5) (1) (by omega) (by omega) (by omega) (by omega) (by omega) (by omega)) cv_X2_greatestIn dX0_carryOut_82 ml_X0_69 rfl rfl rfl rfl rfl (Nat.le_of_ble_eq_true rfl) (by decide) rfl rfl (by decide) (fun z82 (h82 : isBest (cB (M 2 0) (M 6) (M 27 0 5) (1 ≠ 0) (M 15 0 (M 29 0 (M 27 0 4 - 1)))) (vBR (M 3 0) (M 2 0) (M 27 0 5) (M 15 0 (M 29 0 (M 27 0 4 - 1)))) z82) => ?_)
  have hz := okM_z h82
  refine aw_istore (L2 := [some (rV K 27 0), some (iV (M 29 0 0)), some (iV (M 13 0 (M 29 0 0))), some (iV (M 14 0 (M 29 0 0))), some (iV (M 29 0 ((M 27 0 4) - 1))), some (iV (M 15 0 (M 29 0 (M 27 0 4 - 1)))), some (iV (z82)), none, none]) dX0_carryOut_85 (by decide) rfl ?_
  refine aw_aload_n dX0_carryOut_87 rfl rfl ?_
  refine aw_getr (g := 27) rfl rfl ly_X0 rfl (k := 0) dX0_carryOut_88 (by decide) fl_X0_9 rfl ?_
  refine aw_iload_n dX0_carryOut_91 rfl rfl ?_
  refine aw_iload_n dX0_carryOut_92 rfl rfl ?_
  refine aw_aload_n dX0_carryOut_93 rfl rfl ?_
  refine aw_geti (g := 27) rfl rfl ly_X0 rfl (k := 5) 5 rfl dX0_carryOut_94 (by decide) fl_X0_30 rfl (fun r94 => ?_)
  refine aw_iconst dX0_carryOut_97 ?_
  refine aw_cVn (g := 1) (As := [iV (M 13 0 (M 29 0 0)), iV (M 14 0 (M 29 0 0)), iV (M 27 0 5), iV 0]) (rest := []) (c_X2_give hst M (M 13 0 (M 29 0 0)) (M 14 0 (M 29 0 0)) (M 27 0 5) (0) (by omega) (by omega) (by omega) (by omega) (by omega) (by omega) (by omega)) cv_X2_give dX0_carryOut_98 ml_X0_91 rfl rfl rfl rfl rfl (Nat.le_of_ble_eq_true rfl) (by decide) rfl rfl (by decide) ?_
  refine aw_iconst dX0_carryOut_101 ?_
  refine aw_istore (L2 := [some (rV K 27 0), some (iV (M 29 0 0)), some (iV (M 13 0 (M 29 0 0))), some (iV (M 14 0 (M 29 0 0))), some (iV (M 29 0 ((M 27 0 4) - 1))), some (iV (M 15 0 (M 29 0 (M 27 0 4 - 1)))), some (iV (z82)), some (iV 0), none]) dX0_carryOut_102 (by decide) rfl ?_
  have lp104 : ∀ (n104 : Nat) (pl : Int), (0 ≤ pl ∧ pl ≤ M 27 0 4 - 1) → ((M 27 0 4 - pl).toNat) < n104 → AW K l iX0_carryOut (ZM K iX0_carryOut (rI (M 27 0 4) (exM M))) 104 [some (rV K 27 0), some (iV (M 29 0 0)), some (iV (M 13 0 (M 29 0 0))), some (iV (M 14 0 (M 29 0 0))), some (iV (M 29 0 ((M 27 0 4) - 1))), some (iV (M 15 0 (M 29 0 (M 27 0 4 - 1)))), some (iV (z82)), some (iV (pl)), none] [] (chS M (M 29 0) (M 13 0 (M 29 0 0)) (M 14 0 (M 29 0 0)) (M 27 0 5) (Int.toNat pl)) 0 0 := by
    intro n104
    induction n104 with
    | zero =>
      intro pl e1 hm104
      exact absurd hm104 (Nat.not_lt_zero _)
    | succ n104 ih104 =>
      intro pl e1 hm104
      generalize hMc : chS M (M 29 0) (M 13 0 (M 29 0 0)) (M 14 0 (M 29 0 0)) (M 27 0 5) (Int.toNat pl) = Mc
      have k1 : Mc 1 = M 1 := (by rw [← hMc]; exact chS_g (by decide) (by decide) (by decide) (by decide) _); have k2 : Mc 2 = M 2 := (by rw [← hMc]; exact chS_g (by decide) (by decide) (by decide) (by decide) _); have k3 : Mc 3 = M 3 := (by rw [← hMc]; exact chS_g (by decide) (by decide) (by decide) (by decide) _); have k4 : Mc 4 = M 4 := (by rw [← hMc]; exact chS_g (by decide) (by decide) (by decide) (by decide) _); have k7 : Mc 7 = M 7 := (by rw [← hMc]; exact chS_g (by decide) (by decide) (by decide) (by decide) _); have k27 : Mc 27 = M 27 := (by rw [← hMc]; exact chS_g (by decide) (by decide) (by decide) (by decide) _); have k29 : Mc 29 = M 29 := (by rw [← hMc]; exact chS_g (by decide) (by decide) (by decide) (by decide) _); have hwc : HW Mc := HW_g hw k1 k2 k3 k4; have bwc : BW Mc := BW_g bw k7; have b7 : Mc 7 0 8 = M 7 0 8 := (by rw [k7]); have b1 : Mc 1 0 4 = M 1 0 4 := (by rw [k1]); have b27 : Mc 27 0 5 = M 27 0 5 := (by rw [k27]); have vp : ∀ x : Int, 0 ≤ x → x ≤ M 27 0 4 - 1 → vpl M (M 27 0 5) (Mc 13 0 (M 29 0 x)) (Mc 14 0 (M 29 0 x)) := (by rw [← hMc]; exact chS_vp (fun x x0 x1 => (v_c x x0 x1).2) pl.toNat (by omega))
      refine aw_iload dX0_carryOut_104 rfl ?_
      refine aw_iconst dX0_carryOut_106 ?_
      refine aw_iadd dX0_carryOut_107 ?_
      refine aw_aload_n dX0_carryOut_108 rfl rfl ?_
      refine aw_geti (g := 27) rfl rfl ly_X0 rfl (k := 4) 4 rfl dX0_carryOut_109 (by decide) fl_X0_26 rfl (fun r109 => ?_)
      refine aw_st (st' := [iV (M 27 0 4), iV (pl + 1)]) (by rw [show (Mc 27 0 4 : Int) = M 27 0 4 from by rw [k27]]) ?_
      refine aw_icmp_ge (tgt := 161) dX0_carryOut_112 (by decide) (by omega) (by omega) (fun h112 => ?_) (fun h112 => ?_)
      · refine aw_iload dX0_carryOut_161 rfl ?_
        refine aw_iconst dX0_carryOut_163 ?_
        refine aw_icmp_eq (tgt := 180) dX0_carryOut_164 (by decide) (by rcases isBest_in h82 with zq | zq; omega; (have zq2 := zq.2.1; omega)) (by omega) (fun h164 => ?_) (fun h164 => ?_)
        · refine aw_aload_n dX0_carryOut_180 rfl rfl ?_
          refine aw_iload dX0_carryOut_181 rfl ?_
          refine aw_iload_n dX0_carryOut_183 rfl rfl ?_
          refine aw_iload_n dX0_carryOut_184 rfl rfl ?_
          refine aw_cVn (g := 27) (As := [iV (M 29 0 ((M 27 0 4) - 1)), iV (M 13 0 (M 29 0 0)), iV (M 14 0 (M 29 0 0))]) (rest := []) (c_X0_move hst Mc (M 29 0 ((M 27 0 4) - 1)) (M 13 0 (M 29 0 0)) (M 14 0 (M 29 0 0)) (by exact ⟨by omega, by omega⟩) (by omega) (by omega) (by exact hwc) (by exact bwc) (by omega) (by rw [k2, b1, b27]; omega)) cv_X0_move dX0_carryOut_185 ml_X0_95 rfl rfl rfl rfl rfl (Nat.le_of_ble_eq_true rfl) (by decide) rfl rfl (by decide) ?_
          skip
          refine aw_aload_n dX0_carryOut_188 rfl rfl ?_
          refine aw_geti (g := 27) rfl rfl ly_X0 rfl (k := 4) 4 rfl dX0_carryOut_189 (by decide) fl_X0_26 rfl (fun r189 => ?_)
          refine aw_st (st' := [iV (M 27 0 4)]) (by rw [show ((mvM Mc (M 29 0 ((M 27 0 4) - 1)) (M 13 0 (M 29 0 0)) (M 14 0 (M 29 0 0)) (Mc 27 0 5)) 27 0 4 : Int) = M 27 0 4 from by rw [mvM_g (by decide) (by decide) (by decide) (by decide), k27]]) ?_
          exact aw_iret dX0_carryOut_192 rfl rfl (by decide) (by decide) ⟨congrArg (fun z => Sum.inl (some z)) (by first | rfl | omega), (by have q : pl = M 27 0 4 - 1 := (by omega); subst q; unfold exM; first | rw [if_neg (by rw [hz.1]; exact h164), hz.1, hMc, b27] | rw [if_pos (by rw [hz.1]; exact h164), hMc, b27])⟩
        · refine aw_aload_n dX0_carryOut_167 rfl rfl ?_
          refine aw_iload dX0_carryOut_168 rfl ?_
          refine aw_iload dX0_carryOut_170 rfl ?_
          refine aw_iload dX0_carryOut_172 rfl ?_
          refine aw_cVn (g := 27) (As := [iV (M 29 0 ((M 27 0 4) - 1)), iV (M 15 0 (M 29 0 (M 27 0 4 - 1))), iV (z82)]) (rest := []) (c_X0_move hst Mc (M 29 0 ((M 27 0 4) - 1)) (M 15 0 (M 29 0 (M 27 0 4 - 1))) (z82) (by exact ⟨by omega, by omega⟩) (by omega) (by rcases isBest_in h82 with zq | zq; omega; (have zq2 := zq.2.1; omega)) (by exact hwc) (by exact bwc) (by omega) (by rw [k2, b1, b27]; rcases isBest_in h82 with zq | zq; omega; (have zq2 := zq.2.1; omega))) cv_X0_move dX0_carryOut_174 ml_X0_95 rfl rfl rfl rfl rfl (Nat.le_of_ble_eq_true rfl) (by decide) rfl rfl (by decide) ?_
          refine aw_goto (tgt := 188) dX0_carryOut_177 (by decide) ?_
          skip
          refine aw_aload_n dX0_carryOut_188 rfl rfl ?_
          refine aw_geti (g := 27) rfl rfl ly_X0 rfl (k := 4) 4 rfl dX0_carryOut_189 (by decide) fl_X0_26 rfl (fun r189 => ?_)
          refine aw_st (st' := [iV (M 27 0 4)]) (by rw [show ((mvM Mc (M 29 0 ((M 27 0 4) - 1)) (M 15 0 (M 29 0 (M 27 0 4 - 1))) z82 (Mc 27 0 5)) 27 0 4 : Int) = M 27 0 4 from by rw [mvM_g (by decide) (by decide) (by decide) (by decide), k27]]) ?_
          exact aw_iret dX0_carryOut_192 rfl rfl (by decide) (by decide) ⟨congrArg (fun z => Sum.inl (some z)) (by first | rfl | omega), (by have q : pl = M 27 0 4 - 1 := (by omega); subst q; unfold exM; first | rw [if_neg (by rw [hz.1]; exact h164), hz.1, hMc, b27] | rw [if_pos (by rw [hz.1]; exact h164), hMc, b27])⟩
      · refine aw_aload_n dX0_carryOut_115 rfl rfl ?_
        refine aw_getr (g := 27) rfl rfl ly_X0 rfl (k := 3) dX0_carryOut_116 (by decide) fl_X0_23 rfl ?_
        refine aw_iload dX0_carryOut_119 rfl ?_
        refine aw_iconst dX0_carryOut_121 ?_
        refine aw_iadd dX0_carryOut_122 ?_
        refine aw_iald (g := 29) (n := 13) rfl (by decide) dX0_carryOut_123 (by decide) (by show 0 ≤ (pl + 1) ∧ (pl + 1) < (13 : Int); omega) (fun r123 => ?_)
        refine aw_st (st' := [iV (M 29 0 (pl + 1))]) (by rw [show (Mc 29 0 (pl + 1) : Int) = M 29 0 (pl + 1) from by rw [k29]]) ?_
        refine aw_istore (L2 := [some (rV K 27 0), some (iV (M 29 0 0)), some (iV (M 13 0 (M 29 0 0))), some (iV (M 14 0 (M 29 0 0))), some (iV (M 29 0 ((M 27 0 4) - 1))), some (iV (M 15 0 (M 29 0 (M 27 0 4 - 1)))), some (iV (z82)), some (iV (pl)), some (iV (M 29 0 (pl + 1)))]) dX0_carryOut_124 (by decide) rfl ?_
        have cp := v_c pl e1.1 (by omega); have cp1 := v_c (pl + 1) (by omega) (by omega); have vp1 := vp (pl + 1) (by omega) (by omega); have wp1 := hw.2.2 (Mc 13 0 (M 29 0 (pl + 1))) vp1.1 vp1.2.1
        refine aw_aload_n dX0_carryOut_126 rfl rfl ?_
        refine aw_aload_n dX0_carryOut_127 rfl rfl ?_
        refine aw_getr (g := 27) rfl rfl ly_X0 rfl (k := 3) dX0_carryOut_128 (by decide) fl_X0_23 rfl ?_
        refine aw_iload dX0_carryOut_131 rfl ?_
        refine aw_iald (g := 29) (n := 13) rfl (by decide) dX0_carryOut_133 (by decide) (by show 0 ≤ pl ∧ pl < (13 : Int); omega) (fun r133 => ?_)
        refine aw_st (st' := [iV (M 29 0 pl), rV K 27 0]) (by rw [show (Mc 29 0 pl : Int) = M 29 0 pl from by rw [k29]]) ?_
        refine aw_aload_n dX0_carryOut_134 rfl rfl ?_
        refine aw_getr (g := 27) rfl rfl ly_X0 rfl (k := 1) dX0_carryOut_135 (by decide) fl_X0_15 rfl ?_
        refine aw_iload dX0_carryOut_138 rfl ?_
        refine aw_cVi (g := 7) (As := [iV (M 29 0 (pl + 1))]) (rest := [iV (M 29 0 pl), rV K 27 0]) (c_X3_rowOf hst Mc (M 29 0 (pl + 1)) (by exact ⟨by omega, by omega⟩) (by exact bwc)) cv_X3_rowOf dX0_carryOut_140 ml_X0_39 rfl rfl rfl rfl rfl (Nat.le_of_ble_eq_true rfl) (by decide) rfl rfl (by decide) ?_
        refine aw_st (st' := [iV (Mc 13 0 (M 29 0 (pl + 1))), iV (M 29 0 pl), rV K 27 0]) (by rw [show (if 1 ≤ (M 29 0 (pl + 1)) ∧ (M 29 0 (pl + 1)) ≤ Mc 7 0 8 then Mc 13 0 (M 29 0 (pl + 1)) else -1 : Int) = Mc 13 0 (M 29 0 (pl + 1)) from by have q := (v_c (pl + 1) (by omega) (by omega)).1; exact if_pos (by omega)]) ?_
        refine aw_aload_n dX0_carryOut_143 rfl rfl ?_
        refine aw_getr (g := 27) rfl rfl ly_X0 rfl (k := 1) dX0_carryOut_144 (by decide) fl_X0_15 rfl ?_
        refine aw_iload dX0_carryOut_147 rfl ?_
        refine aw_cVi (g := 7) (As := [iV (M 29 0 (pl + 1))]) (rest := [iV (Mc 13 0 (M 29 0 (pl + 1))), iV (M 29 0 pl), rV K 27 0]) (c_X3_firstOf hst Mc (M 29 0 (pl + 1)) (by exact ⟨by omega, by omega⟩) (by exact bwc)) cv_X3_firstOf dX0_carryOut_149 ml_X0_88 rfl rfl rfl rfl rfl (Nat.le_of_ble_eq_true rfl) (by decide) rfl rfl (by decide) ?_
        refine aw_st (st' := [iV (Mc 14 0 (M 29 0 (pl + 1))), iV (Mc 13 0 (M 29 0 (pl + 1))), iV (M 29 0 pl), rV K 27 0]) (by rw [show (if 1 ≤ (M 29 0 (pl + 1)) ∧ (M 29 0 (pl + 1)) ≤ Mc 7 0 8 then Mc 14 0 (M 29 0 (pl + 1)) else -1 : Int) = Mc 14 0 (M 29 0 (pl + 1)) from by have q := (v_c (pl + 1) (by omega) (by omega)).1; exact if_pos (by omega)]) ?_
        refine aw_cVn (g := 27) (As := [iV (M 29 0 pl), iV (Mc 13 0 (M 29 0 (pl + 1))), iV (Mc 14 0 (M 29 0 (pl + 1)))]) (rest := []) (c_X0_move hst Mc (M 29 0 pl) (Mc 13 0 (M 29 0 (pl + 1))) (Mc 14 0 (M 29 0 (pl + 1))) (by exact ⟨by omega, by omega⟩) (by omega) (by omega) (by exact hwc) (by exact bwc) (by omega) (by rw [k2, b1, b27]; omega)) cv_X0_move dX0_carryOut_152 ml_X0_95 rfl rfl rfl rfl rfl (Nat.le_of_ble_eq_true rfl) (by decide) rfl rfl (by decide) ?_
        refine aw_iinc (L2 := [some (rV K 27 0), some (iV (M 29 0 0)), some (iV (M 13 0 (M 29 0 0))), some (iV (M 14 0 (M 29 0 0))), some (iV (M 29 0 ((M 27 0 4) - 1))), some (iV (M 15 0 (M 29 0 (M 27 0 4 - 1)))), some (iV (z82)), some (iV (pl + 1)), some (iV (M 29 0 (pl + 1)))]) dX0_carryOut_155 rfl (by decide) rfl ?_
        refine aw_goto (tgt := 104) dX0_carryOut_158 (by decide) ?_
        refine aw_weak (L' := [some (rV K 27 0), some (iV (M 29 0 0)), some (iV (M 13 0 (M 29 0 0))), some (iV (M 14 0 (M 29 0 0))), some (iV (M 29 0 ((M 27 0 4) - 1))), some (iV (M 15 0 (M 29 0 (M 27 0 4 - 1)))), some (iV (z82)), some (iV (pl + 1)), none]) ⟨Or.inr rfl, Or.inr rfl, Or.inr rfl, Or.inr rfl, Or.inr rfl, Or.inr rfl, Or.inr rfl, Or.inr rfl, Or.inl rfl, trivial⟩ ?_
        refine aw_mem (M' := chS M (M 29 0) (M 13 0 (M 29 0 0)) (M 14 0 (M 29 0 0)) (M 27 0 5) (Int.toNat (pl + 1))) (by rw [chS_s e1.1, hMc, b27]) ?_
        exact ih104 (pl + 1) (by omega) (by omega)
  refine aw_mem (M' := chS M (M 29 0) (M 13 0 (M 29 0 0)) (M 14 0 (M 29 0 0)) (M 27 0 5) (Int.toNat 0)) (by rfl) ?_
  exact lp104 (((M 27 0 4 - 0).toNat) + 1) (0) (by omega) (Nat.lt_succ_self _)
