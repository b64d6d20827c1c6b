set_option maxHeartbeats 4000000 in
set_option maxRecDepth 20000 in
theorem c_X1_find {K : WPar} {l : Launch} (hst : l.stackTraces = false) (M : Mem) (people : Int) (r_people : inR people) (hw : HW M) (v_p : 2 ≤ people ∧ people ≤ 100) : CT K l iX1_find [rV K 16 0, iV (people)] M (FINDP M people) := by
  refine aw_met [some (rV K 16 0), some (iV (people)), none, none] hst (by decide) rfl (Nat.le_of_ble_eq_true rfl) rfl rfl (lcat rfl) ?_
  refine aw_rng (fun hM => ?_)
  refine aw_iload_n dX1_find_0 rfl rfl ?_
  refine aw_iconst dX1_find_1 ?_
  refine aw_icmp_lt (tgt := 11) dX1_find_2 (by decide) (by have n1 := hw.1; have n2 := hw.2.1; omega) (by have n1 := hw.1; have n2 := hw.2.1; omega) (fun h2 => absurd h2 (by have n1 := hw.1; have n2 := hw.2.1; omega)) (fun h2 => ?_)
  refine aw_iload_n dX1_find_5 rfl rfl ?_
  refine aw_bipush dX1_find_6 rfl ?_
  refine aw_icmp_le (tgt := 13) dX1_find_8 (by decide) (by have n1 := hw.1; have n2 := hw.2.1; omega) (by have n1 := hw.1; have n2 := hw.2.1; omega) (fun h8 => ?_) (fun h8 => absurd (by have n1 := hw.1; have n2 := hw.2.1; omega) h8)
  refine aw_aload_n dX1_find_13 rfl rfl ?_
  refine aw_iload_n dX1_find_14 rfl rfl ?_
  refine aw_cVn (g := 16) (As := [iV (people)]) (rest := []) (c_X1_startBehindLastRow hst M (people) (by have n1 := hw.1; have n2 := hw.2.1; omega) (by have n1 := hw.1; have n2 := hw.2.1; omega) (by have n1 := hw.1; have n2 := hw.2.1; omega)) cv_X1_startBehindLastRow dX1_find_15 ml_X1_46 rfl rfl rfl rfl rfl (Nat.le_of_ble_eq_true rfl) (by decide) rfl rfl (by decide) ?_
  refine aw_aload_n dX1_find_18 rfl rfl ?_
  refine aw_getr (g := 16) rfl rfl ly_X1 rfl (k := 0) dX1_find_19 (by decide) fl_X1_9 rfl ?_
  refine aw_cVi (g := 1) (As := []) (rest := []) (c_X2_rowCount hst (sbM M (M 1 0 4) (people + 1))) cv_X2_rowCount dX1_find_22 ml_X1_50 rfl rfl rfl rfl rfl (Nat.le_of_ble_eq_true rfl) (by decide) rfl rfl (by decide) ?_
  refine aw_st (st' := [iV (M 1 0 4)]) (by rw [show ((sbM M (M 1 0 4) (people + 1)) 1 0 4 : Int) = M 1 0 4 from by rw [sbM_g (by decide) (by decide)]]) ?_
  refine aw_iconst dX1_find_25 ?_
  refine aw_isub dX1_find_26 ?_
  refine aw_istore_n (L2 := [some (rV K 16 0), some (iV (people)), some (iV ((M 1 0 4) - 1)), none]) dX1_find_27 rfl (by decide) rfl ?_
  have lp28 : ∀ (n28 : Nat) (row : Int) (m1 : Mem), (-1 ≤ row ∧ row ≤ M 1 0 4 - 1) → (SF M m1) → (SPr M m1 people (row + 1)) → ((row + 1).toNat) < n28 → AW K l iX1_find (ZM K iX1_find (FINDP M people)) 28 [some (rV K 16 0), some (iV (people)), some (iV (row)), none] [] (m1) 0 0 := by
    intro n28
    induction n28 with
    | zero =>
      intro row m1 e1 e2 e3 hm28
      exact absurd hm28 (Nat.not_lt_zero _)
    | succ n28 ih28 =>
      intro row m1 e1 e2 e3 hm28
      have a1 : m1 1 = M 1 := e2 1 (by decide); have hw1 : HW m1 := e2.hw hw; have b1 : m1 1 0 4 = M 1 0 4 := (by rw [a1])
      refine aw_iload_n dX1_find_28 rfl rfl ?_
      refine aw_if_lt (tgt := 62) dX1_find_29 (by decide) (by have n1 := hw.1; have n2 := hw.2.1; omega) (fun h29 => ?_) (fun h29 => ?_)
      · have q0 : row = -1 := (by omega); subst q0; have esp : SPr M m1 people 0 := e3; have up := SPr_up (v := m1 23 0 people) e2 esp
        refine aw_aload_n dX1_find_62 rfl rfl ?_
        refine aw_aload_n dX1_find_63 rfl rfl ?_
        refine aw_getr (g := 16) rfl rfl ly_X1 rfl (k := 4) dX1_find_64 (by decide) fl_X1_27 rfl ?_
        refine aw_iconst dX1_find_67 ?_
        refine aw_aald (g := 22) (n := 13) rfl (by decide) rfl dX1_find_68 (by show 0 ≤ 0 ∧ 0 < (13 : Int); have n1 := hw.1; have n2 := hw.2.1; omega) ?_
        refine aw_iload_n dX1_find_69 rfl rfl ?_
        refine aw_iald (g := 23) (n := 101) rfl (by decide) dX1_find_70 (by decide) (by show 0 ≤ people ∧ people < (101 : Int); have n1 := hw.1; have n2 := hw.2.1; omega) (fun r70 => ?_)
        refine aw_puti (g := 16) tyX1 tyX1_ok nmX1 rfl rfl ly_X1 rfl (k := 7) 7 rfl (M' := updM m1 16 0 7 (m1 23 0 people)) dX1_find_71 (by decide) fl_X1_36 rfl rfl (by decide +kernel) (by have n1 := hw.1; have n2 := hw.2.1; omega) rfl ?_
        refine aw_aload_n dX1_find_74 rfl rfl ?_
        refine aw_geti (g := 16) rfl rfl ly_X1 rfl (k := 7) 7 rfl dX1_find_75 (by decide) fl_X1_36 rfl (fun r75 => ?_)
        refine aw_st (st' := [iV (m1 23 0 people)]) (by rw [show ((updM m1 16 0 7 (m1 23 0 people)) 16 0 7 : Int) = m1 23 0 people from by exact updM_same]) ?_
        refine aw_bipush dX1_find_78 rfl ?_
        refine aw_icmp_lt (tgt := 85) dX1_find_80 (by decide) (by have n1 := hw.1; have n2 := hw.2.1; omega) (by have n1 := hw.1; have n2 := hw.2.1; omega) (fun h80 => ?_) (fun h80 => ?_)
        · refine aw_aload_n dX1_find_85 rfl rfl ?_
          refine aw_iload_n dX1_find_86 rfl rfl ?_
          refine aw_cVm (g := 16) (As := [iV (people)]) (rest := []) (c_X1_takeFromRows hst (updM m1 16 0 7 (m1 23 0 people)) (people) (by have n1 := hw.1; have n2 := hw.2.1; omega) (by exact up.2.hw hw) (by have n1 := hw.1; have n2 := hw.2.1; omega) (by exact up.1) (by rw [updM_g (by decide)]; omega)) cv_X1_takeFromRows dX1_find_87 ml_X1_61 rfl rfl rfl rfl rfl (Nat.le_of_ble_eq_true rfl) (by decide) rfl rfl (by decide) (fun M87 (h87 : (∀ g : Nat, g ≠ 26 → M87 g = (updM m1 16 0 7 (m1 23 0 people)) g) ∧ TKM (updM m1 16 0 7 (m1 23 0 people)) 0 people ((updM m1 16 0 7 (m1 23 0 people)) 23 0 people) ((updM m1 16 0 7 (m1 23 0 people)) 25 0 people) (M87 26 0) ∧ ∀ r : Int, 0 ≤ r → r < (updM m1 16 0 7 (m1 23 0 people)) 1 0 4 → 0 ≤ M87 26 0 r ∧ M87 26 0 r ≤ 20) => ?_)
          refine aw_iconst dX1_find_90 ?_
          exact aw_iret dX1_find_91 rfl rfl (by decide) (by decide) (by have q := FOUND_mk hw (by omega) e2 esp h80 h87; exact Or.inl ⟨rfl, q.2, q.1⟩)
        · refine aw_iconst dX1_find_83 ?_
          exact aw_iret dX1_find_84 rfl rfl (by decide) (by decide) (Or.inr ⟨rfl, up.2, SPr_none hw (by omega) esp (by omega)⟩)
      · refine aw_aload_n dX1_find_32 rfl rfl ?_
        refine aw_iload_n dX1_find_33 rfl rfl ?_
        refine aw_cVm (g := 16) (As := [iV (row)]) (rest := []) (c_X1_readBlocks hst m1 (row) (by have n1 := hw.1; have n2 := hw.2.1; omega) (by exact hw1) (by omega)) cv_X1_readBlocks dX1_find_34 ml_X1_54 rfl rfl rfl rfl rfl (Nat.le_of_ble_eq_true rfl) (by decide) rfl rfl (by decide) (fun M34 (h34 : rowOK m1 M34 row ∧ SF m1 M34 ∧ (∀ g : Nat, g ≠ 17 → g ≠ 19 → g ≠ 21 → M34 g = m1 g) ∧ ∀ r : Int, r ≠ row → M34 17 0 r = m1 17 0 r ∧ M34 19 r = m1 19 r ∧ M34 21 r = m1 21 r) => ?_)
        refine aw_iconst dX1_find_37 ?_
        refine aw_istore_n (L2 := [some (rV K 16 0), some (iV (people)), some (iV (row)), some (iV 0)]) dX1_find_38 rfl (by decide) rfl ?_
        have lp39 : ∀ (n39 : Nat) (lef : Int) (m2 : Mem), (0 ≤ lef ∧ lef ≤ people + 1) → (SF M m2) → (SPi M m2 people row lef) → ((people + 1 - lef).toNat) < n39 → AW K l iX1_find (ZM K iX1_find (FINDP M people)) 39 [some (rV K 16 0), some (iV (people)), some (iV (row)), some (iV (lef))] [] (m2) 0 0 := by
          intro n39
          induction n39 with
          | zero =>
            intro lef m2 f1 f2 f3 hm39
            exact absurd hm39 (Nat.not_lt_zero _)
          | succ n39 ih39 =>
            intro lef m2 f1 f2 f3 hm39
            have c1 : m2 1 = M 1 := f2 1 (by decide); have hw2 : HW m2 := f2.hw hw; have d1 : m2 1 0 4 = M 1 0 4 := (by rw [c1])
            refine aw_iload_n dX1_find_39 rfl rfl ?_
            refine aw_iload_n dX1_find_40 rfl rfl ?_
            refine aw_icmp_gt (tgt := 56) dX1_find_41 (by decide) (by have n1 := hw.1; have n2 := hw.2.1; omega) (by have n1 := hw.1; have n2 := hw.2.1; omega) (fun h41 => ?_) (fun h41 => ?_)
            · refine aw_iinc (L2 := [some (rV K 16 0), some (iV (people)), some (iV (row + (-1))), some (iV (lef))]) dX1_find_56 rfl (by decide) rfl ?_
              refine aw_goto (tgt := 28) dX1_find_59 (by decide) ?_
              refine aw_weak (L' := [some (rV K 16 0), some (iV (people)), some (iV (row + (-1))), none]) ⟨Or.inr rfl, Or.inr rfl, Or.inr rfl, Or.inl rfl, trivial⟩ ?_
              exact ih28 (row + (-1)) (m2) (by have n1 := hw.1; have n2 := hw.2.1; omega) (by exact f2) (by exact SPi_all f3 (by omega) (by omega)) (by omega)
            · refine aw_aload_n dX1_find_44 rfl rfl ?_
              refine aw_iload_n dX1_find_45 rfl rfl ?_
              refine aw_iload_n dX1_find_46 rfl rfl ?_
              refine aw_cVm (g := 16) (As := [iV (row), iV (lef)]) (rest := []) (c_X1_decide hst m2 (row) (lef) (by have n1 := hw.1; have n2 := hw.2.1; omega) (by have n1 := hw.1; have n2 := hw.2.1; omega) (by exact hw2) (by omega) (by omega) (by exact (rowOK_sf f2).mpr (f3.1 row (Int.le_refl _) (by omega))) (by intro p p1 p2; exact (FGat_sf f2).mpr (f3.2.1 (row + 1) p (Int.le_refl _) (by omega) p1 (by omega)))) cv_X1_decide dX1_find_47 ml_X1_57 rfl rfl rfl rfl rfl (Nat.le_of_ble_eq_true rfl) (by decide) rfl rfl (by decide) (fun M47 (h47 : ∃ f g : Int, isFG (fun b v => cM m2 row b lef v) f g ∧ M47 = updM (updM m2 23 row lef f) 25 row lef g) => ?_)
              refine aw_iinc (L2 := [some (rV K 16 0), some (iV (people)), some (iV (row)), some (iV (lef + 1))]) dX1_find_50 rfl (by decide) rfl ?_
              refine aw_goto (tgt := 39) dX1_find_53 (by decide) ?_
              exact ih39 (lef + 1) (M47) (by have n1 := hw.1; have n2 := hw.2.1; omega) (by exact (SPi_s f2 f3 h47).2) (by exact (SPi_s f2 f3 h47).1) (by omega)
        exact lp39 (((people + 1 - 0).toNat) + 1) (0) (M34) (by have n1 := hw.1; have n2 := hw.2.1; omega) (by exact SF.tr e2 h34.2.1) (by exact SPi_0 e2 e3 h34) (Nat.lt_succ_self _)
  exact lp28 (((((M 1 0 4) - 1) + 1).toNat) + 1) ((M 1 0 4) - 1) ((sbM M (M 1 0 4) (people + 1))) (by have n1 := hw.1; have n2 := hw.2.1; omega) (by exact sbM_sf) (by exact SPr_n hw) (Nat.lt_succ_self _)
