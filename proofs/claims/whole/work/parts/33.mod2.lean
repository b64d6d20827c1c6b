set_option maxHeartbeats 4000000 in
set_option maxRecDepth 20000 in
theorem c_X5_place {K : WPar} {l : Launch} (hst : l.stackTraces = false) (M : Mem) (row : Int) (blocks : Int) (seats : Int) (r_row : inR row) (r_blocks : inR blocks) (r_seats : inR seats) : CT K l iX5_place [iV (row), iV (blocks), iV (seats)] M (rI ((13 * row + blocks) * 101 + seats) (M)) := by
  refine aw_met [some (iV (row)), some (iV (blocks)), some (iV (seats))] hst (by decide) rfl (Nat.le_of_ble_eq_true rfl) rfl rfl (lcat rfl) ?_
  refine aw_rng (fun hM => ?_)
  refine aw_bipush dX5_place_0 rfl ?_
  refine aw_iload_n dX5_place_2 rfl rfl ?_
  refine aw_imul dX5_place_3 ?_
  refine aw_iload_n dX5_place_4 rfl rfl ?_
  refine aw_iadd dX5_place_5 ?_
  refine aw_bipush dX5_place_6 rfl ?_
  refine aw_imul dX5_place_8 ?_
  refine aw_iload_n dX5_place_9 rfl rfl ?_
  refine aw_iadd dX5_place_10 ?_
  exact aw_iret dX5_place_11 rfl rfl (by decide) (by decide) ⟨congrArg (fun z => Sum.inl (some z)) (by first | rfl | omega), (by rfl)⟩
set_option maxHeartbeats 4000000 in
set_option maxRecDepth 20000 in
theorem c_X5_laysSeats {K : WPar} {l : Launch} (hst : l.stackTraces = false) (M : Mem) (row : Int) (seats : Int) (r_row : inR row) (r_seats : inR seats) (hw : HWm M) (v_row : 0 ≤ row ∧ row < M 30 0 3) (v_se : 2 ≤ seats ∧ seats ≤ M 31 0 row) (v_ga : GA M M row seats) (v_gf : GF M M (row + 1)) : CT K l iX5_laysSeats [rV K 30 0, iV (row), iV (seats)] M (rMm (fun m => rowFr M m row ∧ GA M m row (seats + 1))) := by
  refine aw_met [some (rV K 30 0), some (iV (row)), some (iV (seats)), none, none, none, none, none] hst (by decide) rfl (Nat.le_of_ble_eq_true rfl) rfl rfl (lcat rfl) ?_
  refine aw_rng (fun hM => ?_)
  refine aw_aload_n dX5_laysSeats_0 rfl rfl ?_
  refine aw_iload_n dX5_laysSeats_1 rfl rfl ?_
  refine aw_iload_n dX5_laysSeats_2 rfl rfl ?_
  refine aw_iconst dX5_laysSeats_3 ?_
  refine aw_cVr (g := 30) (As := [iV (row), iV (seats), iV 0]) (rest := []) (c_X5_firstIn hst M (row) (seats) (0) (by have n1 := hw.1; have n2 := hw.2.1; have n3 := hw.2.2 row v_row.1 v_row.2; omega) (by have n1 := hw.1; have n2 := hw.2.1; have n3 := hw.2.2 row v_row.1 v_row.2; omega) (by have n1 := hw.1; have n2 := hw.2.1; have n3 := hw.2.2 row v_row.1 v_row.2; omega) (by have n1 := hw.1; have n2 := hw.2.1; have n3 := hw.2.2 row v_row.1 v_row.2; omega) (by have n1 := hw.1; have n2 := hw.2.1; have n3 := hw.2.2 row v_row.1 v_row.2; omega) (by have n1 := hw.1; have n2 := hw.2.1; have n3 := hw.2.2 row v_row.1 v_row.2; omega)) cv_X5_firstIn dX5_laysSeats_4 ml_X5_95 rfl rfl rfl rfl rfl (Nat.le_of_ble_eq_true rfl) (by decide) rfl rfl (by decide) (fun z4 (h4 : isBest (cB (M 31 0) (oMd M) seats (0 = 0) row) (vBR (M 32 0) (M 31 0) seats row) z4) => ?_)
  have oz := okd_z h4; have zz : z4 = -1 ∨ (0 ≤ z4 ∧ z4 + seats ≤ M 31 0 row) := (isBest_in h4).elim Or.inl (fun q => Or.inr ⟨q.1, q.2.1⟩); have vb := vB_bd (sc := M 32 0 row) (w := M 31 0 row) (f := z4) (k := seats) (by have n1 := hw.1; have n2 := hw.2.1; have n3 := hw.2.2 row v_row.1 v_row.2; omega) (by have n1 := hw.1; have n2 := hw.2.1; have n3 := hw.2.2 row v_row.1 v_row.2; omega) (by have n1 := hw.1; have n2 := hw.2.1; have n3 := hw.2.2 row v_row.1 v_row.2; omega)
  refine aw_istore_n (L2 := [some (rV K 30 0), some (iV (row)), some (iV (seats)), some (iV (z4)), none, none, none, none]) dX5_laysSeats_7 rfl (by decide) rfl ?_
  refine aw_iload_n dX5_laysSeats_8 rfl rfl ?_
  refine aw_if_ge (tgt := 16) dX5_laysSeats_9 (by decide) (by have n1 := hw.1; have n2 := hw.2.1; have n3 := hw.2.2 row v_row.1 v_row.2; omega) (fun h9 => ?_) (fun h9 => ?_)
  · have vb2 := vb (by omega) (by omega) (by have n1 := hw.1; have n2 := hw.2.1; have n3 := hw.2.2 row v_row.1 v_row.2; omega)
    refine aw_aload_n dX5_laysSeats_16 rfl rfl ?_
    refine aw_iload_n dX5_laysSeats_17 rfl rfl ?_
    refine aw_iload_n dX5_laysSeats_18 rfl rfl ?_
    refine aw_iload_n dX5_laysSeats_19 rfl rfl ?_
    refine aw_cVi (g := 30) (As := [iV (row), iV (z4), iV (seats)]) (rest := []) (c_X5_sum hst M (row) (z4) (seats) (by have n1 := hw.1; have n2 := hw.2.1; have n3 := hw.2.2 row v_row.1 v_row.2; omega) (by have n1 := hw.1; have n2 := hw.2.1; have n3 := hw.2.2 row v_row.1 v_row.2; omega) (by have n1 := hw.1; have n2 := hw.2.1; have n3 := hw.2.2 row v_row.1 v_row.2; omega) (by have n1 := hw.1; have n2 := hw.2.1; have n3 := hw.2.2 row v_row.1 v_row.2; omega) (by have n1 := hw.1; have n2 := hw.2.1; have n3 := hw.2.2 row v_row.1 v_row.2; omega) (by have n1 := hw.1; have n2 := hw.2.1; have n3 := hw.2.2 row v_row.1 v_row.2; omega)) cv_X5_sum dX5_laysSeats_20 ml_X5_91 rfl rfl rfl rfl rfl (Nat.le_of_ble_eq_true rfl) (by decide) rfl rfl (by decide) ?_
    refine aw_istore (L2 := [some (rV K 30 0), some (iV (row)), some (iV (seats)), some (iV (z4)), some (iV (vB (M 32 0 row) (M 31 0 row) z4 seats)), none, none, none]) dX5_laysSeats_23 (by decide) rfl ?_
    refine aw_iconst dX5_laysSeats_25 ?_
    refine aw_istore (L2 := [some (rV K 30 0), some (iV (row)), some (iV (seats)), some (iV (z4)), some (iV (vB (M 32 0 row) (M 31 0 row) z4 seats)), some (iV 1), none, none]) dX5_laysSeats_26 (by decide) rfl ?_
    have lp28 : ∀ (n28 : Nat) (blocks : Int) (m1 : Mem), (1 ≤ blocks ∧ blocks ≤ 14) → (rowFr M m1 row) → (GP M m1 row seats blocks 0) → (((15 : Int) - blocks).toNat) < n28 → AW K l iX5_laysSeats (ZM K iX5_laysSeats (rMm (fun m => rowFr M m row ∧ GA M m row (seats + 1)))) 28 [some (rV K 30 0), some (iV (row)), some (iV (seats)), some (iV (z4)), some (iV (vB (M 32 0 row) (M 31 0 row) z4 seats)), some (iV (blocks)), none, none] [] (m1) 0 0 := by
      intro n28
      induction n28 with
      | zero =>
        intro blocks m1 e1 e2 e3 hm28
        exact absurd hm28 (Nat.not_lt_zero _)
      | succ n28 ih28 =>
        intro blocks m1 e1 e2 e3 hm28
        have n0 : m1 30 0 3 = M 30 0 3 := (by rw [e2.1 30 (by decide)])
        refine aw_iload dX5_laysSeats_28 rfl ?_
        refine aw_aload_n dX5_laysSeats_30 rfl rfl ?_
        refine aw_geti (g := 30) rfl rfl ly_X5 rfl (k := 3) 3 rfl dX5_laysSeats_31 (by decide) fl_X5_60 rfl (fun r31 => ?_)
        refine aw_iload_n dX5_laysSeats_34 rfl rfl ?_
        refine aw_isub dX5_laysSeats_35 ?_
        refine aw_icmp_gt (tgt := 132) dX5_laysSeats_36 (by decide) (by have n1 := hw.1; have n2 := hw.2.1; have n3 := hw.2.2 row v_row.1 v_row.2; omega) (by have n1 := hw.1; have n2 := hw.2.1; have n3 := hw.2.2 row v_row.1 v_row.2; omega) (fun h36 => ?_) (fun h36 => ?_)
        · exact aw_vret dX5_laysSeats_132 rfl (by decide) (by decide) ⟨rfl, (by first | exact ⟨e2, GP_all hw v_row.1 v_row.2 (by have n0 : m1 30 0 3 = M 30 0 3 := (by rw [e2.1 30 (by decide)]); omega) e3⟩ | exact ⟨e2, GP_no (fun q => by have := oz.1.mp q; omega) e3⟩)⟩
        · refine aw_iload_n dX5_laysSeats_39 rfl rfl ?_
          refine aw_if_lt (tgt := 132) dX5_laysSeats_40 (by decide) (by have n1 := hw.1; have n2 := hw.2.1; have n3 := hw.2.2 row v_row.1 v_row.2; omega) (fun h40 => ?_) (fun h40 => ?_)
          · exact aw_vret dX5_laysSeats_132 rfl (by decide) (by decide) ⟨rfl, (by first | exact ⟨e2, GP_all hw v_row.1 v_row.2 (by have n0 : m1 30 0 3 = M 30 0 3 := (by rw [e2.1 30 (by decide)]); omega) e3⟩ | exact ⟨e2, GP_no (fun q => by have := oz.1.mp q; omega) e3⟩)⟩
          · refine aw_iload_n dX5_laysSeats_43 rfl rfl ?_
            refine aw_istore (L2 := [some (rV K 30 0), some (iV (row)), some (iV (seats)), some (iV (z4)), some (iV (vB (M 32 0 row) (M 31 0 row) z4 seats)), some (iV (blocks)), some (iV (seats)), none]) dX5_laysSeats_44 (by decide) rfl ?_
            have lp46 : ∀ (n46 : Nat) (people : Int) (m2 : Mem), (seats ≤ people ∧ people ≤ 101) → (rowFr M m2 row) → (GP M m2 row seats blocks people) → (((102 : Int) - people).toNat) < n46 → AW K l iX5_laysSeats (ZM K iX5_laysSeats (rMm (fun m => rowFr M m row ∧ GA M m row (seats + 1)))) 46 [some (rV K 30 0), some (iV (row)), some (iV (seats)), some (iV (z4)), some (iV (vB (M 32 0 row) (M 31 0 row) z4 seats)), some (iV (blocks)), some (iV (people)), none] [] (m2) 0 0 := by
              intro n46
              induction n46 with
              | zero =>
                intro people m2 f1 f2 f3 hm46
                exact absurd hm46 (Nat.not_lt_zero _)
              | succ n46 ih46 =>
                intro people m2 f1 f2 f3 hm46
                have n5 : m2 30 0 3 = M 30 0 3 := (by rw [f2.1 30 (by decide)])
                refine aw_iload dX5_laysSeats_46 rfl ?_
                refine aw_bipush dX5_laysSeats_48 rfl ?_
                refine aw_icmp_gt (tgt := 126) dX5_laysSeats_50 (by decide) (by have n1 := hw.1; have n2 := hw.2.1; have n3 := hw.2.2 row v_row.1 v_row.2; omega) (by have n1 := hw.1; have n2 := hw.2.1; have n3 := hw.2.2 row v_row.1 v_row.2; omega) (fun h50 => ?_) (fun h50 => ?_)
                · refine aw_iinc (L2 := [some (rV K 30 0), some (iV (row)), some (iV (seats)), some (iV (z4)), some (iV (vB (M 32 0 row) (M 31 0 row) z4 seats)), some (iV (blocks + 1)), some (iV (people)), none]) dX5_laysSeats_126 rfl (by decide) rfl ?_
                  refine aw_goto (tgt := 28) dX5_laysSeats_129 (by decide) ?_
                  refine aw_weak (L' := [some (rV K 30 0), some (iV (row)), some (iV (seats)), some (iV (z4)), some (iV (vB (M 32 0 row) (M 31 0 row) z4 seats)), some (iV (blocks + 1)), none, none]) ⟨Or.inr rfl, Or.inr rfl, Or.inr rfl, Or.inr rfl, Or.inr rfl, Or.inr rfl, Or.inl rfl, Or.inr rfl, trivial⟩ ?_
                  exact ih28 (blocks + 1) (m2) (by have n1 := hw.1; have n2 := hw.2.1; have n3 := hw.2.2 row v_row.1 v_row.2; omega) (by exact f2) (by have q : people = 101 := (by omega); subst q; exact GP_up f3) (by have n1 := hw.1; have n2 := hw.2.1; have n3 := hw.2.2 row v_row.1 v_row.2; omega)
                · refine aw_aload_n dX5_laysSeats_53 rfl rfl ?_
                  refine aw_getr (g := 30) rfl rfl ly_X5 rfl (k := 14) dX5_laysSeats_54 (by decide) fl_X5_37 rfl ?_
                  refine aw_iload_n dX5_laysSeats_57 rfl rfl ?_
                  refine aw_iconst dX5_laysSeats_58 ?_
                  refine aw_iadd dX5_laysSeats_59 ?_
                  refine aw_iload dX5_laysSeats_60 rfl ?_
                  refine aw_iconst dX5_laysSeats_62 ?_
                  refine aw_isub dX5_laysSeats_63 ?_
                  refine aw_iload dX5_laysSeats_64 rfl ?_
                  refine aw_iload_n dX5_laysSeats_66 rfl rfl ?_
                  refine aw_isub dX5_laysSeats_67 ?_
                  refine aw_cSi (As := [iV (row + 1), iV (blocks - 1), iV (people - seats)]) (rest := [rV K 40 0]) (c_X5_place hst m2 (row + 1) (blocks - 1) (people - seats) (by have n1 := hw.1; have n2 := hw.2.1; have n3 := hw.2.2 row v_row.1 v_row.2; omega) (by have n1 := hw.1; have n2 := hw.2.1; have n3 := hw.2.2 row v_row.1 v_row.2; omega) (by have n1 := hw.1; have n2 := hw.2.1; have n3 := hw.2.2 row v_row.1 v_row.2; omega)) cs_X5_place dX5_laysSeats_68 ml_X5_122 rfl rfl (Nat.le_of_ble_eq_true rfl) (by decide) rfl rfl (by decide) ?_
                  refine aw_iald (g := 40) (n := 17069) rfl (by decide) dX5_laysSeats_71 (by decide) (by show 0 ≤ ((13 * (row + 1) + (blocks - 1)) * 101 + (people - seats)) ∧ ((13 * (row + 1) + (blocks - 1)) * 101 + (people - seats)) < (17069 : Int); have n1 := hw.1; have n2 := hw.2.1; have n3 := hw.2.2 row v_row.1 v_row.2; omega) (fun r71 => ?_)
                  refine aw_istore (L2 := [some (rV K 30 0), some (iV (row)), some (iV (seats)), some (iV (z4)), some (iV (vB (M 32 0 row) (M 31 0 row) z4 seats)), some (iV (blocks)), some (iV (people)), some (iV (m2 40 0 ((13 * (row + 1) + (blocks - 1)) * 101 + (people - seats))))]) dX5_laysSeats_72 (by decide) rfl ?_
                  have F := GF_fr (by omega) f2 v_gf; have n1 := hw.1; have n2 := hw.2.1; have n3 := hw.2.2 row v_row.1 v_row.2; have rb : m2 40 0 ((13 * (row + 1) + (blocks - 1)) * 101 + (people - seats)) = -1000000 ∨ (-4800 ≤ m2 40 0 ((13 * (row + 1) + (blocks - 1)) * 101 + (people - seats)) ∧ m2 40 0 ((13 * (row + 1) + (blocks - 1)) * 101 + (people - seats)) ≤ 240000) := GF_bd hw (b := blocks - 1) (p := people - seats) (by omega) (by omega) (by omega) (by omega) F; have hok := oz.1.mpr (by omega); have vv := oz.2
                  refine aw_iload dX5_laysSeats_74 rfl ?_
                  refine aw_ldc (z := -1000000) dX5_laysSeats_76 cn_X5_125 rfl ?_
                  refine aw_icmp_eq (tgt := 120) dX5_laysSeats_78 (by decide) (by have n1 := hw.1; have n2 := hw.2.1; have n3 := hw.2.2 row v_row.1 v_row.2; omega) (by have n1 := hw.1; have n2 := hw.2.1; have n3 := hw.2.2 row v_row.1 v_row.2; omega) (fun h78 => ?_) (fun h78 => ?_)
                  · refine aw_iinc (L2 := [some (rV K 30 0), some (iV (row)), some (iV (seats)), some (iV (z4)), some (iV (vB (M 32 0 row) (M 31 0 row) z4 seats)), some (iV (blocks)), some (iV (people + 1)), some (iV (m2 40 0 ((13 * (row + 1) + (blocks - 1)) * 101 + (people - seats))))]) dX5_laysSeats_120 rfl (by decide) rfl ?_
                    refine aw_goto (tgt := 46) dX5_laysSeats_123 (by decide) ?_
                    refine aw_weak (L' := [some (rV K 30 0), some (iV (row)), some (iV (seats)), some (iV (z4)), some (iV (vB (M 32 0 row) (M 31 0 row) z4 seats)), some (iV (blocks)), some (iV (people + 1)), none]) ⟨Or.inr rfl, Or.inr rfl, Or.inr rfl, Or.inr rfl, Or.inr rfl, Or.inr rfl, Or.inr rfl, Or.inl rfl, trivial⟩ ?_
                    exact ih46 (people + 1) (m2) (by have n1 := hw.1; have n2 := hw.2.1; have n3 := hw.2.2 row v_row.1 v_row.2; omega) (by first | (exfalso; omega) | exact f2 | exact (GP_put hw v_row.1 v_row.2 (by omega) (by omega) v_se.1 hok f2 F f3 h78 (by rw [vv]) (Int.not_le.mp h99)).2) (by first | (exfalso; omega) | exact GP_keep hw v_row.1 v_row.2 (by omega) (by omega) v_se.1 hok F f3 (Or.inl h78) | exact GP_keep hw v_row.1 v_row.2 (by omega) (by omega) v_se.1 hok F f3 (Or.inr (by rw [vv]; exact h99)) | exact (GP_put hw v_row.1 v_row.2 (by omega) (by omega) v_se.1 hok f2 F f3 h78 (by rw [vv]) (Int.not_le.mp h99)).1) (by omega)
                  · refine aw_iload dX5_laysSeats_81 rfl ?_
                    refine aw_iload dX5_laysSeats_83 rfl ?_
                    refine aw_iadd dX5_laysSeats_85 ?_
                    refine aw_aload_n dX5_laysSeats_86 rfl rfl ?_
                    refine aw_getr (g := 30) rfl rfl ly_X5 rfl (k := 14) dX5_laysSeats_87 (by decide) fl_X5_37 rfl ?_
                    refine aw_iload_n dX5_laysSeats_90 rfl rfl ?_
                    refine aw_iload dX5_laysSeats_91 rfl ?_
                    refine aw_iload dX5_laysSeats_93 rfl ?_
                    refine aw_cSi (As := [iV (row), iV (blocks), iV (people)]) (rest := [rV K 40 0, iV ((m2 40 0 ((13 * (row + 1) + (blocks - 1)) * 101 + (people - seats))) + (vB (M 32 0 row) (M 31 0 row) z4 seats))]) (c_X5_place hst m2 (row) (blocks) (people) (by have n1 := hw.1; have n2 := hw.2.1; have n3 := hw.2.2 row v_row.1 v_row.2; omega) (by have n1 := hw.1; have n2 := hw.2.1; have n3 := hw.2.2 row v_row.1 v_row.2; omega) (by have n1 := hw.1; have n2 := hw.2.1; have n3 := hw.2.2 row v_row.1 v_row.2; omega)) cs_X5_place dX5_laysSeats_95 ml_X5_122 rfl rfl (Nat.le_of_ble_eq_true rfl) (by decide) rfl rfl (by decide) ?_
                    refine aw_iald (g := 40) (n := 17069) rfl (by decide) dX5_laysSeats_98 (by decide) (by show 0 ≤ ((13 * row + blocks) * 101 + people) ∧ ((13 * row + blocks) * 101 + people) < (17069 : Int); have n1 := hw.1; have n2 := hw.2.1; have n3 := hw.2.2 row v_row.1 v_row.2; omega) (fun r98 => ?_)
                    refine aw_icmp_le (tgt := 120) dX5_laysSeats_99 (by decide) (by have n1 := hw.1; have n2 := hw.2.1; have n3 := hw.2.2 row v_row.1 v_row.2; omega) (by have n1 := hw.1; have n2 := hw.2.1; have n3 := hw.2.2 row v_row.1 v_row.2; omega) (fun h99 => ?_) (fun h99 => ?_)
                    · refine aw_iinc (L2 := [some (rV K 30 0), some (iV (row)), some (iV (seats)), some (iV (z4)), some (iV (vB (M 32 0 row) (M 31 0 row) z4 seats)), some (iV (blocks)), some (iV (people + 1)), some (iV (m2 40 0 ((13 * (row + 1) + (blocks - 1)) * 101 + (people - seats))))]) dX5_laysSeats_120 rfl (by decide) rfl ?_
                      refine aw_goto (tgt := 46) dX5_laysSeats_123 (by decide) ?_
                      refine aw_weak (L' := [some (rV K 30 0), some (iV (row)), some (iV (seats)), some (iV (z4)), some (iV (vB (M 32 0 row) (M 31 0 row) z4 seats)), some (iV (blocks)), some (iV (people + 1)), none]) ⟨Or.inr rfl, Or.inr rfl, Or.inr rfl, Or.inr rfl, Or.inr rfl, Or.inr rfl, Or.inr rfl, Or.inl rfl, trivial⟩ ?_
                      exact ih46 (people + 1) (m2) (by have n1 := hw.1; have n2 := hw.2.1; have n3 := hw.2.2 row v_row.1 v_row.2; omega) (by first | (exfalso; omega) | exact f2 | exact (GP_put hw v_row.1 v_row.2 (by omega) (by omega) v_se.1 hok f2 F f3 h78 (by rw [vv]) (Int.not_le.mp h99)).2) (by first | (exfalso; omega) | exact GP_keep hw v_row.1 v_row.2 (by omega) (by omega) v_se.1 hok F f3 (Or.inl h78) | exact GP_keep hw v_row.1 v_row.2 (by omega) (by omega) v_se.1 hok F f3 (Or.inr (by rw [vv]; exact h99)) | exact (GP_put hw v_row.1 v_row.2 (by omega) (by omega) v_se.1 hok f2 F f3 h78 (by rw [vv]) (Int.not_le.mp h99)).1) (by omega)
                    · refine aw_aload_n dX5_laysSeats_102 rfl rfl ?_
                      refine aw_getr (g := 30) rfl rfl ly_X5 rfl (k := 14) dX5_laysSeats_103 (by decide) fl_X5_37 rfl ?_
                      refine aw_iload_n dX5_laysSeats_106 rfl rfl ?_
                      refine aw_iload dX5_laysSeats_107 rfl ?_
                      refine aw_iload dX5_laysSeats_109 rfl ?_
                      refine aw_cSi (As := [iV (row), iV (blocks), iV (people)]) (rest := [rV K 40 0]) (c_X5_place hst m2 (row) (blocks) (people) (by have n1 := hw.1; have n2 := hw.2.1; have n3 := hw.2.2 row v_row.1 v_row.2; omega) (by have n1 := hw.1; have n2 := hw.2.1; have n3 := hw.2.2 row v_row.1 v_row.2; omega) (by have n1 := hw.1; have n2 := hw.2.1; have n3 := hw.2.2 row v_row.1 v_row.2; omega)) cs_X5_place dX5_laysSeats_111 ml_X5_122 rfl rfl (Nat.le_of_ble_eq_true rfl) (by decide) rfl rfl (by decide) ?_
                      refine aw_iload dX5_laysSeats_114 rfl ?_
                      refine aw_iload dX5_laysSeats_116 rfl ?_
                      refine aw_iadd dX5_laysSeats_118 ?_
                      refine aw_iast (g := 40) (n := 17069) (M' := updM m2 40 0 ((13 * row + blocks) * 101 + people) ((m2 40 0 ((13 * (row + 1) + (blocks - 1)) * 101 + (people - seats))) + (vB (M 32 0 row) (M 31 0 row) z4 seats))) rfl (by decide) dX5_laysSeats_119 (by decide) (by show 0 ≤ ((13 * row + blocks) * 101 + people) ∧ ((13 * row + blocks) * 101 + people) < (17069 : Int); have n1 := hw.1; have n2 := hw.2.1; have n3 := hw.2.2 row v_row.1 v_row.2; omega) (by have n1 := hw.1; have n2 := hw.2.1; have n3 := hw.2.2 row v_row.1 v_row.2; omega) rfl ?_
                      refine aw_iinc (L2 := [some (rV K 30 0), some (iV (row)), some (iV (seats)), some (iV (z4)), some (iV (vB (M 32 0 row) (M 31 0 row) z4 seats)), some (iV (blocks)), some (iV (people + 1)), some (iV (m2 40 0 ((13 * (row + 1) + (blocks - 1)) * 101 + (people - seats))))]) dX5_laysSeats_120 rfl (by decide) rfl ?_
                      refine aw_goto (tgt := 46) dX5_laysSeats_123 (by decide) ?_
                      refine aw_weak (L' := [some (rV K 30 0), some (iV (row)), some (iV (seats)), some (iV (z4)), some (iV (vB (M 32 0 row) (M 31 0 row) z4 seats)), some (iV (blocks)), some (iV (people + 1)), none]) ⟨Or.inr rfl, Or.inr rfl, Or.inr rfl, Or.inr rfl, Or.inr rfl, Or.inr rfl, Or.inr rfl, Or.inl rfl, trivial⟩ ?_
                      exact ih46 (people + 1) (updM m2 40 0 ((13 * row + blocks) * 101 + people) ((m2 40 0 ((13 * (row + 1) + (blocks - 1)) * 101 + (people - seats))) + (vB (M 32 0 row) (M 31 0 row) z4 seats))) (by have n1 := hw.1; have n2 := hw.2.1; have n3 := hw.2.2 row v_row.1 v_row.2; omega) (by first | (exfalso; omega) | exact f2 | exact (GP_put hw v_row.1 v_row.2 (by omega) (by omega) v_se.1 hok f2 F f3 h78 (by rw [vv]) (Int.not_le.mp h99)).2) (by first | (exfalso; omega) | exact GP_keep hw v_row.1 v_row.2 (by omega) (by omega) v_se.1 hok F f3 (Or.inl h78) | exact GP_keep hw v_row.1 v_row.2 (by omega) (by omega) v_se.1 hok F f3 (Or.inr (by rw [vv]; exact h99)) | exact (GP_put hw v_row.1 v_row.2 (by omega) (by omega) v_se.1 hok f2 F f3 h78 (by rw [vv]) (Int.not_le.mp h99)).1) (by omega)
            exact lp46 ((((102 : Int) - seats).toNat) + 1) (seats) (m1) (by have n1 := hw.1; have n2 := hw.2.1; have n3 := hw.2.2 row v_row.1 v_row.2; omega) (by exact e2) (by exact GP_lo hw v_row.1 v_row.2 e3) (Nat.lt_succ_self _)
    exact lp28 ((((15 : Int) - 1).toNat) + 1) (1) (M) (by omega) (by exact rowFr.rf) (by exact GP_0 hw v_row.1 v_row.2 v_ga) (Nat.lt_succ_self _)
  · refine aw_iconst dX5_laysSeats_12 ?_
    refine aw_goto (tgt := 23) dX5_laysSeats_13 (by decide) ?_
    refine aw_istore (L2 := [some (rV K 30 0), some (iV (row)), some (iV (seats)), some (iV (z4)), some (iV 0), none, none, none]) dX5_laysSeats_23 (by decide) rfl ?_
    refine aw_iconst dX5_laysSeats_25 ?_
    refine aw_istore (L2 := [some (rV K 30 0), some (iV (row)), some (iV (seats)), some (iV (z4)), some (iV 0), some (iV 1), none, none]) dX5_laysSeats_26 (by decide) rfl ?_
    have lp28 : ∀ (n28 : Nat) (blocks : Int) (m1 : Mem), (1 ≤ blocks ∧ blocks ≤ 14) → (rowFr M m1 row) → (GP M m1 row seats blocks 0) → (((15 : Int) - blocks).toNat) < n28 → AW K l iX5_laysSeats (ZM K iX5_laysSeats (rMm (fun m => rowFr M m row ∧ GA M m row (seats + 1)))) 28 [some (rV K 30 0), some (iV (row)), some (iV (seats)), some (iV (z4)), some (iV 0), some (iV (blocks)), none, none] [] (m1) 0 0 := by
      intro n28
      induction n28 with
      | zero =>
        intro blocks m1 e1 e2 e3 hm28
        exact absurd hm28 (Nat.not_lt_zero _)
      | succ n28 ih28 =>
        intro blocks m1 e1 e2 e3 hm28
        have n0 : m1 30 0 3 = M 30 0 3 := (by rw [e2.1 30 (by decide)])
        refine aw_iload dX5_laysSeats_28 rfl ?_
        refine aw_aload_n dX5_laysSeats_30 rfl rfl ?_
        refine aw_geti (g := 30) rfl rfl ly_X5 rfl (k := 3) 3 rfl dX5_laysSeats_31 (by decide) fl_X5_60 rfl (fun r31 => ?_)
        refine aw_iload_n dX5_laysSeats_34 rfl rfl ?_
        refine aw_isub dX5_laysSeats_35 ?_
        refine aw_icmp_gt (tgt := 132) dX5_laysSeats_36 (by decide) (by have n1 := hw.1; have n2 := hw.2.1; have n3 := hw.2.2 row v_row.1 v_row.2; omega) (by have n1 := hw.1; have n2 := hw.2.1; have n3 := hw.2.2 row v_row.1 v_row.2; omega) (fun h36 => ?_) (fun h36 => ?_)
        · exact aw_vret dX5_laysSeats_132 rfl (by decide) (by decide) ⟨rfl, (by first | exact ⟨e2, GP_all hw v_row.1 v_row.2 (by have n0 : m1 30 0 3 = M 30 0 3 := (by rw [e2.1 30 (by decide)]); omega) e3⟩ | exact ⟨e2, GP_no (fun q => by have := oz.1.mp q; omega) e3⟩)⟩
        · refine aw_iload_n dX5_laysSeats_39 rfl rfl ?_
          refine aw_if_lt (tgt := 132) dX5_laysSeats_40 (by decide) (by have n1 := hw.1; have n2 := hw.2.1; have n3 := hw.2.2 row v_row.1 v_row.2; omega) (fun h40 => ?_) (fun h40 => ?_)
          · exact aw_vret dX5_laysSeats_132 rfl (by decide) (by decide) ⟨rfl, (by first | exact ⟨e2, GP_all hw v_row.1 v_row.2 (by have n0 : m1 30 0 3 = M 30 0 3 := (by rw [e2.1 30 (by decide)]); omega) e3⟩ | exact ⟨e2, GP_no (fun q => by have := oz.1.mp q; omega) e3⟩)⟩
          · refine aw_iload_n dX5_laysSeats_43 rfl rfl ?_
            refine aw_istore (L2 := [some (rV K 30 0), some (iV (row)), some (iV (seats)), some (iV (z4)), some (iV 0), some (iV (blocks)), some (iV (seats)), none]) dX5_laysSeats_44 (by decide) rfl ?_
            have lp46 : ∀ (n46 : Nat) (people : Int) (m2 : Mem), (seats ≤ people ∧ people ≤ 101) → (rowFr M m2 row) → (GP M m2 row seats blocks people) → (((102 : Int) - people).toNat) < n46 → AW K l iX5_laysSeats (ZM K iX5_laysSeats (rMm (fun m => rowFr M m row ∧ GA M m row (seats + 1)))) 46 [some (rV K 30 0), some (iV (row)), some (iV (seats)), some (iV (z4)), some (iV 0), some (iV (blocks)), some (iV (people)), none] [] (m2) 0 0 := by
              intro n46
              induction n46 with
              | zero =>
                intro people m2 f1 f2 f3 hm46
                exact absurd hm46 (Nat.not_lt_zero _)
              | succ n46 ih46 =>
                intro people m2 f1 f2 f3 hm46
                have n5 : m2 30 0 3 = M 30 0 3 := (by rw [f2.1 30 (by decide)])
                refine aw_iload dX5_laysSeats_46 rfl ?_
                refine aw_bipush dX5_laysSeats_48 rfl ?_
                refine aw_icmp_gt (tgt := 126) dX5_laysSeats_50 (by decide) (by have n1 := hw.1; have n2 := hw.2.1; have n3 := hw.2.2 row v_row.1 v_row.2; omega) (by have n1 := hw.1; have n2 := hw.2.1; have n3 := hw.2.2 row v_row.1 v_row.2; omega) (fun h50 => ?_) (fun h50 => ?_)
                · refine aw_iinc (L2 := [some (rV K 30 0), some (iV (row)), some (iV (seats)), some (iV (z4)), some (iV 0), some (iV (blocks + 1)), some (iV (people)), none]) dX5_laysSeats_126 rfl (by decide) rfl ?_
                  refine aw_goto (tgt := 28) dX5_laysSeats_129 (by decide) ?_
                  refine aw_weak (L' := [some (rV K 30 0), some (iV (row)), some (iV (seats)), some (iV (z4)), some (iV 0), some (iV (blocks + 1)), none, none]) ⟨Or.inr rfl, Or.inr rfl, Or.inr rfl, Or.inr rfl, Or.inr rfl, Or.inr rfl, Or.inl rfl, Or.inr rfl, trivial⟩ ?_
                  exact ih28 (blocks + 1) (m2) (by have n1 := hw.1; have n2 := hw.2.1; have n3 := hw.2.2 row v_row.1 v_row.2; omega) (by exact f2) (by have q : people = 101 := (by omega); subst q; exact GP_up f3) (by have n1 := hw.1; have n2 := hw.2.1; have n3 := hw.2.2 row v_row.1 v_row.2; omega)
                · refine aw_aload_n dX5_laysSeats_53 rfl rfl ?_
                  refine aw_getr (g := 30) rfl rfl ly_X5 rfl (k := 14) dX5_laysSeats_54 (by decide) fl_X5_37 rfl ?_
                  refine aw_iload_n dX5_laysSeats_57 rfl rfl ?_
                  refine aw_iconst dX5_laysSeats_58 ?_
                  refine aw_iadd dX5_laysSeats_59 ?_
                  refine aw_iload dX5_laysSeats_60 rfl ?_
                  refine aw_iconst dX5_laysSeats_62 ?_
                  refine aw_isub dX5_laysSeats_63 ?_
                  refine aw_iload dX5_laysSeats_64 rfl ?_
                  refine aw_iload_n dX5_laysSeats_66 rfl rfl ?_
                  refine aw_isub dX5_laysSeats_67 ?_
                  refine aw_cSi (As := [iV (row + 1), iV (blocks - 1), iV (people - seats)]) (rest := [rV K 40 0]) (c_X5_place hst m2 (row + 1) (blocks - 1) (people - seats) (by have n1 := hw.1; have n2 := hw.2.1; have n3 := hw.2.2 row v_row.1 v_row.2; omega) (by have n1 := hw.1; have n2 := hw.2.1; have n3 := hw.2.2 row v_row.1 v_row.2; omega) (by have n1 := hw.1; have n2 := hw.2.1; have n3 := hw.2.2 row v_row.1 v_row.2; omega)) cs_X5_place dX5_laysSeats_68 ml_X5_122 rfl rfl (Nat.le_of_ble_eq_true rfl) (by decide) rfl rfl (by decide) ?_
                  refine aw_iald (g := 40) (n := 17069) rfl (by decide) dX5_laysSeats_71 (by decide) (by show 0 ≤ ((13 * (row + 1) + (blocks - 1)) * 101 + (people - seats)) ∧ ((13 * (row + 1) + (blocks - 1)) * 101 + (people - seats)) < (17069 : Int); have n1 := hw.1; have n2 := hw.2.1; have n3 := hw.2.2 row v_row.1 v_row.2; omega) (fun r71 => ?_)
                  refine aw_istore (L2 := [some (rV K 30 0), some (iV (row)), some (iV (seats)), some (iV (z4)), some (iV 0), some (iV (blocks)), some (iV (people)), some (iV (m2 40 0 ((13 * (row + 1) + (blocks - 1)) * 101 + (people - seats))))]) dX5_laysSeats_72 (by decide) rfl ?_
                  have F := GF_fr (by omega) f2 v_gf; have n1 := hw.1; have n2 := hw.2.1; have n3 := hw.2.2 row v_row.1 v_row.2; have rb : m2 40 0 ((13 * (row + 1) + (blocks - 1)) * 101 + (people - seats)) = -1000000 ∨ (-4800 ≤ m2 40 0 ((13 * (row + 1) + (blocks - 1)) * 101 + (people - seats)) ∧ m2 40 0 ((13 * (row + 1) + (blocks - 1)) * 101 + (people - seats)) ≤ 240000) := GF_bd hw (b := blocks - 1) (p := people - seats) (by omega) (by omega) (by omega) (by omega) F; have hok := oz.1.mpr (by omega); have vv := oz.2
                  refine aw_iload dX5_laysSeats_74 rfl ?_
                  refine aw_ldc (z := -1000000) dX5_laysSeats_76 cn_X5_125 rfl ?_
                  refine aw_icmp_eq (tgt := 120) dX5_laysSeats_78 (by decide) (by have n1 := hw.1; have n2 := hw.2.1; have n3 := hw.2.2 row v_row.1 v_row.2; omega) (by have n1 := hw.1; have n2 := hw.2.1; have n3 := hw.2.2 row v_row.1 v_row.2; omega) (fun h78 => ?_) (fun h78 => ?_)
                  · refine aw_iinc (L2 := [some (rV K 30 0), some (iV (row)), some (iV (seats)), some (iV (z4)), some (iV 0), some (iV (blocks)), some (iV (people + 1)), some (iV (m2 40 0 ((13 * (row + 1) + (blocks - 1)) * 101 + (people - seats))))]) dX5_laysSeats_120 rfl (by decide) rfl ?_
                    refine aw_goto (tgt := 46) dX5_laysSeats_123 (by decide) ?_
                    refine aw_weak (L' := [some (rV K 30 0), some (iV (row)), some (iV (seats)), some (iV (z4)), some (iV 0), some (iV (blocks)), some (iV (people + 1)), none]) ⟨Or.inr rfl, Or.inr rfl, Or.inr rfl, Or.inr rfl, Or.inr rfl, Or.inr rfl, Or.inr rfl, Or.inl rfl, trivial⟩ ?_
                    exact ih46 (people + 1) (m2) (by have n1 := hw.1; have n2 := hw.2.1; have n3 := hw.2.2 row v_row.1 v_row.2; omega) (by first | (exfalso; omega) | exact f2 | exact (GP_put hw v_row.1 v_row.2 (by omega) (by omega) v_se.1 hok f2 F f3 h78 (by rw [vv]) (Int.not_le.mp h99)).2) (by first | (exfalso; omega) | exact GP_keep hw v_row.1 v_row.2 (by omega) (by omega) v_se.1 hok F f3 (Or.inl h78) | exact GP_keep hw v_row.1 v_row.2 (by omega) (by omega) v_se.1 hok F f3 (Or.inr (by rw [vv]; exact h99)) | exact (GP_put hw v_row.1 v_row.2 (by omega) (by omega) v_se.1 hok f2 F f3 h78 (by rw [vv]) (Int.not_le.mp h99)).1) (by omega)
                  · refine aw_iload dX5_laysSeats_81 rfl ?_
                    refine aw_iload dX5_laysSeats_83 rfl ?_
                    refine aw_iadd dX5_laysSeats_85 ?_
                    refine aw_aload_n dX5_laysSeats_86 rfl rfl ?_
                    refine aw_getr (g := 30) rfl rfl ly_X5 rfl (k := 14) dX5_laysSeats_87 (by decide) fl_X5_37 rfl ?_
                    refine aw_iload_n dX5_laysSeats_90 rfl rfl ?_
                    refine aw_iload dX5_laysSeats_91 rfl ?_
                    refine aw_iload dX5_laysSeats_93 rfl ?_
                    refine aw_cSi (As := [iV (row), iV (blocks), iV (people)]) (rest := [rV K 40 0, iV ((m2 40 0 ((13 * (row + 1) + (blocks - 1)) * 101 + (people - seats))) + 0)]) (c_X5_place hst m2 (row) (blocks) (people) (by have n1 := hw.1; have n2 := hw.2.1; have n3 := hw.2.2 row v_row.1 v_row.2; omega) (by have n1 := hw.1; have n2 := hw.2.1; have n3 := hw.2.2 row v_row.1 v_row.2; omega) (by have n1 := hw.1; have n2 := hw.2.1; have n3 := hw.2.2 row v_row.1 v_row.2; omega)) cs_X5_place dX5_laysSeats_95 ml_X5_122 rfl rfl (Nat.le_of_ble_eq_true rfl) (by decide) rfl rfl (by decide) ?_
                    refine aw_iald (g := 40) (n := 17069) rfl (by decide) dX5_laysSeats_98 (by decide) (by show 0 ≤ ((13 * row + blocks) * 101 + people) ∧ ((13 * row + blocks) * 101 + people) < (17069 : Int); have n1 := hw.1; have n2 := hw.2.1; have n3 := hw.2.2 row v_row.1 v_row.2; omega) (fun r98 => ?_)
                    refine aw_icmp_le (tgt := 120) dX5_laysSeats_99 (by decide) (by have n1 := hw.1; have n2 := hw.2.1; have n3 := hw.2.2 row v_row.1 v_row.2; omega) (by have n1 := hw.1; have n2 := hw.2.1; have n3 := hw.2.2 row v_row.1 v_row.2; omega) (fun h99 => ?_) (fun h99 => ?_)
                    · refine aw_iinc (L2 := [some (rV K 30 0), some (iV (row)), some (iV (seats)), some (iV (z4)), some (iV 0), some (iV (blocks)), some (iV (people + 1)), some (iV (m2 40 0 ((13 * (row + 1) + (blocks - 1)) * 101 + (people - seats))))]) dX5_laysSeats_120 rfl (by decide) rfl ?_
                      refine aw_goto (tgt := 46) dX5_laysSeats_123 (by decide) ?_
                      refine aw_weak (L' := [some (rV K 30 0), some (iV (row)), some (iV (seats)), some (iV (z4)), some (iV 0), some (iV (blocks)), some (iV (people + 1)), none]) ⟨Or.inr rfl, Or.inr rfl, Or.inr rfl, Or.inr rfl, Or.inr rfl, Or.inr rfl, Or.inr rfl, Or.inl rfl, trivial⟩ ?_
                      exact ih46 (people + 1) (m2) (by have n1 := hw.1; have n2 := hw.2.1; have n3 := hw.2.2 row v_row.1 v_row.2; omega) (by first | (exfalso; omega) | exact f2 | exact (GP_put hw v_row.1 v_row.2 (by omega) (by omega) v_se.1 hok f2 F f3 h78 (by rw [vv]) (Int.not_le.mp h99)).2) (by first | (exfalso; omega) | exact GP_keep hw v_row.1 v_row.2 (by omega) (by omega) v_se.1 hok F f3 (Or.inl h78) | exact GP_keep hw v_row.1 v_row.2 (by omega) (by omega) v_se.1 hok F f3 (Or.inr (by rw [vv]; exact h99)) | exact (GP_put hw v_row.1 v_row.2 (by omega) (by omega) v_se.1 hok f2 F f3 h78 (by rw [vv]) (Int.not_le.mp h99)).1) (by omega)
                    · refine aw_aload_n dX5_laysSeats_102 rfl rfl ?_
                      refine aw_getr (g := 30) rfl rfl ly_X5 rfl (k := 14) dX5_laysSeats_103 (by decide) fl_X5_37 rfl ?_
                      refine aw_iload_n dX5_laysSeats_106 rfl rfl ?_
                      refine aw_iload dX5_laysSeats_107 rfl ?_
                      refine aw_iload dX5_laysSeats_109 rfl ?_
                      refine aw_cSi (As := [iV (row), iV (blocks), iV (people)]) (rest := [rV K 40 0]) (c_X5_place hst m2 (row) (blocks) (people) (by have n1 := hw.1; have n2 := hw.2.1; have n3 := hw.2.2 row v_row.1 v_row.2; omega) (by have n1 := hw.1; have n2 := hw.2.1; have n3 := hw.2.2 row v_row.1 v_row.2; omega) (by have n1 := hw.1; have n2 := hw.2.1; have n3 := hw.2.2 row v_row.1 v_row.2; omega)) cs_X5_place dX5_laysSeats_111 ml_X5_122 rfl rfl (Nat.le_of_ble_eq_true rfl) (by decide) rfl rfl (by decide) ?_
                      refine aw_iload dX5_laysSeats_114 rfl ?_
                      refine aw_iload dX5_laysSeats_116 rfl ?_
                      refine aw_iadd dX5_laysSeats_118 ?_
                      refine aw_iast (g := 40) (n := 17069) (M' := updM m2 40 0 ((13 * row + blocks) * 101 + people) ((m2 40 0 ((13 * (row + 1) + (blocks - 1)) * 101 + (people - seats))) + 0)) rfl (by decide) dX5_laysSeats_119 (by decide) (by show 0 ≤ ((13 * row + blocks) * 101 + people) ∧ ((13 * row + blocks) * 101 + people) < (17069 : Int); have n1 := hw.1; have n2 := hw.2.1; have n3 := hw.2.2 row v_row.1 v_row.2; omega) (by have n1 := hw.1; have n2 := hw.2.1; have n3 := hw.2.2 row v_row.1 v_row.2; omega) rfl ?_
                      refine aw_iinc (L2 := [some (rV K 30 0), some (iV (row)), some (iV (seats)), some (iV (z4)), some (iV 0), some (iV (blocks)), some (iV (people + 1)), some (iV (m2 40 0 ((13 * (row + 1) + (blocks - 1)) * 101 + (people - seats))))]) dX5_laysSeats_120 rfl (by decide) rfl ?_
                      refine aw_goto (tgt := 46) dX5_laysSeats_123 (by decide) ?_
                      refine aw_weak (L' := [some (rV K 30 0), some (iV (row)), some (iV (seats)), some (iV (z4)), some (iV 0), some (iV (blocks)), some (iV (people + 1)), none]) ⟨Or.inr rfl, Or.inr rfl, Or.inr rfl, Or.inr rfl, Or.inr rfl, Or.inr rfl, Or.inr rfl, Or.inl rfl, trivial⟩ ?_
                      exact ih46 (people + 1) (updM m2 40 0 ((13 * row + blocks) * 101 + people) ((m2 40 0 ((13 * (row + 1) + (blocks - 1)) * 101 + (people - seats))) + 0)) (by have n1 := hw.1; have n2 := hw.2.1; have n3 := hw.2.2 row v_row.1 v_row.2; omega) (by first | (exfalso; omega) | exact f2 | exact (GP_put hw v_row.1 v_row.2 (by omega) (by omega) v_se.1 hok f2 F f3 h78 (by rw [vv]) (Int.not_le.mp h99)).2) (by first | (exfalso; omega) | exact GP_keep hw v_row.1 v_row.2 (by omega) (by omega) v_se.1 hok F f3 (Or.inl h78) | exact GP_keep hw v_row.1 v_row.2 (by omega) (by omega) v_se.1 hok F f3 (Or.inr (by rw [vv]; exact h99)) | exact (GP_put hw v_row.1 v_row.2 (by omega) (by omega) v_se.1 hok f2 F f3 h78 (by rw [vv]) (Int.not_le.mp h99)).1) (by omega)
            exact lp46 ((((102 : Int) - seats).toNat) + 1) (seats) (m1) (by have n1 := hw.1; have n2 := hw.2.1; have n3 := hw.2.2 row v_row.1 v_row.2; omega) (by exact e2) (by exact GP_lo hw v_row.1 v_row.2 e3) (Nat.lt_succ_self _)
    exact lp28 ((((15 : Int) - 1).toNat) + 1) (1) (M) (by omega) (by exact rowFr.rf) (by exact GP_0 hw v_row.1 v_row.2 v_ga) (Nat.lt_succ_self _)
