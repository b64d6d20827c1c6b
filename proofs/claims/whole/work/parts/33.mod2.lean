set_option maxHeartbeats 4000000 in
set_option maxRecDepth 20000 in
theorem c_X5_place {K : WPar} {l : Launch} (hst : l.stackTraces = false) (M : Mem) (row : Int) (blocks : Int) (seats : Int) (r_row : inR row) (r_blocks : inR blocks) (r_seats : inR seats) : CT K l iX5_place [iV (row), iV (blocks), iV (seats)] M (rI ((13 * row + blocks) * 101 + seats) (M)) := by
  refine aw_met [some (iV (row)), some (iV (blocks)), some (iV (seats))] hst (by decide) rfl (Nat.le_of_ble_eq_true rfl) rfl rfl (lcat rfl) ?_
  refine aw_rng (fun hM => ?_)
  refine aw_bipush dX5_place_0 rfl ?_
  refine aw_iload_n dX5_place_2 rfl rfl ?_
  refine aw_imul dX5_place_3 ?_
  refine aw_iload_n dX5_place_4 rfl rfl ?_
  refine aw_iadd dX5_place_5 ?_
  refine aw_bipush dX5_place_6 rfl ?_
  refine aw_imul dX5_place_8 ?_
  refine aw_iload_n dX5_place_9 rfl rfl ?_
  refine aw_iadd dX5_place_10 ?_
  exact aw_iret dX5_place_11 rfl rfl (by decide) (by decide) ⟨congrArg (fun z => Sum.inl (some z)) (by first | rfl | omega), (by rfl)⟩
set_option maxHeartbeats 4000000 in
set_option maxRecDepth 20000 in
theorem c_X5_laysSeats {K : WPar} {l : Launch} (hst : l.stackTraces = false) (M : Mem) (row : Int) (seats : Int) (r_row : inR row) (r_seats : inR seats) (hw : HWm M) (v_row : 0 ≤ row ∧ row < M 30 0 3) (v_se : 2 ≤ seats ∧ seats ≤ M 31 0 row) (v_ga : GA M M row seats) (v_gf : GF M M (row + 1)) : CT K l iX5_laysSeats [rV K 30 0, iV (row), iV (seats)] M (rMm (fun m => rowFr M m row ∧ GA M m row (seats + 1))) := by
  refine aw_met [some (rV K 30 0), some (iV (row)), some (iV (seats)), none, none, none, none, none] hst (by decide) rfl (Nat.le_of_ble_eq_true rfl) rfl rfl (lcat rfl) ?_
  refine aw_rng (fun hM => ?_)
  refine aw_aload_n dX5_laysSeats_0 rfl rfl ?_
  refine aw_iload_n dX5_laysSeats_1 rfl rfl ?_
  refine aw_iload_n dX5_laysSeats_2 rfl rfl ?_
  refine aw_iconst dX5_laysSeats_3 ?_
  refine aw_cVr (g := 30) (As := [iV (row), iV (seats), iV 0]) (rest := []) (c_X5_firstIn hst M (row) (seats) (0) (by have n1 := hw.1; have n2 := hw.2.1; have n3 := hw.2.2 row v_row.1 v_row.2; omega) (by have n1 := hw.1; have n2 := hw.2.1; have n3 := hw.2.2 row v_row.1 v_row.2; omega) (by have n1 := hw.1; have n2 := hw.2.1; have n3 := hw.2.2 row v_row.1 v_row.2; omega) (by have n1 := hw.1; have n2 := hw.2.1; have n3 := hw.2.2 row v_row.1 v_row.2; omega) (by have n1 := hw.1; have n2 := hw.2.1; have n3 := hw.2.2 row v_row.1 v_row.2; omega) (by have n1 := hw.1; have n2 := hw.2.1; have n3 := hw.2.2 row v_row.1 v_row.2; omega)) cv_X5_firstIn dX5_laysSeats_4 ml_X5_95 rfl rfl rfl rfl rfl (Nat.le_of_ble_eq_true rfl) (by decide) rfl rfl (by decide) (fun z4 (h4 : isBest (cB (M 31 0) (oMd M) seats (0 = 0) row) (vBR (M 32 0) (M 31 0) seats row) z4) => ?_)
  have oz := okd_z h4; have zz : z4 = -1 ∨ (0 ≤ z4 ∧ z4 + seats ≤ M 31 0 row) := (isBest_in h4).elim Or.inl (fun q => Or.inr ⟨q.1, q.2.1⟩); have vb := vB_bd (sc := M 32 0 row) (w := M 31 0 row) (f := z4) (k := seats) (by have n1 := hw.1; have n2 := hw.2.1; have n3 := hw.2.2 row v_row.1 v_row.2; omega) (by have n1 := hw.1; have n2 := hw.2.1; have n3 := hw.2.2 row v_row.1 v_row.2; omega) (by have n1 := hw.1; have n2 := hw.2.1; have n3 := hw.2.2 row v_row.1 v_row.2; omega)
  refine aw_istore_n (L2 := [some (rV K 30 0), some (iV (row)), some (iV (seats)), some (iV (z4)), none, none, none, none]) dX5_laysSeats_7 rfl (by decide) rfl ?_
  refine aw_iload_n dX5_laysSeats_8 rfl rfl ?_
  refine aw_if_ge (tgt := 16) dX5_laysSeats_9 (by decide) (by have n1 := hw.1; have n2 := hw.2.1; have n3 := hw.2.2 row v_row.1 v_row.2; omega) (fun h9 => ?_) (fun h9 => ?_)
  · have vb2 := vb (by omega) (by omega) (by have n1 := hw.1; have n2 := hw.2.1; have n3 := hw.2.2 row v_row.1 v_row.2; omega)
    refine aw_aload_n dX5_laysSeats_16 rfl rfl ?_
    refine aw_iload_n dX5_laysSeats_17 rfl rfl ?_
    refine aw_iload_n dX5_laysSeats_18 rfl rfl ?_
    refine aw_iload_n dX5_laysSeats_19 rfl rfl ?_
    refine aw_cVi (g := 30) (As := [iV (row), iV (z4), iV (seats)]) (rest := []) (c_X5_sum hst M (row) (z4) (seats) (by have n1 := hw.1; have n2 := hw.2.1; have n3 := hw.2.2 row v_row.1 v_row.2; omega) (by have n1 := hw.1; have n2 := hw.2.1; have n3 := hw.2.2 row v_row.1 v_row.2; omega) (by have n1 := hw.1; have n2 := hw.2.1; have n3 := hw.2.2 row v_row.1 v_row.2; omega) (by have n1 := hw.1; have n2 := hw.2.1; have n3 := hw.2.2 row v_row.1 v_row.2; omega) (by have n1 := hw.1; have n2 := hw.2.1; have n3 := hw.2.2 row v_row.1 v_row.2; omega) (by have n1 := hw.1; have n2 := hw.2.1; have n3 := hw.2.2 row v_row.1 v_row.2; omega)) cv_X5_sum dX5_laysSeats_20 ml_X5_91 rfl rfl rfl rfl rfl (Nat.le_of_ble_eq_true rfl) (by decide) rfl rfl (by decide) ?_
    refine aw_istore (L2 := [some (rV K 30 0), some (iV (row)), some (iV (seats)), some (iV (z4)), some (iV (vB (M 32 0 row) (M 31 0 row) z4 seats)), none, none, none]) dX5_laysSeats_23 (by decide) rfl ?_
    refine aw_iconst dX5_laysSeats_25 ?_
    refine aw_istore (L2 := [some (rV K 30 0), some (iV (row)), some (iV (seats)), some (iV (z4)), some (iV (vB (M 32 0 row) (M 31 0 row) z4 seats)), some (iV 1), none, none]) dX5_laysSeats_26 (by decide) rfl ?_
    have lp28 : ∀ (n28 : Nat) (blocks : Int) (m1 : Mem), (1 ≤ blocks ∧ blocks ≤ 14) → (rowFr M m1 row) → (GP M m1 row seats blocks 0) → (((15 : Int) - blocks).toNat) < n28 → AW K l iX5_laysSeats (ZM K iX5_laysSeats (rMm (fun m => rowFr M m row ∧ GA M m row (seats + 1)))) 28 [some (rV K 30 0), some (iV (row)), some (iV (seats)), some (iV (z4)), some (iV (vB (M 32 0 row) (M 31 0 row) z4 seats)), some (iV (blocks)), none, none] [] (m1) 0 0 := by
      intro n28
      induction n28 with
      | zero =>
        intro blocks m1 e1 e2 e3 hm28
        exact absurd hm28 (Nat.not_lt_zero _)
      | succ n28 ih28 =>
        intro blocks m1 e1 e2 e3 hm28
        have n0 : m1 30 0 3 = M 30 0 3 := (by rw [e2.1 30 (by decide)])
        refine aw_iload dX5_laysSeats_28 rfl ?_
        refine aw_aload_n dX5_laysSeats_30 rfl rfl ?_
        refine aw_geti (g := 30) rfl rfl ly_X5 rfl (k := 3) 3 rfl dX5_laysSeats_31 (by decide) fl_X5_60 rfl (fun r31 => ?_)
        refine aw_iload_n dX5_laysSeats_34 rfl rfl ?_
        refine aw_isub dX5_laysSeats_35 ?_
        refine aw_icmp_gt (tgt := 132) dX5_laysSeats_36 (by decide) (by have n1 := hw.1; have n2 := hw.2.1; have n3 := hw.2.2 row v_row.1 v_row.2; omega) (by have n1 := hw.1; have n2 := hw.2.1; have n3 := hw.2.2 row v_row.1 v_row.2; omega) (fun h36 => ?_) (fun h36 => ?_)
        · exact aw_vret dX5_laysSeats_132 rfl (by decide) (by decide) ⟨rfl, (by first | exact ⟨e2, GP_all hw v_row.1 v_row.2 (by have n0 : m1 30 0 3 = M 30 0 3 := (by rw [e2.1 30 (by decide)]); omega) e3⟩ | exact ⟨e2, GP_no (fun q => by have := oz.1.mp q; omega) e3⟩)⟩
        · refine aw_iload_n dX5_laysSeats_39 rfl rfl ?_
          refine aw_if_lt (tgt := 132) dX5_laysSeats_40 (by decide) (by have n1 := hw.1; have n2 := hw.2.1; have n3 := hw.2.2 row v_row.1 v_row.2; omega) (fun h40 => ?_) (fun h40 => ?_)
          · exact aw_vret dX5_laysSeats_132 rfl (by decide) (by decide) ⟨rfl, (by first | exact ⟨e2, GP_all hw v_row.1 v_row.2 (by have n0 : m1 30 0 3 = M 30 0 3 := (by rw [e2.1 30 (by decide)]); omega) e3⟩ | exact ⟨e2, GP_no (fun q => by have := oz.1.mp q; omega) e3⟩)⟩
          · refine aw_iload_n dX5_laysSeats_43 rfl rfl ?_
            refine aw_istore (L2 := [some (rV K 30 0), some (iV (row)), some (iV (seats)), some (iV (z4)), some (iV (vB (M 32 0 row) (M 31 0 row) z4 seats)), some (iV (blocks)), some (iV (seats)), none]) dX5_laysSeats_44 (by decide) rfl ?_
            have lp46 : ∀ (n46 : Nat) (people : Int) (m2 : Mem), (seats ≤ people ∧ people ≤ 101) → (rowFr M m2 row) → (GP M m2 row seats blocks people) → (((102 : Int) - people).toNat) < n46 → AW K l iX5_laysSeats (ZM K iX5_laysSeats (rMm (fun m => rowFr M m row ∧ GA M m row (seats + 1)))) 46 [some (rV K 30 0), some (iV (row)), some (iV (seats)), some (iV (z4)), some (iV (vB (M 32 0 row) (M 31 0 row) z4 seats)), some (iV (blocks)), some (iV (people)), none] [] (m2) 0 0 := by
              intro n46
              induction n46 with
              | zero =>
                intro people m2 f1 f2 f3 hm46
                exact absurd hm46 (Nat.not_lt_zero _)
              | succ n46 ih46 =>
                intro people m2 f1 f2 f3 hm46
                have n5 : m2 30 0 3 = M 30 0 3 := (by rw [f2.1 30 (by decide)])
                refine aw_iload dX5_laysSeats_46 rfl ?_
                refine aw_bipush dX5_laysSeats_48 rfl ?_
                refine aw_icmp_gt (tgt := 126) dX5_laysSeats_50 (by decide) (by have n1 := hw.1; have n2 := hw.2.1; have n3 := hw.2.2 row v_row.1 v_row.2; omega) (by have n1 := hw.1; have n2 := hw.2.1; have n3 := hw.2.2 row v_row.1 v_row.2; omega) (fun h50 => ?_) (fun h50 => ?_)
                · refine aw_iinc (L2 := [some (rV K 30 0), some (iV (row)), some (iV (seats)), some (iV (z4)), some (iV (vB (M 32 0 row) (M 31 0 row) z4 seats)), some (iV (blocks + 1)), some (iV (people)), none]) dX5_laysSeats_126 rfl (by decide) rfl ?_
                  refine aw_goto (tgt := 28) dX5_laysSeats_129 (by decide) ?_
                  refine aw_weak (L' := [some (rV K 30 0), some (iV (row)), some (iV (seats)), some (iV (z4)), some (iV (vB (M 32 0 row) (M 31 0 row) z4 seats)), some (iV (blocks + 1)), none, none]) ⟨Or.inr rfl, Or.inr rfl, Or.inr rfl, Or.inr rfl, Or.inr rfl, Or.inr rfl, Or.inl rfl, Or.inr rfl, trivial⟩ ?_
                  exact ih28 (blocks + 1) (m2) (by have n1 := hw.1; have n2 := hw.2.1; have n3 := hw.2.2 row v_row.1 v_row.2; omega) (by exact f2) (by have q : people = 101 := (by omega); subst q; exact GP_up f3) (by have n1 := hw.1; have n2 := hw.2.1; have n3 := hw.2.2 row v_row.1 v_row.2; omega)
                · refine aw_aload_n dX5_laysSeats_53 rfl rfl ?_
                  refine aw_getr (g := 30) rfl rfl ly_X5 rfl (k := 14) dX5_laysSeats_54 (by decide) fl_X5_37 rfl ?_
                  refine aw_iload_n dX5_laysSeats_57 rfl rfl ?_
                  refine aw_iconst dX5_laysSeats_58 ?_
                  refine aw_iadd dX5_laysSeats_59 ?_
                  refine aw_iload dX5_laysSeats_60 rfl ?_
                  refine aw_iconst dX5_laysSeats_62 ?_
                  refine aw_isub dX5_laysSeats_63 ?_
                  refine aw_iload dX5_laysSeats_64 rfl ?_
                  refine aw_iload_n dX5_laysSeats_66 rfl rfl ?_
                  refine aw_isub dX5_laysSeats_67 ?_
                  refine aw_cSi (As := [iV (row + 1), iV (blocks - 1), iV (people - seats)]) (rest := [rV K 40 0]) (c_X5_place hst m2 (row + 1) (blocks - 1) (people - seats) (by have n1 := hw.1; have n2 := hw.2.1; have n3 := hw.2.2 row v_row.1 v_row.2; omega) (by have n1 := hw.1; have n2 := hw.2.1; have n3 := hw.2.2 row v_row.1 v_row.2; omega) (by have n1 := hw.1; have n2 := hw.2.1; have n3 := hw.2.2 row v_row.1 v_row.2; omega)) cs_X5_place dX5_laysSeats_68 ml_X5_122 rfl rfl (Nat.le_of_ble_eq_true rfl) (by decide) rfl rfl (by decide) ?_
                  refine aw_iald (g := 40) (n := 17069) rfl (by decide) dX5_laysSeats_71 (by decide) (by show 0 ≤ ((13 * (row + 1) + (blocks - 1)) * 101 + (people - seats)) ∧ ((13 * (row + 1) + (blocks - 1)) * 101 + (people - seats)) < (17069 : Int); have n1 := hw.1; have n2 := hw.2.1; have n3 := hw.2.2 row v_row.1 v_row.2; omega) (fun r71 => ?_)
                  refine aw_istore (L2 := [some (rV K 30 0), some (iV (row)), some (iV (seats)), some (iV (z4)), some (iV (vB (M 32 0 row) (M 31 0 row) z4 seats)), some (iV (blocks)), some (iV (people)), some (iV (m2 40 0 ((13 * (row + 1) + (blocks - 1)) * 101 + (people - seats))))]) dX5_laysSeats_72 (by decide) rfl ?_
                  have F := GF_fr (by omega) f2 v_gf; have n1 := hw.1; have n2 := hw.2.1; have n3 := hw.2.2 row v_row.1 v_row.2; have rb : m2 40 0 ((13 * (row + 1) + (blocks - 1)) * 101 + (people - seats)) = -1000000 ∨ (-4800 ≤ m2 40 0 ((13 * (row + 1) + (blocks - 1)) * 101 + (people - seats)) ∧ m2 40 0 ((13 * (row + 1) + (blocks - 1)) * 101 + (people - seats)) ≤ 240000) := GF_bd hw (b := blocks - 1) (p := people - seats) (by omega) (by omega) (by omega) (by omega) F; have hok := oz.1.mpr (by omega); have vv := oz.2
                  refine aw_iload dX5_laysSeats_74 rfl ?_
                  refine aw_ldc (z := -1000000) dX5_laysSeats_76 cn_X5_125 rfl ?_
                  refine aw_icmp_eq (tgt := 120) dX5_laysSeats_78 (by decide) (by have n1 := hw.1; have n2 := hw.2.1; have n3 := hw.2.2 row v_row.1 v_row.2; omega) (by have n1 := hw.1; have n2 := hw.2.1; have n3 := hw.2.2 row v_row.1 v_row.2; omega) (fun h78 => ?_) (fun h78 => ?_)
                  · refine aw_iinc (L2 := [some (rV K 30 0), some (iV (row)), some (iV (seats)), some (iV (z4)), some (iV (vB (M 32 0 row) (M 31 0 row) z4 seats)), some (iV (blocks)), some (iV (people + 1)), some (iV (m2 40 0 ((13 * (row + 1) + (blocks - 1)) * 101 + (people - seats))))]) dX5_laysSeats_120 rfl (by decide) rfl ?_
                    refine aw_goto (tgt := 46) dX5_laysSeats_123 (by decide) ?_
                    refine aw_weak (L' := [some (rV K 30 0), some (iV (row)), some (iV (seats)), some (iV (z4)), some (iV (vB (M 32 0 row) (M 31 0 row) z4 seats)), some (iV (blocks)), some (iV (people + 1)), none]) ⟨Or.inr rfl, Or.inr rfl, Or.inr rfl, Or.inr rfl, Or.inr rfl, Or.inr rfl, Or.inr rfl, Or.inl rfl, trivial⟩ ?_
                    exact ih46 (people + 1) (m2) (by have n1 := hw.1; have n2 := hw.2.1; have n3 := hw.2.2 row v_row.1 v_row.2; omega) (by first | (exfalso; omega) | exact f2 | exact (GP_put hw v_row.1 v_row.2 (by omega) (by omega) v_se.1 hok f2 F f3 h78 (by rw [vv]) (Int.not_le.mp h99)).2) (by first | (exfalso; omega) | exact GP_keep hw v_row.1 v_row.2 (by omega) (by omega) v_se.1 hok F f3 (Or.inl h78) | exact GP_keep hw v_row.1 v_row.2 (by omega) (by omega) v_se.1 hok F f3 (Or.inr (by rw [vv]; exact h99)) | exact (GP_put hw v_row.1 v_row.2 (by omega) (by omega) v_se.1 hok f2 F f3 h78 (by rw [vv]) (Int.not_le.mp h99)).1) (by omega)
                  · refine aw_iload dX5_laysSeats_81 rfl ?_
                    refine aw_iload dX5_laysSeats_83 rfl ?_
                    refine aw_iadd dX5_laysSeats_85 ?_
                    refine aw_aload_n dX5_laysSeats_86 rfl rfl ?_
                    refine aw_getr (g := 30) rfl rfl ly_X5 rfl (k := 14) dX5_laysSeats_87 (by decide) fl_X5_37 rfl ?_
                    refine aw_iload_n dX5_laysSeats_90 rfl rfl ?_
                    refine aw_iload dX5_laysSeats_91 rfl ?_
                    refine aw_iload dX5_laysSeats_93 rfl ?_
                    refine aw_cSi (As := [iV (row), iV (blocks), iV (people)]) (rest := [rV K 40 0, iV ((m2 40 0 ((13 * (row + 1) + (blocks - 1)) * 101 + (people - seats))) + (vB (M 32 0 row) (M 31 0 row) z4 seats))]) (c_X5_place hst m2 (row) (blocks) (people) (by have n1 := hw.1; have n2 := hw.2.1; have n3 := hw.2.2 row v_row.1 v_row.2; omega) (by have n1 := hw.1; have n2 := hw.2.1; have n3 := hw.2.2 row v_row.1 v_row.2; omega) (by have n1 := hw.1; have n2 := hw.2.1; have n3 := hw.2.2 row v_row.1 v_row.2; omega)) cs_X5_place dX5_laysSeats_95 ml_X5_122 rfl rfl (Nat.le_of_ble_eq_true rfl) (by decide) rfl rfl (by decide) ?_
                    refine aw_iald (g := 40) (n := 17069) rfl (by decide) dX5_laysSeats_98 (by decide) (by show 0 ≤ ((13 * row + blocks) * 101 + people) ∧ ((13 * row + blocks) * 101 + people) < (17069 : Int); have n1 := hw.1; have n2 := hw.2.1; have n3 := hw.2.2 row v_row.1 v_row.2; omega) (fun r98 => ?_)
                    refine aw_icmp_le (tgt := 120) dX5_laysSeats_99 (by decide) (by have n1 := hw.1; have n2 := hw.2.1; have n3 := hw.2.2 row v_row.1 v_row.2; omega) (by have n1 := hw.1; have n2 := hw.2.1; have n3 := hw.2.2 row v_row.1 v_row.2; omega) (fun h99 => ?_) (fun h99 => ?_)
                    · refine aw_iinc (L2 := [some (rV K 30 0), some (iV (row)), some (iV (seats)), some (iV (z4)), some (iV (vB (M 32 0 row) (M 31 0 row) z4 seats)), some (iV (blocks)), some (iV (people + 1)), some (iV (m2 40 0 ((13 * (row + 1) + (blocks - 1)) * 101 + (people - seats))))]) dX5_laysSeats_120 rfl (by decide) rfl ?_
                      refine aw_goto (tgt := 46) dX5_laysSeats_123 (by decide) ?_
                      refine aw_weak (L' := [some (rV K 30 0), some (iV (row)), some (iV (seats)), some (iV (z4)), some (iV (vB (M 32 0 row) (M 31 0 row) z4 seats)), some (iV (blocks)), some (iV (people + 1)), none]) ⟨Or.inr rfl, Or.inr rfl, Or.inr rfl, Or.inr rfl, Or.inr rfl, Or.inr rfl, Or.inr rfl, Or.inl rfl, trivial⟩ ?_
                      exact ih46 (people + 1) (m2) (by have n1 := hw.1; have n2 := hw.2.1; have n3 := hw.2.2 row v_row.1 v_row.2; omega) (by first | (exfalso; omega) | exact f2 | exact (GP_put hw v_row.1 v_row.2 (by omega) (by omega) v_se.1 hok f2 F f3 h78 (by rw [vv]) (Int.not_le.mp h99)).2) (by first | (exfalso; omega) | exact GP_keep hw v_row.1 v_row.2 (by omega) (by omega) v_se.1 hok F f3 (Or.inl h78) | exact GP_keep hw v_row.1 v_row.2 (by omega) (by omega) v_se.1 hok F f3 (Or.inr (by rw [vv]; exact h99)) | exact (GP_put hw v_row.1 v_row.2 (by omega) (by omega) v_se.1 hok f2 F f3 h78 (by rw [vv]) (Int.not_le.mp h99)).1) (by omega)
                    · refine aw_aload_n dX5_laysSeats_102 rfl rfl ?_
                      refine aw_getr (g := 30) rfl rfl ly_X5 rfl (k := 14) dX5_laysSeats_103 (by decide) fl_X5_37 rfl ?_
                      refine aw_iload_n dX5_laysSeats_106 rfl rfl ?_
                      refine aw_iload dX5_laysSeats_107 rfl ?_
                      refine aw_iload dX5_laysSeats_109 rfl ?_
                      refine aw_cSi (As := [iV (row), iV (blocks), iV (people)]) (rest := [rV K 40 0]) (c_X5_place hst m2 (row) (blocks) (people) (by have n1 := hw.1; have n2 := hw.2.1; have n3 := hw.2.2 row v_row.1 v_row.2; omega) (by have n1 := hw.1; have n2 := hw.2.1; have n3 := hw.2.2 row v_row.1 v_row.2; omega) (by have n1 := hw.1; have n2 := hw.2.1; have n3 := hw.2.2 row v_row.1 v_row.2; omega)) cs_X5_place dX5_laysSeats_111 ml_X5_122 rfl rfl (Nat.le_of_ble_eq_true rfl) (by decide) rfl rfl (by decide) ?_
                      refine aw_iload dX5_laysSeats_114 rfl ?_
                      refine aw_iload dX5_laysSeats_116 rfl ?_
                      refine aw_iadd dX5_laysSeats_118 ?_
                      refine aw_iast (g := 40) (n := 17069) (M' := updM m2 40 0 ((13 * row + blocks) * 101 + people) ((m2 40 0 ((13 * (row + 1) + (blocks - 1)) * 101 + (people - seats))) + (vB (M 32 0 row) (M 31 0 row) z4 seats))) rfl (by decide) dX5_laysSeats_119 (by decide) (by show 0 ≤ ((13 * row + blocks) * 101 + people) ∧ ((13 * row + blocks) * 101 + people) < (17069 : Int); have n1 := hw.1; have n2 := hw.2.1; have n3 := hw.2.2 row v_row.1 v_row.2; omega) (by have n1 := hw.1; have n2 := hw.2.1; have n3 := hw.2.2 row v_row.1 v_row.2; omega) rfl ?_
                      refine aw_iinc (L2 := [some (rV K 30 0), some (iV (row)), some (iV (seats)), some (iV (z4)), some (iV (vB (M 32 0 row) (M 31 0 row) z4 seats)), some (iV (blocks)), some (iV (people + 1)), some (iV (m2 40 0 ((13 * (row + 1) + (blocks - 1)) * 101 + (people - seats))))]) dX5_laysSeats_120 rfl (by decide) rfl ?_
                      refine aw_goto (tgt := 46) dX5_laysSeats_123 (by decide) ?_
                      refine aw_weak (L' := [some (rV K 30 0), some (iV (row)), some (iV (seats)), some (iV (z4)), some (iV (vB (M 32 0 row) (M 31 0 row) z4 seats)), some (iV (blocks)), some (iV (people + 1)), none]) ⟨Or.inr rfl, Or.inr rfl, Or.inr rfl, Or.inr rfl, Or.inr rfl, Or.inr rfl, Or.inr rfl, Or.inl rfl, trivial⟩ ?_
                      exact ih46 (people + 1) (updM m2 40 0 ((13 * row + blocks) * 101 + people) ((m2 40 0 ((13 * (row + 1) + (blocks - 1)) * 101 + (people - seats))) + (vB (M 32 0 row) (M 31 0 row) z4 seats))) (by have n1 := hw.1; have n2 := hw.2.1; have n3 := hw.2.2 row v_row.1 v_row.2; omega) (by first | (exfalso; omega) | exact f2 | exact (GP_put hw v_row.1 v_row.2 (by omega) (by omega) v_se.1 hok f2 F f3 h78 (by rw [vv]) (Int.not_le.mp h99)).2) (by first | (exfalso; omega) | exact GP_keep hw v_row.1 v_row.2 (by omega) (by omega) v_se.1 hok F f3 (Or.inl h78) | exact GP_keep hw v_row.1 v_row.2 (by omega) (by omega) v_se.1 hok F f3 (Or.inr (by rw [vv]; exact h99)) | exact (GP_put hw v_row.1 v_row.2 (by omega) (by omega) v_se.1 hok f2 F f3 h78 (by rw [vv]) (Int.not_le.mp h99)).1) (by omega)
            exact lp46 ((((102 : Int) - seats).toNat) + 1) (seats) (m1) (by have n1 := hw.1; have n2 := hw.2.1; have n3 := hw.2.2 row v_row.1 v_row.2; omega) (by exact e2) (by exact GP_lo hw v_row.1 v_row.2 e3) (Nat.lt_succ_self _)
    exact lp28 ((((15 : Int) - 1).toNat) + 1) (1) (M) (by omega) (by exact rowFr.rf) (by exact GP_0 hw v_row.1 v_row.2 v_ga) (Nat.lt_succ_self _)
  · refine aw_iconst dX5_laysSeats_12 ?_
    refine aw_goto (tgt := 23) dX5_laysSeats_13 (by decide) ?_
    refine aw_istore (L2 := [some (rV K 30 0), some (iV (row)), some (iV (seats)), some (iV (z4)), some (iV 0), none, none, none]) dX5_laysSeats_23 (by decide) rfl ?_
    refine aw_iconst dX5_laysSeats_25 ?_
    refine aw_istore (L2 := [some (rV K 30 0), some (iV (row)), some (iV (seats)), some (iV (z4)), some (iV 0), some (iV 1), none, none]) dX5_laysSeats_26 (by decide) rfl ?_
    have lp28 : ∀ (n28 : Nat) (blocks : Int) (m1 : Mem), (1 ≤ blocks ∧ blocks ≤ 14) → (rowFr M m1 row) → (GP M m1 row seats blocks 0) → (((15 : Int) - blocks).toNat) < n28 → AW K l iX5_laysSeats (ZM K iX5_laysSeats (rMm (fun m => rowFr M m row ∧ GA M m row (seats + 1)))) 28 [some (rV K 30 0), some (iV (row)), some (iV (seats)), some (iV (z4)), some (iV 0), some (iV (blocks)), none, none] [] (m1) 0 0 := by
      intro n28
      induction n28 with
      | zero =>
        intro blocks m1 e1 e2 e3 hm28
        exact absurd hm28 (Nat.not_lt_zero _)
      | succ n28 ih28 =>
        intro blocks m1 e1 e2 e3 hm28
        have n0 : m1 30 0 3 = M 30 0 3 := (by rw [e2.1 30 (by decide)])
        refine aw_iload dX5_laysSeats_28 rfl ?_
        refine aw_aload_n dX5_laysSeats_30 rfl rfl ?_
        refine aw_geti (g := 30) rfl rfl ly_X5 rfl (k := 3) 3 rfl dX5_laysSeats_31 (by decide) fl_X5_60 rfl (fun r31 => ?_)
        refine aw_iload_n dX5_laysSeats_34 rfl rfl ?_
        refine aw_isub dX5_laysSeats_35 ?_
        refine aw_icmp_gt (tgt := 132) dX5_laysSeats_36 (by decide) (by have n1 := hw.1; have n2 := hw.2.1; have n3 := hw.2.2 row v_row.1 v_row.2; omega) (by have n1 := hw.1; have n2 := hw.2.1; have n3 := hw.2.2 row v_row.1 v_row.2; omega) (fun h36 => ?_) (fun h36 => ?_)
        · exact aw_vret dX5_laysSeats_132 rfl (by decide) (by decide) ⟨rfl, (by first | exact ⟨e2, GP_all hw v_row.1 v_row.2 (by have n0 : m1 30 0 3 = M 30 0 3 := (by rw [e2.1 30 (by decide)]); omega) e3⟩ | exact ⟨e2, GP_no (fun q => by have := oz.1.mp q; omega) e3⟩)⟩
        · refine aw_iload_n dX5_laysSeats_39 rfl rfl ?_
          refine aw_if_lt (tgt := 132) dX5_laysSeats_40 (by decide) (by have n1 := hw.1; have n2 := hw.2.1; have n3 := hw.2.2 row v_row.1 v_row.2; omega) (fun h40 => ?_) (fun h40 => ?_)
          · exact aw_vret dX5_laysSeats_132 rfl (by decide) (by decide) ⟨rfl, (by first | exact ⟨e2, GP_all hw v_row.1 v_row.2 (by have n0 : m1 30 0 3 = M 30 0 3 := (by rw [e2.1 30 (by decide)]); omega) e3⟩ | exact ⟨e2, GP_no (fun q => by have := oz.1.mp q; omega) e3⟩)⟩
          · refine aw_iload_n dX5_laysSeats_43 rfl rfl ?_
            refine aw_istore (L2 := [some (rV K 30 0), some (iV (row)), some (iV (seats)), some (iV (z4)), some (iV 0), some (iV (blocks)), some (iV (seats)), none]) dX5_laysSeats_44 (by decide) rfl ?_
            have lp46 : ∀ (n46 : Nat) (people : Int) (m2 : Mem), (seats ≤ people ∧ people ≤ 101) → (rowFr M m2 row) → (GP M m2 row seats blocks people) → (((102 : Int) - people).toNat) < n46 → AW K l iX5_laysSeats (ZM K iX5_laysSeats (rMm (fun m => rowFr M m row ∧ GA M m row (seats + 1)))) 46 [some (rV K 30 0), some (iV (row)), some (iV (seats)), some (iV (z4)), some (iV 0), some (iV (blocks)), some (iV (people)), none] [] (m2) 0 0 := by
              intro n46
              induction n46 with
              | zero =>
                intro people m2 f1 f2 f3 hm46
                exact absurd hm46 (Nat.not_lt_zero _)
              | succ n46 ih46 =>
                intro people m2 f1 f2 f3 hm46
                have n5 : m2 30 0 3 = M 30 0 3 := (by rw [f2.1 30 (by decide)])
                refine aw_iload dX5_laysSeats_46 rfl ?_
                refine aw_bipush dX5_laysSeats_48 rfl ?_
                refine aw_icmp_gt (tgt := 126) dX5_laysSeats_50 (by decide) (by have n1 := hw.1; have n2 := hw.2.1; have n3 := hw.2.2 row v_row.1 v_row.2; omega) (by have n1 := hw.1; have n2 := hw.2.1; have n3 := hw.2.2 row v_row.1 v_row.2; omega) (fun h50 => ?_) (fun h50 => ?_)
                · refine aw_iinc (L2 := [some (rV K 30 0), some (iV (row)), some (iV (seats)), some (iV (z4)), some (iV 0), some (iV (blocks + 1)), some (iV (people)), none]) dX5_laysSeats_126 rfl (by decide) rfl ?_
                  refine aw_goto (tgt := 28) dX5_laysSeats_129 (by decide) ?_
                  refine aw_weak (L' := [some (rV K 30 0), some (iV (row)), some (iV (seats)), some (iV (z4)), some (iV 0), some (iV (blocks + 1)), none, none]) ⟨Or.inr rfl, Or.inr rfl, Or.inr rfl, Or.inr rfl, Or.inr rfl, Or.inr rfl, Or.inl rfl, Or.inr rfl, trivial⟩ ?_
                  exact ih28 (blocks + 1) (m2) (by have n1 := hw.1; have n2 := hw.2.1; have n3 := hw.2.2 row v_row.1 v_row.2; omega) (by exact f2) (by have q : people = 101 := (by omega); subst q; exact GP_up f3) (by have n1 := hw.1; have n2 := hw.2.1; have n3 := hw.2.2 row v_row.1 v_row.2; omega)
                · refine aw_aload_n dX5_laysSeats_53 rfl rfl ?_
                  refine aw_getr (g := 30) rfl rfl ly_X5 rfl (k := 14) dX5_laysSeats_54 (by decide) fl_X5_37 rfl ?_
                  refine aw_iload_n dX5_laysSeats_57 rfl rfl ?_
                  refine aw_iconst dX5_laysSeats_58 ?_
                  refine aw_iadd dX5_laysSeats_59 ?_
                  refine aw_iload dX5_laysSeats_60 rfl ?_
                  refine aw_iconst dX5_laysSeats_62 ?_
                  refine aw_isub dX5_laysSeats_63 ?_
                  refine aw_iload dX5_laysSeats_64 rfl ?_
                  refine aw_iload_n dX5_laysSeats_66 rfl rfl ?_
                  refine aw_isub dX5_laysSeats_67 ?_
                  refine aw_cSi (As := [iV (row + 1), iV (blocks - 1), iV (people - seats)]) (rest := [rV K 40 0]) (c_X5_place hst m2 (row + 1) (blocks - 1) (people - seats) (by have n1 := hw.1; have n2 := hw.2.1; have n3 := hw.2.2 row v_row.1 v_row.2; omega) (by have n1 := hw.1; have n2 := hw.2.1; have n3 := hw.2.2 row v_row.1 v_row.2; omega) (by have n1 := hw.1; have n2 := hw.2.1; have n3 := hw.2.2 row v_row.1 v_row.2; omega)) cs_X5_place dX5_laysSeats_68 ml_X5_122 rfl rfl (Nat.le_of_ble_eq_true rfl) (by decide) rfl rfl (by decide) ?_
                  refine aw_iald (g := 40) (n := 17069) rfl (by decide) dX5_laysSeats_71 (by decide) (by show 0 ≤ ((13 * (row + 1) + (blocks - 1)) * 101 + (people - seats)) ∧ ((13 * (row + 1) + (blocks - 1)) * 101 + (people - seats)) < (17069 : Int); have n1 := hw.1; have n2 := hw.2.1; have n3 := hw.2.2 row v_row.1 v_row.2; omega) (fun r71 => ?_)
                  refine aw_istore (L2 := [some (rV K 30 0), some (iV (row)), some (iV (seats)), some (iV (z4)), some (iV 0), some (iV (blocks)), some (iV (people)), some (iV (m2 40 0 ((13 * (row + 1) + (blocks - 1)) * 101 + (people - seats))))]) dX5_laysSeats_72 (by decide) rfl ?_
                  have F := GF_fr (by omega) f2 v_gf; have n1 := hw.1; have n2 := hw.2.1; have n3 := hw.2.2 row v_row.1 v_row.2; have rb : m2 40 0 ((13 * (row + 1) + (blocks - 1)) * 101 + (people - seats)) = -1000000 ∨ (-4800 ≤ m2 40 0 ((13 * (row + 1) + (blocks - 1)) * 101 + (people - seats)) ∧ m2 40 0 ((13 * (row + 1) + (blocks - 1)) * 101 + (people - seats)) ≤ 240000) := GF_bd hw (b := blocks - 1) (p := people - seats) (by omega) (by omega) (by omega) (by omega) F; have hok := oz.1.mpr (by omega); have vv := oz.2
                  refine aw_iload dX5_laysSeats_74 rfl ?_
                  refine aw_ldc (z := -1000000) dX5_laysSeats_76 cn_X5_125 rfl ?_
                  refine aw_icmp_eq (tgt := 120) dX5_laysSeats_78 (by decide) (by have n1 := hw.1; have n2 := hw.2.1; have n3 := hw.2.2 row v_row.1 v_row.2; omega) (by have n1 := hw.1; have n2 := hw.2.1; have n3 := hw.2.2 row v_row.1 v_row.2; omega) (fun h78 => ?_) (fun h78 => ?_)
                  · refine aw_iinc (L2 := [some (rV K 30 0), some (iV (row)), some (iV (seats)), some (iV (z4)), some (iV 0), some (iV (blocks)), some (iV (people + 1)), some (iV (m2 40 0 ((13 * (row + 1) + (blocks - 1)) * 101 + (people - seats))))]) dX5_laysSeats_120 rfl (by decide) rfl ?_
                    refine aw_goto (tgt := 46) dX5_laysSeats_123 (by decide) ?_
                    refine aw_weak (L' := [some (rV K 30 0), some (iV (row)), some (iV (seats)), some (iV (z4)), some (iV 0), some (iV (blocks)), some (iV (people + 1)), none]) ⟨Or.inr rfl, Or.inr rfl, Or.inr rfl, Or.inr rfl, Or.inr rfl, Or.inr rfl, Or.inr rfl, Or.inl rfl, trivial⟩ ?_
                    exact ih46 (people + 1) (m2) (by have n1 := hw.1; have n2 := hw.2.1; have n3 := hw.2.2 row v_row.1 v_row.2; omega) (by first | (exfalso; omega) | exact f2 | exact (GP_put hw v_row.1 v_row.2 (by omega) (by omega) v_se.1 hok f2 F f3 h78 (by rw [vv]) (Int.not_le.mp h99)).2) (by first | (exfalso; omega) | exact GP_keep hw v_row.1 v_row.2 (by omega) (by omega) v_se.1 hok F f3 (Or.inl h78) | exact GP_keep hw v_row.1 v_row.2 (by omega) (by omega) v_se.1 hok F f3 (Or.inr (by rw [vv]; exact h99)) | exact (GP_put hw v_row.1 v_row.2 (by omega) (by omega) v_se.1 hok f2 F f3 h78 (by rw [vv]) (Int.not_le.mp h99)).1) (by omega)
                  · refine aw_iload dX5_laysSeats_81 rfl ?_
                    refine aw_iload dX5_laysSeats_83 rfl ?_
                    refine aw_iadd dX5_laysSeats_85 ?_
                    refine aw_aload_n dX5_laysSeats_86 rfl rfl ?_
                    refine aw_getr (g := 30) rfl rfl ly_X5 rfl (k := 14) dX5_laysSeats_87 (by decide) fl_X5_37 rfl ?_
                    refine aw_iload_n dX5_laysSeats_90 rfl rfl ?_
                    refine aw_iload dX5_laysSeats_91 rfl ?_
                    refine aw_iload dX5_laysSeats_93 rfl ?_
                    refine aw_cSi (As := [iV (row), iV (blocks), iV (people)]) (rest := [rV K 40 0, iV ((m2 40 0 ((13 * (row + 1) + (blocks - 1)) * 101 + (people - seats))) + 0)]) (c_X5_place hst m2 (row) (blocks) (people) (by have n1 := hw.1; have n2 := hw.2.1; have n3 := hw.2.2 row v_row.1 v_row.2; omega) (by have n1 := hw.1; have n2 := hw.2.1; have n3 := hw.2.2 row v_row.1 v_row.2; omega) (by have n1 := hw.1; have n2 := hw.2.1; have n3 := hw.2.2 row v_row.1 v_row.2; omega)) cs_X5_place dX5_laysSeats_95 ml_X5_122 rfl rfl (Nat.le_of_ble_eq_true rfl) (by decide) rfl rfl (by decide) ?_
                    refine aw_iald (g := 40) (n := 17069) rfl (by decide) dX5_laysSeats_98 (by decide) (by show 0 ≤ ((13 * row + blocks) * 101 + people) ∧ ((13 * row + blocks) * 101 + people) < (17069 : Int); have n1 := hw.1; have n2 := hw.2.1; have n3 := hw.2.2 row v_row.1 v_row.2; omega) (fun r98 => ?_)
                    refine aw_icmp_le (tgt := 120) dX5_laysSeats_99 (by decide) (by have n1 := hw.1; have n2 := hw.2.1; have n3 := hw.2.2 row v_row.1 v_row.2; omega) (by have n1 := hw.1; have n2 := hw.2.1; have n3 := hw.2.2 row v_row.1 v_row.2; omega) (fun h99 => ?_) (fun h99 => ?_)
                    · refine aw_iinc (L2 := [some (rV K 30 0), some (iV (row)), some (iV (seats)), some (iV (z4)), some (iV 0), some (iV (blocks)), some (iV (people + 1)), some (iV (m2 40 0 ((13 * (row + 1) + (blocks - 1)) * 101 + (people - seats))))]) dX5_laysSeats_120 rfl (by decide) rfl ?_
                      refine aw_goto (tgt := 46) dX5_laysSeats_123 (by decide) ?_
                      refine aw_weak (L' := [some (rV K 30 0), some (iV (row)), some (iV (seats)), some (iV (z4)), some (iV 0), some (iV (blocks)), some (iV (people + 1)), none]) ⟨Or.inr rfl, Or.inr rfl, Or.inr rfl, Or.inr rfl, Or.inr rfl, Or.inr rfl, Or.inr rfl, Or.inl rfl, trivial⟩ ?_
                      exact ih46 (people + 1) (m2) (by have n1 := hw.1; have n2 := hw.2.1; have n3 := hw.2.2 row v_row.1 v_row.2; omega) (by first | (exfalso; omega) | exact f2 | exact (GP_put hw v_row.1 v_row.2 (by omega) (by omega) v_se.1 hok f2 F f3 h78 (by rw [vv]) (Int.not_le.mp h99)).2) (by first | (exfalso; omega) | exact GP_keep hw v_row.1 v_row.2 (by omega) (by omega) v_se.1 hok F f3 (Or.inl h78) | exact GP_keep hw v_row.1 v_row.2 (by omega) (by omega) v_se.1 hok F f3 (Or.inr (by rw [vv]; exact h99)) | exact (GP_put hw v_row.1 v_row.2 (by omega) (by omega) v_se.1 hok f2 F f3 h78 (by rw [vv]) (Int.not_le.mp h99)).1) (by omega)
                    · refine aw_aload_n dX5_laysSeats_102 rfl rfl ?_
                      refine aw_getr (g := 30) rfl rfl ly_X5 rfl (k := 14) dX5_laysSeats_103 (by decide) fl_X5_37 rfl ?_
                      refine aw_iload_n dX5_laysSeats_106 rfl rfl ?_
                      refine aw_iload dX5_laysSeats_107 rfl ?_
                      refine aw_iload dX5_laysSeats_109 rfl ?_
                      refine aw_cSi (As := [iV (row), iV (blocks), iV (people)]) (rest := [rV K 40 0]) (c_X5_place hst m2 (row) (blocks) (people) (by have n1 := hw.1; have n2 := hw.2.1; have n3 := hw.2.2 row v_row.1 v_row.2; omega) (by have n1 := hw.1; have n2 := hw.2.1; have n3 := hw.2.2 row v_row.1 v_row.2; omega) (by have n1 := hw.1; have n2 := hw.2.1; have n3 := hw.2.2 row v_row.1 v_row.2; omega)) cs_X5_place dX5_laysSeats_111 ml_X5_122 rfl rfl (Nat.le_of_ble_eq_true rfl) (by decide) rfl rfl (by decide) ?_
                      refine aw_iload dX5_laysSeats_114 rfl ?_
                      refine aw_iload dX5_laysSeats_116 rfl ?_
                      refine aw_iadd dX5_laysSeats_118 ?_
                      refine aw_iast (g := 40) (n := 17069) (M' := updM m2 40 0 ((13 * row + blocks) * 101 + people) ((m2 40 0 ((13 * (row + 1) + (blocks - 1)) * 101 + (people - seats))) + 0)) rfl (by decide) dX5_laysSeats_119 (by decide) (by show 0 ≤ ((13 * row + blocks) * 101 + people) ∧ ((13 * row + blocks) * 101 + people) < (17069 : Int); have n1 := hw.1; have n2 := hw.2.1; have n3 := hw.2.2 row v_row.1 v_row.2; omega) (by have n1 := hw.1; have n2 := hw.2.1; have n3 := hw.2.2 row v_row.1 v_row.2; omega) rfl ?_
                      refine aw_iinc (L2 := [some (rV K 30 0), some (iV (row)), some (iV (seats)), some (iV (z4)), some (iV 0), some (iV (blocks)), some (iV (people + 1)), some (iV (m2 40 0 ((13 * (row + 1) + (blocks - 1)) * 101 + (people - seats))))]) dX5_laysSeats_120 rfl (by decide) rfl ?_
                      refine aw_goto (tgt := 46) dX5_laysSeats_123 (by decide) ?_
                      refine aw_weak (L' := [some (rV K 30 0), some (iV (row)), some (iV (seats)), some (iV (z4)), some (iV 0), some (iV (blocks)), some (iV (people + 1)), none]) ⟨Or.inr rfl, Or.inr rfl, Or.inr rfl, Or.inr rfl, Or.inr rfl, Or.inr rfl, Or.inr rfl, Or.inl rfl, trivial⟩ ?_
                      exact ih46 (people + 1) (updM m2 40 0 ((13 * row + blocks) * 101 + people) ((m2 40 0 ((13 * (row + 1) + (blocks - 1)) * 101 + (people - seats))) + 0)) (by have n1 := hw.1; have n2 := hw.2.1; have n3 := hw.2.2 row v_row.1 v_row.2; omega) (by first | (exfalso; omega) | exact f2 | exact (GP_put hw v_row.1 v_row.2 (by omega) (by omega) v_se.1 hok f2 F f3 h78 (by rw [vv]) (Int.not_le.mp h99)).2) (by first | (exfalso; omega) | exact GP_keep hw v_row.1 v_row.2 (by omega) (by omega) v_se.1 hok F f3 (Or.inl h78) | exact GP_keep hw v_row.1 v_row.2 (by omega) (by omega) v_se.1 hok F f3 (Or.inr (by rw [vv]; exact h99)) | exact (GP_put hw v_row.1 v_row.2 (by omega) (by omega) v_se.1 hok f2 F f3 h78 (by rw [vv]) (Int.not_le.mp h99)).1) (by omega)
            exact lp46 ((((102 : Int) - seats).toNat) + 1) (seats) (m1) (by have n1 := hw.1; have n2 := hw.2.1; have n3 := hw.2.2 row v_row.1 v_row.2; omega) (by exact e2) (by exact GP_lo hw v_row.1 v_row.2 e3) (Nat.lt_succ_self _)
    exact lp28 ((((15 : Int) - 1).toNat) + 1) (1) (M) (by omega) (by exact rowFr.rf) (by exact GP_0 hw v_row.1 v_row.2 v_ga) (Nat.lt_succ_self _)
set_option maxHeartbeats 4000000 in
set_option maxRecDepth 20000 in
theorem c_X5_laysSplits {K : WPar} {l : Launch} (hst : l.stackTraces = false) (M : Mem) (hw : HWm M) : CT K l iX5_laysSplits [rV K 30 0] M (rMm (fun m => LAID M m 0)) := by
  refine aw_met [some (rV K 30 0), none, none, none] hst (by decide) rfl (Nat.le_of_ble_eq_true rfl) rfl rfl (lcat rfl) ?_
  refine aw_rng (fun hM => ?_)
  refine aw_iconst dX5_laysSplits_0 ?_
  refine aw_istore_n (L2 := [some (rV K 30 0), some (iV 0), none, none]) dX5_laysSplits_1 rfl (by decide) rfl ?_
  have lp2 : ∀ (n2 : Nat) (pl : Int), (0 ≤ pl ∧ pl ≤ 17069) → (((17069 : Int) - pl).toNat) < n2 → AW K l iX5_laysSplits (ZM K iX5_laysSplits (rMm (fun m => LAID M m 0))) 2 [some (rV K 30 0), some (iV (pl)), none, none] [] (nvM M pl) 0 0 := by
    intro n2
    induction n2 with
    | zero =>
      intro pl e1 hm2
      exact absurd hm2 (Nat.not_lt_zero _)
    | succ n2 ih2 =>
      intro pl e1 hm2
      refine aw_iload_n dX5_laysSplits_2 rfl rfl ?_
      refine aw_sipush dX5_laysSplits_3 rfl ?_
      refine aw_icmp_ge (tgt := 23) dX5_laysSplits_6 (by decide) (by have n1 := hw.1; have n2 := hw.2.1; omega) (by have n1 := hw.1; have n2 := hw.2.1; omega) (fun h6 => ?_) (fun h6 => ?_)
      · generalize hMa : nvM M pl = Ma
        have q : pl = 17069 := (by omega); have b3 : Ma 30 0 3 = M 30 0 3 := (by rw [← hMa, nvM_g (by decide)])
        refine aw_aload_n dX5_laysSplits_23 rfl rfl ?_
        refine aw_getr (g := 30) rfl rfl ly_X5 rfl (k := 14) dX5_laysSplits_24 (by decide) fl_X5_37 rfl ?_
        refine aw_aload_n dX5_laysSplits_27 rfl rfl ?_
        refine aw_geti (g := 30) rfl rfl ly_X5 rfl (k := 3) 3 rfl dX5_laysSplits_28 (by decide) fl_X5_60 rfl (fun r28 => ?_)
        refine aw_st (st' := [iV (M 30 0 3), rV K 40 0]) (by rw [show (Ma 30 0 3 : Int) = M 30 0 3 from by exact b3]) ?_
        refine aw_iconst dX5_laysSplits_31 ?_
        refine aw_iconst dX5_laysSplits_32 ?_
        refine aw_cSi (As := [iV (M 30 0 3), iV 0, iV 0]) (rest := [rV K 40 0]) (c_X5_place hst Ma (M 30 0 3) (0) (0) (by have n1 := hw.1; have n2 := hw.2.1; omega) (by have n1 := hw.1; have n2 := hw.2.1; omega) (by have n1 := hw.1; have n2 := hw.2.1; omega)) cs_X5_place dX5_laysSplits_33 ml_X5_122 rfl rfl (Nat.le_of_ble_eq_true rfl) (by decide) rfl rfl (by decide) ?_
        refine aw_iconst dX5_laysSplits_36 ?_
        refine aw_iast (g := 40) (n := 17069) (M' := updM Ma 40 0 ((13 * (M 30 0 3) + 0) * 101 + 0) 0) rfl (by decide) dX5_laysSplits_37 (by decide) (by show 0 ≤ ((13 * (M 30 0 3) + 0) * 101 + 0) ∧ ((13 * (M 30 0 3) + 0) * 101 + 0) < (17069 : Int); have n1 := hw.1; have n2 := hw.2.1; omega) (by have n1 := hw.1; have n2 := hw.2.1; omega) rfl ?_
        refine aw_aload_n dX5_laysSplits_38 rfl rfl ?_
        refine aw_geti (g := 30) rfl rfl ly_X5 rfl (k := 3) 3 rfl dX5_laysSplits_39 (by decide) fl_X5_60 rfl (fun r39 => ?_)
        refine aw_st (st' := [iV (M 30 0 3)]) (by rw [show ((updM Ma 40 0 ((13 * (M 30 0 3) + 0) * 101 + 0) 0) 30 0 3 : Int) = M 30 0 3 from by rw [updM_g (by decide)]; exact b3]) ?_
        refine aw_iconst dX5_laysSplits_42 ?_
        refine aw_isub dX5_laysSplits_43 ?_
        refine aw_istore_n (L2 := [some (rV K 30 0), some (iV ((M 30 0 3) - 1)), none, none]) dX5_laysSplits_44 rfl (by decide) rfl ?_
        have lp45 : ∀ (n45 : Nat) (row : Int) (m1 : Mem), (-1 ≤ row ∧ row ≤ M 30 0 3 - 1) → (LAID M m1 (row + 1)) → ((row + 1).toNat) < n45 → AW K l iX5_laysSplits (ZM K iX5_laysSplits (rMm (fun m => LAID M m 0))) 45 [some (rV K 30 0), some (iV (row)), none, none] [] (m1) 0 0 := by
          intro n45
          induction n45 with
          | zero =>
            intro row m1 e1 e2 hm45
            exact absurd hm45 (Nat.not_lt_zero _)
          | succ n45 ih45 =>
            intro row m1 e1 e2 hm45
            have k3 : m1 30 0 3 = M 30 0 3 := (by rw [e2.1 30 (by decide)])
            refine aw_iload_n dX5_laysSplits_45 rfl rfl ?_
            refine aw_if_lt (tgt := 135) dX5_laysSplits_46 (by decide) (by have n1 := hw.1; have n2 := hw.2.1; omega) (fun h46 => ?_) (fun h46 => ?_)
            · exact aw_vret dX5_laysSplits_135 rfl (by decide) (by decide) ⟨rfl, (by have q : row + 1 = 0 := (by omega); rw [q] at e2; exact e2)⟩
            · refine aw_iconst dX5_laysSplits_49 ?_
              refine aw_istore_n (L2 := [some (rV K 30 0), some (iV (row)), some (iV 0), none]) dX5_laysSplits_50 rfl (by decide) rfl ?_
              have lp51 : ∀ (n51 : Nat) (b : Int) (m2 : Mem), (0 ≤ b ∧ b ≤ 14) → (CPD M m2 row b 0) → (((15 : Int) - b).toNat) < n51 → AW K l iX5_laysSplits (ZM K iX5_laysSplits (rMm (fun m => LAID M m 0))) 51 [some (rV K 30 0), some (iV (row)), some (iV (b)), none] [] (m2) 0 0 := by
                intro n51
                induction n51 with
                | zero =>
                  intro b m2 f1 f2 hm51
                  exact absurd hm51 (Nat.not_lt_zero _)
                | succ n51 ih51 =>
                  intro b m2 f1 f2 hm51
                  have k2 : m2 30 0 3 = M 30 0 3 := (by rw [f2.1 30 (by decide)])
                  refine aw_iload_n dX5_laysSplits_51 rfl rfl ?_
                  refine aw_aload_n dX5_laysSplits_52 rfl rfl ?_
                  refine aw_geti (g := 30) rfl rfl ly_X5 rfl (k := 3) 3 rfl dX5_laysSplits_53 (by decide) fl_X5_60 rfl (fun r53 => ?_)
                  refine aw_iload_n dX5_laysSplits_56 rfl rfl ?_
                  refine aw_isub dX5_laysSplits_57 ?_
                  refine aw_icmp_gt (tgt := 105) dX5_laysSplits_58 (by decide) (by have n1 := hw.1; have n2 := hw.2.1; omega) (by have n1 := hw.1; have n2 := hw.2.1; omega) (fun h58 => ?_) (fun h58 => ?_)
                  · refine aw_iconst dX5_laysSplits_105 ?_
                    refine aw_istore_n (L2 := [some (rV K 30 0), some (iV (row)), some (iV 2), none]) dX5_laysSplits_106 rfl (by decide) rfl ?_
                    have lp107 : ∀ (n107 : Nat) (seats : Int) (m5 : Mem), (2 ≤ seats ∧ seats ≤ 22) → (LRS M m5 row seats) → (((23 : Int) - seats).toNat) < n107 → AW K l iX5_laysSplits (ZM K iX5_laysSplits (rMm (fun m => LAID M m 0))) 107 [some (rV K 30 0), some (iV (row)), some (iV (seats)), none] [] (m5) 0 0 := by
                      intro n107
                      induction n107 with
                      | zero =>
                        intro seats m5 j1 j2 hm107
                        exact absurd hm107 (Nat.not_lt_zero _)
                      | succ n107 ih107 =>
                        intro seats m5 j1 j2 hm107
                        have k5 : m5 30 0 3 = M 30 0 3 := (by rw [j2.1 30 (by decide)]); have k6 : m5 31 0 row = M 31 0 row := (by rw [j2.1 31 (by decide)]); have n3 := hw.2.2 row (by omega) (by omega); have jm : ∀ g : Nat, g ≠ 40 → g ≠ 41 → m5 g = M g := (fun g x _ => j2.1 g x)
                        refine aw_iload_n dX5_laysSplits_107 rfl rfl ?_
                        refine aw_aload_n dX5_laysSplits_108 rfl rfl ?_
                        refine aw_getr (g := 30) rfl rfl ly_X5 rfl (k := 4) dX5_laysSplits_109 (by decide) fl_X5_7 rfl ?_
                        refine aw_iload_n dX5_laysSplits_112 rfl rfl ?_
                        refine aw_iald (g := 31) (n := 12) rfl (by decide) dX5_laysSplits_113 (by decide) (by show 0 ≤ row ∧ row < (12 : Int); have n1 := hw.1; have n2 := hw.2.1; omega) (fun r113 => ?_)
                        refine aw_icmp_gt (tgt := 129) dX5_laysSplits_114 (by decide) (by have n1 := hw.1; have n2 := hw.2.1; omega) (by have n1 := hw.1; have n2 := hw.2.1; omega) (fun h114 => ?_) (fun h114 => ?_)
                        · refine aw_iinc (L2 := [some (rV K 30 0), some (iV (row + (-1))), some (iV (seats)), none]) dX5_laysSplits_129 rfl (by decide) rfl ?_
                          refine aw_goto (tgt := 45) dX5_laysSplits_132 (by decide) ?_
                          refine aw_weak (L' := [some (rV K 30 0), some (iV (row + (-1))), none, none]) ⟨Or.inr rfl, Or.inr rfl, Or.inl rfl, Or.inr rfl, trivial⟩ ?_
                          exact ih45 (row + (-1)) (m5) (by have n1 := hw.1; have n2 := hw.2.1; omega) (by exact LRS_all hw (by omega) (by omega) (by have k4 : m5 31 0 row = M 31 0 row := (by rw [j2.1 31 (by decide)]); omega) j2) (by omega)
                        · refine aw_aload_n dX5_laysSplits_117 rfl rfl ?_
                          refine aw_iload_n dX5_laysSplits_118 rfl rfl ?_
                          refine aw_iload_n dX5_laysSplits_119 rfl rfl ?_
                          refine aw_cVm (g := 30) (As := [iV (row), iV (seats)]) (rest := []) (c_X5_laysSeats hst m5 (row) (seats) (by have n1 := hw.1; have n2 := hw.2.1; omega) (by have n1 := hw.1; have n2 := hw.2.1; omega) (by exact HWm_f hw jm) (by omega) (by omega) (by exact (GA_m jm).mpr j2.2.2.2) (by exact (GF_m jm).mpr (j2.2.1 (row + 1) (by omega) (by omega)))) cv_X5_laysSeats dX5_laysSplits_120 ml_X5_126 rfl rfl rfl rfl rfl (Nat.le_of_ble_eq_true rfl) (by decide) rfl rfl (by decide) (fun M120 (h120 : rowFr m5 M120 row ∧ GA m5 M120 row (seats + 1)) => ?_)
                          refine aw_iinc (L2 := [some (rV K 30 0), some (iV (row)), some (iV (seats + 1)), none]) dX5_laysSplits_123 rfl (by decide) rfl ?_
                          refine aw_goto (tgt := 107) dX5_laysSplits_126 (by decide) ?_
                          exact ih107 (seats + 1) (M120) (by have n1 := hw.1; have n2 := hw.2.1; omega) (by exact LRS_s j2 h120) (by omega)
                    exact lp107 ((((23 : Int) - 2).toNat) + 1) (2) (m2) (by have n1 := hw.1; have n2 := hw.2.1; omega) (by exact LRS_0 hw (by omega) (by omega) (by omega) f2) (Nat.lt_succ_self _)
                  · refine aw_iconst dX5_laysSplits_61 ?_
                    refine aw_istore_n (L2 := [some (rV K 30 0), some (iV (row)), some (iV (b)), some (iV 0)]) dX5_laysSplits_62 rfl (by decide) rfl ?_
                    have lp63 : ∀ (n63 : Nat) (p : Int) (m3 : Mem), (0 ≤ p ∧ p ≤ 101) → (CPD M m3 row b p) → (((102 : Int) - p).toNat) < n63 → AW K l iX5_laysSplits (ZM K iX5_laysSplits (rMm (fun m => LAID M m 0))) 63 [some (rV K 30 0), some (iV (row)), some (iV (b)), some (iV (p))] [] (m3) 0 0 := by
                      intro n63
                      induction n63 with
                      | zero =>
                        intro p m3 g1 g2 hm63
                        exact absurd hm63 (Nat.not_lt_zero _)
                      | succ n63 ih63 =>
                        intro p m3 g1 g2 hm63
                        refine aw_iload_n dX5_laysSplits_63 rfl rfl ?_
                        refine aw_bipush dX5_laysSplits_64 rfl ?_
                        refine aw_icmp_gt (tgt := 99) dX5_laysSplits_66 (by decide) (by have n1 := hw.1; have n2 := hw.2.1; omega) (by have n1 := hw.1; have n2 := hw.2.1; omega) (fun h66 => ?_) (fun h66 => ?_)
                        · refine aw_iinc (L2 := [some (rV K 30 0), some (iV (row)), some (iV (b + 1)), some (iV (p))]) dX5_laysSplits_99 rfl (by decide) rfl ?_
                          refine aw_goto (tgt := 51) dX5_laysSplits_102 (by decide) ?_
                          refine aw_weak (L' := [some (rV K 30 0), some (iV (row)), some (iV (b + 1)), none]) ⟨Or.inr rfl, Or.inr rfl, Or.inr rfl, Or.inl rfl, trivial⟩ ?_
                          exact ih51 (b + 1) (m3) (by have n1 := hw.1; have n2 := hw.2.1; omega) (by have q : p = 101 := (by omega); subst q; exact CPD_up g2) (by omega)
                        · refine aw_aload_n dX5_laysSplits_69 rfl rfl ?_
                          refine aw_getr (g := 30) rfl rfl ly_X5 rfl (k := 14) dX5_laysSplits_70 (by decide) fl_X5_37 rfl ?_
                          refine aw_iload_n dX5_laysSplits_73 rfl rfl ?_
                          refine aw_iload_n dX5_laysSplits_74 rfl rfl ?_
                          refine aw_iload_n dX5_laysSplits_75 rfl rfl ?_
                          refine aw_cSi (As := [iV (row), iV (b), iV (p)]) (rest := [rV K 40 0]) (c_X5_place hst m3 (row) (b) (p) (by have n1 := hw.1; have n2 := hw.2.1; omega) (by have n1 := hw.1; have n2 := hw.2.1; omega) (by have n1 := hw.1; have n2 := hw.2.1; omega)) cs_X5_place dX5_laysSplits_76 ml_X5_122 rfl rfl (Nat.le_of_ble_eq_true rfl) (by decide) rfl rfl (by decide) ?_
                          refine aw_aload_n dX5_laysSplits_79 rfl rfl ?_
                          refine aw_getr (g := 30) rfl rfl ly_X5 rfl (k := 14) dX5_laysSplits_80 (by decide) fl_X5_37 rfl ?_
                          refine aw_iload_n dX5_laysSplits_83 rfl rfl ?_
                          refine aw_iconst dX5_laysSplits_84 ?_
                          refine aw_iadd dX5_laysSplits_85 ?_
                          refine aw_iload_n dX5_laysSplits_86 rfl rfl ?_
                          refine aw_iload_n dX5_laysSplits_87 rfl rfl ?_
                          refine aw_cSi (As := [iV (row + 1), iV (b), iV (p)]) (rest := [rV K 40 0, iV ((13 * row + b) * 101 + p), rV K 40 0]) (c_X5_place hst m3 (row + 1) (b) (p) (by have n1 := hw.1; have n2 := hw.2.1; omega) (by have n1 := hw.1; have n2 := hw.2.1; omega) (by have n1 := hw.1; have n2 := hw.2.1; omega)) cs_X5_place dX5_laysSplits_88 ml_X5_122 rfl rfl (Nat.le_of_ble_eq_true rfl) (by decide) rfl rfl (by decide) ?_
                          refine aw_iald (g := 40) (n := 17069) rfl (by decide) dX5_laysSplits_91 (by decide) (by show 0 ≤ ((13 * (row + 1) + b) * 101 + p) ∧ ((13 * (row + 1) + b) * 101 + p) < (17069 : Int); have n1 := hw.1; have n2 := hw.2.1; omega) (fun r91 => ?_)
                          refine aw_iast (g := 40) (n := 17069) (M' := updM m3 40 0 ((13 * row + b) * 101 + p) (m3 40 0 ((13 * (row + 1) + b) * 101 + p))) rfl (by decide) dX5_laysSplits_92 (by decide) (by show 0 ≤ ((13 * row + b) * 101 + p) ∧ ((13 * row + b) * 101 + p) < (17069 : Int); have n1 := hw.1; have n2 := hw.2.1; omega) (by have n1 := hw.1; have n2 := hw.2.1; omega) rfl ?_
                          refine aw_iinc (L2 := [some (rV K 30 0), some (iV (row)), some (iV (b)), some (iV (p + 1))]) dX5_laysSplits_93 rfl (by decide) rfl ?_
                          refine aw_goto (tgt := 63) dX5_laysSplits_96 (by decide) ?_
                          exact ih63 (p + 1) (updM m3 40 0 ((13 * row + b) * 101 + p) (m3 40 0 ((13 * (row + 1) + b) * 101 + p))) (by have n1 := hw.1; have n2 := hw.2.1; omega) (by have n2 := hw.2.1; exact CPD_s (by omega) (by omega) rfl g2) (by omega)
                    exact lp63 ((((102 : Int) - 0).toNat) + 1) (0) (m2) (by have n1 := hw.1; have n2 := hw.2.1; omega) (by exact f2) (Nat.lt_succ_self _)
              exact lp51 ((((15 : Int) - 0).toNat) + 1) (0) (m1) (by have n1 := hw.1; have n2 := hw.2.1; omega) (by exact CPD_0 (by omega) e2) (Nat.lt_succ_self _)
        exact lp45 (((((M 30 0 3) - 1) + 1).toNat) + 1) ((M 30 0 3) - 1) (updM Ma 40 0 ((13 * (M 30 0 3) + 0) * 101 + 0) 0) (by have n1 := hw.1; have n2 := hw.2.1; omega) (by rw [← hMa, q]; exact LAID_n hw) (Nat.lt_succ_self _)
      · refine aw_aload_n dX5_laysSplits_9 rfl rfl ?_
        refine aw_getr (g := 30) rfl rfl ly_X5 rfl (k := 14) dX5_laysSplits_10 (by decide) fl_X5_37 rfl ?_
        refine aw_iload_n dX5_laysSplits_13 rfl rfl ?_
        refine aw_ldc (z := -1000000) dX5_laysSplits_14 cn_X5_125 rfl ?_
        refine aw_iast (g := 40) (n := 17069) (M' := updM (nvM M pl) 40 0 pl (-1000000)) rfl (by decide) dX5_laysSplits_16 (by decide) (by show 0 ≤ pl ∧ pl < (17069 : Int); have n1 := hw.1; have n2 := hw.2.1; omega) (by have n1 := hw.1; have n2 := hw.2.1; omega) rfl ?_
        refine aw_iinc (L2 := [some (rV K 30 0), some (iV (pl + 1)), none, none]) dX5_laysSplits_17 rfl (by decide) rfl ?_
        refine aw_goto (tgt := 2) dX5_laysSplits_20 (by decide) ?_
        refine aw_mem (M' := nvM M (pl + 1)) (by exact nvM_s e1.1) ?_
        exact ih2 (pl + 1) (by have n1 := hw.1; have n2 := hw.2.1; omega) (by omega)
  refine aw_mem (M' := nvM M 0) (by exact (nvM_0 _).symm) ?_
  exact lp2 ((((17069 : Int) - 0).toNat) + 1) (0) (by have n1 := hw.1; have n2 := hw.2.1; omega) (Nat.lt_succ_self _)
set_option maxHeartbeats 4000000 in
set_option maxRecDepth 20000 in
theorem c_X5_given {K : WPar} {l : Launch} (hst : l.stackTraces = false) (M : Mem) (row : Int) (blocks : Int) (people : Int) (seats : Int) (r_row : inR row) (r_blocks : inR blocks) (r_people : inR people) (r_seats : inR seats) (hw : HWm M) (v_row : 0 ≤ row ∧ row < M 30 0 3) (v_se : 2 ≤ seats ∧ seats ≤ 20) (v_bl : 1 ≤ blocks ∧ blocks ≤ 12) (v_pe : seats ≤ people ∧ people ≤ 100) (v_gf : GF M M (row + 1)) : CT K l iX5_given [rV K 30 0, iV (row), iV (blocks), iV (people), iV (seats)] M (rR (fun z => (z = -1000000 ∧ (sp M (row + 1) (blocks - 1) (people - seats) = -1000000 ∨ ¬ okd M row seats)) ∨ (sp M (row + 1) (blocks - 1) (people - seats) ≠ -1000000 ∧ okd M row seats ∧ z = sp M (row + 1) (blocks - 1) (people - seats) + Vd M row seats)) (M)) := by
  refine aw_met [some (rV K 30 0), some (iV (row)), some (iV (blocks)), some (iV (people)), some (iV (seats)), none, none] hst (by decide) rfl (Nat.le_of_ble_eq_true rfl) rfl rfl (lcat rfl) ?_
  refine aw_rng (fun hM => ?_)
  have gb := GF_bd hw (b := blocks - 1) (p := people - seats) (by have n1 := hw.1; have n2 := hw.2.1; have n3 := hw.2.2 row v_row.1 v_row.2; omega) (by have n1 := hw.1; have n2 := hw.2.1; have n3 := hw.2.2 row v_row.1 v_row.2; omega) (by omega) (by omega) v_gf
  refine aw_aload_n dX5_given_0 rfl rfl ?_
  refine aw_getr (g := 30) rfl rfl ly_X5 rfl (k := 14) dX5_given_1 (by decide) fl_X5_37 rfl ?_
  refine aw_iload_n dX5_given_4 rfl rfl ?_
  refine aw_iconst dX5_given_5 ?_
  refine aw_iadd dX5_given_6 ?_
  refine aw_iload dX5_given_7 rfl ?_
  refine aw_if_le (tgt := 18) dX5_given_9 (by decide) (by have n1 := hw.1; have n2 := hw.2.1; have n3 := hw.2.2 row v_row.1 v_row.2; omega) (fun h9 => absurd h9 (by have n1 := hw.1; have n2 := hw.2.1; have n3 := hw.2.2 row v_row.1 v_row.2; omega)) (fun h9 => ?_)
  refine aw_iload_n dX5_given_12 rfl rfl ?_
  refine aw_iconst dX5_given_13 ?_
  refine aw_isub dX5_given_14 ?_
  refine aw_goto (tgt := 19) dX5_given_15 (by decide) ?_
  refine aw_iload_n dX5_given_19 rfl rfl ?_
  refine aw_iload dX5_given_20 rfl ?_
  refine aw_isub dX5_given_22 ?_
  refine aw_cSi (As := [iV (row + 1), iV (blocks - 1), iV (people - seats)]) (rest := [rV K 40 0]) (c_X5_place hst M (row + 1) (blocks - 1) (people - seats) (by have n1 := hw.1; have n2 := hw.2.1; have n3 := hw.2.2 row v_row.1 v_row.2; omega) (by have n1 := hw.1; have n2 := hw.2.1; have n3 := hw.2.2 row v_row.1 v_row.2; omega) (by have n1 := hw.1; have n2 := hw.2.1; have n3 := hw.2.2 row v_row.1 v_row.2; omega)) cs_X5_place dX5_given_23 ml_X5_122 rfl rfl (Nat.le_of_ble_eq_true rfl) (by decide) rfl rfl (by decide) ?_
  refine aw_iald (g := 40) (n := 17069) rfl (by decide) dX5_given_26 (by decide) (by show 0 ≤ ((13 * (row + 1) + (blocks - 1)) * 101 + (people - seats)) ∧ ((13 * (row + 1) + (blocks - 1)) * 101 + (people - seats)) < (17069 : Int); have n1 := hw.1; have n2 := hw.2.1; have n3 := hw.2.2 row v_row.1 v_row.2; omega) (fun r26 => ?_)
  refine aw_istore (L2 := [some (rV K 30 0), some (iV (row)), some (iV (blocks)), some (iV (people)), some (iV (seats)), some (iV (M 40 0 ((13 * (row + 1) + (blocks - 1)) * 101 + (people - seats)))), none]) dX5_given_27 (by decide) rfl ?_
  refine aw_iload dX5_given_29 rfl ?_
  refine aw_if_eq (tgt := 41) dX5_given_31 (by decide) (by have n1 := hw.1; have n2 := hw.2.1; have n3 := hw.2.2 row v_row.1 v_row.2; omega) (fun h31 => absurd h31 (by have n1 := hw.1; have n2 := hw.2.1; have n3 := hw.2.2 row v_row.1 v_row.2; omega)) (fun h31 => ?_)
  refine aw_iload dX5_given_34 rfl ?_
  refine aw_ldc (z := -1000000) dX5_given_36 cn_X5_125 rfl ?_
  refine aw_icmp_ne (tgt := 44) dX5_given_38 (by decide) (by have n1 := hw.1; have n2 := hw.2.1; have n3 := hw.2.2 row v_row.1 v_row.2; omega) (by have n1 := hw.1; have n2 := hw.2.1; have n3 := hw.2.2 row v_row.1 v_row.2; omega) (fun h38 => ?_) (fun h38 => ?_)
  · refine aw_aload_n dX5_given_44 rfl rfl ?_
    refine aw_iload_n dX5_given_45 rfl rfl ?_
    refine aw_iload dX5_given_46 rfl ?_
    refine aw_iconst dX5_given_48 ?_
    refine aw_cVr (g := 30) (As := [iV (row), iV (seats), iV 0]) (rest := []) (c_X5_firstIn hst M (row) (seats) (0) (by have n1 := hw.1; have n2 := hw.2.1; have n3 := hw.2.2 row v_row.1 v_row.2; omega) (by have n1 := hw.1; have n2 := hw.2.1; have n3 := hw.2.2 row v_row.1 v_row.2; omega) (by have n1 := hw.1; have n2 := hw.2.1; have n3 := hw.2.2 row v_row.1 v_row.2; omega) (by have n1 := hw.1; have n2 := hw.2.1; have n3 := hw.2.2 row v_row.1 v_row.2; omega) (by have n1 := hw.1; have n2 := hw.2.1; have n3 := hw.2.2 row v_row.1 v_row.2; omega) (by have n1 := hw.1; have n2 := hw.2.1; have n3 := hw.2.2 row v_row.1 v_row.2; omega)) cv_X5_firstIn dX5_given_49 ml_X5_95 rfl rfl rfl rfl rfl (Nat.le_of_ble_eq_true rfl) (by decide) rfl rfl (by decide) (fun z49 (h49 : isBest (cB (M 31 0) (oMd M) seats (0 = 0) row) (vBR (M 32 0) (M 31 0) seats row) z49) => ?_)
    refine aw_istore (L2 := [some (rV K 30 0), some (iV (row)), some (iV (blocks)), some (iV (people)), some (iV (seats)), some (iV (M 40 0 ((13 * (row + 1) + (blocks - 1)) * 101 + (people - seats)))), some (iV (z49))]) dX5_given_52 (by decide) rfl ?_
    have oz := okd_z h49; have zz : z49 = -1 ∨ (0 ≤ z49 ∧ z49 + seats ≤ M 31 0 row) := (isBest_in h49).elim Or.inl (fun q => Or.inr ⟨q.1, q.2.1⟩); have vb := vB_bd (sc := M 32 0 row) (w := M 31 0 row) (f := z49) (k := seats) (by have n1 := hw.1; have n2 := hw.2.1; have n3 := hw.2.2 row v_row.1 v_row.2; omega) (by have n1 := hw.1; have n2 := hw.2.1; have n3 := hw.2.2 row v_row.1 v_row.2; omega) (by have n1 := hw.1; have n2 := hw.2.1; have n3 := hw.2.2 row v_row.1 v_row.2; omega)
    refine aw_iload dX5_given_54 rfl ?_
    refine aw_if_ge (tgt := 64) dX5_given_56 (by decide) (by have n1 := hw.1; have n2 := hw.2.1; have n3 := hw.2.2 row v_row.1 v_row.2; omega) (fun h56 => ?_) (fun h56 => ?_)
    · refine aw_iload dX5_given_64 rfl ?_
      refine aw_aload_n dX5_given_66 rfl rfl ?_
      refine aw_iload_n dX5_given_67 rfl rfl ?_
      refine aw_iload dX5_given_68 rfl ?_
      refine aw_iload dX5_given_70 rfl ?_
      refine aw_cVi (g := 30) (As := [iV (row), iV (z49), iV (seats)]) (rest := [iV (M 40 0 ((13 * (row + 1) + (blocks - 1)) * 101 + (people - seats)))]) (c_X5_sum hst M (row) (z49) (seats) (by have n1 := hw.1; have n2 := hw.2.1; have n3 := hw.2.2 row v_row.1 v_row.2; omega) (by have n1 := hw.1; have n2 := hw.2.1; have n3 := hw.2.2 row v_row.1 v_row.2; omega) (by have n1 := hw.1; have n2 := hw.2.1; have n3 := hw.2.2 row v_row.1 v_row.2; omega) (by have n1 := hw.1; have n2 := hw.2.1; have n3 := hw.2.2 row v_row.1 v_row.2; omega) (by have n1 := hw.1; have n2 := hw.2.1; have n3 := hw.2.2 row v_row.1 v_row.2; omega) (by have n1 := hw.1; have n2 := hw.2.1; have n3 := hw.2.2 row v_row.1 v_row.2; omega)) cv_X5_sum dX5_given_72 ml_X5_91 rfl rfl rfl rfl rfl (Nat.le_of_ble_eq_true rfl) (by decide) rfl rfl (by decide) ?_
      refine aw_iadd dX5_given_75 ?_
      exact aw_iret dX5_given_76 rfl rfl (by decide) (by decide) ⟨(M 40 0 ((13 * (row + 1) + (blocks - 1)) * 101 + (people - seats))) + (vB (M 32 0 row) (M 31 0 row) z49 seats), rfl, (by first | exact Or.inl ⟨rfl, Or.inr (fun q => by have := oz.1.mp q; omega)⟩ | exact Or.inr ⟨h38, oz.1.mpr (by omega), by rw [oz.2]⟩), (by rfl)⟩
    · refine aw_ldc (z := -1000000) dX5_given_59 cn_X5_125 rfl ?_
      refine aw_goto (tgt := 76) dX5_given_61 (by decide) ?_
      exact aw_iret dX5_given_76 rfl rfl (by decide) (by decide) ⟨-1000000, rfl, (by first | exact Or.inl ⟨rfl, Or.inr (fun q => by have := oz.1.mp q; omega)⟩ | exact Or.inr ⟨h38, oz.1.mpr (by omega), by rw [oz.2]⟩), (by rfl)⟩
  · refine aw_iload dX5_given_41 rfl ?_
    exact aw_iret dX5_given_43 rfl rfl (by decide) (by decide) ⟨M 40 0 ((13 * (row + 1) + (blocks - 1)) * 101 + (people - seats)), rfl, (by exact Or.inl ⟨h38, Or.inl h38⟩), (by rfl)⟩
set_option maxHeartbeats 4000000 in
set_option maxRecDepth 20000 in
theorem c_X5_splits {K : WPar} {l : Launch} (hst : l.stackTraces = false) (M : Mem) (people : Int) (r_people : inR people) (hw : HWm M) (v_p : 2 ≤ people ∧ people ≤ 100) : CT K l iX5_splits [rV K 30 0, iV (people)] M (rZm (fun z m => SFd M m ∧ ((z = 0 ∧ ∀ b v : Int, ¬ cD M 0 b people v) ∨ SPLd M m people z))) := by
  refine aw_met [some (rV K 30 0), some (iV (people)), none, none, none, none, none, none] hst (by decide) rfl (Nat.le_of_ble_eq_true rfl) rfl rfl (lcat rfl) ?_
  refine aw_rng (fun hM => ?_)
  refine aw_aload_n dX5_splits_0 rfl rfl ?_
  refine aw_cVm (g := 30) (As := []) (rest := []) (c_X5_laysSplits hst M (by have n1 := hw.1; have n2 := hw.2.1; omega)) cv_X5_laysSplits dX5_splits_1 ml_X5_130 rfl rfl rfl rfl rfl (Nat.le_of_ble_eq_true rfl) (by decide) rfl rfl (by decide) (fun M1 (h1 : LAID M M1 0) => ?_)
  have F1 : ∀ g : Nat, g ≠ 40 → g ≠ 41 → M1 g = M g := (fun g x _ => h1.1 g x); have k1 : M1 30 0 3 = M 30 0 3 := (by rw [h1.1 30 (by decide)]); have G0 := h1.2.1 0 (Int.le_refl 0) hw.1
  refine aw_iconst dX5_splits_4 ?_
  refine aw_istore_n (L2 := [some (rV K 30 0), some (iV (people)), some (iV 1), none, none, none, none, none]) dX5_splits_5 rfl (by decide) rfl ?_
  have lp6 : ∀ (n6 : Nat) (blocks : Int), (1 ≤ blocks ∧ blocks ≤ M 30 0 3 + 1) → (∀ b : Int, b < blocks → ∀ v : Int, ¬ cD M 0 b people v) → ((M 30 0 3 + 1 - blocks).toNat) < n6 → AW K l iX5_splits (ZM K iX5_splits (rZm (fun z m => SFd M m ∧ ((z = 0 ∧ ∀ b v : Int, ¬ cD M 0 b people v) ∨ SPLd M m people z)))) 6 [some (rV K 30 0), some (iV (people)), some (iV (blocks)), none, none, none, none, none] [] (M1) 0 0 := by
    intro n6
    induction n6 with
    | zero =>
      intro blocks e1 e2 hm6
      exact absurd hm6 (Nat.not_lt_zero _)
    | succ n6 ih6 =>
      intro blocks e1 e2 hm6
      refine aw_iload_n dX5_splits_6 rfl rfl ?_
      refine aw_aload_n dX5_splits_7 rfl rfl ?_
      refine aw_geti (g := 30) rfl rfl ly_X5 rfl (k := 3) 3 rfl dX5_splits_8 (by decide) fl_X5_60 rfl (fun r8 => ?_)
      refine aw_icmp_gt (tgt := 36) dX5_splits_11 (by decide) (by have n1 := hw.1; have n2 := hw.2.1; omega) (by have n1 := hw.1; have n2 := hw.2.1; omega) (fun h11 => ?_) (fun h11 => ?_)
      · refine aw_iload_n dX5_splits_36 rfl rfl ?_
        refine aw_aload_n dX5_splits_37 rfl rfl ?_
        refine aw_geti (g := 30) rfl rfl ly_X5 rfl (k := 3) 3 rfl dX5_splits_38 (by decide) fl_X5_60 rfl (fun r38 => ?_)
        refine aw_icmp_le (tgt := 46) dX5_splits_41 (by decide) (by have n1 := hw.1; have n2 := hw.2.1; omega) (by have n1 := hw.1; have n2 := hw.2.1; omega) (fun h41 => ?_) (fun h41 => ?_)
        · refine aw_iload_n dX5_splits_46 rfl rfl ?_
          refine aw_istore_n (L2 := [some (rV K 30 0), some (iV (people)), some (iV (blocks)), some (iV (blocks)), none, none, none, none]) dX5_splits_47 rfl (by decide) rfl ?_
          refine aw_iload_n dX5_splits_48 rfl rfl ?_
          refine aw_istore (L2 := [some (rV K 30 0), some (iV (people)), some (iV (blocks)), some (iV (blocks)), some (iV (people)), none, none, none]) dX5_splits_49 (by decide) rfl ?_
          refine aw_iconst dX5_splits_51 ?_
          refine aw_istore (L2 := [some (rV K 30 0), some (iV (people)), some (iV (blocks)), some (iV (blocks)), some (iV (people)), some (iV 0), none, none]) dX5_splits_52 (by decide) rfl ?_
          have lp54 : ∀ (n54 : Nat) (lef rest row : Int) (m1 : Mem), (0 ≤ row ∧ row ≤ M 30 0 3) → (0 ≤ rest ∧ rest ≤ people) → (∀ g : Nat, g ≠ 41 → m1 g = M1 g) → (1 ≤ blocks ∧ blocks ≤ 12) → (SPm M m1 row rest lef blocks people) → (∀ r : Int, 0 ≤ r → r < row → 0 ≤ m1 41 0 r ∧ m1 41 0 r ≤ 20) → ((M 30 0 3 - row).toNat) < n54 → AW K l iX5_splits (ZM K iX5_splits (rZm (fun z m => SFd M m ∧ ((z = 0 ∧ ∀ b v : Int, ¬ cD M 0 b people v) ∨ SPLd M m people z)))) 54 [some (rV K 30 0), some (iV (people)), some (iV (blocks)), some (iV (lef)), some (iV (rest)), some (iV (row)), none, none] [] (m1) 0 0 := by
            intro n54
            induction n54 with
            | zero =>
              intro lef rest row m1 f1 f2 f3 f6 f4 f5 hm54
              exact absurd hm54 (Nat.not_lt_zero _)
            | succ n54 ih54 =>
              intro lef rest row m1 f1 f2 f3 f6 f4 f5 hm54
              have fm : ∀ g : Nat, g ≠ 40 → g ≠ 41 → m1 g = M g := (fun g x y => (f3 g y).trans (h1.1 g x)); have k2 : m1 30 0 3 = M 30 0 3 := (by rw [fm 30 (by decide) (by decide)]); have k31 : m1 31 = M 31 := fm 31 (by decide) (by decide); have G : ∀ r : Int, 0 ≤ r → r ≤ M 30 0 3 → GF M m1 r := (fun r r0 r1 => (by have q := h1.2.1 r r0 r1; unfold GF sp; rw [f3 40 (by decide)]; exact q))
              refine aw_iload dX5_splits_54 rfl ?_
              refine aw_aload_n dX5_splits_56 rfl rfl ?_
              refine aw_geti (g := 30) rfl rfl ly_X5 rfl (k := 3) 3 rfl dX5_splits_57 (by decide) fl_X5_60 rfl (fun r57 => ?_)
              refine aw_icmp_ge (tgt := 180) dX5_splits_60 (by decide) (by have n1 := hw.1; have n2 := hw.2.1; omega) (by have n1 := hw.1; have n2 := hw.2.1; omega) (fun h60 => ?_) (fun h60 => ?_)
              · refine aw_iload_n dX5_splits_180 rfl rfl ?_
                exact aw_iret dX5_splits_181 rfl rfl (by decide) (by decide) ⟨blocks, rfl, (by exact ⟨fm, Or.inr (SPm_all (by omega) (by omega) f4 f5)⟩)⟩
              · have n2 := hw.2.1; have D := SPm_due hw f1.1 (by omega) (by omega) (G row f1.1 (by omega)) f4; have n3 := hw.2.2 row f1.1 (by omega); have kk : m1 31 0 row = M 31 0 row := (by rw [k31])
                refine aw_aload_n dX5_splits_63 rfl rfl ?_
                refine aw_getr (g := 30) rfl rfl ly_X5 rfl (k := 14) dX5_splits_64 (by decide) fl_X5_37 rfl ?_
                refine aw_iload dX5_splits_67 rfl ?_
                refine aw_iload_n dX5_splits_69 rfl rfl ?_
                refine aw_iload dX5_splits_70 rfl ?_
                refine aw_cSi (As := [iV (row), iV (lef), iV (rest)]) (rest := [rV K 40 0]) (c_X5_place hst m1 (row) (lef) (rest) (by have n1 := hw.1; have n2 := hw.2.1; omega) (by have n1 := hw.1; have n2 := hw.2.1; omega) (by have n1 := hw.1; have n2 := hw.2.1; omega)) cs_X5_place dX5_splits_72 ml_X5_122 rfl rfl (Nat.le_of_ble_eq_true rfl) (by decide) rfl rfl (by decide) ?_
                refine aw_iald (g := 40) (n := 17069) rfl (by decide) dX5_splits_75 (by decide) (by show 0 ≤ ((13 * row + lef) * 101 + rest) ∧ ((13 * row + lef) * 101 + rest) < (17069 : Int); have n1 := hw.1; have n2 := hw.2.1; omega) (fun r75 => ?_)
                refine aw_istore (L2 := [some (rV K 30 0), some (iV (people)), some (iV (blocks)), some (iV (lef)), some (iV (rest)), some (iV (row)), some (iV (m1 40 0 ((13 * row + lef) * 101 + rest))), none]) dX5_splits_76 (by decide) rfl ?_
                refine aw_iload_n dX5_splits_78 rfl rfl ?_
                refine aw_if_ne (tgt := 86) dX5_splits_79 (by decide) (by have n1 := hw.1; have n2 := hw.2.1; omega) (fun h79 => ?_) (fun h79 => ?_)
                · refine aw_iload dX5_splits_86 rfl ?_
                  refine aw_aload_n dX5_splits_88 rfl rfl ?_
                  refine aw_getr (g := 30) rfl rfl ly_X5 rfl (k := 4) dX5_splits_89 (by decide) fl_X5_7 rfl ?_
                  refine aw_iload dX5_splits_92 rfl ?_
                  refine aw_iald (g := 31) (n := 12) rfl (by decide) dX5_splits_94 (by decide) (by show 0 ≤ row ∧ row < (12 : Int); have n1 := hw.1; have n2 := hw.2.1; omega) (fun r94 => ?_)
                  refine aw_icmp_ge (tgt := 103) dX5_splits_95 (by decide) (by have n1 := hw.1; have n2 := hw.2.1; omega) (by have n1 := hw.1; have n2 := hw.2.1; omega) (fun h95 => ?_) (fun h95 => ?_)
                  · refine aw_aload_n dX5_splits_103 rfl rfl ?_
                    refine aw_getr (g := 30) rfl rfl ly_X5 rfl (k := 4) dX5_splits_104 (by decide) fl_X5_7 rfl ?_
                    refine aw_iload dX5_splits_107 rfl ?_
                    refine aw_iald (g := 31) (n := 12) rfl (by decide) dX5_splits_109 (by decide) (by show 0 ≤ row ∧ row < (12 : Int); have n1 := hw.1; have n2 := hw.2.1; omega) (fun r109 => ?_)
                    refine aw_istore (L2 := [some (rV K 30 0), some (iV (people)), some (iV (blocks)), some (iV (lef)), some (iV (rest)), some (iV (row)), some (iV (m1 40 0 ((13 * row + lef) * 101 + rest))), some (iV (m1 31 0 row))]) dX5_splits_110 (by decide) rfl ?_
                    have lp112 : ∀ (n112 : Nat) (seats : Int), (0 ≤ seats ∧ seats ≤ 20 ∧ seats ≤ rest ∧ (seats = 0 ∨ 1 ≤ lef)) → (∀ x : Int, 2 ≤ x → wkd M row rest lef (sp m1 row lef rest) x → x ≤ seats) → ((Int.toNat seats)) < n112 → AW K l iX5_splits (ZM K iX5_splits (rZm (fun z m => SFd M m ∧ ((z = 0 ∧ ∀ b v : Int, ¬ cD M 0 b people v) ∨ SPLd M m people z)))) 112 [some (rV K 30 0), some (iV (people)), some (iV (blocks)), some (iV (lef)), some (iV (rest)), some (iV (row)), some (iV (m1 40 0 ((13 * row + lef) * 101 + rest))), some (iV (seats))] [] (m1) 0 0 := by
                      intro n112
                      induction n112 with
                      | zero =>
                        intro seats j1 j2 hm112
                        exact absurd hm112 (Nat.not_lt_zero _)
                      | succ n112 ih112 =>
                        intro seats j1 j2 hm112
                        refine aw_iload dX5_splits_112 rfl ?_
                        refine aw_if_le (tgt := 145) dX5_splits_114 (by decide) (by have n1 := hw.1; have n2 := hw.2.1; omega) (fun h114 => ?_) (fun h114 => ?_)
                        · refine aw_aload_n dX5_splits_145 rfl rfl ?_
                          refine aw_getr (g := 30) rfl rfl ly_X5 rfl (k := 15) dX5_splits_146 (by decide) fl_X5_40 rfl ?_
                          refine aw_iload dX5_splits_149 rfl ?_
                          refine aw_iload dX5_splits_151 rfl ?_
                          refine aw_iast (g := 41) (n := 12) (M' := updM m1 41 0 row seats) rfl (by decide) dX5_splits_153 (by decide) (by show 0 ≤ row ∧ row < (12 : Int); have n1 := hw.1; have n2 := hw.2.1; omega) (by have n1 := hw.1; have n2 := hw.2.1; omega) rfl ?_
                          refine aw_iload_n dX5_splits_154 rfl rfl ?_
                          refine aw_iload dX5_splits_155 rfl ?_
                          refine aw_if_le (tgt := 164) dX5_splits_157 (by decide) (by have n1 := hw.1; have n2 := hw.2.1; omega) (fun h157 => ?_) (fun h157 => ?_)
                          · refine aw_iconst dX5_splits_164 ?_
                            refine aw_isub dX5_splits_165 ?_
                            refine aw_istore_n (L2 := [some (rV K 30 0), some (iV (people)), some (iV (blocks)), some (iV (lef - 0)), some (iV (rest)), some (iV (row)), some (iV (m1 40 0 ((13 * row + lef) * 101 + rest))), some (iV (seats))]) dX5_splits_166 rfl (by decide) rfl ?_
                            refine aw_iload dX5_splits_167 rfl ?_
                            refine aw_iload dX5_splits_169 rfl ?_
                            refine aw_isub dX5_splits_171 ?_
                            refine aw_istore (L2 := [some (rV K 30 0), some (iV (people)), some (iV (blocks)), some (iV (lef - 0)), some (iV (rest - seats)), some (iV (row)), some (iV (m1 40 0 ((13 * row + lef) * 101 + rest))), some (iV (seats))]) dX5_splits_172 (by decide) rfl ?_
                            refine aw_iinc (L2 := [some (rV K 30 0), some (iV (people)), some (iV (blocks)), some (iV (lef - 0)), some (iV (rest - seats)), some (iV (row + 1)), some (iV (m1 40 0 ((13 * row + lef) * 101 + rest))), some (iV (seats))]) dX5_splits_174 rfl (by decide) rfl ?_
                            refine aw_goto (tgt := 54) dX5_splits_177 (by decide) ?_
                            refine aw_weak (L' := [some (rV K 30 0), some (iV (people)), some (iV (blocks)), some (iV (lef - 0)), some (iV (rest - seats)), some (iV (row + 1)), none, none]) ⟨Or.inr rfl, Or.inr rfl, Or.inr rfl, Or.inr rfl, Or.inr rfl, Or.inr rfl, Or.inl rfl, Or.inl rfl, trivial⟩ ?_
                            exact ih54 (lef - 0) (rest - seats) (row + 1) (updM m1 41 0 row seats) (by have n1 := hw.1; have n2 := hw.2.1; omega) (by have n1 := hw.1; have n2 := hw.2.1; omega) (by intro g hg; rw [updM_g hg]; exact f3 g hg) (by exact f6) (by first | (exfalso; omega) | exact SPm_skip hw f1.1 (by omega) (by omega) (G row f1.1 (by omega)) f4 (by omega) (fun x x1 x2 => by have := j2 x x1 x2; omega) | exact SPm_take hw f1.1 (by omega) (by omega) (G row f1.1 (by omega)) f4 (by omega) (gi.mpr (by rcases gv with a | a; (have dd : ¬ sp m1 row lef rest = -1000000 := (fun q => by rcases D.1 with ⟨x, _⟩ | ⟨_, _, x, _⟩; omega; (have y := canI_bd (Vd_bd hw) f1.1 (by omega) hw.2.1 x; omega)); exact absurd (h136.symm.trans a.1) dd); exact ⟨a.1, a.2.1, a.2.2.symm.trans h136⟩)) j2) (by intro r r1 r2; by_cases e : r = row; (subst e; rw [updM_same]; omega); rw [updM_j e]; exact f5 r r1 (by omega)) (by omega)
                          · refine aw_iconst dX5_splits_160 ?_
                            refine aw_goto (tgt := 165) dX5_splits_161 (by decide) ?_
                            refine aw_isub dX5_splits_165 ?_
                            refine aw_istore_n (L2 := [some (rV K 30 0), some (iV (people)), some (iV (blocks)), some (iV (lef - 1)), some (iV (rest)), some (iV (row)), some (iV (m1 40 0 ((13 * row + lef) * 101 + rest))), some (iV (seats))]) dX5_splits_166 rfl (by decide) rfl ?_
                            refine aw_iload dX5_splits_167 rfl ?_
                            refine aw_iload dX5_splits_169 rfl ?_
                            refine aw_isub dX5_splits_171 ?_
                            refine aw_istore (L2 := [some (rV K 30 0), some (iV (people)), some (iV (blocks)), some (iV (lef - 1)), some (iV (rest - seats)), some (iV (row)), some (iV (m1 40 0 ((13 * row + lef) * 101 + rest))), some (iV (seats))]) dX5_splits_172 (by decide) rfl ?_
                            refine aw_iinc (L2 := [some (rV K 30 0), some (iV (people)), some (iV (blocks)), some (iV (lef - 1)), some (iV (rest - seats)), some (iV (row + 1)), some (iV (m1 40 0 ((13 * row + lef) * 101 + rest))), some (iV (seats))]) dX5_splits_174 rfl (by decide) rfl ?_
                            refine aw_goto (tgt := 54) dX5_splits_177 (by decide) ?_
                            refine aw_weak (L' := [some (rV K 30 0), some (iV (people)), some (iV (blocks)), some (iV (lef - 1)), some (iV (rest - seats)), some (iV (row + 1)), none, none]) ⟨Or.inr rfl, Or.inr rfl, Or.inr rfl, Or.inr rfl, Or.inr rfl, Or.inr rfl, Or.inl rfl, Or.inl rfl, trivial⟩ ?_
                            exact ih54 (lef - 1) (rest - seats) (row + 1) (updM m1 41 0 row seats) (by have n1 := hw.1; have n2 := hw.2.1; omega) (by have n1 := hw.1; have n2 := hw.2.1; omega) (by intro g hg; rw [updM_g hg]; exact f3 g hg) (by exact f6) (by first | (exfalso; omega) | exact SPm_skip hw f1.1 (by omega) (by omega) (G row f1.1 (by omega)) f4 (by omega) (fun x x1 x2 => by have := j2 x x1 x2; omega) | exact SPm_take hw f1.1 (by omega) (by omega) (G row f1.1 (by omega)) f4 (by omega) (gi.mpr (by rcases gv with a | a; (have dd : ¬ sp m1 row lef rest = -1000000 := (fun q => by rcases D.1 with ⟨x, _⟩ | ⟨_, _, x, _⟩; omega; (have y := canI_bd (Vd_bd hw) f1.1 (by omega) hw.2.1 x; omega)); exact absurd (h136.symm.trans a.1) dd); exact ⟨a.1, a.2.1, a.2.2.symm.trans h136⟩)) j2) (by intro r r1 r2; by_cases e : r = row; (subst e; rw [updM_same]; omega); rw [updM_j e]; exact f5 r r1 (by omega)) (by omega)
                        · refine aw_iload dX5_splits_117 rfl ?_
                          refine aw_iconst dX5_splits_119 ?_
                          refine aw_icmp_eq (tgt := 139) dX5_splits_120 (by decide) (by have n1 := hw.1; have n2 := hw.2.1; omega) (by have n1 := hw.1; have n2 := hw.2.1; omega) (fun h120 => ?_) (fun h120 => ?_)
                          · refine aw_iinc (L2 := [some (rV K 30 0), some (iV (people)), some (iV (blocks)), some (iV (lef)), some (iV (rest)), some (iV (row)), some (iV (m1 40 0 ((13 * row + lef) * 101 + rest))), some (iV (seats + (-1)))]) dX5_splits_139 rfl (by decide) rfl ?_
                            refine aw_goto (tgt := 112) dX5_splits_142 (by decide) ?_
                            exact ih112 (seats + (-1)) (by omega) (by intro x x1 x2; have q := j2 x x1 x2; first | omega | (by_cases e : x = seats; (subst e; exact absurd (gi.mp x2) (fun y => by rcases gv with a | a; (rcases a.2 with b | b; exact y.1 b; exact b y.2.1); exact h136 (by rw [a.2.2]; exact y.2.2))); omega)) (by omega)
                          · refine aw_aload_n dX5_splits_123 rfl rfl ?_
                            refine aw_iload dX5_splits_124 rfl ?_
                            refine aw_iload_n dX5_splits_126 rfl rfl ?_
                            refine aw_iload dX5_splits_127 rfl ?_
                            refine aw_iload dX5_splits_129 rfl ?_
                            refine aw_cVr (g := 30) (As := [iV (row), iV (lef), iV (rest), iV (seats)]) (rest := []) (c_X5_given hst m1 (row) (lef) (rest) (seats) (by have n1 := hw.1; have n2 := hw.2.1; omega) (by have n1 := hw.1; have n2 := hw.2.1; omega) (by have n1 := hw.1; have n2 := hw.2.1; omega) (by have n1 := hw.1; have n2 := hw.2.1; omega) (by exact HWm_f hw fm) (by have n1 := hw.1; have n2 := hw.2.1; omega) (by have n1 := hw.1; have n2 := hw.2.1; omega) (by have n1 := hw.1; have n2 := hw.2.1; omega) (by have n1 := hw.1; have n2 := hw.2.1; omega) (by exact (GF_m fm).mpr (G (row + 1) (by omega) (by omega)))) cv_X5_given dX5_splits_131 ml_X5_133 rfl rfl rfl rfl rfl (Nat.le_of_ble_eq_true rfl) (by decide) rfl rfl (by decide) (fun z131 (h131 : (z131 = -1000000 ∧ (sp m1 (row + 1) (lef - 1) (rest - seats) = -1000000 ∨ ¬ okd m1 row seats)) ∨ (sp m1 (row + 1) (lef - 1) (rest - seats) ≠ -1000000 ∧ okd m1 row seats ∧ z131 = sp m1 (row + 1) (lef - 1) (rest - seats) + Vd m1 row seats)) => ?_)
                            have gi := given_iff hw f1.1 (by omega) (show 0 ≤ rest ∧ rest ≤ 100 by omega) (show 1 ≤ lef ∧ lef ≤ 12 by omega) (show 2 ≤ seats ∧ seats ≤ rest by omega) (G (row + 1) (by omega) (by omega)) D.1; have gv := h131; rw [(cD_fr fm).1, (cD_fr fm).2.1] at gv; have gg := GF_bd hw (b := lef - 1) (p := rest - seats) (by omega) (by omega) (by omega) (by omega) (G (row + 1) (by omega) (by omega)); have gv2 : okd M row seats → -400 ≤ Vd M row seats ∧ Vd M row seats ≤ 20000 := Vd_bd hw row seats f1.1 (by omega) (by omega)
                            refine aw_iload dX5_splits_134 rfl ?_
                            refine aw_icmp_eq (tgt := 145) dX5_splits_136 (by decide) (by rcases gv with a | a; omega; (have q := gv2 a.2.1; have q2 := a.2.2; omega)) (by have n1 := hw.1; have n2 := hw.2.1; omega) (fun h136 => ?_) (fun h136 => ?_)
                            · refine aw_aload_n dX5_splits_145 rfl rfl ?_
                              refine aw_getr (g := 30) rfl rfl ly_X5 rfl (k := 15) dX5_splits_146 (by decide) fl_X5_40 rfl ?_
                              refine aw_iload dX5_splits_149 rfl ?_
                              refine aw_iload dX5_splits_151 rfl ?_
                              refine aw_iast (g := 41) (n := 12) (M' := updM m1 41 0 row seats) rfl (by decide) dX5_splits_153 (by decide) (by show 0 ≤ row ∧ row < (12 : Int); have n1 := hw.1; have n2 := hw.2.1; omega) (by have n1 := hw.1; have n2 := hw.2.1; omega) rfl ?_
                              refine aw_iload_n dX5_splits_154 rfl rfl ?_
                              refine aw_iload dX5_splits_155 rfl ?_
                              refine aw_if_le (tgt := 164) dX5_splits_157 (by decide) (by have n1 := hw.1; have n2 := hw.2.1; omega) (fun h157 => ?_) (fun h157 => ?_)
                              · refine aw_iconst dX5_splits_164 ?_
                                refine aw_isub dX5_splits_165 ?_
                                refine aw_istore_n (L2 := [some (rV K 30 0), some (iV (people)), some (iV (blocks)), some (iV (lef - 0)), some (iV (rest)), some (iV (row)), some (iV (m1 40 0 ((13 * row + lef) * 101 + rest))), some (iV (seats))]) dX5_splits_166 rfl (by decide) rfl ?_
                                refine aw_iload dX5_splits_167 rfl ?_
                                refine aw_iload dX5_splits_169 rfl ?_
                                refine aw_isub dX5_splits_171 ?_
                                refine aw_istore (L2 := [some (rV K 30 0), some (iV (people)), some (iV (blocks)), some (iV (lef - 0)), some (iV (rest - seats)), some (iV (row)), some (iV (m1 40 0 ((13 * row + lef) * 101 + rest))), some (iV (seats))]) dX5_splits_172 (by decide) rfl ?_
                                refine aw_iinc (L2 := [some (rV K 30 0), some (iV (people)), some (iV (blocks)), some (iV (lef - 0)), some (iV (rest - seats)), some (iV (row + 1)), some (iV (m1 40 0 ((13 * row + lef) * 101 + rest))), some (iV (seats))]) dX5_splits_174 rfl (by decide) rfl ?_
                                refine aw_goto (tgt := 54) dX5_splits_177 (by decide) ?_
                                refine aw_weak (L' := [some (rV K 30 0), some (iV (people)), some (iV (blocks)), some (iV (lef - 0)), some (iV (rest - seats)), some (iV (row + 1)), none, none]) ⟨Or.inr rfl, Or.inr rfl, Or.inr rfl, Or.inr rfl, Or.inr rfl, Or.inr rfl, Or.inl rfl, Or.inl rfl, trivial⟩ ?_
                                exact ih54 (lef - 0) (rest - seats) (row + 1) (updM m1 41 0 row seats) (by have n1 := hw.1; have n2 := hw.2.1; omega) (by have n1 := hw.1; have n2 := hw.2.1; omega) (by intro g hg; rw [updM_g hg]; exact f3 g hg) (by exact f6) (by first | (exfalso; omega) | exact SPm_skip hw f1.1 (by omega) (by omega) (G row f1.1 (by omega)) f4 (by omega) (fun x x1 x2 => by have := j2 x x1 x2; omega) | exact SPm_take hw f1.1 (by omega) (by omega) (G row f1.1 (by omega)) f4 (by omega) (gi.mpr (by rcases gv with a | a; (have dd : ¬ sp m1 row lef rest = -1000000 := (fun q => by rcases D.1 with ⟨x, _⟩ | ⟨_, _, x, _⟩; omega; (have y := canI_bd (Vd_bd hw) f1.1 (by omega) hw.2.1 x; omega)); exact absurd (h136.symm.trans a.1) dd); exact ⟨a.1, a.2.1, a.2.2.symm.trans h136⟩)) j2) (by intro r r1 r2; by_cases e : r = row; (subst e; rw [updM_same]; omega); rw [updM_j e]; exact f5 r r1 (by omega)) (by omega)
                              · refine aw_iconst dX5_splits_160 ?_
                                refine aw_goto (tgt := 165) dX5_splits_161 (by decide) ?_
                                refine aw_isub dX5_splits_165 ?_
                                refine aw_istore_n (L2 := [some (rV K 30 0), some (iV (people)), some (iV (blocks)), some (iV (lef - 1)), some (iV (rest)), some (iV (row)), some (iV (m1 40 0 ((13 * row + lef) * 101 + rest))), some (iV (seats))]) dX5_splits_166 rfl (by decide) rfl ?_
                                refine aw_iload dX5_splits_167 rfl ?_
                                refine aw_iload dX5_splits_169 rfl ?_
                                refine aw_isub dX5_splits_171 ?_
                                refine aw_istore (L2 := [some (rV K 30 0), some (iV (people)), some (iV (blocks)), some (iV (lef - 1)), some (iV (rest - seats)), some (iV (row)), some (iV (m1 40 0 ((13 * row + lef) * 101 + rest))), some (iV (seats))]) dX5_splits_172 (by decide) rfl ?_
                                refine aw_iinc (L2 := [some (rV K 30 0), some (iV (people)), some (iV (blocks)), some (iV (lef - 1)), some (iV (rest - seats)), some (iV (row + 1)), some (iV (m1 40 0 ((13 * row + lef) * 101 + rest))), some (iV (seats))]) dX5_splits_174 rfl (by decide) rfl ?_
                                refine aw_goto (tgt := 54) dX5_splits_177 (by decide) ?_
                                refine aw_weak (L' := [some (rV K 30 0), some (iV (people)), some (iV (blocks)), some (iV (lef - 1)), some (iV (rest - seats)), some (iV (row + 1)), none, none]) ⟨Or.inr rfl, Or.inr rfl, Or.inr rfl, Or.inr rfl, Or.inr rfl, Or.inr rfl, Or.inl rfl, Or.inl rfl, trivial⟩ ?_
                                exact ih54 (lef - 1) (rest - seats) (row + 1) (updM m1 41 0 row seats) (by have n1 := hw.1; have n2 := hw.2.1; omega) (by have n1 := hw.1; have n2 := hw.2.1; omega) (by intro g hg; rw [updM_g hg]; exact f3 g hg) (by exact f6) (by first | (exfalso; omega) | exact SPm_skip hw f1.1 (by omega) (by omega) (G row f1.1 (by omega)) f4 (by omega) (fun x x1 x2 => by have := j2 x x1 x2; omega) | exact SPm_take hw f1.1 (by omega) (by omega) (G row f1.1 (by omega)) f4 (by omega) (gi.mpr (by rcases gv with a | a; (have dd : ¬ sp m1 row lef rest = -1000000 := (fun q => by rcases D.1 with ⟨x, _⟩ | ⟨_, _, x, _⟩; omega; (have y := canI_bd (Vd_bd hw) f1.1 (by omega) hw.2.1 x; omega)); exact absurd (h136.symm.trans a.1) dd); exact ⟨a.1, a.2.1, a.2.2.symm.trans h136⟩)) j2) (by intro r r1 r2; by_cases e : r = row; (subst e; rw [updM_same]; omega); rw [updM_j e]; exact f5 r r1 (by omega)) (by omega)
                            · refine aw_iinc (L2 := [some (rV K 30 0), some (iV (people)), some (iV (blocks)), some (iV (lef)), some (iV (rest)), some (iV (row)), some (iV (m1 40 0 ((13 * row + lef) * 101 + rest))), some (iV (seats + (-1)))]) dX5_splits_139 rfl (by decide) rfl ?_
                              refine aw_goto (tgt := 112) dX5_splits_142 (by decide) ?_
                              exact ih112 (seats + (-1)) (by omega) (by intro x x1 x2; have q := j2 x x1 x2; first | omega | (by_cases e : x = seats; (subst e; exact absurd (gi.mp x2) (fun y => by rcases gv with a | a; (rcases a.2 with b | b; exact y.1 b; exact b y.2.1); exact h136 (by rw [a.2.2]; exact y.2.2))); omega)) (by omega)
                    exact lp112 (((Int.toNat (m1 31 0 row))) + 1) (m1 31 0 row) (by first | omega | (have n3 := hw.2.2 row (by omega) (by omega); omega)) (by intro x x1 x2; have bd := canI_bd (Vd_bd hw) (by omega) (by omega) hw.2.1 x2.2; have bl := okd_le x2.1; have kk : m1 31 0 row = M 31 0 row := (by rw [k31]); omega) (Nat.lt_succ_self _)
                  · refine aw_iload dX5_splits_98 rfl ?_
                    refine aw_goto (tgt := 110) dX5_splits_100 (by decide) ?_
                    refine aw_istore (L2 := [some (rV K 30 0), some (iV (people)), some (iV (blocks)), some (iV (lef)), some (iV (rest)), some (iV (row)), some (iV (m1 40 0 ((13 * row + lef) * 101 + rest))), some (iV (rest))]) dX5_splits_110 (by decide) rfl ?_
                    have lp112 : ∀ (n112 : Nat) (seats : Int), (0 ≤ seats ∧ seats ≤ 20 ∧ seats ≤ rest ∧ (seats = 0 ∨ 1 ≤ lef)) → (∀ x : Int, 2 ≤ x → wkd M row rest lef (sp m1 row lef rest) x → x ≤ seats) → ((Int.toNat seats)) < n112 → AW K l iX5_splits (ZM K iX5_splits (rZm (fun z m => SFd M m ∧ ((z = 0 ∧ ∀ b v : Int, ¬ cD M 0 b people v) ∨ SPLd M m people z)))) 112 [some (rV K 30 0), some (iV (people)), some (iV (blocks)), some (iV (lef)), some (iV (rest)), some (iV (row)), some (iV (m1 40 0 ((13 * row + lef) * 101 + rest))), some (iV (seats))] [] (m1) 0 0 := by
                      intro n112
                      induction n112 with
                      | zero =>
                        intro seats j1 j2 hm112
                        exact absurd hm112 (Nat.not_lt_zero _)
                      | succ n112 ih112 =>
                        intro seats j1 j2 hm112
                        refine aw_iload dX5_splits_112 rfl ?_
                        refine aw_if_le (tgt := 145) dX5_splits_114 (by decide) (by have n1 := hw.1; have n2 := hw.2.1; omega) (fun h114 => ?_) (fun h114 => ?_)
                        · refine aw_aload_n dX5_splits_145 rfl rfl ?_
                          refine aw_getr (g := 30) rfl rfl ly_X5 rfl (k := 15) dX5_splits_146 (by decide) fl_X5_40 rfl ?_
                          refine aw_iload dX5_splits_149 rfl ?_
                          refine aw_iload dX5_splits_151 rfl ?_
                          refine aw_iast (g := 41) (n := 12) (M' := updM m1 41 0 row seats) rfl (by decide) dX5_splits_153 (by decide) (by show 0 ≤ row ∧ row < (12 : Int); have n1 := hw.1; have n2 := hw.2.1; omega) (by have n1 := hw.1; have n2 := hw.2.1; omega) rfl ?_
                          refine aw_iload_n dX5_splits_154 rfl rfl ?_
                          refine aw_iload dX5_splits_155 rfl ?_
                          refine aw_if_le (tgt := 164) dX5_splits_157 (by decide) (by have n1 := hw.1; have n2 := hw.2.1; omega) (fun h157 => ?_) (fun h157 => ?_)
                          · refine aw_iconst dX5_splits_164 ?_
                            refine aw_isub dX5_splits_165 ?_
                            refine aw_istore_n (L2 := [some (rV K 30 0), some (iV (people)), some (iV (blocks)), some (iV (lef - 0)), some (iV (rest)), some (iV (row)), some (iV (m1 40 0 ((13 * row + lef) * 101 + rest))), some (iV (seats))]) dX5_splits_166 rfl (by decide) rfl ?_
                            refine aw_iload dX5_splits_167 rfl ?_
                            refine aw_iload dX5_splits_169 rfl ?_
                            refine aw_isub dX5_splits_171 ?_
                            refine aw_istore (L2 := [some (rV K 30 0), some (iV (people)), some (iV (blocks)), some (iV (lef - 0)), some (iV (rest - seats)), some (iV (row)), some (iV (m1 40 0 ((13 * row + lef) * 101 + rest))), some (iV (seats))]) dX5_splits_172 (by decide) rfl ?_
                            refine aw_iinc (L2 := [some (rV K 30 0), some (iV (people)), some (iV (blocks)), some (iV (lef - 0)), some (iV (rest - seats)), some (iV (row + 1)), some (iV (m1 40 0 ((13 * row + lef) * 101 + rest))), some (iV (seats))]) dX5_splits_174 rfl (by decide) rfl ?_
                            refine aw_goto (tgt := 54) dX5_splits_177 (by decide) ?_
                            refine aw_weak (L' := [some (rV K 30 0), some (iV (people)), some (iV (blocks)), some (iV (lef - 0)), some (iV (rest - seats)), some (iV (row + 1)), none, none]) ⟨Or.inr rfl, Or.inr rfl, Or.inr rfl, Or.inr rfl, Or.inr rfl, Or.inr rfl, Or.inl rfl, Or.inl rfl, trivial⟩ ?_
                            exact ih54 (lef - 0) (rest - seats) (row + 1) (updM m1 41 0 row seats) (by have n1 := hw.1; have n2 := hw.2.1; omega) (by have n1 := hw.1; have n2 := hw.2.1; omega) (by intro g hg; rw [updM_g hg]; exact f3 g hg) (by exact f6) (by first | (exfalso; omega) | exact SPm_skip hw f1.1 (by omega) (by omega) (G row f1.1 (by omega)) f4 (by omega) (fun x x1 x2 => by have := j2 x x1 x2; omega) | exact SPm_take hw f1.1 (by omega) (by omega) (G row f1.1 (by omega)) f4 (by omega) (gi.mpr (by rcases gv with a | a; (have dd : ¬ sp m1 row lef rest = -1000000 := (fun q => by rcases D.1 with ⟨x, _⟩ | ⟨_, _, x, _⟩; omega; (have y := canI_bd (Vd_bd hw) f1.1 (by omega) hw.2.1 x; omega)); exact absurd (h136.symm.trans a.1) dd); exact ⟨a.1, a.2.1, a.2.2.symm.trans h136⟩)) j2) (by intro r r1 r2; by_cases e : r = row; (subst e; rw [updM_same]; omega); rw [updM_j e]; exact f5 r r1 (by omega)) (by omega)
                          · refine aw_iconst dX5_splits_160 ?_
                            refine aw_goto (tgt := 165) dX5_splits_161 (by decide) ?_
                            refine aw_isub dX5_splits_165 ?_
                            refine aw_istore_n (L2 := [some (rV K 30 0), some (iV (people)), some (iV (blocks)), some (iV (lef - 1)), some (iV (rest)), some (iV (row)), some (iV (m1 40 0 ((13 * row + lef) * 101 + rest))), some (iV (seats))]) dX5_splits_166 rfl (by decide) rfl ?_
                            refine aw_iload dX5_splits_167 rfl ?_
                            refine aw_iload dX5_splits_169 rfl ?_
                            refine aw_isub dX5_splits_171 ?_
                            refine aw_istore (L2 := [some (rV K 30 0), some (iV (people)), some (iV (blocks)), some (iV (lef - 1)), some (iV (rest - seats)), some (iV (row)), some (iV (m1 40 0 ((13 * row + lef) * 101 + rest))), some (iV (seats))]) dX5_splits_172 (by decide) rfl ?_
                            refine aw_iinc (L2 := [some (rV K 30 0), some (iV (people)), some (iV (blocks)), some (iV (lef - 1)), some (iV (rest - seats)), some (iV (row + 1)), some (iV (m1 40 0 ((13 * row + lef) * 101 + rest))), some (iV (seats))]) dX5_splits_174 rfl (by decide) rfl ?_
                            refine aw_goto (tgt := 54) dX5_splits_177 (by decide) ?_
                            refine aw_weak (L' := [some (rV K 30 0), some (iV (people)), some (iV (blocks)), some (iV (lef - 1)), some (iV (rest - seats)), some (iV (row + 1)), none, none]) ⟨Or.inr rfl, Or.inr rfl, Or.inr rfl, Or.inr rfl, Or.inr rfl, Or.inr rfl, Or.inl rfl, Or.inl rfl, trivial⟩ ?_
                            exact ih54 (lef - 1) (rest - seats) (row + 1) (updM m1 41 0 row seats) (by have n1 := hw.1; have n2 := hw.2.1; omega) (by have n1 := hw.1; have n2 := hw.2.1; omega) (by intro g hg; rw [updM_g hg]; exact f3 g hg) (by exact f6) (by first | (exfalso; omega) | exact SPm_skip hw f1.1 (by omega) (by omega) (G row f1.1 (by omega)) f4 (by omega) (fun x x1 x2 => by have := j2 x x1 x2; omega) | exact SPm_take hw f1.1 (by omega) (by omega) (G row f1.1 (by omega)) f4 (by omega) (gi.mpr (by rcases gv with a | a; (have dd : ¬ sp m1 row lef rest = -1000000 := (fun q => by rcases D.1 with ⟨x, _⟩ | ⟨_, _, x, _⟩; omega; (have y := canI_bd (Vd_bd hw) f1.1 (by omega) hw.2.1 x; omega)); exact absurd (h136.symm.trans a.1) dd); exact ⟨a.1, a.2.1, a.2.2.symm.trans h136⟩)) j2) (by intro r r1 r2; by_cases e : r = row; (subst e; rw [updM_same]; omega); rw [updM_j e]; exact f5 r r1 (by omega)) (by omega)
                        · refine aw_iload dX5_splits_117 rfl ?_
                          refine aw_iconst dX5_splits_119 ?_
                          refine aw_icmp_eq (tgt := 139) dX5_splits_120 (by decide) (by have n1 := hw.1; have n2 := hw.2.1; omega) (by have n1 := hw.1; have n2 := hw.2.1; omega) (fun h120 => ?_) (fun h120 => ?_)
                          · refine aw_iinc (L2 := [some (rV K 30 0), some (iV (people)), some (iV (blocks)), some (iV (lef)), some (iV (rest)), some (iV (row)), some (iV (m1 40 0 ((13 * row + lef) * 101 + rest))), some (iV (seats + (-1)))]) dX5_splits_139 rfl (by decide) rfl ?_
                            refine aw_goto (tgt := 112) dX5_splits_142 (by decide) ?_
                            exact ih112 (seats + (-1)) (by omega) (by intro x x1 x2; have q := j2 x x1 x2; first | omega | (by_cases e : x = seats; (subst e; exact absurd (gi.mp x2) (fun y => by rcases gv with a | a; (rcases a.2 with b | b; exact y.1 b; exact b y.2.1); exact h136 (by rw [a.2.2]; exact y.2.2))); omega)) (by omega)
                          · refine aw_aload_n dX5_splits_123 rfl rfl ?_
                            refine aw_iload dX5_splits_124 rfl ?_
                            refine aw_iload_n dX5_splits_126 rfl rfl ?_
                            refine aw_iload dX5_splits_127 rfl ?_
                            refine aw_iload dX5_splits_129 rfl ?_
                            refine aw_cVr (g := 30) (As := [iV (row), iV (lef), iV (rest), iV (seats)]) (rest := []) (c_X5_given hst m1 (row) (lef) (rest) (seats) (by have n1 := hw.1; have n2 := hw.2.1; omega) (by have n1 := hw.1; have n2 := hw.2.1; omega) (by have n1 := hw.1; have n2 := hw.2.1; omega) (by have n1 := hw.1; have n2 := hw.2.1; omega) (by exact HWm_f hw fm) (by have n1 := hw.1; have n2 := hw.2.1; omega) (by have n1 := hw.1; have n2 := hw.2.1; omega) (by have n1 := hw.1; have n2 := hw.2.1; omega) (by have n1 := hw.1; have n2 := hw.2.1; omega) (by exact (GF_m fm).mpr (G (row + 1) (by omega) (by omega)))) cv_X5_given dX5_splits_131 ml_X5_133 rfl rfl rfl rfl rfl (Nat.le_of_ble_eq_true rfl) (by decide) rfl rfl (by decide) (fun z131 (h131 : (z131 = -1000000 ∧ (sp m1 (row + 1) (lef - 1) (rest - seats) = -1000000 ∨ ¬ okd m1 row seats)) ∨ (sp m1 (row + 1) (lef - 1) (rest - seats) ≠ -1000000 ∧ okd m1 row seats ∧ z131 = sp m1 (row + 1) (lef - 1) (rest - seats) + Vd m1 row seats)) => ?_)
                            have gi := given_iff hw f1.1 (by omega) (show 0 ≤ rest ∧ rest ≤ 100 by omega) (show 1 ≤ lef ∧ lef ≤ 12 by omega) (show 2 ≤ seats ∧ seats ≤ rest by omega) (G (row + 1) (by omega) (by omega)) D.1; have gv := h131; rw [(cD_fr fm).1, (cD_fr fm).2.1] at gv; have gg := GF_bd hw (b := lef - 1) (p := rest - seats) (by omega) (by omega) (by omega) (by omega) (G (row + 1) (by omega) (by omega)); have gv2 : okd M row seats → -400 ≤ Vd M row seats ∧ Vd M row seats ≤ 20000 := Vd_bd hw row seats f1.1 (by omega) (by omega)
                            refine aw_iload dX5_splits_134 rfl ?_
                            refine aw_icmp_eq (tgt := 145) dX5_splits_136 (by decide) (by rcases gv with a | a; omega; (have q := gv2 a.2.1; have q2 := a.2.2; omega)) (by have n1 := hw.1; have n2 := hw.2.1; omega) (fun h136 => ?_) (fun h136 => ?_)
                            · refine aw_aload_n dX5_splits_145 rfl rfl ?_
                              refine aw_getr (g := 30) rfl rfl ly_X5 rfl (k := 15) dX5_splits_146 (by decide) fl_X5_40 rfl ?_
                              refine aw_iload dX5_splits_149 rfl ?_
                              refine aw_iload dX5_splits_151 rfl ?_
                              refine aw_iast (g := 41) (n := 12) (M' := updM m1 41 0 row seats) rfl (by decide) dX5_splits_153 (by decide) (by show 0 ≤ row ∧ row < (12 : Int); have n1 := hw.1; have n2 := hw.2.1; omega) (by have n1 := hw.1; have n2 := hw.2.1; omega) rfl ?_
                              refine aw_iload_n dX5_splits_154 rfl rfl ?_
                              refine aw_iload dX5_splits_155 rfl ?_
                              refine aw_if_le (tgt := 164) dX5_splits_157 (by decide) (by have n1 := hw.1; have n2 := hw.2.1; omega) (fun h157 => ?_) (fun h157 => ?_)
                              · refine aw_iconst dX5_splits_164 ?_
                                refine aw_isub dX5_splits_165 ?_
                                refine aw_istore_n (L2 := [some (rV K 30 0), some (iV (people)), some (iV (blocks)), some (iV (lef - 0)), some (iV (rest)), some (iV (row)), some (iV (m1 40 0 ((13 * row + lef) * 101 + rest))), some (iV (seats))]) dX5_splits_166 rfl (by decide) rfl ?_
                                refine aw_iload dX5_splits_167 rfl ?_
                                refine aw_iload dX5_splits_169 rfl ?_
                                refine aw_isub dX5_splits_171 ?_
                                refine aw_istore (L2 := [some (rV K 30 0), some (iV (people)), some (iV (blocks)), some (iV (lef - 0)), some (iV (rest - seats)), some (iV (row)), some (iV (m1 40 0 ((13 * row + lef) * 101 + rest))), some (iV (seats))]) dX5_splits_172 (by decide) rfl ?_
                                refine aw_iinc (L2 := [some (rV K 30 0), some (iV (people)), some (iV (blocks)), some (iV (lef - 0)), some (iV (rest - seats)), some (iV (row + 1)), some (iV (m1 40 0 ((13 * row + lef) * 101 + rest))), some (iV (seats))]) dX5_splits_174 rfl (by decide) rfl ?_
                                refine aw_goto (tgt := 54) dX5_splits_177 (by decide) ?_
                                refine aw_weak (L' := [some (rV K 30 0), some (iV (people)), some (iV (blocks)), some (iV (lef - 0)), some (iV (rest - seats)), some (iV (row + 1)), none, none]) ⟨Or.inr rfl, Or.inr rfl, Or.inr rfl, Or.inr rfl, Or.inr rfl, Or.inr rfl, Or.inl rfl, Or.inl rfl, trivial⟩ ?_
                                exact ih54 (lef - 0) (rest - seats) (row + 1) (updM m1 41 0 row seats) (by have n1 := hw.1; have n2 := hw.2.1; omega) (by have n1 := hw.1; have n2 := hw.2.1; omega) (by intro g hg; rw [updM_g hg]; exact f3 g hg) (by exact f6) (by first | (exfalso; omega) | exact SPm_skip hw f1.1 (by omega) (by omega) (G row f1.1 (by omega)) f4 (by omega) (fun x x1 x2 => by have := j2 x x1 x2; omega) | exact SPm_take hw f1.1 (by omega) (by omega) (G row f1.1 (by omega)) f4 (by omega) (gi.mpr (by rcases gv with a | a; (have dd : ¬ sp m1 row lef rest = -1000000 := (fun q => by rcases D.1 with ⟨x, _⟩ | ⟨_, _, x, _⟩; omega; (have y := canI_bd (Vd_bd hw) f1.1 (by omega) hw.2.1 x; omega)); exact absurd (h136.symm.trans a.1) dd); exact ⟨a.1, a.2.1, a.2.2.symm.trans h136⟩)) j2) (by intro r r1 r2; by_cases e : r = row; (subst e; rw [updM_same]; omega); rw [updM_j e]; exact f5 r r1 (by omega)) (by omega)
                              · refine aw_iconst dX5_splits_160 ?_
                                refine aw_goto (tgt := 165) dX5_splits_161 (by decide) ?_
                                refine aw_isub dX5_splits_165 ?_
                                refine aw_istore_n (L2 := [some (rV K 30 0), some (iV (people)), some (iV (blocks)), some (iV (lef - 1)), some (iV (rest)), some (iV (row)), some (iV (m1 40 0 ((13 * row + lef) * 101 + rest))), some (iV (seats))]) dX5_splits_166 rfl (by decide) rfl ?_
                                refine aw_iload dX5_splits_167 rfl ?_
                                refine aw_iload dX5_splits_169 rfl ?_
                                refine aw_isub dX5_splits_171 ?_
                                refine aw_istore (L2 := [some (rV K 30 0), some (iV (people)), some (iV (blocks)), some (iV (lef - 1)), some (iV (rest - seats)), some (iV (row)), some (iV (m1 40 0 ((13 * row + lef) * 101 + rest))), some (iV (seats))]) dX5_splits_172 (by decide) rfl ?_
                                refine aw_iinc (L2 := [some (rV K 30 0), some (iV (people)), some (iV (blocks)), some (iV (lef - 1)), some (iV (rest - seats)), some (iV (row + 1)), some (iV (m1 40 0 ((13 * row + lef) * 101 + rest))), some (iV (seats))]) dX5_splits_174 rfl (by decide) rfl ?_
                                refine aw_goto (tgt := 54) dX5_splits_177 (by decide) ?_
                                refine aw_weak (L' := [some (rV K 30 0), some (iV (people)), some (iV (blocks)), some (iV (lef - 1)), some (iV (rest - seats)), some (iV (row + 1)), none, none]) ⟨Or.inr rfl, Or.inr rfl, Or.inr rfl, Or.inr rfl, Or.inr rfl, Or.inr rfl, Or.inl rfl, Or.inl rfl, trivial⟩ ?_
                                exact ih54 (lef - 1) (rest - seats) (row + 1) (updM m1 41 0 row seats) (by have n1 := hw.1; have n2 := hw.2.1; omega) (by have n1 := hw.1; have n2 := hw.2.1; omega) (by intro g hg; rw [updM_g hg]; exact f3 g hg) (by exact f6) (by first | (exfalso; omega) | exact SPm_skip hw f1.1 (by omega) (by omega) (G row f1.1 (by omega)) f4 (by omega) (fun x x1 x2 => by have := j2 x x1 x2; omega) | exact SPm_take hw f1.1 (by omega) (by omega) (G row f1.1 (by omega)) f4 (by omega) (gi.mpr (by rcases gv with a | a; (have dd : ¬ sp m1 row lef rest = -1000000 := (fun q => by rcases D.1 with ⟨x, _⟩ | ⟨_, _, x, _⟩; omega; (have y := canI_bd (Vd_bd hw) f1.1 (by omega) hw.2.1 x; omega)); exact absurd (h136.symm.trans a.1) dd); exact ⟨a.1, a.2.1, a.2.2.symm.trans h136⟩)) j2) (by intro r r1 r2; by_cases e : r = row; (subst e; rw [updM_same]; omega); rw [updM_j e]; exact f5 r r1 (by omega)) (by omega)
                            · refine aw_iinc (L2 := [some (rV K 30 0), some (iV (people)), some (iV (blocks)), some (iV (lef)), some (iV (rest)), some (iV (row)), some (iV (m1 40 0 ((13 * row + lef) * 101 + rest))), some (iV (seats + (-1)))]) dX5_splits_139 rfl (by decide) rfl ?_
                              refine aw_goto (tgt := 112) dX5_splits_142 (by decide) ?_
                              exact ih112 (seats + (-1)) (by omega) (by intro x x1 x2; have q := j2 x x1 x2; first | omega | (by_cases e : x = seats; (subst e; exact absurd (gi.mp x2) (fun y => by rcases gv with a | a; (rcases a.2 with b | b; exact y.1 b; exact b y.2.1); exact h136 (by rw [a.2.2]; exact y.2.2))); omega)) (by omega)
                    exact lp112 (((Int.toNat rest)) + 1) (rest) (by first | omega | (have n3 := hw.2.2 row (by omega) (by omega); omega)) (by intro x x1 x2; have bd := canI_bd (Vd_bd hw) (by omega) (by omega) hw.2.1 x2.2; have bl := okd_le x2.1; have kk : m1 31 0 row = M 31 0 row := (by rw [k31]); omega) (Nat.lt_succ_self _)
                · refine aw_iconst dX5_splits_82 ?_
                  refine aw_goto (tgt := 110) dX5_splits_83 (by decide) ?_
                  refine aw_istore (L2 := [some (rV K 30 0), some (iV (people)), some (iV (blocks)), some (iV (lef)), some (iV (rest)), some (iV (row)), some (iV (m1 40 0 ((13 * row + lef) * 101 + rest))), some (iV 0)]) dX5_splits_110 (by decide) rfl ?_
                  have lp112 : ∀ (n112 : Nat) (seats : Int), (0 ≤ seats ∧ seats ≤ 20 ∧ seats ≤ rest ∧ (seats = 0 ∨ 1 ≤ lef)) → (∀ x : Int, 2 ≤ x → wkd M row rest lef (sp m1 row lef rest) x → x ≤ seats) → ((Int.toNat seats)) < n112 → AW K l iX5_splits (ZM K iX5_splits (rZm (fun z m => SFd M m ∧ ((z = 0 ∧ ∀ b v : Int, ¬ cD M 0 b people v) ∨ SPLd M m people z)))) 112 [some (rV K 30 0), some (iV (people)), some (iV (blocks)), some (iV (lef)), some (iV (rest)), some (iV (row)), some (iV (m1 40 0 ((13 * row + lef) * 101 + rest))), some (iV (seats))] [] (m1) 0 0 := by
                    intro n112
                    induction n112 with
                    | zero =>
                      intro seats j1 j2 hm112
                      exact absurd hm112 (Nat.not_lt_zero _)
                    | succ n112 ih112 =>
                      intro seats j1 j2 hm112
                      refine aw_iload dX5_splits_112 rfl ?_
                      refine aw_if_le (tgt := 145) dX5_splits_114 (by decide) (by have n1 := hw.1; have n2 := hw.2.1; omega) (fun h114 => ?_) (fun h114 => ?_)
                      · refine aw_aload_n dX5_splits_145 rfl rfl ?_
                        refine aw_getr (g := 30) rfl rfl ly_X5 rfl (k := 15) dX5_splits_146 (by decide) fl_X5_40 rfl ?_
                        refine aw_iload dX5_splits_149 rfl ?_
                        refine aw_iload dX5_splits_151 rfl ?_
                        refine aw_iast (g := 41) (n := 12) (M' := updM m1 41 0 row seats) rfl (by decide) dX5_splits_153 (by decide) (by show 0 ≤ row ∧ row < (12 : Int); have n1 := hw.1; have n2 := hw.2.1; omega) (by have n1 := hw.1; have n2 := hw.2.1; omega) rfl ?_
                        refine aw_iload_n dX5_splits_154 rfl rfl ?_
                        refine aw_iload dX5_splits_155 rfl ?_
                        refine aw_if_le (tgt := 164) dX5_splits_157 (by decide) (by have n1 := hw.1; have n2 := hw.2.1; omega) (fun h157 => ?_) (fun h157 => ?_)
                        · refine aw_iconst dX5_splits_164 ?_
                          refine aw_isub dX5_splits_165 ?_
                          refine aw_istore_n (L2 := [some (rV K 30 0), some (iV (people)), some (iV (blocks)), some (iV (lef - 0)), some (iV (rest)), some (iV (row)), some (iV (m1 40 0 ((13 * row + lef) * 101 + rest))), some (iV (seats))]) dX5_splits_166 rfl (by decide) rfl ?_
                          refine aw_iload dX5_splits_167 rfl ?_
                          refine aw_iload dX5_splits_169 rfl ?_
                          refine aw_isub dX5_splits_171 ?_
                          refine aw_istore (L2 := [some (rV K 30 0), some (iV (people)), some (iV (blocks)), some (iV (lef - 0)), some (iV (rest - seats)), some (iV (row)), some (iV (m1 40 0 ((13 * row + lef) * 101 + rest))), some (iV (seats))]) dX5_splits_172 (by decide) rfl ?_
                          refine aw_iinc (L2 := [some (rV K 30 0), some (iV (people)), some (iV (blocks)), some (iV (lef - 0)), some (iV (rest - seats)), some (iV (row + 1)), some (iV (m1 40 0 ((13 * row + lef) * 101 + rest))), some (iV (seats))]) dX5_splits_174 rfl (by decide) rfl ?_
                          refine aw_goto (tgt := 54) dX5_splits_177 (by decide) ?_
                          refine aw_weak (L' := [some (rV K 30 0), some (iV (people)), some (iV (blocks)), some (iV (lef - 0)), some (iV (rest - seats)), some (iV (row + 1)), none, none]) ⟨Or.inr rfl, Or.inr rfl, Or.inr rfl, Or.inr rfl, Or.inr rfl, Or.inr rfl, Or.inl rfl, Or.inl rfl, trivial⟩ ?_
                          exact ih54 (lef - 0) (rest - seats) (row + 1) (updM m1 41 0 row seats) (by have n1 := hw.1; have n2 := hw.2.1; omega) (by have n1 := hw.1; have n2 := hw.2.1; omega) (by intro g hg; rw [updM_g hg]; exact f3 g hg) (by exact f6) (by first | (exfalso; omega) | exact SPm_skip hw f1.1 (by omega) (by omega) (G row f1.1 (by omega)) f4 (by omega) (fun x x1 x2 => by have := j2 x x1 x2; omega) | exact SPm_take hw f1.1 (by omega) (by omega) (G row f1.1 (by omega)) f4 (by omega) (gi.mpr (by rcases gv with a | a; (have dd : ¬ sp m1 row lef rest = -1000000 := (fun q => by rcases D.1 with ⟨x, _⟩ | ⟨_, _, x, _⟩; omega; (have y := canI_bd (Vd_bd hw) f1.1 (by omega) hw.2.1 x; omega)); exact absurd (h136.symm.trans a.1) dd); exact ⟨a.1, a.2.1, a.2.2.symm.trans h136⟩)) j2) (by intro r r1 r2; by_cases e : r = row; (subst e; rw [updM_same]; omega); rw [updM_j e]; exact f5 r r1 (by omega)) (by omega)
                        · refine aw_iconst dX5_splits_160 ?_
                          refine aw_goto (tgt := 165) dX5_splits_161 (by decide) ?_
                          refine aw_isub dX5_splits_165 ?_
                          refine aw_istore_n (L2 := [some (rV K 30 0), some (iV (people)), some (iV (blocks)), some (iV (lef - 1)), some (iV (rest)), some (iV (row)), some (iV (m1 40 0 ((13 * row + lef) * 101 + rest))), some (iV (seats))]) dX5_splits_166 rfl (by decide) rfl ?_
                          refine aw_iload dX5_splits_167 rfl ?_
                          refine aw_iload dX5_splits_169 rfl ?_
                          refine aw_isub dX5_splits_171 ?_
                          refine aw_istore (L2 := [some (rV K 30 0), some (iV (people)), some (iV (blocks)), some (iV (lef - 1)), some (iV (rest - seats)), some (iV (row)), some (iV (m1 40 0 ((13 * row + lef) * 101 + rest))), some (iV (seats))]) dX5_splits_172 (by decide) rfl ?_
                          refine aw_iinc (L2 := [some (rV K 30 0), some (iV (people)), some (iV (blocks)), some (iV (lef - 1)), some (iV (rest - seats)), some (iV (row + 1)), some (iV (m1 40 0 ((13 * row + lef) * 101 + rest))), some (iV (seats))]) dX5_splits_174 rfl (by decide) rfl ?_
                          refine aw_goto (tgt := 54) dX5_splits_177 (by decide) ?_
                          refine aw_weak (L' := [some (rV K 30 0), some (iV (people)), some (iV (blocks)), some (iV (lef - 1)), some (iV (rest - seats)), some (iV (row + 1)), none, none]) ⟨Or.inr rfl, Or.inr rfl, Or.inr rfl, Or.inr rfl, Or.inr rfl, Or.inr rfl, Or.inl rfl, Or.inl rfl, trivial⟩ ?_
                          exact ih54 (lef - 1) (rest - seats) (row + 1) (updM m1 41 0 row seats) (by have n1 := hw.1; have n2 := hw.2.1; omega) (by have n1 := hw.1; have n2 := hw.2.1; omega) (by intro g hg; rw [updM_g hg]; exact f3 g hg) (by exact f6) (by first | (exfalso; omega) | exact SPm_skip hw f1.1 (by omega) (by omega) (G row f1.1 (by omega)) f4 (by omega) (fun x x1 x2 => by have := j2 x x1 x2; omega) | exact SPm_take hw f1.1 (by omega) (by omega) (G row f1.1 (by omega)) f4 (by omega) (gi.mpr (by rcases gv with a | a; (have dd : ¬ sp m1 row lef rest = -1000000 := (fun q => by rcases D.1 with ⟨x, _⟩ | ⟨_, _, x, _⟩; omega; (have y := canI_bd (Vd_bd hw) f1.1 (by omega) hw.2.1 x; omega)); exact absurd (h136.symm.trans a.1) dd); exact ⟨a.1, a.2.1, a.2.2.symm.trans h136⟩)) j2) (by intro r r1 r2; by_cases e : r = row; (subst e; rw [updM_same]; omega); rw [updM_j e]; exact f5 r r1 (by omega)) (by omega)
                      · refine aw_iload dX5_splits_117 rfl ?_
                        refine aw_iconst dX5_splits_119 ?_
                        refine aw_icmp_eq (tgt := 139) dX5_splits_120 (by decide) (by have n1 := hw.1; have n2 := hw.2.1; omega) (by have n1 := hw.1; have n2 := hw.2.1; omega) (fun h120 => ?_) (fun h120 => ?_)
                        · refine aw_iinc (L2 := [some (rV K 30 0), some (iV (people)), some (iV (blocks)), some (iV (lef)), some (iV (rest)), some (iV (row)), some (iV (m1 40 0 ((13 * row + lef) * 101 + rest))), some (iV (seats + (-1)))]) dX5_splits_139 rfl (by decide) rfl ?_
                          refine aw_goto (tgt := 112) dX5_splits_142 (by decide) ?_
                          exact ih112 (seats + (-1)) (by omega) (by intro x x1 x2; have q := j2 x x1 x2; first | omega | (by_cases e : x = seats; (subst e; exact absurd (gi.mp x2) (fun y => by rcases gv with a | a; (rcases a.2 with b | b; exact y.1 b; exact b y.2.1); exact h136 (by rw [a.2.2]; exact y.2.2))); omega)) (by omega)
                        · refine aw_aload_n dX5_splits_123 rfl rfl ?_
                          refine aw_iload dX5_splits_124 rfl ?_
                          refine aw_iload_n dX5_splits_126 rfl rfl ?_
                          refine aw_iload dX5_splits_127 rfl ?_
                          refine aw_iload dX5_splits_129 rfl ?_
                          refine aw_cVr (g := 30) (As := [iV (row), iV (lef), iV (rest), iV (seats)]) (rest := []) (c_X5_given hst m1 (row) (lef) (rest) (seats) (by have n1 := hw.1; have n2 := hw.2.1; omega) (by have n1 := hw.1; have n2 := hw.2.1; omega) (by have n1 := hw.1; have n2 := hw.2.1; omega) (by have n1 := hw.1; have n2 := hw.2.1; omega) (by exact HWm_f hw fm) (by have n1 := hw.1; have n2 := hw.2.1; omega) (by have n1 := hw.1; have n2 := hw.2.1; omega) (by have n1 := hw.1; have n2 := hw.2.1; omega) (by have n1 := hw.1; have n2 := hw.2.1; omega) (by exact (GF_m fm).mpr (G (row + 1) (by omega) (by omega)))) cv_X5_given dX5_splits_131 ml_X5_133 rfl rfl rfl rfl rfl (Nat.le_of_ble_eq_true rfl) (by decide) rfl rfl (by decide) (fun z131 (h131 : (z131 = -1000000 ∧ (sp m1 (row + 1) (lef - 1) (rest - seats) = -1000000 ∨ ¬ okd m1 row seats)) ∨ (sp m1 (row + 1) (lef - 1) (rest - seats) ≠ -1000000 ∧ okd m1 row seats ∧ z131 = sp m1 (row + 1) (lef - 1) (rest - seats) + Vd m1 row seats)) => ?_)
                          have gi := given_iff hw f1.1 (by omega) (show 0 ≤ rest ∧ rest ≤ 100 by omega) (show 1 ≤ lef ∧ lef ≤ 12 by omega) (show 2 ≤ seats ∧ seats ≤ rest by omega) (G (row + 1) (by omega) (by omega)) D.1; have gv := h131; rw [(cD_fr fm).1, (cD_fr fm).2.1] at gv; have gg := GF_bd hw (b := lef - 1) (p := rest - seats) (by omega) (by omega) (by omega) (by omega) (G (row + 1) (by omega) (by omega)); have gv2 : okd M row seats → -400 ≤ Vd M row seats ∧ Vd M row seats ≤ 20000 := Vd_bd hw row seats f1.1 (by omega) (by omega)
                          refine aw_iload dX5_splits_134 rfl ?_
                          refine aw_icmp_eq (tgt := 145) dX5_splits_136 (by decide) (by rcases gv with a | a; omega; (have q := gv2 a.2.1; have q2 := a.2.2; omega)) (by have n1 := hw.1; have n2 := hw.2.1; omega) (fun h136 => ?_) (fun h136 => ?_)
                          · refine aw_aload_n dX5_splits_145 rfl rfl ?_
                            refine aw_getr (g := 30) rfl rfl ly_X5 rfl (k := 15) dX5_splits_146 (by decide) fl_X5_40 rfl ?_
                            refine aw_iload dX5_splits_149 rfl ?_
                            refine aw_iload dX5_splits_151 rfl ?_
                            refine aw_iast (g := 41) (n := 12) (M' := updM m1 41 0 row seats) rfl (by decide) dX5_splits_153 (by decide) (by show 0 ≤ row ∧ row < (12 : Int); have n1 := hw.1; have n2 := hw.2.1; omega) (by have n1 := hw.1; have n2 := hw.2.1; omega) rfl ?_
                            refine aw_iload_n dX5_splits_154 rfl rfl ?_
                            refine aw_iload dX5_splits_155 rfl ?_
                            refine aw_if_le (tgt := 164) dX5_splits_157 (by decide) (by have n1 := hw.1; have n2 := hw.2.1; omega) (fun h157 => ?_) (fun h157 => ?_)
                            · refine aw_iconst dX5_splits_164 ?_
                              refine aw_isub dX5_splits_165 ?_
                              refine aw_istore_n (L2 := [some (rV K 30 0), some (iV (people)), some (iV (blocks)), some (iV (lef - 0)), some (iV (rest)), some (iV (row)), some (iV (m1 40 0 ((13 * row + lef) * 101 + rest))), some (iV (seats))]) dX5_splits_166 rfl (by decide) rfl ?_
                              refine aw_iload dX5_splits_167 rfl ?_
                              refine aw_iload dX5_splits_169 rfl ?_
                              refine aw_isub dX5_splits_171 ?_
                              refine aw_istore (L2 := [some (rV K 30 0), some (iV (people)), some (iV (blocks)), some (iV (lef - 0)), some (iV (rest - seats)), some (iV (row)), some (iV (m1 40 0 ((13 * row + lef) * 101 + rest))), some (iV (seats))]) dX5_splits_172 (by decide) rfl ?_
                              refine aw_iinc (L2 := [some (rV K 30 0), some (iV (people)), some (iV (blocks)), some (iV (lef - 0)), some (iV (rest - seats)), some (iV (row + 1)), some (iV (m1 40 0 ((13 * row + lef) * 101 + rest))), some (iV (seats))]) dX5_splits_174 rfl (by decide) rfl ?_
                              refine aw_goto (tgt := 54) dX5_splits_177 (by decide) ?_
                              refine aw_weak (L' := [some (rV K 30 0), some (iV (people)), some (iV (blocks)), some (iV (lef - 0)), some (iV (rest - seats)), some (iV (row + 1)), none, none]) ⟨Or.inr rfl, Or.inr rfl, Or.inr rfl, Or.inr rfl, Or.inr rfl, Or.inr rfl, Or.inl rfl, Or.inl rfl, trivial⟩ ?_
                              exact ih54 (lef - 0) (rest - seats) (row + 1) (updM m1 41 0 row seats) (by have n1 := hw.1; have n2 := hw.2.1; omega) (by have n1 := hw.1; have n2 := hw.2.1; omega) (by intro g hg; rw [updM_g hg]; exact f3 g hg) (by exact f6) (by first | (exfalso; omega) | exact SPm_skip hw f1.1 (by omega) (by omega) (G row f1.1 (by omega)) f4 (by omega) (fun x x1 x2 => by have := j2 x x1 x2; omega) | exact SPm_take hw f1.1 (by omega) (by omega) (G row f1.1 (by omega)) f4 (by omega) (gi.mpr (by rcases gv with a | a; (have dd : ¬ sp m1 row lef rest = -1000000 := (fun q => by rcases D.1 with ⟨x, _⟩ | ⟨_, _, x, _⟩; omega; (have y := canI_bd (Vd_bd hw) f1.1 (by omega) hw.2.1 x; omega)); exact absurd (h136.symm.trans a.1) dd); exact ⟨a.1, a.2.1, a.2.2.symm.trans h136⟩)) j2) (by intro r r1 r2; by_cases e : r = row; (subst e; rw [updM_same]; omega); rw [updM_j e]; exact f5 r r1 (by omega)) (by omega)
                            · refine aw_iconst dX5_splits_160 ?_
                              refine aw_goto (tgt := 165) dX5_splits_161 (by decide) ?_
                              refine aw_isub dX5_splits_165 ?_
                              refine aw_istore_n (L2 := [some (rV K 30 0), some (iV (people)), some (iV (blocks)), some (iV (lef - 1)), some (iV (rest)), some (iV (row)), some (iV (m1 40 0 ((13 * row + lef) * 101 + rest))), some (iV (seats))]) dX5_splits_166 rfl (by decide) rfl ?_
                              refine aw_iload dX5_splits_167 rfl ?_
                              refine aw_iload dX5_splits_169 rfl ?_
                              refine aw_isub dX5_splits_171 ?_
                              refine aw_istore (L2 := [some (rV K 30 0), some (iV (people)), some (iV (blocks)), some (iV (lef - 1)), some (iV (rest - seats)), some (iV (row)), some (iV (m1 40 0 ((13 * row + lef) * 101 + rest))), some (iV (seats))]) dX5_splits_172 (by decide) rfl ?_
                              refine aw_iinc (L2 := [some (rV K 30 0), some (iV (people)), some (iV (blocks)), some (iV (lef - 1)), some (iV (rest - seats)), some (iV (row + 1)), some (iV (m1 40 0 ((13 * row + lef) * 101 + rest))), some (iV (seats))]) dX5_splits_174 rfl (by decide) rfl ?_
                              refine aw_goto (tgt := 54) dX5_splits_177 (by decide) ?_
                              refine aw_weak (L' := [some (rV K 30 0), some (iV (people)), some (iV (blocks)), some (iV (lef - 1)), some (iV (rest - seats)), some (iV (row + 1)), none, none]) ⟨Or.inr rfl, Or.inr rfl, Or.inr rfl, Or.inr rfl, Or.inr rfl, Or.inr rfl, Or.inl rfl, Or.inl rfl, trivial⟩ ?_
                              exact ih54 (lef - 1) (rest - seats) (row + 1) (updM m1 41 0 row seats) (by have n1 := hw.1; have n2 := hw.2.1; omega) (by have n1 := hw.1; have n2 := hw.2.1; omega) (by intro g hg; rw [updM_g hg]; exact f3 g hg) (by exact f6) (by first | (exfalso; omega) | exact SPm_skip hw f1.1 (by omega) (by omega) (G row f1.1 (by omega)) f4 (by omega) (fun x x1 x2 => by have := j2 x x1 x2; omega) | exact SPm_take hw f1.1 (by omega) (by omega) (G row f1.1 (by omega)) f4 (by omega) (gi.mpr (by rcases gv with a | a; (have dd : ¬ sp m1 row lef rest = -1000000 := (fun q => by rcases D.1 with ⟨x, _⟩ | ⟨_, _, x, _⟩; omega; (have y := canI_bd (Vd_bd hw) f1.1 (by omega) hw.2.1 x; omega)); exact absurd (h136.symm.trans a.1) dd); exact ⟨a.1, a.2.1, a.2.2.symm.trans h136⟩)) j2) (by intro r r1 r2; by_cases e : r = row; (subst e; rw [updM_same]; omega); rw [updM_j e]; exact f5 r r1 (by omega)) (by omega)
                          · refine aw_iinc (L2 := [some (rV K 30 0), some (iV (people)), some (iV (blocks)), some (iV (lef)), some (iV (rest)), some (iV (row)), some (iV (m1 40 0 ((13 * row + lef) * 101 + rest))), some (iV (seats + (-1)))]) dX5_splits_139 rfl (by decide) rfl ?_
                            refine aw_goto (tgt := 112) dX5_splits_142 (by decide) ?_
                            exact ih112 (seats + (-1)) (by omega) (by intro x x1 x2; have q := j2 x x1 x2; first | omega | (by_cases e : x = seats; (subst e; exact absurd (gi.mp x2) (fun y => by rcases gv with a | a; (rcases a.2 with b | b; exact y.1 b; exact b y.2.1); exact h136 (by rw [a.2.2]; exact y.2.2))); omega)) (by omega)
                  exact lp112 (((Int.toNat 0)) + 1) (0) (by first | omega | (have n3 := hw.2.2 row (by omega) (by omega); omega)) (by intro x x1 x2; have bd := canI_bd (Vd_bd hw) (by omega) (by omega) hw.2.1 x2.2; have bl := okd_le x2.1; have kk : m1 31 0 row = M 31 0 row := (by rw [k31]); omega) (Nat.lt_succ_self _)
          exact lp54 (((M 30 0 3 - 0).toNat) + 1) (blocks) (people) (0) (M1) (by have n1 := hw.1; have n2 := hw.2.1; omega) (by have n1 := hw.1; have n2 := hw.2.1; omega) (by exact fun _ _ => rfl) (by omega) (by have n2 := hw.2.1; first | (exfalso; omega) | exact SPm_0 (by omega) (SPm_fg hw (by omega) (by omega) G0 e2 h27)) (by intro r r1 r2; omega) (Nat.lt_succ_self _)
        · refine aw_iconst dX5_splits_44 ?_
          exact aw_iret dX5_splits_45 rfl rfl (by decide) (by decide) ⟨0, rfl, (by first | (exfalso; omega) | exact ⟨F1, Or.inl ⟨rfl, fun b v q => (by have bd := canI_bd (Vd_bd hw) (Int.le_refl 0) hw.1 hw.2.1 q; exact e2 b (by omega) v q)⟩⟩)⟩
      · refine aw_aload_n dX5_splits_14 rfl rfl ?_
        refine aw_getr (g := 30) rfl rfl ly_X5 rfl (k := 14) dX5_splits_15 (by decide) fl_X5_37 rfl ?_
        refine aw_iconst dX5_splits_18 ?_
        refine aw_iload_n dX5_splits_19 rfl rfl ?_
        refine aw_iload_n dX5_splits_20 rfl rfl ?_
        refine aw_cSi (As := [iV 0, iV (blocks), iV (people)]) (rest := [rV K 40 0]) (c_X5_place hst M1 (0) (blocks) (people) (by have n1 := hw.1; have n2 := hw.2.1; omega) (by have n1 := hw.1; have n2 := hw.2.1; omega) (by have n1 := hw.1; have n2 := hw.2.1; omega)) cs_X5_place dX5_splits_21 ml_X5_122 rfl rfl (Nat.le_of_ble_eq_true rfl) (by decide) rfl rfl (by decide) ?_
        refine aw_iald (g := 40) (n := 17069) rfl (by decide) dX5_splits_24 (by decide) (by show 0 ≤ ((13 * 0 + blocks) * 101 + people) ∧ ((13 * 0 + blocks) * 101 + people) < (17069 : Int); have n1 := hw.1; have n2 := hw.2.1; omega) (fun r24 => ?_)
        have n2 := hw.2.1; have gb := GF_bd hw (Int.le_refl 0) hw.1 (b := blocks) (p := people) (by omega) (by omega) G0
        refine aw_ldc (z := -1000000) dX5_splits_25 cn_X5_125 rfl ?_
        refine aw_icmp_ne (tgt := 36) dX5_splits_27 (by decide) (by have n1 := hw.1; have n2 := hw.2.1; omega) (by have n1 := hw.1; have n2 := hw.2.1; omega) (fun h27 => ?_) (fun h27 => ?_)
        · refine aw_iload_n dX5_splits_36 rfl rfl ?_
          refine aw_aload_n dX5_splits_37 rfl rfl ?_
          refine aw_geti (g := 30) rfl rfl ly_X5 rfl (k := 3) 3 rfl dX5_splits_38 (by decide) fl_X5_60 rfl (fun r38 => ?_)
          refine aw_icmp_le (tgt := 46) dX5_splits_41 (by decide) (by have n1 := hw.1; have n2 := hw.2.1; omega) (by have n1 := hw.1; have n2 := hw.2.1; omega) (fun h41 => ?_) (fun h41 => ?_)
          · refine aw_iload_n dX5_splits_46 rfl rfl ?_
            refine aw_istore_n (L2 := [some (rV K 30 0), some (iV (people)), some (iV (blocks)), some (iV (blocks)), none, none, none, none]) dX5_splits_47 rfl (by decide) rfl ?_
            refine aw_iload_n dX5_splits_48 rfl rfl ?_
            refine aw_istore (L2 := [some (rV K 30 0), some (iV (people)), some (iV (blocks)), some (iV (blocks)), some (iV (people)), none, none, none]) dX5_splits_49 (by decide) rfl ?_
            refine aw_iconst dX5_splits_51 ?_
            refine aw_istore (L2 := [some (rV K 30 0), some (iV (people)), some (iV (blocks)), some (iV (blocks)), some (iV (people)), some (iV 0), none, none]) dX5_splits_52 (by decide) rfl ?_
            have lp54 : ∀ (n54 : Nat) (lef rest row : Int) (m1 : Mem), (0 ≤ row ∧ row ≤ M 30 0 3) → (0 ≤ rest ∧ rest ≤ people) → (∀ g : Nat, g ≠ 41 → m1 g = M1 g) → (1 ≤ blocks ∧ blocks ≤ 12) → (SPm M m1 row rest lef blocks people) → (∀ r : Int, 0 ≤ r → r < row → 0 ≤ m1 41 0 r ∧ m1 41 0 r ≤ 20) → ((M 30 0 3 - row).toNat) < n54 → AW K l iX5_splits (ZM K iX5_splits (rZm (fun z m => SFd M m ∧ ((z = 0 ∧ ∀ b v : Int, ¬ cD M 0 b people v) ∨ SPLd M m people z)))) 54 [some (rV K 30 0), some (iV (people)), some (iV (blocks)), some (iV (lef)), some (iV (rest)), some (iV (row)), none, none] [] (m1) 0 0 := by
              intro n54
              induction n54 with
              | zero =>
                intro lef rest row m1 f1 f2 f3 f6 f4 f5 hm54
                exact absurd hm54 (Nat.not_lt_zero _)
              | succ n54 ih54 =>
                intro lef rest row m1 f1 f2 f3 f6 f4 f5 hm54
                have fm : ∀ g : Nat, g ≠ 40 → g ≠ 41 → m1 g = M g := (fun g x y => (f3 g y).trans (h1.1 g x)); have k2 : m1 30 0 3 = M 30 0 3 := (by rw [fm 30 (by decide) (by decide)]); have k31 : m1 31 = M 31 := fm 31 (by decide) (by decide); have G : ∀ r : Int, 0 ≤ r → r ≤ M 30 0 3 → GF M m1 r := (fun r r0 r1 => (by have q := h1.2.1 r r0 r1; unfold GF sp; rw [f3 40 (by decide)]; exact q))
                refine aw_iload dX5_splits_54 rfl ?_
                refine aw_aload_n dX5_splits_56 rfl rfl ?_
                refine aw_geti (g := 30) rfl rfl ly_X5 rfl (k := 3) 3 rfl dX5_splits_57 (by decide) fl_X5_60 rfl (fun r57 => ?_)
                refine aw_icmp_ge (tgt := 180) dX5_splits_60 (by decide) (by have n1 := hw.1; have n2 := hw.2.1; omega) (by have n1 := hw.1; have n2 := hw.2.1; omega) (fun h60 => ?_) (fun h60 => ?_)
                · refine aw_iload_n dX5_splits_180 rfl rfl ?_
                  exact aw_iret dX5_splits_181 rfl rfl (by decide) (by decide) ⟨blocks, rfl, (by exact ⟨fm, Or.inr (SPm_all (by omega) (by omega) f4 f5)⟩)⟩
                · have n2 := hw.2.1; have D := SPm_due hw f1.1 (by omega) (by omega) (G row f1.1 (by omega)) f4; have n3 := hw.2.2 row f1.1 (by omega); have kk : m1 31 0 row = M 31 0 row := (by rw [k31])
                  refine aw_aload_n dX5_splits_63 rfl rfl ?_
                  refine aw_getr (g := 30) rfl rfl ly_X5 rfl (k := 14) dX5_splits_64 (by decide) fl_X5_37 rfl ?_
                  refine aw_iload dX5_splits_67 rfl ?_
                  refine aw_iload_n dX5_splits_69 rfl rfl ?_
                  refine aw_iload dX5_splits_70 rfl ?_
                  refine aw_cSi (As := [iV (row), iV (lef), iV (rest)]) (rest := [rV K 40 0]) (c_X5_place hst m1 (row) (lef) (rest) (by have n1 := hw.1; have n2 := hw.2.1; omega) (by have n1 := hw.1; have n2 := hw.2.1; omega) (by have n1 := hw.1; have n2 := hw.2.1; omega)) cs_X5_place dX5_splits_72 ml_X5_122 rfl rfl (Nat.le_of_ble_eq_true rfl) (by decide) rfl rfl (by decide) ?_
                  refine aw_iald (g := 40) (n := 17069) rfl (by decide) dX5_splits_75 (by decide) (by show 0 ≤ ((13 * row + lef) * 101 + rest) ∧ ((13 * row + lef) * 101 + rest) < (17069 : Int); have n1 := hw.1; have n2 := hw.2.1; omega) (fun r75 => ?_)
                  refine aw_istore (L2 := [some (rV K 30 0), some (iV (people)), some (iV (blocks)), some (iV (lef)), some (iV (rest)), some (iV (row)), some (iV (m1 40 0 ((13 * row + lef) * 101 + rest))), none]) dX5_splits_76 (by decide) rfl ?_
                  refine aw_iload_n dX5_splits_78 rfl rfl ?_
                  refine aw_if_ne (tgt := 86) dX5_splits_79 (by decide) (by have n1 := hw.1; have n2 := hw.2.1; omega) (fun h79 => ?_) (fun h79 => ?_)
                  · refine aw_iload dX5_splits_86 rfl ?_
                    refine aw_aload_n dX5_splits_88 rfl rfl ?_
                    refine aw_getr (g := 30) rfl rfl ly_X5 rfl (k := 4) dX5_splits_89 (by decide) fl_X5_7 rfl ?_
                    refine aw_iload dX5_splits_92 rfl ?_
                    refine aw_iald (g := 31) (n := 12) rfl (by decide) dX5_splits_94 (by decide) (by show 0 ≤ row ∧ row < (12 : Int); have n1 := hw.1; have n2 := hw.2.1; omega) (fun r94 => ?_)
                    refine aw_icmp_ge (tgt := 103) dX5_splits_95 (by decide) (by have n1 := hw.1; have n2 := hw.2.1; omega) (by have n1 := hw.1; have n2 := hw.2.1; omega) (fun h95 => ?_) (fun h95 => ?_)
                    · refine aw_aload_n dX5_splits_103 rfl rfl ?_
                      refine aw_getr (g := 30) rfl rfl ly_X5 rfl (k := 4) dX5_splits_104 (by decide) fl_X5_7 rfl ?_
                      refine aw_iload dX5_splits_107 rfl ?_
                      refine aw_iald (g := 31) (n := 12) rfl (by decide) dX5_splits_109 (by decide) (by show 0 ≤ row ∧ row < (12 : Int); have n1 := hw.1; have n2 := hw.2.1; omega) (fun r109 => ?_)
                      refine aw_istore (L2 := [some (rV K 30 0), some (iV (people)), some (iV (blocks)), some (iV (lef)), some (iV (rest)), some (iV (row)), some (iV (m1 40 0 ((13 * row + lef) * 101 + rest))), some (iV (m1 31 0 row))]) dX5_splits_110 (by decide) rfl ?_
                      have lp112 : ∀ (n112 : Nat) (seats : Int), (0 ≤ seats ∧ seats ≤ 20 ∧ seats ≤ rest ∧ (seats = 0 ∨ 1 ≤ lef)) → (∀ x : Int, 2 ≤ x → wkd M row rest lef (sp m1 row lef rest) x → x ≤ seats) → ((Int.toNat seats)) < n112 → AW K l iX5_splits (ZM K iX5_splits (rZm (fun z m => SFd M m ∧ ((z = 0 ∧ ∀ b v : Int, ¬ cD M 0 b people v) ∨ SPLd M m people z)))) 112 [some (rV K 30 0), some (iV (people)), some (iV (blocks)), some (iV (lef)), some (iV (rest)), some (iV (row)), some (iV (m1 40 0 ((13 * row + lef) * 101 + rest))), some (iV (seats))] [] (m1) 0 0 := by
                        intro n112
                        induction n112 with
                        | zero =>
                          intro seats j1 j2 hm112
                          exact absurd hm112 (Nat.not_lt_zero _)
                        | succ n112 ih112 =>
                          intro seats j1 j2 hm112
                          refine aw_iload dX5_splits_112 rfl ?_
                          refine aw_if_le (tgt := 145) dX5_splits_114 (by decide) (by have n1 := hw.1; have n2 := hw.2.1; omega) (fun h114 => ?_) (fun h114 => ?_)
                          · refine aw_aload_n dX5_splits_145 rfl rfl ?_
                            refine aw_getr (g := 30) rfl rfl ly_X5 rfl (k := 15) dX5_splits_146 (by decide) fl_X5_40 rfl ?_
                            refine aw_iload dX5_splits_149 rfl ?_
                            refine aw_iload dX5_splits_151 rfl ?_
                            refine aw_iast (g := 41) (n := 12) (M' := updM m1 41 0 row seats) rfl (by decide) dX5_splits_153 (by decide) (by show 0 ≤ row ∧ row < (12 : Int); have n1 := hw.1; have n2 := hw.2.1; omega) (by have n1 := hw.1; have n2 := hw.2.1; omega) rfl ?_
                            refine aw_iload_n dX5_splits_154 rfl rfl ?_
                            refine aw_iload dX5_splits_155 rfl ?_
                            refine aw_if_le (tgt := 164) dX5_splits_157 (by decide) (by have n1 := hw.1; have n2 := hw.2.1; omega) (fun h157 => ?_) (fun h157 => ?_)
                            · refine aw_iconst dX5_splits_164 ?_
                              refine aw_isub dX5_splits_165 ?_
                              refine aw_istore_n (L2 := [some (rV K 30 0), some (iV (people)), some (iV (blocks)), some (iV (lef - 0)), some (iV (rest)), some (iV (row)), some (iV (m1 40 0 ((13 * row + lef) * 101 + rest))), some (iV (seats))]) dX5_splits_166 rfl (by decide) rfl ?_
                              refine aw_iload dX5_splits_167 rfl ?_
                              refine aw_iload dX5_splits_169 rfl ?_
                              refine aw_isub dX5_splits_171 ?_
                              refine aw_istore (L2 := [some (rV K 30 0), some (iV (people)), some (iV (blocks)), some (iV (lef - 0)), some (iV (rest - seats)), some (iV (row)), some (iV (m1 40 0 ((13 * row + lef) * 101 + rest))), some (iV (seats))]) dX5_splits_172 (by decide) rfl ?_
                              refine aw_iinc (L2 := [some (rV K 30 0), some (iV (people)), some (iV (blocks)), some (iV (lef - 0)), some (iV (rest - seats)), some (iV (row + 1)), some (iV (m1 40 0 ((13 * row + lef) * 101 + rest))), some (iV (seats))]) dX5_splits_174 rfl (by decide) rfl ?_
                              refine aw_goto (tgt := 54) dX5_splits_177 (by decide) ?_
                              refine aw_weak (L' := [some (rV K 30 0), some (iV (people)), some (iV (blocks)), some (iV (lef - 0)), some (iV (rest - seats)), some (iV (row + 1)), none, none]) ⟨Or.inr rfl, Or.inr rfl, Or.inr rfl, Or.inr rfl, Or.inr rfl, Or.inr rfl, Or.inl rfl, Or.inl rfl, trivial⟩ ?_
                              exact ih54 (lef - 0) (rest - seats) (row + 1) (updM m1 41 0 row seats) (by have n1 := hw.1; have n2 := hw.2.1; omega) (by have n1 := hw.1; have n2 := hw.2.1; omega) (by intro g hg; rw [updM_g hg]; exact f3 g hg) (by exact f6) (by first | (exfalso; omega) | exact SPm_skip hw f1.1 (by omega) (by omega) (G row f1.1 (by omega)) f4 (by omega) (fun x x1 x2 => by have := j2 x x1 x2; omega) | exact SPm_take hw f1.1 (by omega) (by omega) (G row f1.1 (by omega)) f4 (by omega) (gi.mpr (by rcases gv with a | a; (have dd : ¬ sp m1 row lef rest = -1000000 := (fun q => by rcases D.1 with ⟨x, _⟩ | ⟨_, _, x, _⟩; omega; (have y := canI_bd (Vd_bd hw) f1.1 (by omega) hw.2.1 x; omega)); exact absurd (h136.symm.trans a.1) dd); exact ⟨a.1, a.2.1, a.2.2.symm.trans h136⟩)) j2) (by intro r r1 r2; by_cases e : r = row; (subst e; rw [updM_same]; omega); rw [updM_j e]; exact f5 r r1 (by omega)) (by omega)
                            · refine aw_iconst dX5_splits_160 ?_
                              refine aw_goto (tgt := 165) dX5_splits_161 (by decide) ?_
                              refine aw_isub dX5_splits_165 ?_
                              refine aw_istore_n (L2 := [some (rV K 30 0), some (iV (people)), some (iV (blocks)), some (iV (lef - 1)), some (iV (rest)), some (iV (row)), some (iV (m1 40 0 ((13 * row + lef) * 101 + rest))), some (iV (seats))]) dX5_splits_166 rfl (by decide) rfl ?_
                              refine aw_iload dX5_splits_167 rfl ?_
                              refine aw_iload dX5_splits_169 rfl ?_
                              refine aw_isub dX5_splits_171 ?_
                              refine aw_istore (L2 := [some (rV K 30 0), some (iV (people)), some (iV (blocks)), some (iV (lef - 1)), some (iV (rest - seats)), some (iV (row)), some (iV (m1 40 0 ((13 * row + lef) * 101 + rest))), some (iV (seats))]) dX5_splits_172 (by decide) rfl ?_
                              refine aw_iinc (L2 := [some (rV K 30 0), some (iV (people)), some (iV (blocks)), some (iV (lef - 1)), some (iV (rest - seats)), some (iV (row + 1)), some (iV (m1 40 0 ((13 * row + lef) * 101 + rest))), some (iV (seats))]) dX5_splits_174 rfl (by decide) rfl ?_
                              refine aw_goto (tgt := 54) dX5_splits_177 (by decide) ?_
                              refine aw_weak (L' := [some (rV K 30 0), some (iV (people)), some (iV (blocks)), some (iV (lef - 1)), some (iV (rest - seats)), some (iV (row + 1)), none, none]) ⟨Or.inr rfl, Or.inr rfl, Or.inr rfl, Or.inr rfl, Or.inr rfl, Or.inr rfl, Or.inl rfl, Or.inl rfl, trivial⟩ ?_
                              exact ih54 (lef - 1) (rest - seats) (row + 1) (updM m1 41 0 row seats) (by have n1 := hw.1; have n2 := hw.2.1; omega) (by have n1 := hw.1; have n2 := hw.2.1; omega) (by intro g hg; rw [updM_g hg]; exact f3 g hg) (by exact f6) (by first | (exfalso; omega) | exact SPm_skip hw f1.1 (by omega) (by omega) (G row f1.1 (by omega)) f4 (by omega) (fun x x1 x2 => by have := j2 x x1 x2; omega) | exact SPm_take hw f1.1 (by omega) (by omega) (G row f1.1 (by omega)) f4 (by omega) (gi.mpr (by rcases gv with a | a; (have dd : ¬ sp m1 row lef rest = -1000000 := (fun q => by rcases D.1 with ⟨x, _⟩ | ⟨_, _, x, _⟩; omega; (have y := canI_bd (Vd_bd hw) f1.1 (by omega) hw.2.1 x; omega)); exact absurd (h136.symm.trans a.1) dd); exact ⟨a.1, a.2.1, a.2.2.symm.trans h136⟩)) j2) (by intro r r1 r2; by_cases e : r = row; (subst e; rw [updM_same]; omega); rw [updM_j e]; exact f5 r r1 (by omega)) (by omega)
                          · refine aw_iload dX5_splits_117 rfl ?_
                            refine aw_iconst dX5_splits_119 ?_
                            refine aw_icmp_eq (tgt := 139) dX5_splits_120 (by decide) (by have n1 := hw.1; have n2 := hw.2.1; omega) (by have n1 := hw.1; have n2 := hw.2.1; omega) (fun h120 => ?_) (fun h120 => ?_)
                            · refine aw_iinc (L2 := [some (rV K 30 0), some (iV (people)), some (iV (blocks)), some (iV (lef)), some (iV (rest)), some (iV (row)), some (iV (m1 40 0 ((13 * row + lef) * 101 + rest))), some (iV (seats + (-1)))]) dX5_splits_139 rfl (by decide) rfl ?_
                              refine aw_goto (tgt := 112) dX5_splits_142 (by decide) ?_
                              exact ih112 (seats + (-1)) (by omega) (by intro x x1 x2; have q := j2 x x1 x2; first | omega | (by_cases e : x = seats; (subst e; exact absurd (gi.mp x2) (fun y => by rcases gv with a | a; (rcases a.2 with b | b; exact y.1 b; exact b y.2.1); exact h136 (by rw [a.2.2]; exact y.2.2))); omega)) (by omega)
                            · refine aw_aload_n dX5_splits_123 rfl rfl ?_
                              refine aw_iload dX5_splits_124 rfl ?_
                              refine aw_iload_n dX5_splits_126 rfl rfl ?_
                              refine aw_iload dX5_splits_127 rfl ?_
                              refine aw_iload dX5_splits_129 rfl ?_
                              refine aw_cVr (g := 30) (As := [iV (row), iV (lef), iV (rest), iV (seats)]) (rest := []) (c_X5_given hst m1 (row) (lef) (rest) (seats) (by have n1 := hw.1; have n2 := hw.2.1; omega) (by have n1 := hw.1; have n2 := hw.2.1; omega) (by have n1 := hw.1; have n2 := hw.2.1; omega) (by have n1 := hw.1; have n2 := hw.2.1; omega) (by exact HWm_f hw fm) (by have n1 := hw.1; have n2 := hw.2.1; omega) (by have n1 := hw.1; have n2 := hw.2.1; omega) (by have n1 := hw.1; have n2 := hw.2.1; omega) (by have n1 := hw.1; have n2 := hw.2.1; omega) (by exact (GF_m fm).mpr (G (row + 1) (by omega) (by omega)))) cv_X5_given dX5_splits_131 ml_X5_133 rfl rfl rfl rfl rfl (Nat.le_of_ble_eq_true rfl) (by decide) rfl rfl (by decide) (fun z131 (h131 : (z131 = -1000000 ∧ (sp m1 (row + 1) (lef - 1) (rest - seats) = -1000000 ∨ ¬ okd m1 row seats)) ∨ (sp m1 (row + 1) (lef - 1) (rest - seats) ≠ -1000000 ∧ okd m1 row seats ∧ z131 = sp m1 (row + 1) (lef - 1) (rest - seats) + Vd m1 row seats)) => ?_)
                              have gi := given_iff hw f1.1 (by omega) (show 0 ≤ rest ∧ rest ≤ 100 by omega) (show 1 ≤ lef ∧ lef ≤ 12 by omega) (show 2 ≤ seats ∧ seats ≤ rest by omega) (G (row + 1) (by omega) (by omega)) D.1; have gv := h131; rw [(cD_fr fm).1, (cD_fr fm).2.1] at gv; have gg := GF_bd hw (b := lef - 1) (p := rest - seats) (by omega) (by omega) (by omega) (by omega) (G (row + 1) (by omega) (by omega)); have gv2 : okd M row seats → -400 ≤ Vd M row seats ∧ Vd M row seats ≤ 20000 := Vd_bd hw row seats f1.1 (by omega) (by omega)
                              refine aw_iload dX5_splits_134 rfl ?_
                              refine aw_icmp_eq (tgt := 145) dX5_splits_136 (by decide) (by rcases gv with a | a; omega; (have q := gv2 a.2.1; have q2 := a.2.2; omega)) (by have n1 := hw.1; have n2 := hw.2.1; omega) (fun h136 => ?_) (fun h136 => ?_)
                              · refine aw_aload_n dX5_splits_145 rfl rfl ?_
                                refine aw_getr (g := 30) rfl rfl ly_X5 rfl (k := 15) dX5_splits_146 (by decide) fl_X5_40 rfl ?_
                                refine aw_iload dX5_splits_149 rfl ?_
                                refine aw_iload dX5_splits_151 rfl ?_
                                refine aw_iast (g := 41) (n := 12) (M' := updM m1 41 0 row seats) rfl (by decide) dX5_splits_153 (by decide) (by show 0 ≤ row ∧ row < (12 : Int); have n1 := hw.1; have n2 := hw.2.1; omega) (by have n1 := hw.1; have n2 := hw.2.1; omega) rfl ?_
                                refine aw_iload_n dX5_splits_154 rfl rfl ?_
                                refine aw_iload dX5_splits_155 rfl ?_
                                refine aw_if_le (tgt := 164) dX5_splits_157 (by decide) (by have n1 := hw.1; have n2 := hw.2.1; omega) (fun h157 => ?_) (fun h157 => ?_)
                                · refine aw_iconst dX5_splits_164 ?_
                                  refine aw_isub dX5_splits_165 ?_
                                  refine aw_istore_n (L2 := [some (rV K 30 0), some (iV (people)), some (iV (blocks)), some (iV (lef - 0)), some (iV (rest)), some (iV (row)), some (iV (m1 40 0 ((13 * row + lef) * 101 + rest))), some (iV (seats))]) dX5_splits_166 rfl (by decide) rfl ?_
                                  refine aw_iload dX5_splits_167 rfl ?_
                                  refine aw_iload dX5_splits_169 rfl ?_
                                  refine aw_isub dX5_splits_171 ?_
                                  refine aw_istore (L2 := [some (rV K 30 0), some (iV (people)), some (iV (blocks)), some (iV (lef - 0)), some (iV (rest - seats)), some (iV (row)), some (iV (m1 40 0 ((13 * row + lef) * 101 + rest))), some (iV (seats))]) dX5_splits_172 (by decide) rfl ?_
                                  refine aw_iinc (L2 := [some (rV K 30 0), some (iV (people)), some (iV (blocks)), some (iV (lef - 0)), some (iV (rest - seats)), some (iV (row + 1)), some (iV (m1 40 0 ((13 * row + lef) * 101 + rest))), some (iV (seats))]) dX5_splits_174 rfl (by decide) rfl ?_
                                  refine aw_goto (tgt := 54) dX5_splits_177 (by decide) ?_
                                  refine aw_weak (L' := [some (rV K 30 0), some (iV (people)), some (iV (blocks)), some (iV (lef - 0)), some (iV (rest - seats)), some (iV (row + 1)), none, none]) ⟨Or.inr rfl, Or.inr rfl, Or.inr rfl, Or.inr rfl, Or.inr rfl, Or.inr rfl, Or.inl rfl, Or.inl rfl, trivial⟩ ?_
                                  exact ih54 (lef - 0) (rest - seats) (row + 1) (updM m1 41 0 row seats) (by have n1 := hw.1; have n2 := hw.2.1; omega) (by have n1 := hw.1; have n2 := hw.2.1; omega) (by intro g hg; rw [updM_g hg]; exact f3 g hg) (by exact f6) (by first | (exfalso; omega) | exact SPm_skip hw f1.1 (by omega) (by omega) (G row f1.1 (by omega)) f4 (by omega) (fun x x1 x2 => by have := j2 x x1 x2; omega) | exact SPm_take hw f1.1 (by omega) (by omega) (G row f1.1 (by omega)) f4 (by omega) (gi.mpr (by rcases gv with a | a; (have dd : ¬ sp m1 row lef rest = -1000000 := (fun q => by rcases D.1 with ⟨x, _⟩ | ⟨_, _, x, _⟩; omega; (have y := canI_bd (Vd_bd hw) f1.1 (by omega) hw.2.1 x; omega)); exact absurd (h136.symm.trans a.1) dd); exact ⟨a.1, a.2.1, a.2.2.symm.trans h136⟩)) j2) (by intro r r1 r2; by_cases e : r = row; (subst e; rw [updM_same]; omega); rw [updM_j e]; exact f5 r r1 (by omega)) (by omega)
                                · refine aw_iconst dX5_splits_160 ?_
                                  refine aw_goto (tgt := 165) dX5_splits_161 (by decide) ?_
                                  refine aw_isub dX5_splits_165 ?_
                                  refine aw_istore_n (L2 := [some (rV K 30 0), some (iV (people)), some (iV (blocks)), some (iV (lef - 1)), some (iV (rest)), some (iV (row)), some (iV (m1 40 0 ((13 * row + lef) * 101 + rest))), some (iV (seats))]) dX5_splits_166 rfl (by decide) rfl ?_
                                  refine aw_iload dX5_splits_167 rfl ?_
                                  refine aw_iload dX5_splits_169 rfl ?_
                                  refine aw_isub dX5_splits_171 ?_
                                  refine aw_istore (L2 := [some (rV K 30 0), some (iV (people)), some (iV (blocks)), some (iV (lef - 1)), some (iV (rest - seats)), some (iV (row)), some (iV (m1 40 0 ((13 * row + lef) * 101 + rest))), some (iV (seats))]) dX5_splits_172 (by decide) rfl ?_
                                  refine aw_iinc (L2 := [some (rV K 30 0), some (iV (people)), some (iV (blocks)), some (iV (lef - 1)), some (iV (rest - seats)), some (iV (row + 1)), some (iV (m1 40 0 ((13 * row + lef) * 101 + rest))), some (iV (seats))]) dX5_splits_174 rfl (by decide) rfl ?_
                                  refine aw_goto (tgt := 54) dX5_splits_177 (by decide) ?_
                                  refine aw_weak (L' := [some (rV K 30 0), some (iV (people)), some (iV (blocks)), some (iV (lef - 1)), some (iV (rest - seats)), some (iV (row + 1)), none, none]) ⟨Or.inr rfl, Or.inr rfl, Or.inr rfl, Or.inr rfl, Or.inr rfl, Or.inr rfl, Or.inl rfl, Or.inl rfl, trivial⟩ ?_
                                  exact ih54 (lef - 1) (rest - seats) (row + 1) (updM m1 41 0 row seats) (by have n1 := hw.1; have n2 := hw.2.1; omega) (by have n1 := hw.1; have n2 := hw.2.1; omega) (by intro g hg; rw [updM_g hg]; exact f3 g hg) (by exact f6) (by first | (exfalso; omega) | exact SPm_skip hw f1.1 (by omega) (by omega) (G row f1.1 (by omega)) f4 (by omega) (fun x x1 x2 => by have := j2 x x1 x2; omega) | exact SPm_take hw f1.1 (by omega) (by omega) (G row f1.1 (by omega)) f4 (by omega) (gi.mpr (by rcases gv with a | a; (have dd : ¬ sp m1 row lef rest = -1000000 := (fun q => by rcases D.1 with ⟨x, _⟩ | ⟨_, _, x, _⟩; omega; (have y := canI_bd (Vd_bd hw) f1.1 (by omega) hw.2.1 x; omega)); exact absurd (h136.symm.trans a.1) dd); exact ⟨a.1, a.2.1, a.2.2.symm.trans h136⟩)) j2) (by intro r r1 r2; by_cases e : r = row; (subst e; rw [updM_same]; omega); rw [updM_j e]; exact f5 r r1 (by omega)) (by omega)
                              · refine aw_iinc (L2 := [some (rV K 30 0), some (iV (people)), some (iV (blocks)), some (iV (lef)), some (iV (rest)), some (iV (row)), some (iV (m1 40 0 ((13 * row + lef) * 101 + rest))), some (iV (seats + (-1)))]) dX5_splits_139 rfl (by decide) rfl ?_
                                refine aw_goto (tgt := 112) dX5_splits_142 (by decide) ?_
                                exact ih112 (seats + (-1)) (by omega) (by intro x x1 x2; have q := j2 x x1 x2; first | omega | (by_cases e : x = seats; (subst e; exact absurd (gi.mp x2) (fun y => by rcases gv with a | a; (rcases a.2 with b | b; exact y.1 b; exact b y.2.1); exact h136 (by rw [a.2.2]; exact y.2.2))); omega)) (by omega)
                      exact lp112 (((Int.toNat (m1 31 0 row))) + 1) (m1 31 0 row) (by first | omega | (have n3 := hw.2.2 row (by omega) (by omega); omega)) (by intro x x1 x2; have bd := canI_bd (Vd_bd hw) (by omega) (by omega) hw.2.1 x2.2; have bl := okd_le x2.1; have kk : m1 31 0 row = M 31 0 row := (by rw [k31]); omega) (Nat.lt_succ_self _)
                    · refine aw_iload dX5_splits_98 rfl ?_
                      refine aw_goto (tgt := 110) dX5_splits_100 (by decide) ?_
                      refine aw_istore (L2 := [some (rV K 30 0), some (iV (people)), some (iV (blocks)), some (iV (lef)), some (iV (rest)), some (iV (row)), some (iV (m1 40 0 ((13 * row + lef) * 101 + rest))), some (iV (rest))]) dX5_splits_110 (by decide) rfl ?_
                      have lp112 : ∀ (n112 : Nat) (seats : Int), (0 ≤ seats ∧ seats ≤ 20 ∧ seats ≤ rest ∧ (seats = 0 ∨ 1 ≤ lef)) → (∀ x : Int, 2 ≤ x → wkd M row rest lef (sp m1 row lef rest) x → x ≤ seats) → ((Int.toNat seats)) < n112 → AW K l iX5_splits (ZM K iX5_splits (rZm (fun z m => SFd M m ∧ ((z = 0 ∧ ∀ b v : Int, ¬ cD M 0 b people v) ∨ SPLd M m people z)))) 112 [some (rV K 30 0), some (iV (people)), some (iV (blocks)), some (iV (lef)), some (iV (rest)), some (iV (row)), some (iV (m1 40 0 ((13 * row + lef) * 101 + rest))), some (iV (seats))] [] (m1) 0 0 := by
                        intro n112
                        induction n112 with
                        | zero =>
                          intro seats j1 j2 hm112
                          exact absurd hm112 (Nat.not_lt_zero _)
                        | succ n112 ih112 =>
                          intro seats j1 j2 hm112
                          refine aw_iload dX5_splits_112 rfl ?_
                          refine aw_if_le (tgt := 145) dX5_splits_114 (by decide) (by have n1 := hw.1; have n2 := hw.2.1; omega) (fun h114 => ?_) (fun h114 => ?_)
                          · refine aw_aload_n dX5_splits_145 rfl rfl ?_
                            refine aw_getr (g := 30) rfl rfl ly_X5 rfl (k := 15) dX5_splits_146 (by decide) fl_X5_40 rfl ?_
                            refine aw_iload dX5_splits_149 rfl ?_
                            refine aw_iload dX5_splits_151 rfl ?_
                            refine aw_iast (g := 41) (n := 12) (M' := updM m1 41 0 row seats) rfl (by decide) dX5_splits_153 (by decide) (by show 0 ≤ row ∧ row < (12 : Int); have n1 := hw.1; have n2 := hw.2.1; omega) (by have n1 := hw.1; have n2 := hw.2.1; omega) rfl ?_
                            refine aw_iload_n dX5_splits_154 rfl rfl ?_
                            refine aw_iload dX5_splits_155 rfl ?_
                            refine aw_if_le (tgt := 164) dX5_splits_157 (by decide) (by have n1 := hw.1; have n2 := hw.2.1; omega) (fun h157 => ?_) (fun h157 => ?_)
                            · refine aw_iconst dX5_splits_164 ?_
                              refine aw_isub dX5_splits_165 ?_
                              refine aw_istore_n (L2 := [some (rV K 30 0), some (iV (people)), some (iV (blocks)), some (iV (lef - 0)), some (iV (rest)), some (iV (row)), some (iV (m1 40 0 ((13 * row + lef) * 101 + rest))), some (iV (seats))]) dX5_splits_166 rfl (by decide) rfl ?_
                              refine aw_iload dX5_splits_167 rfl ?_
                              refine aw_iload dX5_splits_169 rfl ?_
                              refine aw_isub dX5_splits_171 ?_
                              refine aw_istore (L2 := [some (rV K 30 0), some (iV (people)), some (iV (blocks)), some (iV (lef - 0)), some (iV (rest - seats)), some (iV (row)), some (iV (m1 40 0 ((13 * row + lef) * 101 + rest))), some (iV (seats))]) dX5_splits_172 (by decide) rfl ?_
                              refine aw_iinc (L2 := [some (rV K 30 0), some (iV (people)), some (iV (blocks)), some (iV (lef - 0)), some (iV (rest - seats)), some (iV (row + 1)), some (iV (m1 40 0 ((13 * row + lef) * 101 + rest))), some (iV (seats))]) dX5_splits_174 rfl (by decide) rfl ?_
                              refine aw_goto (tgt := 54) dX5_splits_177 (by decide) ?_
                              refine aw_weak (L' := [some (rV K 30 0), some (iV (people)), some (iV (blocks)), some (iV (lef - 0)), some (iV (rest - seats)), some (iV (row + 1)), none, none]) ⟨Or.inr rfl, Or.inr rfl, Or.inr rfl, Or.inr rfl, Or.inr rfl, Or.inr rfl, Or.inl rfl, Or.inl rfl, trivial⟩ ?_
                              exact ih54 (lef - 0) (rest - seats) (row + 1) (updM m1 41 0 row seats) (by have n1 := hw.1; have n2 := hw.2.1; omega) (by have n1 := hw.1; have n2 := hw.2.1; omega) (by intro g hg; rw [updM_g hg]; exact f3 g hg) (by exact f6) (by first | (exfalso; omega) | exact SPm_skip hw f1.1 (by omega) (by omega) (G row f1.1 (by omega)) f4 (by omega) (fun x x1 x2 => by have := j2 x x1 x2; omega) | exact SPm_take hw f1.1 (by omega) (by omega) (G row f1.1 (by omega)) f4 (by omega) (gi.mpr (by rcases gv with a | a; (have dd : ¬ sp m1 row lef rest = -1000000 := (fun q => by rcases D.1 with ⟨x, _⟩ | ⟨_, _, x, _⟩; omega; (have y := canI_bd (Vd_bd hw) f1.1 (by omega) hw.2.1 x; omega)); exact absurd (h136.symm.trans a.1) dd); exact ⟨a.1, a.2.1, a.2.2.symm.trans h136⟩)) j2) (by intro r r1 r2; by_cases e : r = row; (subst e; rw [updM_same]; omega); rw [updM_j e]; exact f5 r r1 (by omega)) (by omega)
                            · refine aw_iconst dX5_splits_160 ?_
                              refine aw_goto (tgt := 165) dX5_splits_161 (by decide) ?_
                              refine aw_isub dX5_splits_165 ?_
                              refine aw_istore_n (L2 := [some (rV K 30 0), some (iV (people)), some (iV (blocks)), some (iV (lef - 1)), some (iV (rest)), some (iV (row)), some (iV (m1 40 0 ((13 * row + lef) * 101 + rest))), some (iV (seats))]) dX5_splits_166 rfl (by decide) rfl ?_
                              refine aw_iload dX5_splits_167 rfl ?_
                              refine aw_iload dX5_splits_169 rfl ?_
                              refine aw_isub dX5_splits_171 ?_
                              refine aw_istore (L2 := [some (rV K 30 0), some (iV (people)), some (iV (blocks)), some (iV (lef - 1)), some (iV (rest - seats)), some (iV (row)), some (iV (m1 40 0 ((13 * row + lef) * 101 + rest))), some (iV (seats))]) dX5_splits_172 (by decide) rfl ?_
                              refine aw_iinc (L2 := [some (rV K 30 0), some (iV (people)), some (iV (blocks)), some (iV (lef - 1)), some (iV (rest - seats)), some (iV (row + 1)), some (iV (m1 40 0 ((13 * row + lef) * 101 + rest))), some (iV (seats))]) dX5_splits_174 rfl (by decide) rfl ?_
                              refine aw_goto (tgt := 54) dX5_splits_177 (by decide) ?_
                              refine aw_weak (L' := [some (rV K 30 0), some (iV (people)), some (iV (blocks)), some (iV (lef - 1)), some (iV (rest - seats)), some (iV (row + 1)), none, none]) ⟨Or.inr rfl, Or.inr rfl, Or.inr rfl, Or.inr rfl, Or.inr rfl, Or.inr rfl, Or.inl rfl, Or.inl rfl, trivial⟩ ?_
                              exact ih54 (lef - 1) (rest - seats) (row + 1) (updM m1 41 0 row seats) (by have n1 := hw.1; have n2 := hw.2.1; omega) (by have n1 := hw.1; have n2 := hw.2.1; omega) (by intro g hg; rw [updM_g hg]; exact f3 g hg) (by exact f6) (by first | (exfalso; omega) | exact SPm_skip hw f1.1 (by omega) (by omega) (G row f1.1 (by omega)) f4 (by omega) (fun x x1 x2 => by have := j2 x x1 x2; omega) | exact SPm_take hw f1.1 (by omega) (by omega) (G row f1.1 (by omega)) f4 (by omega) (gi.mpr (by rcases gv with a | a; (have dd : ¬ sp m1 row lef rest = -1000000 := (fun q => by rcases D.1 with ⟨x, _⟩ | ⟨_, _, x, _⟩; omega; (have y := canI_bd (Vd_bd hw) f1.1 (by omega) hw.2.1 x; omega)); exact absurd (h136.symm.trans a.1) dd); exact ⟨a.1, a.2.1, a.2.2.symm.trans h136⟩)) j2) (by intro r r1 r2; by_cases e : r = row; (subst e; rw [updM_same]; omega); rw [updM_j e]; exact f5 r r1 (by omega)) (by omega)
                          · refine aw_iload dX5_splits_117 rfl ?_
                            refine aw_iconst dX5_splits_119 ?_
                            refine aw_icmp_eq (tgt := 139) dX5_splits_120 (by decide) (by have n1 := hw.1; have n2 := hw.2.1; omega) (by have n1 := hw.1; have n2 := hw.2.1; omega) (fun h120 => ?_) (fun h120 => ?_)
                            · refine aw_iinc (L2 := [some (rV K 30 0), some (iV (people)), some (iV (blocks)), some (iV (lef)), some (iV (rest)), some (iV (row)), some (iV (m1 40 0 ((13 * row + lef) * 101 + rest))), some (iV (seats + (-1)))]) dX5_splits_139 rfl (by decide) rfl ?_
                              refine aw_goto (tgt := 112) dX5_splits_142 (by decide) ?_
                              exact ih112 (seats + (-1)) (by omega) (by intro x x1 x2; have q := j2 x x1 x2; first | omega | (by_cases e : x = seats; (subst e; exact absurd (gi.mp x2) (fun y => by rcases gv with a | a; (rcases a.2 with b | b; exact y.1 b; exact b y.2.1); exact h136 (by rw [a.2.2]; exact y.2.2))); omega)) (by omega)
                            · refine aw_aload_n dX5_splits_123 rfl rfl ?_
                              refine aw_iload dX5_splits_124 rfl ?_
                              refine aw_iload_n dX5_splits_126 rfl rfl ?_
                              refine aw_iload dX5_splits_127 rfl ?_
                              refine aw_iload dX5_splits_129 rfl ?_
                              refine aw_cVr (g := 30) (As := [iV (row), iV (lef), iV (rest), iV (seats)]) (rest := []) (c_X5_given hst m1 (row) (lef) (rest) (seats) (by have n1 := hw.1; have n2 := hw.2.1; omega) (by have n1 := hw.1; have n2 := hw.2.1; omega) (by have n1 := hw.1; have n2 := hw.2.1; omega) (by have n1 := hw.1; have n2 := hw.2.1; omega) (by exact HWm_f hw fm) (by have n1 := hw.1; have n2 := hw.2.1; omega) (by have n1 := hw.1; have n2 := hw.2.1; omega) (by have n1 := hw.1; have n2 := hw.2.1; omega) (by have n1 := hw.1; have n2 := hw.2.1; omega) (by exact (GF_m fm).mpr (G (row + 1) (by omega) (by omega)))) cv_X5_given dX5_splits_131 ml_X5_133 rfl rfl rfl rfl rfl (Nat.le_of_ble_eq_true rfl) (by decide) rfl rfl (by decide) (fun z131 (h131 : (z131 = -1000000 ∧ (sp m1 (row + 1) (lef - 1) (rest - seats) = -1000000 ∨ ¬ okd m1 row seats)) ∨ (sp m1 (row + 1) (lef - 1) (rest - seats) ≠ -1000000 ∧ okd m1 row seats ∧ z131 = sp m1 (row + 1) (lef - 1) (rest - seats) + Vd m1 row seats)) => ?_)
                              have gi := given_iff hw f1.1 (by omega) (show 0 ≤ rest ∧ rest ≤ 100 by omega) (show 1 ≤ lef ∧ lef ≤ 12 by omega) (show 2 ≤ seats ∧ seats ≤ rest by omega) (G (row + 1) (by omega) (by omega)) D.1; have gv := h131; rw [(cD_fr fm).1, (cD_fr fm).2.1] at gv; have gg := GF_bd hw (b := lef - 1) (p := rest - seats) (by omega) (by omega) (by omega) (by omega) (G (row + 1) (by omega) (by omega)); have gv2 : okd M row seats → -400 ≤ Vd M row seats ∧ Vd M row seats ≤ 20000 := Vd_bd hw row seats f1.1 (by omega) (by omega)
                              refine aw_iload dX5_splits_134 rfl ?_
                              refine aw_icmp_eq (tgt := 145) dX5_splits_136 (by decide) (by rcases gv with a | a; omega; (have q := gv2 a.2.1; have q2 := a.2.2; omega)) (by have n1 := hw.1; have n2 := hw.2.1; omega) (fun h136 => ?_) (fun h136 => ?_)
                              · refine aw_aload_n dX5_splits_145 rfl rfl ?_
                                refine aw_getr (g := 30) rfl rfl ly_X5 rfl (k := 15) dX5_splits_146 (by decide) fl_X5_40 rfl ?_
                                refine aw_iload dX5_splits_149 rfl ?_
                                refine aw_iload dX5_splits_151 rfl ?_
                                refine aw_iast (g := 41) (n := 12) (M' := updM m1 41 0 row seats) rfl (by decide) dX5_splits_153 (by decide) (by show 0 ≤ row ∧ row < (12 : Int); have n1 := hw.1; have n2 := hw.2.1; omega) (by have n1 := hw.1; have n2 := hw.2.1; omega) rfl ?_
                                refine aw_iload_n dX5_splits_154 rfl rfl ?_
                                refine aw_iload dX5_splits_155 rfl ?_
                                refine aw_if_le (tgt := 164) dX5_splits_157 (by decide) (by have n1 := hw.1; have n2 := hw.2.1; omega) (fun h157 => ?_) (fun h157 => ?_)
                                · refine aw_iconst dX5_splits_164 ?_
                                  refine aw_isub dX5_splits_165 ?_
                                  refine aw_istore_n (L2 := [some (rV K 30 0), some (iV (people)), some (iV (blocks)), some (iV (lef - 0)), some (iV (rest)), some (iV (row)), some (iV (m1 40 0 ((13 * row + lef) * 101 + rest))), some (iV (seats))]) dX5_splits_166 rfl (by decide) rfl ?_
                                  refine aw_iload dX5_splits_167 rfl ?_
                                  refine aw_iload dX5_splits_169 rfl ?_
                                  refine aw_isub dX5_splits_171 ?_
                                  refine aw_istore (L2 := [some (rV K 30 0), some (iV (people)), some (iV (blocks)), some (iV (lef - 0)), some (iV (rest - seats)), some (iV (row)), some (iV (m1 40 0 ((13 * row + lef) * 101 + rest))), some (iV (seats))]) dX5_splits_172 (by decide) rfl ?_
                                  refine aw_iinc (L2 := [some (rV K 30 0), some (iV (people)), some (iV (blocks)), some (iV (lef - 0)), some (iV (rest - seats)), some (iV (row + 1)), some (iV (m1 40 0 ((13 * row + lef) * 101 + rest))), some (iV (seats))]) dX5_splits_174 rfl (by decide) rfl ?_
                                  refine aw_goto (tgt := 54) dX5_splits_177 (by decide) ?_
                                  refine aw_weak (L' := [some (rV K 30 0), some (iV (people)), some (iV (blocks)), some (iV (lef - 0)), some (iV (rest - seats)), some (iV (row + 1)), none, none]) ⟨Or.inr rfl, Or.inr rfl, Or.inr rfl, Or.inr rfl, Or.inr rfl, Or.inr rfl, Or.inl rfl, Or.inl rfl, trivial⟩ ?_
                                  exact ih54 (lef - 0) (rest - seats) (row + 1) (updM m1 41 0 row seats) (by have n1 := hw.1; have n2 := hw.2.1; omega) (by have n1 := hw.1; have n2 := hw.2.1; omega) (by intro g hg; rw [updM_g hg]; exact f3 g hg) (by exact f6) (by first | (exfalso; omega) | exact SPm_skip hw f1.1 (by omega) (by omega) (G row f1.1 (by omega)) f4 (by omega) (fun x x1 x2 => by have := j2 x x1 x2; omega) | exact SPm_take hw f1.1 (by omega) (by omega) (G row f1.1 (by omega)) f4 (by omega) (gi.mpr (by rcases gv with a | a; (have dd : ¬ sp m1 row lef rest = -1000000 := (fun q => by rcases D.1 with ⟨x, _⟩ | ⟨_, _, x, _⟩; omega; (have y := canI_bd (Vd_bd hw) f1.1 (by omega) hw.2.1 x; omega)); exact absurd (h136.symm.trans a.1) dd); exact ⟨a.1, a.2.1, a.2.2.symm.trans h136⟩)) j2) (by intro r r1 r2; by_cases e : r = row; (subst e; rw [updM_same]; omega); rw [updM_j e]; exact f5 r r1 (by omega)) (by omega)
                                · refine aw_iconst dX5_splits_160 ?_
                                  refine aw_goto (tgt := 165) dX5_splits_161 (by decide) ?_
                                  refine aw_isub dX5_splits_165 ?_
                                  refine aw_istore_n (L2 := [some (rV K 30 0), some (iV (people)), some (iV (blocks)), some (iV (lef - 1)), some (iV (rest)), some (iV (row)), some (iV (m1 40 0 ((13 * row + lef) * 101 + rest))), some (iV (seats))]) dX5_splits_166 rfl (by decide) rfl ?_
                                  refine aw_iload dX5_splits_167 rfl ?_
                                  refine aw_iload dX5_splits_169 rfl ?_
                                  refine aw_isub dX5_splits_171 ?_
                                  refine aw_istore (L2 := [some (rV K 30 0), some (iV (people)), some (iV (blocks)), some (iV (lef - 1)), some (iV (rest - seats)), some (iV (row)), some (iV (m1 40 0 ((13 * row + lef) * 101 + rest))), some (iV (seats))]) dX5_splits_172 (by decide) rfl ?_
                                  refine aw_iinc (L2 := [some (rV K 30 0), some (iV (people)), some (iV (blocks)), some (iV (lef - 1)), some (iV (rest - seats)), some (iV (row + 1)), some (iV (m1 40 0 ((13 * row + lef) * 101 + rest))), some (iV (seats))]) dX5_splits_174 rfl (by decide) rfl ?_
                                  refine aw_goto (tgt := 54) dX5_splits_177 (by decide) ?_
                                  refine aw_weak (L' := [some (rV K 30 0), some (iV (people)), some (iV (blocks)), some (iV (lef - 1)), some (iV (rest - seats)), some (iV (row + 1)), none, none]) ⟨Or.inr rfl, Or.inr rfl, Or.inr rfl, Or.inr rfl, Or.inr rfl, Or.inr rfl, Or.inl rfl, Or.inl rfl, trivial⟩ ?_
                                  exact ih54 (lef - 1) (rest - seats) (row + 1) (updM m1 41 0 row seats) (by have n1 := hw.1; have n2 := hw.2.1; omega) (by have n1 := hw.1; have n2 := hw.2.1; omega) (by intro g hg; rw [updM_g hg]; exact f3 g hg) (by exact f6) (by first | (exfalso; omega) | exact SPm_skip hw f1.1 (by omega) (by omega) (G row f1.1 (by omega)) f4 (by omega) (fun x x1 x2 => by have := j2 x x1 x2; omega) | exact SPm_take hw f1.1 (by omega) (by omega) (G row f1.1 (by omega)) f4 (by omega) (gi.mpr (by rcases gv with a | a; (have dd : ¬ sp m1 row lef rest = -1000000 := (fun q => by rcases D.1 with ⟨x, _⟩ | ⟨_, _, x, _⟩; omega; (have y := canI_bd (Vd_bd hw) f1.1 (by omega) hw.2.1 x; omega)); exact absurd (h136.symm.trans a.1) dd); exact ⟨a.1, a.2.1, a.2.2.symm.trans h136⟩)) j2) (by intro r r1 r2; by_cases e : r = row; (subst e; rw [updM_same]; omega); rw [updM_j e]; exact f5 r r1 (by omega)) (by omega)
                              · refine aw_iinc (L2 := [some (rV K 30 0), some (iV (people)), some (iV (blocks)), some (iV (lef)), some (iV (rest)), some (iV (row)), some (iV (m1 40 0 ((13 * row + lef) * 101 + rest))), some (iV (seats + (-1)))]) dX5_splits_139 rfl (by decide) rfl ?_
                                refine aw_goto (tgt := 112) dX5_splits_142 (by decide) ?_
                                exact ih112 (seats + (-1)) (by omega) (by intro x x1 x2; have q := j2 x x1 x2; first | omega | (by_cases e : x = seats; (subst e; exact absurd (gi.mp x2) (fun y => by rcases gv with a | a; (rcases a.2 with b | b; exact y.1 b; exact b y.2.1); exact h136 (by rw [a.2.2]; exact y.2.2))); omega)) (by omega)
                      exact lp112 (((Int.toNat rest)) + 1) (rest) (by first | omega | (have n3 := hw.2.2 row (by omega) (by omega); omega)) (by intro x x1 x2; have bd := canI_bd (Vd_bd hw) (by omega) (by omega) hw.2.1 x2.2; have bl := okd_le x2.1; have kk : m1 31 0 row = M 31 0 row := (by rw [k31]); omega) (Nat.lt_succ_self _)
                  · refine aw_iconst dX5_splits_82 ?_
                    refine aw_goto (tgt := 110) dX5_splits_83 (by decide) ?_
                    refine aw_istore (L2 := [some (rV K 30 0), some (iV (people)), some (iV (blocks)), some (iV (lef)), some (iV (rest)), some (iV (row)), some (iV (m1 40 0 ((13 * row + lef) * 101 + rest))), some (iV 0)]) dX5_splits_110 (by decide) rfl ?_
                    have lp112 : ∀ (n112 : Nat) (seats : Int), (0 ≤ seats ∧ seats ≤ 20 ∧ seats ≤ rest ∧ (seats = 0 ∨ 1 ≤ lef)) → (∀ x : Int, 2 ≤ x → wkd M row rest lef (sp m1 row lef rest) x → x ≤ seats) → ((Int.toNat seats)) < n112 → AW K l iX5_splits (ZM K iX5_splits (rZm (fun z m => SFd M m ∧ ((z = 0 ∧ ∀ b v : Int, ¬ cD M 0 b people v) ∨ SPLd M m people z)))) 112 [some (rV K 30 0), some (iV (people)), some (iV (blocks)), some (iV (lef)), some (iV (rest)), some (iV (row)), some (iV (m1 40 0 ((13 * row + lef) * 101 + rest))), some (iV (seats))] [] (m1) 0 0 := by
                      intro n112
                      induction n112 with
                      | zero =>
                        intro seats j1 j2 hm112
                        exact absurd hm112 (Nat.not_lt_zero _)
                      | succ n112 ih112 =>
                        intro seats j1 j2 hm112
                        refine aw_iload dX5_splits_112 rfl ?_
                        refine aw_if_le (tgt := 145) dX5_splits_114 (by decide) (by have n1 := hw.1; have n2 := hw.2.1; omega) (fun h114 => ?_) (fun h114 => ?_)
                        · refine aw_aload_n dX5_splits_145 rfl rfl ?_
                          refine aw_getr (g := 30) rfl rfl ly_X5 rfl (k := 15) dX5_splits_146 (by decide) fl_X5_40 rfl ?_
                          refine aw_iload dX5_splits_149 rfl ?_
                          refine aw_iload dX5_splits_151 rfl ?_
                          refine aw_iast (g := 41) (n := 12) (M' := updM m1 41 0 row seats) rfl (by decide) dX5_splits_153 (by decide) (by show 0 ≤ row ∧ row < (12 : Int); have n1 := hw.1; have n2 := hw.2.1; omega) (by have n1 := hw.1; have n2 := hw.2.1; omega) rfl ?_
                          refine aw_iload_n dX5_splits_154 rfl rfl ?_
                          refine aw_iload dX5_splits_155 rfl ?_
                          refine aw_if_le (tgt := 164) dX5_splits_157 (by decide) (by have n1 := hw.1; have n2 := hw.2.1; omega) (fun h157 => ?_) (fun h157 => ?_)
                          · refine aw_iconst dX5_splits_164 ?_
                            refine aw_isub dX5_splits_165 ?_
                            refine aw_istore_n (L2 := [some (rV K 30 0), some (iV (people)), some (iV (blocks)), some (iV (lef - 0)), some (iV (rest)), some (iV (row)), some (iV (m1 40 0 ((13 * row + lef) * 101 + rest))), some (iV (seats))]) dX5_splits_166 rfl (by decide) rfl ?_
                            refine aw_iload dX5_splits_167 rfl ?_
                            refine aw_iload dX5_splits_169 rfl ?_
                            refine aw_isub dX5_splits_171 ?_
                            refine aw_istore (L2 := [some (rV K 30 0), some (iV (people)), some (iV (blocks)), some (iV (lef - 0)), some (iV (rest - seats)), some (iV (row)), some (iV (m1 40 0 ((13 * row + lef) * 101 + rest))), some (iV (seats))]) dX5_splits_172 (by decide) rfl ?_
                            refine aw_iinc (L2 := [some (rV K 30 0), some (iV (people)), some (iV (blocks)), some (iV (lef - 0)), some (iV (rest - seats)), some (iV (row + 1)), some (iV (m1 40 0 ((13 * row + lef) * 101 + rest))), some (iV (seats))]) dX5_splits_174 rfl (by decide) rfl ?_
                            refine aw_goto (tgt := 54) dX5_splits_177 (by decide) ?_
                            refine aw_weak (L' := [some (rV K 30 0), some (iV (people)), some (iV (blocks)), some (iV (lef - 0)), some (iV (rest - seats)), some (iV (row + 1)), none, none]) ⟨Or.inr rfl, Or.inr rfl, Or.inr rfl, Or.inr rfl, Or.inr rfl, Or.inr rfl, Or.inl rfl, Or.inl rfl, trivial⟩ ?_
                            exact ih54 (lef - 0) (rest - seats) (row + 1) (updM m1 41 0 row seats) (by have n1 := hw.1; have n2 := hw.2.1; omega) (by have n1 := hw.1; have n2 := hw.2.1; omega) (by intro g hg; rw [updM_g hg]; exact f3 g hg) (by exact f6) (by first | (exfalso; omega) | exact SPm_skip hw f1.1 (by omega) (by omega) (G row f1.1 (by omega)) f4 (by omega) (fun x x1 x2 => by have := j2 x x1 x2; omega) | exact SPm_take hw f1.1 (by omega) (by omega) (G row f1.1 (by omega)) f4 (by omega) (gi.mpr (by rcases gv with a | a; (have dd : ¬ sp m1 row lef rest = -1000000 := (fun q => by rcases D.1 with ⟨x, _⟩ | ⟨_, _, x, _⟩; omega; (have y := canI_bd (Vd_bd hw) f1.1 (by omega) hw.2.1 x; omega)); exact absurd (h136.symm.trans a.1) dd); exact ⟨a.1, a.2.1, a.2.2.symm.trans h136⟩)) j2) (by intro r r1 r2; by_cases e : r = row; (subst e; rw [updM_same]; omega); rw [updM_j e]; exact f5 r r1 (by omega)) (by omega)
                          · refine aw_iconst dX5_splits_160 ?_
                            refine aw_goto (tgt := 165) dX5_splits_161 (by decide) ?_
                            refine aw_isub dX5_splits_165 ?_
                            refine aw_istore_n (L2 := [some (rV K 30 0), some (iV (people)), some (iV (blocks)), some (iV (lef - 1)), some (iV (rest)), some (iV (row)), some (iV (m1 40 0 ((13 * row + lef) * 101 + rest))), some (iV (seats))]) dX5_splits_166 rfl (by decide) rfl ?_
                            refine aw_iload dX5_splits_167 rfl ?_
                            refine aw_iload dX5_splits_169 rfl ?_
                            refine aw_isub dX5_splits_171 ?_
                            refine aw_istore (L2 := [some (rV K 30 0), some (iV (people)), some (iV (blocks)), some (iV (lef - 1)), some (iV (rest - seats)), some (iV (row)), some (iV (m1 40 0 ((13 * row + lef) * 101 + rest))), some (iV (seats))]) dX5_splits_172 (by decide) rfl ?_
                            refine aw_iinc (L2 := [some (rV K 30 0), some (iV (people)), some (iV (blocks)), some (iV (lef - 1)), some (iV (rest - seats)), some (iV (row + 1)), some (iV (m1 40 0 ((13 * row + lef) * 101 + rest))), some (iV (seats))]) dX5_splits_174 rfl (by decide) rfl ?_
                            refine aw_goto (tgt := 54) dX5_splits_177 (by decide) ?_
                            refine aw_weak (L' := [some (rV K 30 0), some (iV (people)), some (iV (blocks)), some (iV (lef - 1)), some (iV (rest - seats)), some (iV (row + 1)), none, none]) ⟨Or.inr rfl, Or.inr rfl, Or.inr rfl, Or.inr rfl, Or.inr rfl, Or.inr rfl, Or.inl rfl, Or.inl rfl, trivial⟩ ?_
                            exact ih54 (lef - 1) (rest - seats) (row + 1) (updM m1 41 0 row seats) (by have n1 := hw.1; have n2 := hw.2.1; omega) (by have n1 := hw.1; have n2 := hw.2.1; omega) (by intro g hg; rw [updM_g hg]; exact f3 g hg) (by exact f6) (by first | (exfalso; omega) | exact SPm_skip hw f1.1 (by omega) (by omega) (G row f1.1 (by omega)) f4 (by omega) (fun x x1 x2 => by have := j2 x x1 x2; omega) | exact SPm_take hw f1.1 (by omega) (by omega) (G row f1.1 (by omega)) f4 (by omega) (gi.mpr (by rcases gv with a | a; (have dd : ¬ sp m1 row lef rest = -1000000 := (fun q => by rcases D.1 with ⟨x, _⟩ | ⟨_, _, x, _⟩; omega; (have y := canI_bd (Vd_bd hw) f1.1 (by omega) hw.2.1 x; omega)); exact absurd (h136.symm.trans a.1) dd); exact ⟨a.1, a.2.1, a.2.2.symm.trans h136⟩)) j2) (by intro r r1 r2; by_cases e : r = row; (subst e; rw [updM_same]; omega); rw [updM_j e]; exact f5 r r1 (by omega)) (by omega)
                        · refine aw_iload dX5_splits_117 rfl ?_
                          refine aw_iconst dX5_splits_119 ?_
                          refine aw_icmp_eq (tgt := 139) dX5_splits_120 (by decide) (by have n1 := hw.1; have n2 := hw.2.1; omega) (by have n1 := hw.1; have n2 := hw.2.1; omega) (fun h120 => ?_) (fun h120 => ?_)
                          · refine aw_iinc (L2 := [some (rV K 30 0), some (iV (people)), some (iV (blocks)), some (iV (lef)), some (iV (rest)), some (iV (row)), some (iV (m1 40 0 ((13 * row + lef) * 101 + rest))), some (iV (seats + (-1)))]) dX5_splits_139 rfl (by decide) rfl ?_
                            refine aw_goto (tgt := 112) dX5_splits_142 (by decide) ?_
                            exact ih112 (seats + (-1)) (by omega) (by intro x x1 x2; have q := j2 x x1 x2; first | omega | (by_cases e : x = seats; (subst e; exact absurd (gi.mp x2) (fun y => by rcases gv with a | a; (rcases a.2 with b | b; exact y.1 b; exact b y.2.1); exact h136 (by rw [a.2.2]; exact y.2.2))); omega)) (by omega)
                          · refine aw_aload_n dX5_splits_123 rfl rfl ?_
                            refine aw_iload dX5_splits_124 rfl ?_
                            refine aw_iload_n dX5_splits_126 rfl rfl ?_
                            refine aw_iload dX5_splits_127 rfl ?_
                            refine aw_iload dX5_splits_129 rfl ?_
                            refine aw_cVr (g := 30) (As := [iV (row), iV (lef), iV (rest), iV (seats)]) (rest := []) (c_X5_given hst m1 (row) (lef) (rest) (seats) (by have n1 := hw.1; have n2 := hw.2.1; omega) (by have n1 := hw.1; have n2 := hw.2.1; omega) (by have n1 := hw.1; have n2 := hw.2.1; omega) (by have n1 := hw.1; have n2 := hw.2.1; omega) (by exact HWm_f hw fm) (by have n1 := hw.1; have n2 := hw.2.1; omega) (by have n1 := hw.1; have n2 := hw.2.1; omega) (by have n1 := hw.1; have n2 := hw.2.1; omega) (by have n1 := hw.1; have n2 := hw.2.1; omega) (by exact (GF_m fm).mpr (G (row + 1) (by omega) (by omega)))) cv_X5_given dX5_splits_131 ml_X5_133 rfl rfl rfl rfl rfl (Nat.le_of_ble_eq_true rfl) (by decide) rfl rfl (by decide) (fun z131 (h131 : (z131 = -1000000 ∧ (sp m1 (row + 1) (lef - 1) (rest - seats) = -1000000 ∨ ¬ okd m1 row seats)) ∨ (sp m1 (row + 1) (lef - 1) (rest - seats) ≠ -1000000 ∧ okd m1 row seats ∧ z131 = sp m1 (row + 1) (lef - 1) (rest - seats) + Vd m1 row seats)) => ?_)
                            have gi := given_iff hw f1.1 (by omega) (show 0 ≤ rest ∧ rest ≤ 100 by omega) (show 1 ≤ lef ∧ lef ≤ 12 by omega) (show 2 ≤ seats ∧ seats ≤ rest by omega) (G (row + 1) (by omega) (by omega)) D.1; have gv := h131; rw [(cD_fr fm).1, (cD_fr fm).2.1] at gv; have gg := GF_bd hw (b := lef - 1) (p := rest - seats) (by omega) (by omega) (by omega) (by omega) (G (row + 1) (by omega) (by omega)); have gv2 : okd M row seats → -400 ≤ Vd M row seats ∧ Vd M row seats ≤ 20000 := Vd_bd hw row seats f1.1 (by omega) (by omega)
                            refine aw_iload dX5_splits_134 rfl ?_
                            refine aw_icmp_eq (tgt := 145) dX5_splits_136 (by decide) (by rcases gv with a | a; omega; (have q := gv2 a.2.1; have q2 := a.2.2; omega)) (by have n1 := hw.1; have n2 := hw.2.1; omega) (fun h136 => ?_) (fun h136 => ?_)
                            · refine aw_aload_n dX5_splits_145 rfl rfl ?_
                              refine aw_getr (g := 30) rfl rfl ly_X5 rfl (k := 15) dX5_splits_146 (by decide) fl_X5_40 rfl ?_
                              refine aw_iload dX5_splits_149 rfl ?_
                              refine aw_iload dX5_splits_151 rfl ?_
                              refine aw_iast (g := 41) (n := 12) (M' := updM m1 41 0 row seats) rfl (by decide) dX5_splits_153 (by decide) (by show 0 ≤ row ∧ row < (12 : Int); have n1 := hw.1; have n2 := hw.2.1; omega) (by have n1 := hw.1; have n2 := hw.2.1; omega) rfl ?_
                              refine aw_iload_n dX5_splits_154 rfl rfl ?_
                              refine aw_iload dX5_splits_155 rfl ?_
                              refine aw_if_le (tgt := 164) dX5_splits_157 (by decide) (by have n1 := hw.1; have n2 := hw.2.1; omega) (fun h157 => ?_) (fun h157 => ?_)
                              · refine aw_iconst dX5_splits_164 ?_
                                refine aw_isub dX5_splits_165 ?_
                                refine aw_istore_n (L2 := [some (rV K 30 0), some (iV (people)), some (iV (blocks)), some (iV (lef - 0)), some (iV (rest)), some (iV (row)), some (iV (m1 40 0 ((13 * row + lef) * 101 + rest))), some (iV (seats))]) dX5_splits_166 rfl (by decide) rfl ?_
                                refine aw_iload dX5_splits_167 rfl ?_
                                refine aw_iload dX5_splits_169 rfl ?_
                                refine aw_isub dX5_splits_171 ?_
                                refine aw_istore (L2 := [some (rV K 30 0), some (iV (people)), some (iV (blocks)), some (iV (lef - 0)), some (iV (rest - seats)), some (iV (row)), some (iV (m1 40 0 ((13 * row + lef) * 101 + rest))), some (iV (seats))]) dX5_splits_172 (by decide) rfl ?_
                                refine aw_iinc (L2 := [some (rV K 30 0), some (iV (people)), some (iV (blocks)), some (iV (lef - 0)), some (iV (rest - seats)), some (iV (row + 1)), some (iV (m1 40 0 ((13 * row + lef) * 101 + rest))), some (iV (seats))]) dX5_splits_174 rfl (by decide) rfl ?_
                                refine aw_goto (tgt := 54) dX5_splits_177 (by decide) ?_
                                refine aw_weak (L' := [some (rV K 30 0), some (iV (people)), some (iV (blocks)), some (iV (lef - 0)), some (iV (rest - seats)), some (iV (row + 1)), none, none]) ⟨Or.inr rfl, Or.inr rfl, Or.inr rfl, Or.inr rfl, Or.inr rfl, Or.inr rfl, Or.inl rfl, Or.inl rfl, trivial⟩ ?_
                                exact ih54 (lef - 0) (rest - seats) (row + 1) (updM m1 41 0 row seats) (by have n1 := hw.1; have n2 := hw.2.1; omega) (by have n1 := hw.1; have n2 := hw.2.1; omega) (by intro g hg; rw [updM_g hg]; exact f3 g hg) (by exact f6) (by first | (exfalso; omega) | exact SPm_skip hw f1.1 (by omega) (by omega) (G row f1.1 (by omega)) f4 (by omega) (fun x x1 x2 => by have := j2 x x1 x2; omega) | exact SPm_take hw f1.1 (by omega) (by omega) (G row f1.1 (by omega)) f4 (by omega) (gi.mpr (by rcases gv with a | a; (have dd : ¬ sp m1 row lef rest = -1000000 := (fun q => by rcases D.1 with ⟨x, _⟩ | ⟨_, _, x, _⟩; omega; (have y := canI_bd (Vd_bd hw) f1.1 (by omega) hw.2.1 x; omega)); exact absurd (h136.symm.trans a.1) dd); exact ⟨a.1, a.2.1, a.2.2.symm.trans h136⟩)) j2) (by intro r r1 r2; by_cases e : r = row; (subst e; rw [updM_same]; omega); rw [updM_j e]; exact f5 r r1 (by omega)) (by omega)
                              · refine aw_iconst dX5_splits_160 ?_
                                refine aw_goto (tgt := 165) dX5_splits_161 (by decide) ?_
                                refine aw_isub dX5_splits_165 ?_
                                refine aw_istore_n (L2 := [some (rV K 30 0), some (iV (people)), some (iV (blocks)), some (iV (lef - 1)), some (iV (rest)), some (iV (row)), some (iV (m1 40 0 ((13 * row + lef) * 101 + rest))), some (iV (seats))]) dX5_splits_166 rfl (by decide) rfl ?_
                                refine aw_iload dX5_splits_167 rfl ?_
                                refine aw_iload dX5_splits_169 rfl ?_
                                refine aw_isub dX5_splits_171 ?_
                                refine aw_istore (L2 := [some (rV K 30 0), some (iV (people)), some (iV (blocks)), some (iV (lef - 1)), some (iV (rest - seats)), some (iV (row)), some (iV (m1 40 0 ((13 * row + lef) * 101 + rest))), some (iV (seats))]) dX5_splits_172 (by decide) rfl ?_
                                refine aw_iinc (L2 := [some (rV K 30 0), some (iV (people)), some (iV (blocks)), some (iV (lef - 1)), some (iV (rest - seats)), some (iV (row + 1)), some (iV (m1 40 0 ((13 * row + lef) * 101 + rest))), some (iV (seats))]) dX5_splits_174 rfl (by decide) rfl ?_
                                refine aw_goto (tgt := 54) dX5_splits_177 (by decide) ?_
                                refine aw_weak (L' := [some (rV K 30 0), some (iV (people)), some (iV (blocks)), some (iV (lef - 1)), some (iV (rest - seats)), some (iV (row + 1)), none, none]) ⟨Or.inr rfl, Or.inr rfl, Or.inr rfl, Or.inr rfl, Or.inr rfl, Or.inr rfl, Or.inl rfl, Or.inl rfl, trivial⟩ ?_
                                exact ih54 (lef - 1) (rest - seats) (row + 1) (updM m1 41 0 row seats) (by have n1 := hw.1; have n2 := hw.2.1; omega) (by have n1 := hw.1; have n2 := hw.2.1; omega) (by intro g hg; rw [updM_g hg]; exact f3 g hg) (by exact f6) (by first | (exfalso; omega) | exact SPm_skip hw f1.1 (by omega) (by omega) (G row f1.1 (by omega)) f4 (by omega) (fun x x1 x2 => by have := j2 x x1 x2; omega) | exact SPm_take hw f1.1 (by omega) (by omega) (G row f1.1 (by omega)) f4 (by omega) (gi.mpr (by rcases gv with a | a; (have dd : ¬ sp m1 row lef rest = -1000000 := (fun q => by rcases D.1 with ⟨x, _⟩ | ⟨_, _, x, _⟩; omega; (have y := canI_bd (Vd_bd hw) f1.1 (by omega) hw.2.1 x; omega)); exact absurd (h136.symm.trans a.1) dd); exact ⟨a.1, a.2.1, a.2.2.symm.trans h136⟩)) j2) (by intro r r1 r2; by_cases e : r = row; (subst e; rw [updM_same]; omega); rw [updM_j e]; exact f5 r r1 (by omega)) (by omega)
                            · refine aw_iinc (L2 := [some (rV K 30 0), some (iV (people)), some (iV (blocks)), some (iV (lef)), some (iV (rest)), some (iV (row)), some (iV (m1 40 0 ((13 * row + lef) * 101 + rest))), some (iV (seats + (-1)))]) dX5_splits_139 rfl (by decide) rfl ?_
                              refine aw_goto (tgt := 112) dX5_splits_142 (by decide) ?_
                              exact ih112 (seats + (-1)) (by omega) (by intro x x1 x2; have q := j2 x x1 x2; first | omega | (by_cases e : x = seats; (subst e; exact absurd (gi.mp x2) (fun y => by rcases gv with a | a; (rcases a.2 with b | b; exact y.1 b; exact b y.2.1); exact h136 (by rw [a.2.2]; exact y.2.2))); omega)) (by omega)
                    exact lp112 (((Int.toNat 0)) + 1) (0) (by first | omega | (have n3 := hw.2.2 row (by omega) (by omega); omega)) (by intro x x1 x2; have bd := canI_bd (Vd_bd hw) (by omega) (by omega) hw.2.1 x2.2; have bl := okd_le x2.1; have kk : m1 31 0 row = M 31 0 row := (by rw [k31]); omega) (Nat.lt_succ_self _)
            exact lp54 (((M 30 0 3 - 0).toNat) + 1) (blocks) (people) (0) (M1) (by have n1 := hw.1; have n2 := hw.2.1; omega) (by have n1 := hw.1; have n2 := hw.2.1; omega) (by exact fun _ _ => rfl) (by omega) (by have n2 := hw.2.1; first | (exfalso; omega) | exact SPm_0 (by omega) (SPm_fg hw (by omega) (by omega) G0 e2 h27)) (by intro r r1 r2; omega) (Nat.lt_succ_self _)
          · refine aw_iconst dX5_splits_44 ?_
            exact aw_iret dX5_splits_45 rfl rfl (by decide) (by decide) ⟨0, rfl, (by first | (exfalso; omega) | exact ⟨F1, Or.inl ⟨rfl, fun b v q => (by have bd := canI_bd (Vd_bd hw) (Int.le_refl 0) hw.1 hw.2.1 q; exact e2 b (by omega) v q)⟩⟩)⟩
        · refine aw_iinc (L2 := [some (rV K 30 0), some (iV (people)), some (iV (blocks + 1)), none, none, none, none, none]) dX5_splits_30 rfl (by decide) rfl ?_
          refine aw_goto (tgt := 6) dX5_splits_33 (by decide) ?_
          exact ih6 (blocks + 1) (by have n1 := hw.1; have n2 := hw.2.1; omega) (by intro b b1 v q; by_cases e : b = blocks; (subst e; exact GF_nv hw (Int.le_refl 0) hw.1 (by omega) (by omega) G0 h27 v q); exact e2 b (by omega) v q) (by omega)
  exact lp6 (((M 30 0 3 + 1 - 1).toNat) + 1) (1) (by have n1 := hw.1; have n2 := hw.2.1; omega) (by intro b b1 v q; have t := can_b0 _ _ _ _ q; omega) (Nat.lt_succ_self _)
