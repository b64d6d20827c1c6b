set_option maxHeartbeats 4000000 in
set_option maxRecDepth 20000 in
theorem c_L_isGroupSo {K : WPar} {l : Launch} (hst : l.stackTraces = false) {c : Int} (M : Mem) (people : Int) (h : INV M c) (hc : c ≤ 512) (hp : 2 ≤ people ∧ people ≤ 100) : CT K l iL_isGroupSo [rV K 0 0, iV (people)] M (rZm (fun z m => z = 1 ∧ SF M m)) := by
  refine aw_met [some (rV K 0 0), some (iV (people)), none, none, none, none, none, none, none] hst (by decide) rfl (Nat.le_of_ble_eq_true rfl) rfl rfl (lcat rfl) ?_
  refine aw_rng (fun hM => ?_)
  refine aw_wide (a := 0) (b := 6 * (0)) (Nat.le_refl _) (Nat.le_refl _) ?_
  have n0 := h.hw.1
  have n1 := h.hw.2.1
  refine aw_aload_n dL_isGroupSo_0 rfl rfl ?_
  refine aw_iconst dL_isGroupSo_1 ?_
  refine aw_iload_n dL_isGroupSo_2 rfl rfl ?_
  refine aw_iconst dL_isGroupSo_3 ?_
  refine aw_iconst dL_isGroupSo_4 ?_
  refine aw_callW (As := [rV K 0 0, iV 4, iV (people), iV 0, iV 0]) (rest := []) (c2 := 0 + 4) (s2 := 6 * (0 + 4)) (c_L_asks4 hst M h hc people 0 0 (by omega)) cw_L_asks dL_isGroupSo_5 ml_L_76 rfl rfl (Nat.le_of_ble_eq_true rfl) (by decide) (by show 0 + 4 ≤ 0 + 4; omega) (by show 6 * (0) + 24 ≤ 6 * (0 + 4); omega) (by show 0 + 4 ≤ 9880 ∧ 6 * (0 + 4) ≤ 59280; omega) (fun z5 m5 h5 => ?_)
  rcases gr_cases hp h5 with ⟨w1, w2, w3⟩ | ⟨w1, w2, w3⟩
  · have i_m5 : INV m5 c := INV_cg w3.s16 h
    have b51 : m5 1 0 4 = M 1 0 4 := by rw [w3 1 (by decide)]
    refine aw_st (st' := [iV (-99999)]) (by rw [w1]) ?_
    refine aw_istore_n (L2 := [some (rV K 0 0), some (iV (people)), some (iV (-99999)), none, none, none, none, none, none]) dL_isGroupSo_8 rfl (by decide) rfl ?_
    refine aw_iconst dL_isGroupSo_9 ?_
    refine aw_istore_n (L2 := [some (rV K 0 0), some (iV (people)), some (iV (-99999)), some (iV 0), none, none, none, none, none]) dL_isGroupSo_10 rfl (by decide) rfl ?_
    refine aw_iconst dL_isGroupSo_11 ?_
    refine aw_istore (L2 := [some (rV K 0 0), some (iV (people)), some (iV (-99999)), some (iV 0), some (iV 0), none, none, none, none]) dL_isGroupSo_12 (by decide) rfl ?_
    refine aw_iconst dL_isGroupSo_14 ?_
    refine aw_istore (L2 := [some (rV K 0 0), some (iV (people)), some (iV (-99999)), some (iV 0), some (iV 0), some (iV 0), none, none, none]) dL_isGroupSo_15 (by decide) rfl ?_
    refine aw_iload dL_isGroupSo_17 rfl ?_
    refine aw_aload_n dL_isGroupSo_19 rfl rfl ?_
    refine lw_Vi (g := 0) (As := []) (rest := [iV 0]) (c2 := 0 + 4) (s2 := 6 * (0 + 4)) (k_rows hst m5 i_m5) cv_X4_rows dL_isGroupSo_20 ml_L_73 rfl rfl rfl rfl rfl (Nat.le_of_ble_eq_true rfl) (by decide) (Nat.le_refl _) (Nat.le_refl _) (by show 0 + 4 ≤ 9880 ∧ 6 * (0 + 4) ≤ 59280; omega) ?_
    refine aw_icmp_ge (tgt := 128) dL_isGroupSo_23 (by decide) (by omega) (by omega) (fun h23 => ?_) (fun h23 => ?_)
    · refine aw_iload_n dL_isGroupSo_128 rfl rfl ?_
      refine aw_ldc (z := -99999) dL_isGroupSo_129 cn_L_30 rfl ?_
      refine aw_icmp_ne (tgt := 150) dL_isGroupSo_131 (by decide) (by decide) (by decide) (fun h => absurd h (by decide)) (fun _ => ?_)
      refine aw_aload_n dL_isGroupSo_134 rfl rfl ?_
      refine lw_Vr (R := fun z => LNG m5 z) (g := 0) (As := []) (rest := []) (c2 := 0 + 4) (s2 := 6 * (0 + 4)) (k_longestBlock hst m5 i_m5) cv_X4_longestBlock dL_isGroupSo_135 ml_L_99 rfl rfl rfl rfl rfl (Nat.le_of_ble_eq_true rfl) (by decide) (Nat.le_refl _) (Nat.le_refl _) (by show 0 + 4 ≤ 9880 ∧ 6 * (0 + 4) ≤ 59280; omega) (fun z135 h135 => ?_)
      refine aw_iload_n dL_isGroupSo_138 rfl rfl ?_
      refine aw_icmp_ge (tgt := 146) dL_isGroupSo_139 (by decide) (by have q := LNG_r i_m5.hw h135; omega) (by omega) (fun h139 => absurd h139 (by have q := grp_none h hp.1 (w3.lng h135) w2; omega)) (fun h139 => ?_)
      refine aw_iconst dL_isGroupSo_142 ?_
      refine aw_goto (tgt := 197) dL_isGroupSo_143 (by decide) ?_
      exact aw_iret dL_isGroupSo_197 rfl rfl (by show 0 + 4 ≤ 9880; omega) (by show 6 * (0 + 4) ≤ 59280; omega) ⟨1, rfl, rfl, w3⟩
    · refine aw_iload_n dL_isGroupSo_26 rfl rfl ?_
      refine aw_if_le (tgt := 128) dL_isGroupSo_27 (by decide) (by decide) (fun _ => ?_) (fun h => absurd (by decide) h)
      refine aw_iload_n dL_isGroupSo_128 rfl rfl ?_
      refine aw_ldc (z := -99999) dL_isGroupSo_129 cn_L_30 rfl ?_
      refine aw_icmp_ne (tgt := 150) dL_isGroupSo_131 (by decide) (by decide) (by decide) (fun h => absurd h (by decide)) (fun _ => ?_)
      refine aw_aload_n dL_isGroupSo_134 rfl rfl ?_
      refine lw_Vr (R := fun z => LNG m5 z) (g := 0) (As := []) (rest := []) (c2 := 0 + 4) (s2 := 6 * (0 + 4)) (k_longestBlock hst m5 i_m5) cv_X4_longestBlock dL_isGroupSo_135 ml_L_99 rfl rfl rfl rfl rfl (Nat.le_of_ble_eq_true rfl) (by decide) (Nat.le_refl _) (Nat.le_refl _) (by show 0 + 4 ≤ 9880 ∧ 6 * (0 + 4) ≤ 59280; omega) (fun z135 h135 => ?_)
      refine aw_iload_n dL_isGroupSo_138 rfl rfl ?_
      refine aw_icmp_ge (tgt := 146) dL_isGroupSo_139 (by decide) (by have q := LNG_r i_m5.hw h135; omega) (by omega) (fun h139 => absurd h139 (by have q := grp_none h hp.1 (w3.lng h135) w2; omega)) (fun h139 => ?_)
      refine aw_iconst dL_isGroupSo_142 ?_
      refine aw_goto (tgt := 197) dL_isGroupSo_143 (by decide) ?_
      exact aw_iret dL_isGroupSo_197 rfl rfl (by show 0 + 4 ≤ 9880; omega) (by show 6 * (0 + 4) ≤ 59280; omega) ⟨1, rfl, rfl, w3⟩
  · have i_m5 : INV m5 c := INV_cg w1.s16 h
    have z1 : 1 ≤ z5 ∧ z5 ≤ 13 := by
      obtain ⟨f, g, f13, hF, h7, _⟩ := id w2
      rcases hF with ⟨q, _⟩ | ⟨q0, q1, hc2, _⟩
      · exact absurd q f13
      · have f0 : f ≠ 0 := fun e => by
          subst e
          have hc3 : can (M 1 0 4) (okM M) (VM M) (M 1 0 4 - 0).toNat 0 people g := hc2
          have := can_0 (VM_bd h.hw) _ _ _ (by omega) hc3
          omega
        omega
    refine aw_istore_n (L2 := [some (rV K 0 0), some (iV (people)), some (iV (z5)), none, none, none, none, none, none]) dL_isGroupSo_8 rfl (by decide) rfl ?_
    refine aw_iconst dL_isGroupSo_9 ?_
    refine aw_istore_n (L2 := [some (rV K 0 0), some (iV (people)), some (iV (z5)), some (iV 0), none, none, none, none, none]) dL_isGroupSo_10 rfl (by decide) rfl ?_
    refine aw_iconst dL_isGroupSo_11 ?_
    refine aw_istore (L2 := [some (rV K 0 0), some (iV (people)), some (iV (z5)), some (iV 0), some (iV 0), none, none, none, none]) dL_isGroupSo_12 (by decide) rfl ?_
    refine aw_iconst dL_isGroupSo_14 ?_
    refine aw_istore (L2 := [some (rV K 0 0), some (iV (people)), some (iV (z5)), some (iV 0), some (iV 0), some (iV 0), none, none, none]) dL_isGroupSo_15 (by decide) rfl ?_
    have lp17 : ∀ (n17 : Nat) (al us row : Int) (m1 : Mem), (0 ≤ row ∧ row ≤ M 1 0 4) → (SF M m1) → (al = sumI (m5 26 0) row) → (us = sumI (fun r => if m5 26 0 r = 0 then 0 else 1) row) → ((0 ≤ al ∧ al ≤ 20 * row) ∧ 0 ≤ us ∧ us ≤ row) → ((M 1 0 4 - row).toNat) < n17 → AW K l iL_isGroupSo (ZM K iL_isGroupSo (rZm (fun z m => z = 1 ∧ SF M m))) 17 [some (rV K 0 0), some (iV (people)), some (iV (z5)), some (iV (al)), some (iV (us)), some (iV (row)), none, none, none] [] (m1) (0 + 4 + 823 * Int.toNat row) (6 * (0 + 4 + 823 * Int.toNat row)) := by
      intro n17
      induction n17 with
      | zero =>
        intro al us row m1 e1 e2 e3 e4 e5 hm17
        exact absurd hm17 (Nat.not_lt_zero _)
      | succ n17 ih17 =>
        intro al us row m1 e1 e2 e3 e4 e5 hm17
        have i_m1 : INV m1 c := INV_cg e2.s16 h
        have b1 : m1 1 0 4 = M 1 0 4 := by rw [e2 1 (by decide)]
        have hf1 : ∃ b v : Int, cM m1 0 b people v := by
                  obtain ⟨b, v, q⟩ := FOUND_can w2
                  exact ⟨b, v, e2.s16.cm.mpr q⟩
        refine aw_iload dL_isGroupSo_17 rfl ?_
        refine aw_aload_n dL_isGroupSo_19 rfl rfl ?_
        refine lw_Vi (g := 0) (As := []) (rest := [iV (row)]) (c2 := 0 + 4 + 823 * Int.toNat row) (s2 := 6 * (0 + 4 + 823 * Int.toNat row)) (k_rows hst m1 i_m1) cv_X4_rows dL_isGroupSo_20 ml_L_73 rfl rfl rfl rfl rfl (Nat.le_of_ble_eq_true rfl) (by decide) (Nat.le_refl _) (Nat.le_refl _) (by show 0 + 4 + 823 * Int.toNat row ≤ 9880 ∧ 6 * (0 + 4 + 823 * Int.toNat row) ≤ 59280; omega) ?_
        refine aw_icmp_ge (tgt := 128) dL_isGroupSo_23 (by decide) (by omega) (by omega) (fun h23 => ?_) (fun h23 => ?_)
        · refine aw_iload_n dL_isGroupSo_128 rfl rfl ?_
          refine aw_ldc (z := -99999) dL_isGroupSo_129 cn_L_30 rfl ?_
          refine aw_icmp_ne (tgt := 150) dL_isGroupSo_131 (by decide) (by omega) (by omega) (fun h131 => ?_) (fun h131 => absurd h131 (by omega))
          refine aw_iload_n dL_isGroupSo_150 rfl rfl ?_
          refine aw_iconst dL_isGroupSo_151 ?_
          refine aw_icmp_lt (tgt := 196) dL_isGroupSo_152 (by decide) (by omega) (by omega) (fun h152 => absurd h152 (by omega)) (fun h152 => ?_)
          refine aw_iload_n dL_isGroupSo_155 rfl rfl ?_
          refine aw_iload_n dL_isGroupSo_156 rfl rfl ?_
          refine aw_samen (tgt := 196) dL_isGroupSo_157 (by decide) (by have q1 := FOUND_tot h.hw w2; have q2 : row = M 1 0 4 := (by omega); rw [e3, q2]; exact q1.1) ?_
          refine aw_iload dL_isGroupSo_160 rfl ?_
          refine aw_iload_n dL_isGroupSo_162 rfl rfl ?_
          refine aw_samen (tgt := 196) dL_isGroupSo_163 (by decide) (by have q1 := FOUND_tot h.hw w2; have q2 : row = M 1 0 4 := (by omega); rw [e4, q2, w3]; exact q1.2) ?_
          refine aw_iload_n dL_isGroupSo_166 rfl rfl ?_
          refine aw_iconst dL_isGroupSo_167 ?_
          refine aw_icmp_le (tgt := 175) dL_isGroupSo_168 (by decide) (by omega) (by omega) (fun h168 => ?_) (fun h168 => ?_)
          · refine aw_iconst dL_isGroupSo_175 ?_
            refine aw_aload_n dL_isGroupSo_176 rfl rfl ?_
            refine lw_Vr (R := fun z => LNG m1 z) (g := 0) (As := []) (rest := [iV 0]) (c2 := 0 + 4 + 823 * Int.toNat row) (s2 := 6 * (0 + 4 + 823 * Int.toNat row)) (k_longestBlock hst m1 i_m1) cv_X4_longestBlock dL_isGroupSo_177 ml_L_99 rfl rfl rfl rfl rfl (Nat.le_of_ble_eq_true rfl) (by decide) (Nat.le_refl _) (Nat.le_refl _) (by show 0 + 4 + 823 * Int.toNat row ≤ 9880 ∧ 6 * (0 + 4 + 823 * Int.toNat row) ≤ 59280; omega) (fun z177 h177 => ?_)
            refine aw_iload_n dL_isGroupSo_180 rfl rfl ?_
            refine aw_icmp_ge (tgt := 188) dL_isGroupSo_181 (by decide) (by have q := LNG_r i_m1.hw h177; omega) (by omega) (fun h181 => ?_) (fun h181 => absurd (by have q := grp_some h hp.1 (e2.lng h177) w2; omega) h181)
            refine aw_iconst dL_isGroupSo_188 ?_
            refine aw_icmp_ne (tgt := 196) dL_isGroupSo_189 (by decide) (by decide) (by decide) (fun h => absurd h (by decide)) (fun _ => ?_)
            refine aw_iconst dL_isGroupSo_192 ?_
            refine aw_goto (tgt := 197) dL_isGroupSo_193 (by decide) ?_
            exact aw_iret dL_isGroupSo_197 rfl rfl (by show 0 + 4 + 823 * Int.toNat row ≤ 9880; omega) (by show 6 * (0 + 4 + 823 * Int.toNat row) ≤ 59280; omega) ⟨1, rfl, rfl, e2⟩
          · refine aw_iconst dL_isGroupSo_171 ?_
            refine aw_goto (tgt := 176) dL_isGroupSo_172 (by decide) ?_
            refine aw_aload_n dL_isGroupSo_176 rfl rfl ?_
            refine lw_Vr (R := fun z => LNG m1 z) (g := 0) (As := []) (rest := [iV 1]) (c2 := 0 + 4 + 823 * Int.toNat row) (s2 := 6 * (0 + 4 + 823 * Int.toNat row)) (k_longestBlock hst m1 i_m1) cv_X4_longestBlock dL_isGroupSo_177 ml_L_99 rfl rfl rfl rfl rfl (Nat.le_of_ble_eq_true rfl) (by decide) (Nat.le_refl _) (Nat.le_refl _) (by show 0 + 4 + 823 * Int.toNat row ≤ 9880 ∧ 6 * (0 + 4 + 823 * Int.toNat row) ≤ 59280; omega) (fun z177 h177 => ?_)
            refine aw_iload_n dL_isGroupSo_180 rfl rfl ?_
            refine aw_icmp_ge (tgt := 188) dL_isGroupSo_181 (by decide) (by have q := LNG_r i_m1.hw h177; omega) (by omega) (fun h181 => absurd h181 (by have q := grp_some h hp.1 (e2.lng h177) w2; omega)) (fun h181 => ?_)
            refine aw_iconst dL_isGroupSo_184 ?_
            refine aw_goto (tgt := 189) dL_isGroupSo_185 (by decide) ?_
            refine aw_icmp_ne (tgt := 196) dL_isGroupSo_189 (by decide) (by decide) (by decide) (fun h => absurd h (by decide)) (fun _ => ?_)
            refine aw_iconst dL_isGroupSo_192 ?_
            refine aw_goto (tgt := 197) dL_isGroupSo_193 (by decide) ?_
            exact aw_iret dL_isGroupSo_197 rfl rfl (by show 0 + 4 + 823 * Int.toNat row ≤ 9880; omega) (by show 6 * (0 + 4 + 823 * Int.toNat row) ≤ 59280; omega) ⟨1, rfl, rfl, e2⟩
        · refine aw_iload_n dL_isGroupSo_26 rfl rfl ?_
          refine aw_if_le (tgt := 128) dL_isGroupSo_27 (by decide) (by omega) (fun h27 => absurd h27 (by omega)) (fun h27 => ?_)
          have hr : row < M 1 0 4 := by omega
          refine aw_aload_n dL_isGroupSo_30 rfl rfl ?_
          refine aw_iload_n dL_isGroupSo_31 rfl rfl ?_
          refine aw_iload dL_isGroupSo_32 rfl ?_
          refine lw_Vw (g := 0) (As := [iV (people), iV (row)]) (rest := []) (c2 := 0 + 4 + 823 * Int.toNat row + 3) (s2 := 6 * (0 + 4 + 823 * Int.toNat row + 3)) (k_seatsForGroup hst m1 i_m1 people row (by omega) hp hf1) cv_X4_seatsForGroup dL_isGroupSo_34 ml_L_145 rfl rfl rfl rfl rfl (Nat.le_of_ble_eq_true rfl) (by decide) (by show 0 + 4 + 823 * Int.toNat row + 3 ≤ 0 + 4 + 823 * Int.toNat row + 3; omega) (by show 6 * (0 + 4 + 823 * Int.toNat row) + 18 ≤ 6 * (0 + 4 + 823 * Int.toNat row + 3); omega) (by show 0 + 4 + 823 * Int.toNat row + 3 ≤ 9880 ∧ 6 * (0 + 4 + 823 * Int.toNat row + 3) ≤ 59280; omega) (fun z34 m34 h34 => ?_)
          have s34 : SF M m34 := SF.tr e2 h34.1
          have f34 : FOUND M m34 people := e2.s16.found h34.2.1
          have u34 := (FOUND_u n0 w2 f34).2 row e1.1 hr
          have r34 := FOUND_row f34 e1.1 hr
          have v34 : z34 = m34 26 0 row := h34.2.2
          rw [← v34] at r34
          have i_m34 : INV m34 c := INV_cg s34.s16 h
          have k2 : m34 2 0 row = M 2 0 row := by rw [s34 2 (by decide)]
          have k6 : m34 6 row = M 6 row := by rw [s34 6 (by decide)]
          have k1 : m34 1 0 4 = M 1 0 4 := by rw [s34 1 (by decide)]
          have w34 := h.hw.2.2 row e1.1 hr
          refine aw_istore (L2 := [some (rV K 0 0), some (iV (people)), some (iV (z5)), some (iV (al)), some (iV (us)), some (iV (row)), some (iV (z34)), none, none]) dL_isGroupSo_37 (by decide) rfl ?_
          refine aw_iload dL_isGroupSo_39 rfl ?_
          refine aw_if_ne (tgt := 48) dL_isGroupSo_41 (by decide) (by omega) (fun h41 => ?_) (fun h41 => ?_)
          · refine aw_iconst dL_isGroupSo_48 ?_
            refine aw_istore (L2 := [some (rV K 0 0), some (iV (people)), some (iV (z5)), some (iV (al)), some (iV (us)), some (iV (row)), some (iV (z34)), some (iV 0), none]) dL_isGroupSo_49 (by decide) rfl ?_
            refine aw_iconst dL_isGroupSo_51 ?_
            refine aw_istore (L2 := [some (rV K 0 0), some (iV (people)), some (iV (z5)), some (iV (al)), some (iV (us)), some (iV (row)), some (iV (z34)), some (iV 0), some (iV 0)]) dL_isGroupSo_52 (by decide) rfl ?_
            have lp54 : ∀ (n54 : Nat) (fit first : Int), (0 ≤ first ∧ first ≤ 20) → (fit = 1 ∨ (fit = 0 ∧ 2 ≤ z34 ∧ ∀ f : Int, 0 ≤ f → f < first → ¬ (f + z34 ≤ M 2 0 row ∧ allF (M 6 row) f z34))) → (((20 : Int) - first).toNat) < n54 → AW K l iL_isGroupSo (ZM K iL_isGroupSo (rZm (fun z m => z = 1 ∧ SF M m))) 54 [some (rV K 0 0), some (iV (people)), some (iV (z5)), some (iV (al)), some (iV (us)), some (iV (row)), some (iV (z34)), some (iV (fit)), some (iV (first))] [] (m34) (0 + 4 + 823 * Int.toNat row + 3 + 41 * Int.toNat first) (6 * (0 + 4 + 823 * Int.toNat row + 3 + 41 * Int.toNat first)) := by
              intro n54
              induction n54 with
              | zero =>
                intro fit first f1 f2 hm54
                exact absurd hm54 (Nat.not_lt_zero _)
              | succ n54 ih54 =>
                intro fit first f1 f2 hm54
                refine aw_iload dL_isGroupSo_54 rfl ?_
                refine aw_bipush dL_isGroupSo_56 rfl ?_
                refine aw_icmp_ge (tgt := 84) dL_isGroupSo_58 (by decide) (by omega) (by omega) (fun h58 => ?_) (fun h58 => ?_)
                · refine aw_iload dL_isGroupSo_84 rfl ?_
                  refine aw_if_lt (tgt := 100) dL_isGroupSo_86 (by decide) (by omega) (fun h86 => absurd h86 (by rcases r34.2 with q | q; omega; omega)) (fun h86 => ?_)
                  refine aw_iload dL_isGroupSo_89 rfl ?_
                  refine aw_iconst dL_isGroupSo_91 ?_
                  refine aw_icmp_eq (tgt := 100) dL_isGroupSo_92 (by decide) (by omega) (by omega) (fun h92 => absurd h92 (by rcases r34.2 with q | q; omega; omega)) (fun h92 => ?_)
                  refine aw_iload dL_isGroupSo_95 rfl ?_
                  refine aw_if_ne (tgt := 102) dL_isGroupSo_97 (by decide) (by omega) (fun h97 => ?_) (fun h97 => absurd h97 (by intro e0; rcases f2 with q | ⟨_, q2, q3⟩; omega; (rcases r34.2 with q | ⟨p1, p2, p3, p4, p5⟩; omega; exact q3 _ p3 (by omega) ⟨p4, p5⟩)))
                  refine aw_iload_n dL_isGroupSo_102 rfl rfl ?_
                  refine aw_iload dL_isGroupSo_103 rfl ?_
                  refine aw_iadd dL_isGroupSo_105 ?_
                  refine aw_istore_n (L2 := [some (rV K 0 0), some (iV (people)), some (iV (z5)), some (iV (al + z34)), some (iV (us)), some (iV (row)), some (iV (z34)), some (iV (fit)), some (iV (first))]) dL_isGroupSo_106 rfl (by decide) rfl ?_
                  refine aw_iload dL_isGroupSo_107 rfl ?_
                  refine aw_iload dL_isGroupSo_109 rfl ?_
                  refine aw_if_le (tgt := 118) dL_isGroupSo_111 (by decide) (by omega) (fun h111 => absurd h111 (by omega)) (fun h111 => ?_)
                  refine aw_iconst dL_isGroupSo_114 ?_
                  refine aw_goto (tgt := 119) dL_isGroupSo_115 (by decide) ?_
                  refine aw_iadd dL_isGroupSo_119 ?_
                  refine aw_istore (L2 := [some (rV K 0 0), some (iV (people)), some (iV (z5)), some (iV (al + z34)), some (iV (us + 1)), some (iV (row)), some (iV (z34)), some (iV (fit)), some (iV (first))]) dL_isGroupSo_120 (by decide) rfl ?_
                  refine aw_iinc (L2 := [some (rV K 0 0), some (iV (people)), some (iV (z5)), some (iV (al + z34)), some (iV (us + 1)), some (iV (row + 1)), some (iV (z34)), some (iV (fit)), some (iV (first))]) dL_isGroupSo_122 rfl (by decide) rfl ?_
                  refine aw_goto (tgt := 17) dL_isGroupSo_125 (by decide) ?_
                  refine aw_weak (L' := [some (rV K 0 0), some (iV (people)), some (iV (z5)), some (iV (al + z34)), some (iV (us + 1)), some (iV (row + 1)), none, none, none]) ⟨Or.inr rfl, Or.inr rfl, Or.inr rfl, Or.inr rfl, Or.inr rfl, Or.inr rfl, Or.inl rfl, Or.inl rfl, Or.inl rfl, trivial⟩ ?_
                  refine aw_wide (a := 0 + 4 + 823 * Int.toNat (row + 1)) (b := 6 * (0 + 4 + 823 * Int.toNat (row + 1))) (by omega) (by omega) ?_
                  exact ih17 (al + z34) (us + 1) (row + 1) (m34) (by omega) (by exact s34) (by rw [sumI_s e1.1, ← e3, u34, ← v34]) (by rw [sumI_s e1.1, ← e4, if_neg (by omega)]) (by have q := r34.1; omega) (by omega)
                · refine aw_iload dL_isGroupSo_61 rfl ?_
                  refine aw_if_ne (tgt := 84) dL_isGroupSo_63 (by decide) (by omega) (fun h63 => ?_) (fun h63 => ?_)
                  · refine aw_iload dL_isGroupSo_84 rfl ?_
                    refine aw_if_lt (tgt := 100) dL_isGroupSo_86 (by decide) (by omega) (fun h86 => absurd h86 (by rcases r34.2 with q | q; omega; omega)) (fun h86 => ?_)
                    refine aw_iload dL_isGroupSo_89 rfl ?_
                    refine aw_iconst dL_isGroupSo_91 ?_
                    refine aw_icmp_eq (tgt := 100) dL_isGroupSo_92 (by decide) (by omega) (by omega) (fun h92 => absurd h92 (by rcases r34.2 with q | q; omega; omega)) (fun h92 => ?_)
                    refine aw_iload dL_isGroupSo_95 rfl ?_
                    refine aw_if_ne (tgt := 102) dL_isGroupSo_97 (by decide) (by omega) (fun h97 => ?_) (fun h97 => absurd h97 (by intro e0; rcases f2 with q | ⟨_, q2, q3⟩; omega; (rcases r34.2 with q | ⟨p1, p2, p3, p4, p5⟩; omega; exact q3 _ p3 (by omega) ⟨p4, p5⟩)))
                    refine aw_iload_n dL_isGroupSo_102 rfl rfl ?_
                    refine aw_iload dL_isGroupSo_103 rfl ?_
                    refine aw_iadd dL_isGroupSo_105 ?_
                    refine aw_istore_n (L2 := [some (rV K 0 0), some (iV (people)), some (iV (z5)), some (iV (al + z34)), some (iV (us)), some (iV (row)), some (iV (z34)), some (iV (fit)), some (iV (first))]) dL_isGroupSo_106 rfl (by decide) rfl ?_
                    refine aw_iload dL_isGroupSo_107 rfl ?_
                    refine aw_iload dL_isGroupSo_109 rfl ?_
                    refine aw_if_le (tgt := 118) dL_isGroupSo_111 (by decide) (by omega) (fun h111 => absurd h111 (by omega)) (fun h111 => ?_)
                    refine aw_iconst dL_isGroupSo_114 ?_
                    refine aw_goto (tgt := 119) dL_isGroupSo_115 (by decide) ?_
                    refine aw_iadd dL_isGroupSo_119 ?_
                    refine aw_istore (L2 := [some (rV K 0 0), some (iV (people)), some (iV (z5)), some (iV (al + z34)), some (iV (us + 1)), some (iV (row)), some (iV (z34)), some (iV (fit)), some (iV (first))]) dL_isGroupSo_120 (by decide) rfl ?_
                    refine aw_iinc (L2 := [some (rV K 0 0), some (iV (people)), some (iV (z5)), some (iV (al + z34)), some (iV (us + 1)), some (iV (row + 1)), some (iV (z34)), some (iV (fit)), some (iV (first))]) dL_isGroupSo_122 rfl (by decide) rfl ?_
                    refine aw_goto (tgt := 17) dL_isGroupSo_125 (by decide) ?_
                    refine aw_weak (L' := [some (rV K 0 0), some (iV (people)), some (iV (z5)), some (iV (al + z34)), some (iV (us + 1)), some (iV (row + 1)), none, none, none]) ⟨Or.inr rfl, Or.inr rfl, Or.inr rfl, Or.inr rfl, Or.inr rfl, Or.inr rfl, Or.inl rfl, Or.inl rfl, Or.inl rfl, trivial⟩ ?_
                    refine aw_wide (a := 0 + 4 + 823 * Int.toNat (row + 1)) (b := 6 * (0 + 4 + 823 * Int.toNat (row + 1))) (by omega) (by omega) ?_
                    exact ih17 (al + z34) (us + 1) (row + 1) (m34) (by omega) (by exact s34) (by rw [sumI_s e1.1, ← e3, u34, ← v34]) (by rw [sumI_s e1.1, ← e4, if_neg (by omega)]) (by have q := r34.1; omega) (by omega)
                  · refine aw_aload_n dL_isGroupSo_66 rfl rfl ?_
                    refine aw_iload dL_isGroupSo_67 rfl ?_
                    refine aw_iload dL_isGroupSo_69 rfl ?_
                    refine aw_iload dL_isGroupSo_71 rfl ?_
                    refine lw_Sb (As := [rV K 0 0, iV (row), iV (first), iV (z34)]) (rest := []) (c2 := 0 + 4 + 823 * Int.toNat row + 3 + 41 * Int.toNat first + 41) (s2 := 6 * (0 + 4 + 823 * Int.toNat row + 3 + 41 * Int.toNat first + 41)) (c_L_isFree hst m34 row first z34 i_m34 hc (by omega) (by omega) (by omega)) cs_L_isFree dL_isGroupSo_73 ml_L_134 rfl rfl (Nat.le_of_ble_eq_true rfl) (by decide) (by show 0 + 4 + 823 * Int.toNat row + 3 + 41 * Int.toNat first + 41 ≤ 0 + 4 + 823 * Int.toNat row + 3 + 41 * Int.toNat first + 41; omega) (by show 6 * (0 + 4 + 823 * Int.toNat row + 3 + 41 * Int.toNat first) + 246 ≤ 6 * (0 + 4 + 823 * Int.toNat row + 3 + 41 * Int.toNat first + 41); omega) (by show 0 + 4 + 823 * Int.toNat row + 3 + 41 * Int.toNat first + 41 ≤ 9880 ∧ 6 * (0 + 4 + 823 * Int.toNat row + 3 + 41 * Int.toNat first + 41) ≤ 59280; omega) (fun h73 => ?_) (fun h73 => ?_)
                    · refine aw_istore (L2 := [some (rV K 0 0), some (iV (people)), some (iV (z5)), some (iV (al)), some (iV (us)), some (iV (row)), some (iV (z34)), some (iV 1), some (iV (first))]) dL_isGroupSo_76 (by decide) rfl ?_
                      refine aw_iinc (L2 := [some (rV K 0 0), some (iV (people)), some (iV (z5)), some (iV (al)), some (iV (us)), some (iV (row)), some (iV (z34)), some (iV 1), some (iV (first + 1))]) dL_isGroupSo_78 rfl (by decide) rfl ?_
                      refine aw_goto (tgt := 54) dL_isGroupSo_81 (by decide) ?_
                      refine aw_wide (a := 0 + 4 + 823 * Int.toNat row + 3 + 41 * Int.toNat (first + 1)) (b := 6 * (0 + 4 + 823 * Int.toNat row + 3 + 41 * Int.toNat (first + 1))) (by omega) (by omega) ?_
                      exact ih54 (1) (first + 1) (by omega) (by exact Or.inl rfl) (by omega)
                    · refine aw_istore (L2 := [some (rV K 0 0), some (iV (people)), some (iV (z5)), some (iV (al)), some (iV (us)), some (iV (row)), some (iV (z34)), some (iV 0), some (iV (first))]) dL_isGroupSo_76 (by decide) rfl ?_
                      refine aw_iinc (L2 := [some (rV K 0 0), some (iV (people)), some (iV (z5)), some (iV (al)), some (iV (us)), some (iV (row)), some (iV (z34)), some (iV 0), some (iV (first + 1))]) dL_isGroupSo_78 rfl (by decide) rfl ?_
                      refine aw_goto (tgt := 54) dL_isGroupSo_81 (by decide) ?_
                      refine aw_wide (a := 0 + 4 + 823 * Int.toNat row + 3 + 41 * Int.toNat (first + 1)) (b := 6 * (0 + 4 + 823 * Int.toNat row + 3 + 41 * Int.toNat (first + 1))) (by omega) (by omega) ?_
                      exact ih54 (0) (first + 1) (by omega) (by rcases f2 with q | ⟨q1, q2, q3⟩; omega; exact Or.inr ⟨rfl, q2, fun f a b y => (by by_cases e : f = first; (subst e; rw [k2, k6] at h73; exact h73 y); exact q3 f a (by omega) y)⟩) (by omega)
            refine aw_wide (a := 0 + 4 + 823 * Int.toNat row + 3 + 41 * Int.toNat 0) (b := 6 * (0 + 4 + 823 * Int.toNat row + 3 + 41 * Int.toNat 0)) (by omega) (by omega) ?_
            exact lp54 ((((20 : Int) - 0).toNat) + 1) (0) (0) (by omega) (by first | exact Or.inl rfl | exact Or.inr ⟨rfl, (by rcases r34.2 with q | q; omega; omega), fun f a b => by omega⟩) (Nat.lt_succ_self _)
          · refine aw_iconst dL_isGroupSo_44 ?_
            refine aw_goto (tgt := 49) dL_isGroupSo_45 (by decide) ?_
            refine aw_istore (L2 := [some (rV K 0 0), some (iV (people)), some (iV (z5)), some (iV (al)), some (iV (us)), some (iV (row)), some (iV (z34)), some (iV 1), none]) dL_isGroupSo_49 (by decide) rfl ?_
            refine aw_iconst dL_isGroupSo_51 ?_
            refine aw_istore (L2 := [some (rV K 0 0), some (iV (people)), some (iV (z5)), some (iV (al)), some (iV (us)), some (iV (row)), some (iV (z34)), some (iV 1), some (iV 0)]) dL_isGroupSo_52 (by decide) rfl ?_
            have lp54 : ∀ (n54 : Nat) (fit first : Int), (0 ≤ first ∧ first ≤ 20) → (fit = 1 ∨ (fit = 0 ∧ 2 ≤ z34 ∧ ∀ f : Int, 0 ≤ f → f < first → ¬ (f + z34 ≤ M 2 0 row ∧ allF (M 6 row) f z34))) → (((20 : Int) - first).toNat) < n54 → AW K l iL_isGroupSo (ZM K iL_isGroupSo (rZm (fun z m => z = 1 ∧ SF M m))) 54 [some (rV K 0 0), some (iV (people)), some (iV (z5)), some (iV (al)), some (iV (us)), some (iV (row)), some (iV (z34)), some (iV (fit)), some (iV (first))] [] (m34) (0 + 4 + 823 * Int.toNat row + 3 + 41 * Int.toNat first) (6 * (0 + 4 + 823 * Int.toNat row + 3 + 41 * Int.toNat first)) := by
              intro n54
              induction n54 with
              | zero =>
                intro fit first f1 f2 hm54
                exact absurd hm54 (Nat.not_lt_zero _)
              | succ n54 ih54 =>
                intro fit first f1 f2 hm54
                refine aw_iload dL_isGroupSo_54 rfl ?_
                refine aw_bipush dL_isGroupSo_56 rfl ?_
                refine aw_icmp_ge (tgt := 84) dL_isGroupSo_58 (by decide) (by omega) (by omega) (fun h58 => ?_) (fun h58 => ?_)
                · refine aw_iload dL_isGroupSo_84 rfl ?_
                  refine aw_if_lt (tgt := 100) dL_isGroupSo_86 (by decide) (by omega) (fun h86 => absurd h86 (by rcases r34.2 with q | q; omega; omega)) (fun h86 => ?_)
                  refine aw_iload dL_isGroupSo_89 rfl ?_
                  refine aw_iconst dL_isGroupSo_91 ?_
                  refine aw_icmp_eq (tgt := 100) dL_isGroupSo_92 (by decide) (by omega) (by omega) (fun h92 => absurd h92 (by rcases r34.2 with q | q; omega; omega)) (fun h92 => ?_)
                  refine aw_iload dL_isGroupSo_95 rfl ?_
                  refine aw_if_ne (tgt := 102) dL_isGroupSo_97 (by decide) (by omega) (fun h97 => ?_) (fun h97 => absurd h97 (by intro e0; rcases f2 with q | ⟨_, q2, q3⟩; omega; (rcases r34.2 with q | ⟨p1, p2, p3, p4, p5⟩; omega; exact q3 _ p3 (by omega) ⟨p4, p5⟩)))
                  refine aw_iload_n dL_isGroupSo_102 rfl rfl ?_
                  refine aw_iload dL_isGroupSo_103 rfl ?_
                  refine aw_iadd dL_isGroupSo_105 ?_
                  refine aw_istore_n (L2 := [some (rV K 0 0), some (iV (people)), some (iV (z5)), some (iV (al + z34)), some (iV (us)), some (iV (row)), some (iV (z34)), some (iV (fit)), some (iV (first))]) dL_isGroupSo_106 rfl (by decide) rfl ?_
                  refine aw_iload dL_isGroupSo_107 rfl ?_
                  refine aw_iload dL_isGroupSo_109 rfl ?_
                  refine aw_if_le (tgt := 118) dL_isGroupSo_111 (by decide) (by omega) (fun h111 => ?_) (fun h111 => absurd (by omega) h111)
                  refine aw_iconst dL_isGroupSo_118 ?_
                  refine aw_iadd dL_isGroupSo_119 ?_
                  refine aw_istore (L2 := [some (rV K 0 0), some (iV (people)), some (iV (z5)), some (iV (al + z34)), some (iV (us + 0)), some (iV (row)), some (iV (z34)), some (iV (fit)), some (iV (first))]) dL_isGroupSo_120 (by decide) rfl ?_
                  refine aw_iinc (L2 := [some (rV K 0 0), some (iV (people)), some (iV (z5)), some (iV (al + z34)), some (iV (us + 0)), some (iV (row + 1)), some (iV (z34)), some (iV (fit)), some (iV (first))]) dL_isGroupSo_122 rfl (by decide) rfl ?_
                  refine aw_goto (tgt := 17) dL_isGroupSo_125 (by decide) ?_
                  refine aw_weak (L' := [some (rV K 0 0), some (iV (people)), some (iV (z5)), some (iV (al + z34)), some (iV (us + 0)), some (iV (row + 1)), none, none, none]) ⟨Or.inr rfl, Or.inr rfl, Or.inr rfl, Or.inr rfl, Or.inr rfl, Or.inr rfl, Or.inl rfl, Or.inl rfl, Or.inl rfl, trivial⟩ ?_
                  refine aw_wide (a := 0 + 4 + 823 * Int.toNat (row + 1)) (b := 6 * (0 + 4 + 823 * Int.toNat (row + 1))) (by omega) (by omega) ?_
                  exact ih17 (al + z34) (us + 0) (row + 1) (m34) (by omega) (by exact s34) (by rw [sumI_s e1.1, ← e3, u34, ← v34]) (by rw [sumI_s e1.1, ← e4, if_pos (by omega)]) (by have q := r34.1; omega) (by omega)
                · refine aw_iload dL_isGroupSo_61 rfl ?_
                  refine aw_if_ne (tgt := 84) dL_isGroupSo_63 (by decide) (by omega) (fun h63 => ?_) (fun h63 => ?_)
                  · refine aw_iload dL_isGroupSo_84 rfl ?_
                    refine aw_if_lt (tgt := 100) dL_isGroupSo_86 (by decide) (by omega) (fun h86 => absurd h86 (by rcases r34.2 with q | q; omega; omega)) (fun h86 => ?_)
                    refine aw_iload dL_isGroupSo_89 rfl ?_
                    refine aw_iconst dL_isGroupSo_91 ?_
                    refine aw_icmp_eq (tgt := 100) dL_isGroupSo_92 (by decide) (by omega) (by omega) (fun h92 => absurd h92 (by rcases r34.2 with q | q; omega; omega)) (fun h92 => ?_)
                    refine aw_iload dL_isGroupSo_95 rfl ?_
                    refine aw_if_ne (tgt := 102) dL_isGroupSo_97 (by decide) (by omega) (fun h97 => ?_) (fun h97 => absurd h97 (by intro e0; rcases f2 with q | ⟨_, q2, q3⟩; omega; (rcases r34.2 with q | ⟨p1, p2, p3, p4, p5⟩; omega; exact q3 _ p3 (by omega) ⟨p4, p5⟩)))
                    refine aw_iload_n dL_isGroupSo_102 rfl rfl ?_
                    refine aw_iload dL_isGroupSo_103 rfl ?_
                    refine aw_iadd dL_isGroupSo_105 ?_
                    refine aw_istore_n (L2 := [some (rV K 0 0), some (iV (people)), some (iV (z5)), some (iV (al + z34)), some (iV (us)), some (iV (row)), some (iV (z34)), some (iV (fit)), some (iV (first))]) dL_isGroupSo_106 rfl (by decide) rfl ?_
                    refine aw_iload dL_isGroupSo_107 rfl ?_
                    refine aw_iload dL_isGroupSo_109 rfl ?_
                    refine aw_if_le (tgt := 118) dL_isGroupSo_111 (by decide) (by omega) (fun h111 => ?_) (fun h111 => absurd (by omega) h111)
                    refine aw_iconst dL_isGroupSo_118 ?_
                    refine aw_iadd dL_isGroupSo_119 ?_
                    refine aw_istore (L2 := [some (rV K 0 0), some (iV (people)), some (iV (z5)), some (iV (al + z34)), some (iV (us + 0)), some (iV (row)), some (iV (z34)), some (iV (fit)), some (iV (first))]) dL_isGroupSo_120 (by decide) rfl ?_
                    refine aw_iinc (L2 := [some (rV K 0 0), some (iV (people)), some (iV (z5)), some (iV (al + z34)), some (iV (us + 0)), some (iV (row + 1)), some (iV (z34)), some (iV (fit)), some (iV (first))]) dL_isGroupSo_122 rfl (by decide) rfl ?_
                    refine aw_goto (tgt := 17) dL_isGroupSo_125 (by decide) ?_
                    refine aw_weak (L' := [some (rV K 0 0), some (iV (people)), some (iV (z5)), some (iV (al + z34)), some (iV (us + 0)), some (iV (row + 1)), none, none, none]) ⟨Or.inr rfl, Or.inr rfl, Or.inr rfl, Or.inr rfl, Or.inr rfl, Or.inr rfl, Or.inl rfl, Or.inl rfl, Or.inl rfl, trivial⟩ ?_
                    refine aw_wide (a := 0 + 4 + 823 * Int.toNat (row + 1)) (b := 6 * (0 + 4 + 823 * Int.toNat (row + 1))) (by omega) (by omega) ?_
                    exact ih17 (al + z34) (us + 0) (row + 1) (m34) (by omega) (by exact s34) (by rw [sumI_s e1.1, ← e3, u34, ← v34]) (by rw [sumI_s e1.1, ← e4, if_pos (by omega)]) (by have q := r34.1; omega) (by omega)
                  · refine aw_aload_n dL_isGroupSo_66 rfl rfl ?_
                    refine aw_iload dL_isGroupSo_67 rfl ?_
                    refine aw_iload dL_isGroupSo_69 rfl ?_
                    refine aw_iload dL_isGroupSo_71 rfl ?_
                    refine lw_Sb (As := [rV K 0 0, iV (row), iV (first), iV (z34)]) (rest := []) (c2 := 0 + 4 + 823 * Int.toNat row + 3 + 41 * Int.toNat first + 41) (s2 := 6 * (0 + 4 + 823 * Int.toNat row + 3 + 41 * Int.toNat first + 41)) (c_L_isFree hst m34 row first z34 i_m34 hc (by omega) (by omega) (by omega)) cs_L_isFree dL_isGroupSo_73 ml_L_134 rfl rfl (Nat.le_of_ble_eq_true rfl) (by decide) (by show 0 + 4 + 823 * Int.toNat row + 3 + 41 * Int.toNat first + 41 ≤ 0 + 4 + 823 * Int.toNat row + 3 + 41 * Int.toNat first + 41; omega) (by show 6 * (0 + 4 + 823 * Int.toNat row + 3 + 41 * Int.toNat first) + 246 ≤ 6 * (0 + 4 + 823 * Int.toNat row + 3 + 41 * Int.toNat first + 41); omega) (by show 0 + 4 + 823 * Int.toNat row + 3 + 41 * Int.toNat first + 41 ≤ 9880 ∧ 6 * (0 + 4 + 823 * Int.toNat row + 3 + 41 * Int.toNat first + 41) ≤ 59280; omega) (fun h73 => ?_) (fun h73 => ?_)
                    · refine aw_istore (L2 := [some (rV K 0 0), some (iV (people)), some (iV (z5)), some (iV (al)), some (iV (us)), some (iV (row)), some (iV (z34)), some (iV 1), some (iV (first))]) dL_isGroupSo_76 (by decide) rfl ?_
                      refine aw_iinc (L2 := [some (rV K 0 0), some (iV (people)), some (iV (z5)), some (iV (al)), some (iV (us)), some (iV (row)), some (iV (z34)), some (iV 1), some (iV (first + 1))]) dL_isGroupSo_78 rfl (by decide) rfl ?_
                      refine aw_goto (tgt := 54) dL_isGroupSo_81 (by decide) ?_
                      refine aw_wide (a := 0 + 4 + 823 * Int.toNat row + 3 + 41 * Int.toNat (first + 1)) (b := 6 * (0 + 4 + 823 * Int.toNat row + 3 + 41 * Int.toNat (first + 1))) (by omega) (by omega) ?_
                      exact ih54 (1) (first + 1) (by omega) (by exact Or.inl rfl) (by omega)
                    · refine aw_istore (L2 := [some (rV K 0 0), some (iV (people)), some (iV (z5)), some (iV (al)), some (iV (us)), some (iV (row)), some (iV (z34)), some (iV 0), some (iV (first))]) dL_isGroupSo_76 (by decide) rfl ?_
                      refine aw_iinc (L2 := [some (rV K 0 0), some (iV (people)), some (iV (z5)), some (iV (al)), some (iV (us)), some (iV (row)), some (iV (z34)), some (iV 0), some (iV (first + 1))]) dL_isGroupSo_78 rfl (by decide) rfl ?_
                      refine aw_goto (tgt := 54) dL_isGroupSo_81 (by decide) ?_
                      refine aw_wide (a := 0 + 4 + 823 * Int.toNat row + 3 + 41 * Int.toNat (first + 1)) (b := 6 * (0 + 4 + 823 * Int.toNat row + 3 + 41 * Int.toNat (first + 1))) (by omega) (by omega) ?_
                      exact ih54 (0) (first + 1) (by omega) (by rcases f2 with q | ⟨q1, q2, q3⟩; omega; exact Or.inr ⟨rfl, q2, fun f a b y => (by by_cases e : f = first; (subst e; rw [k2, k6] at h73; exact h73 y); exact q3 f a (by omega) y)⟩) (by omega)
            refine aw_wide (a := 0 + 4 + 823 * Int.toNat row + 3 + 41 * Int.toNat 0) (b := 6 * (0 + 4 + 823 * Int.toNat row + 3 + 41 * Int.toNat 0)) (by omega) (by omega) ?_
            exact lp54 ((((20 : Int) - 0).toNat) + 1) (1) (0) (by omega) (by first | exact Or.inl rfl | exact Or.inr ⟨rfl, (by rcases r34.2 with q | q; omega; omega), fun f a b => by omega⟩) (Nat.lt_succ_self _)
    refine aw_wide (a := 0 + 4 + 823 * Int.toNat 0) (b := 6 * (0 + 4 + 823 * Int.toNat 0)) (by omega) (by omega) ?_
    exact lp17 (((M 1 0 4 - 0).toNat) + 1) (0) (0) (0) (m5) (by omega) (by exact w1) (by rfl) (by rfl) (by omega) (Nat.lt_succ_self _)
