set_option maxHeartbeats 4000000 in
set_option maxRecDepth 20000 in
theorem c_L_low {K : WPar} {l : Launch} (hst : l.stackTraces = false) (M : Mem) (v : Int) (n : Int) (r_v : inR v) (hn : 0 < n ∧ n ≤ 2147483647) : CT K l iL_low [iV (v), iV (n)] M (rI (lowI v n) M) := by
  refine aw_met [some (iV (v)), some (iV (n))] hst (by decide) rfl (Nat.le_of_ble_eq_true rfl) rfl rfl (lcat rfl) ?_
  refine aw_rng (fun hM => ?_)
  refine aw_wide (a := 0) (b := 6 * (0)) (Nat.le_refl _) (Nat.le_refl _) ?_
  refine aw_iload_n dL_low_0 rfl rfl ?_
  refine aw_ldc (z := 2147483647) dL_low_1 cn_L_7 rfl ?_
  refine aw_iandM (by first | exact r_v | exact hn | (have q1 := Int.emod_nonneg v (show (2147483648 : Int) ≠ 0 by decide); have q2 := Int.emod_lt_of_pos v (show (0 : Int) < 2147483648 by decide); omega)) dL_low_3 ?_
  refine aw_iload_n dL_low_4 rfl rfl ?_
  refine aw_irem dL_low_5 (by first | exact r_v | exact hn | (have q1 := Int.emod_nonneg v (show (2147483648 : Int) ≠ 0 by decide); have q2 := Int.emod_lt_of_pos v (show (0 : Int) < 2147483648 by decide); omega)) (by first | exact r_v | exact hn | (have q1 := Int.emod_nonneg v (show (2147483648 : Int) ≠ 0 by decide); have q2 := Int.emod_lt_of_pos v (show (0 : Int) < 2147483648 by decide); omega)) ?_
  exact aw_iret dL_low_6 rfl rfl (by show 0 ≤ 0; omega) (by show 6 * (0) ≤ 0; omega) ⟨rfl, rfl⟩
set_option maxHeartbeats 4000000 in
set_option maxRecDepth 20000 in
theorem c_L_cell {K : WPar} {l : Launch} (hst : l.stackTraces = false) {b L0 : Nat} {xs : Nat → Int32} (hL : L0 ≤ 260) (M : Mem) (k : Int) (hk : 0 ≤ k ∧ k ≤ 1000) : CTX K l iL_cell [.ref b, iV k] M b L0 xs (rR (fun z => inR z) M) := by
  have hZ : ∀ s a, (ZX K iL_cell b L0 xs (rR (fun z => inR z) M)).1 s a → va_X b L0 xs s s.heap ∧ b < s.heap.size ∧ ¬ kF K b := fun s a h => h
  refine aw_metX [some (.ref b), some (iV k)] hst (by decide) rfl (Nat.le_of_ble_eq_true rfl) rfl rfl (lcat rfl) ?_
  refine aw_iload_n dL_cell_0 rfl rfl ?_
  refine lw_aload dL_cell_1 rfl rfl ?_
  refine lw_slen hZ hL dL_cell_2 ?_
  refine aw_icmp_ge (tgt := 12) dL_cell_3 (by decide) (by omega) (by omega) (fun h3 => ?_) (fun h3 => ?_)
  · refine aw_sipush dL_cell_12 rfl ?_
    refine aw_iload_n dL_cell_15 rfl rfl ?_
    refine aw_bipush dL_cell_16 rfl ?_
    refine aw_iadd dL_cell_18 ?_
    refine aw_imul dL_cell_19 ?_
    refine aw_iload_n dL_cell_20 rfl rfl ?_
    refine aw_sipush dL_cell_21 rfl ?_
    refine aw_iadd dL_cell_24 ?_
    refine aw_imul dL_cell_25 ?_
    refine aw_st (st' := [iV (Int32.ofInt (7919 * (k + 73) * (k + 2239))).toInt]) (by unfold iV; rw [Int32.ofInt_toInt]) ?_
    exact aw_zx (aw_iret dL_cell_26 rfl rfl (by decide) (by decide) ⟨_, rfl, i32_r _, rfl⟩)
  · refine lw_aload dL_cell_6 rfl rfl ?_
    refine aw_iload_n dL_cell_7 rfl rfl ?_
    refine lw_sld hZ hL (by omega) dL_cell_8 (fun z rz => ?_)
    refine aw_goto (tgt := 26) dL_cell_9 (by decide) ?_
    exact aw_zx (aw_iret dL_cell_26 rfl rfl (by decide) (by decide) ⟨z, rfl, rz, rfl⟩)
set_option maxHeartbeats 4000000 in
set_option maxRecDepth 20000 in
theorem c_L_act {K : WPar} {l : Launch} (hst : l.stackTraces = false) {c : Int} (hc : c ≤ 512) (M : Mem) (v : Int) (h0 : INV M c) (r_v : inR v) : CT K l iL_act [rV K 0 0, iV (v)] M (rZm (fun z m => ACT M v z m)) := by
  refine aw_met [some (rV K 0 0), some (iV (v)), none, none, none, none, none] hst (by decide) rfl (Nat.le_of_ble_eq_true rfl) rfl rfl (lcat rfl) ?_
  refine aw_rng (fun hM => ?_)
  refine aw_wide (a := 0) (b := 6 * (0)) (Nat.le_refl _) (Nat.le_refl _) ?_
  have h := h0
  have T0 := h.bw.1
  have T1 := h.bw.2
  have n0 := h.hw.1
  have n1 := h.hw.2.1
  have b24 := lowI_bd v (n := 24) (by decide)
  have b8 := lowI_bd (shI v 24) (n := 8) (by decide)
  refine aw_iload_n dL_act_0 rfl rfl ?_
  refine aw_bipush dL_act_1 rfl ?_
  refine aw_ishr dL_act_3 ?_
  refine aw_bipush dL_act_4 rfl ?_
  refine lw_Si (As := [iV (shI v 24), iV 8]) (rest := []) (c2 := 0) (s2 := 6 * (0)) (c_L_low hst M (shI v 24) (8) (shI_r _ _) (by omega)) cs_L_low dL_act_6 ml_L_65 rfl rfl (Nat.le_of_ble_eq_true rfl) (by decide) (Nat.le_refl _) (Nat.le_refl _) (by show 0 ≤ 5 ∧ 6 * (0) ≤ 30; omega) ?_
  refine aw_if_ne (tgt := 16) dL_act_9 (by decide) (by omega) (fun h9 => ?_) (fun h9 => ?_)
  · refine aw_iconst dL_act_16 ?_
    refine aw_istore_n (L2 := [some (rV K 0 0), some (iV (v)), some (iV 0), none, none, none, none]) dL_act_17 rfl (by decide) rfl ?_
    refine aw_iload_n dL_act_18 rfl rfl ?_
    refine aw_iconst dL_act_19 ?_
    refine aw_ishr dL_act_20 ?_
    refine aw_aload_n dL_act_21 rfl rfl ?_
    refine lw_Vi (g := 0) (As := []) (rest := [iV (shI v 5)]) (c2 := 0) (s2 := 6 * (0)) (k_tickets hst M h) cv_X4_tickets dL_act_22 ml_L_70 rfl rfl rfl rfl rfl (Nat.le_of_ble_eq_true rfl) (by decide) (Nat.le_refl _) (Nat.le_refl _) (by show 0 ≤ 5 ∧ 6 * (0) ≤ 30; omega) ?_
    refine aw_iconst dL_act_25 ?_
    refine aw_iadd dL_act_26 ?_
    refine lw_Si (As := [iV (shI v 5), iV ((M 7 0 8) + 1)]) (rest := []) (c2 := 0) (s2 := 6 * (0)) (c_L_low hst M (shI v 5) ((M 7 0 8) + 1) (shI_r _ _) (by omega)) cs_L_low dL_act_27 ml_L_65 rfl rfl (Nat.le_of_ble_eq_true rfl) (by decide) (Nat.le_refl _) (Nat.le_refl _) (by show 0 ≤ 5 ∧ 6 * (0) ≤ 30; omega) ?_
    refine aw_iload_n dL_act_30 rfl rfl ?_
    refine aw_if_eq (tgt := 38) dL_act_31 (by decide) (by decide) (fun _ => ?_) (fun h => absurd (by decide) h)
    refine aw_iconst dL_act_38 ?_
    refine aw_iadd dL_act_39 ?_
    refine aw_istore_n (L2 := [some (rV K 0 0), some (iV (v)), some (iV 0), some (iV ((lowI (shI v 5) ((M 7 0 8) + 1)) + 1)), none, none, none]) dL_act_40 rfl (by decide) rfl ?_
    refine aw_iload_n dL_act_41 rfl rfl ?_
    refine aw_iconst dL_act_42 ?_
    refine aw_ishr dL_act_43 ?_
    refine aw_iload_n dL_act_44 rfl rfl ?_
    refine aw_if_eq (tgt := 53) dL_act_45 (by decide) (by decide) (fun _ => ?_) (fun h => absurd (by decide) h)
    refine aw_aload_n dL_act_53 rfl rfl ?_
    refine lw_Vi (g := 0) (As := []) (rest := [iV (shI v 4)]) (c2 := 0) (s2 := 6 * (0)) (k_rows hst M h) cv_X4_rows dL_act_54 ml_L_73 rfl rfl rfl rfl rfl (Nat.le_of_ble_eq_true rfl) (by decide) (Nat.le_refl _) (Nat.le_refl _) (by show 0 ≤ 5 ∧ 6 * (0) ≤ 30; omega) ?_
    refine aw_iconst dL_act_57 ?_
    refine aw_iadd dL_act_58 ?_
    refine lw_Si (As := [iV (shI v 4), iV ((M 1 0 4) + 1)]) (rest := []) (c2 := 0) (s2 := 6 * (0)) (c_L_low hst M (shI v 4) ((M 1 0 4) + 1) (shI_r _ _) (by omega)) cs_L_low dL_act_59 ml_L_65 rfl rfl (Nat.le_of_ble_eq_true rfl) (by decide) (Nat.le_refl _) (Nat.le_refl _) (by show 0 ≤ 5 ∧ 6 * (0) ≤ 30; omega) ?_
    refine aw_istore (L2 := [some (rV K 0 0), some (iV (v)), some (iV 0), some (iV ((lowI (shI v 5) ((M 7 0 8) + 1)) + 1)), some (iV (lowI (shI v 4) ((M 1 0 4) + 1))), none, none]) dL_act_62 (by decide) rfl ?_
    refine aw_iconst dL_act_64 ?_
    refine aw_iload_n dL_act_65 rfl rfl ?_
    refine aw_bipush dL_act_66 rfl ?_
    refine aw_ishr dL_act_68 ?_
    refine aw_iload_n dL_act_69 rfl rfl ?_
    refine aw_if_eq (tgt := 78) dL_act_70 (by decide) (by decide) (fun _ => ?_) (fun h => absurd (by decide) h)
    refine aw_iconst dL_act_78 ?_
    refine lw_Si (As := [iV (shI v 7), iV 3]) (rest := [iV 1]) (c2 := 0) (s2 := 6 * (0)) (c_L_low hst M (shI v 7) (3) (shI_r _ _) (by omega)) cs_L_low dL_act_79 ml_L_65 rfl rfl (Nat.le_of_ble_eq_true rfl) (by decide) (Nat.le_refl _) (Nat.le_refl _) (by show 0 ≤ 5 ∧ 6 * (0) ≤ 30; omega) ?_
    refine aw_iadd dL_act_82 ?_
    refine aw_istore (L2 := [some (rV K 0 0), some (iV (v)), some (iV 0), some (iV ((lowI (shI v 5) ((M 7 0 8) + 1)) + 1)), some (iV (lowI (shI v 4) ((M 1 0 4) + 1))), some (iV (1 + (lowI (shI v 7) 3))), none]) dL_act_83 (by decide) rfl ?_
    refine aw_iload_n dL_act_85 rfl rfl ?_
    refine aw_bipush dL_act_86 rfl ?_
    refine lw_Si (As := [iV (v), iV 24]) (rest := []) (c2 := 0) (s2 := 6 * (0)) (c_L_low hst M (v) (24) r_v (by omega)) cs_L_low dL_act_88 ml_L_65 rfl rfl (Nat.le_of_ble_eq_true rfl) (by decide) (Nat.le_refl _) (Nat.le_refl _) (by show 0 ≤ 5 ∧ 6 * (0) ≤ 30; omega) ?_
    refine aw_istore (L2 := [some (rV K 0 0), some (iV (v)), some (iV 0), some (iV ((lowI (shI v 5) ((M 7 0 8) + 1)) + 1)), some (iV (lowI (shI v 4) ((M 1 0 4) + 1))), some (iV (1 + (lowI (shI v 7) 3))), some (iV (lowI v 24))]) dL_act_91 (by decide) rfl ?_
    refine aw_iload dL_act_93 rfl ?_
    refine aw_iconst dL_act_95 ?_
    refine aw_icmp_lt (tgt := 107) dL_act_96 (by decide) (by omega) (by omega) (fun h96 => ?_) (fun h96 => ?_)
    · refine aw_aload_n dL_act_107 rfl rfl ?_
      refine aw_iconst dL_act_108 ?_
      refine aw_iload_n dL_act_109 rfl rfl ?_
      refine aw_iconst dL_act_110 ?_
      refine aw_ishr dL_act_111 ?_
      refine aw_iload_n dL_act_112 rfl rfl ?_
      refine aw_if_eq (tgt := 121) dL_act_113 (by decide) (by decide) (fun _ => ?_) (fun h => absurd (by decide) h)
      refine aw_bipush dL_act_121 rfl ?_
      refine lw_Si (As := [iV (shI v 5), iV 10]) (rest := [iV 0, rV K 0 0]) (c2 := 0) (s2 := 6 * (0)) (c_L_low hst M (shI v 5) (10) (shI_r _ _) (by omega)) cs_L_low dL_act_123 ml_L_65 rfl rfl (Nat.le_of_ble_eq_true rfl) (by decide) (Nat.le_refl _) (Nat.le_refl _) (by show 0 ≤ 5 ∧ 6 * (0) ≤ 30; omega) ?_
      refine aw_iload_n dL_act_126 rfl rfl ?_
      refine aw_if_eq (tgt := 134) dL_act_127 (by decide) (by decide) (fun _ => ?_) (fun h => absurd (by decide) h)
      refine aw_iconst dL_act_134 ?_
      refine aw_iadd dL_act_135 ?_
      refine aw_iload_n dL_act_136 rfl rfl ?_
      refine aw_bipush dL_act_137 rfl ?_
      refine aw_ishr dL_act_139 ?_
      refine aw_iload_n dL_act_140 rfl rfl ?_
      refine aw_if_eq (tgt := 150) dL_act_141 (by decide) (by decide) (fun _ => ?_) (fun h => absurd (by decide) h)
      refine aw_bipush dL_act_150 rfl ?_
      refine lw_Si (As := [iV (shI v 9), iV 20]) (rest := [iV ((lowI (shI v 5) 10) + 1), iV 0, rV K 0 0]) (c2 := 0) (s2 := 6 * (0)) (c_L_low hst M (shI v 9) (20) (shI_r _ _) (by omega)) cs_L_low dL_act_152 ml_L_65 rfl rfl (Nat.le_of_ble_eq_true rfl) (by decide) (Nat.le_refl _) (Nat.le_refl _) (by show 0 ≤ 5 ∧ 6 * (0) ≤ 30; omega) ?_
      refine aw_iload_n dL_act_155 rfl rfl ?_
      refine aw_iconst dL_act_156 ?_
      refine aw_ishr dL_act_157 ?_
      refine aw_iload_n dL_act_158 rfl rfl ?_
      refine aw_if_eq (tgt := 168) dL_act_159 (by decide) (by decide) (fun _ => ?_) (fun h => absurd (by decide) h)
      refine aw_sipush dL_act_168 rfl ?_
      refine lw_Si (As := [iV (shI v 3), iV 200]) (rest := [iV (lowI (shI v 9) 20), iV ((lowI (shI v 5) 10) + 1), iV 0, rV K 0 0]) (c2 := 0) (s2 := 6 * (0)) (c_L_low hst M (shI v 3) (200) (shI_r _ _) (by omega)) cs_L_low dL_act_171 ml_L_65 rfl rfl (Nat.le_of_ble_eq_true rfl) (by decide) (Nat.le_refl _) (Nat.le_refl _) (by show 0 ≤ 5 ∧ 6 * (0) ≤ 30; omega) ?_
      refine aw_callW (As := [rV K 0 0, iV 0, iV ((lowI (shI v 5) 10) + 1), iV (lowI (shI v 9) 20), iV (lowI (shI v 3) 200)]) (rest := []) (c2 := 0 + 4) (s2 := 6 * (0 + 4)) (c_L_asks0 hst M h hc ((lowI (shI v 5) 10) + 1) (lowI (shI v 9) 20) (lowI (shI v 3) 200) (by have q0 := lowI_bd (shI v 5) (n := 10) (by omega); omega) (by have q0 := lowI_bd (shI v 9) (n := 20) (by omega); omega) (by have q0 := lowI_bd (shI v 3) (n := 200) (by omega); omega)) cw_L_asks dL_act_174 ml_L_76 rfl rfl (Nat.le_of_ble_eq_true rfl) (by decide) (by show 0 + 4 ≤ 0 + 4; omega) (by show 6 * (0) + 24 ≤ 6 * (0 + 4); omega) (by show 0 + 4 ≤ 5 ∧ 6 * (0 + 4) ≤ 30; omega) (fun z m q => ?_)
      exact aw_iret dL_act_177 rfl rfl (by show 0 + 4 ≤ 5; omega) (by show 6 * (0 + 4) ≤ 30; omega) ⟨z, rfl, by
          have ho : odI v = 0 := if_neg h9
          have e : opF M v = (0, lowI (shI v 5) 10 + 1, lowI (shI v 9) 20, lowI (shI v 3) 200, 0) := by unfold opF; rw [ho]; unfold opI; rw [if_pos (by omega)]; rfl
          unfold ACT; rw [e]; exact q⟩
    · refine aw_aload_n dL_act_99 rfl rfl ?_
      refine lw_Vi (g := 0) (As := []) (rest := []) (c2 := 0) (s2 := 6 * (0)) (k_rows hst M h) cv_X4_rows dL_act_100 ml_L_73 rfl rfl rfl rfl rfl (Nat.le_of_ble_eq_true rfl) (by decide) (Nat.le_refl _) (Nat.le_refl _) (by show 0 ≤ 5 ∧ 6 * (0) ≤ 30; omega) ?_
      refine aw_iconst dL_act_103 ?_
      refine aw_icmp_ge (tgt := 178) dL_act_104 (by decide) (by omega) (by omega) (fun h104 => ?_) (fun h104 => ?_)
      · refine aw_iload dL_act_178 rfl ?_
        refine aw_bipush dL_act_180 rfl ?_
        refine aw_icmp_ge (tgt := 223) dL_act_182 (by decide) (by omega) (by omega) (fun h182 => ?_) (fun h182 => ?_)
        · refine aw_iload dL_act_223 rfl ?_
          refine aw_bipush dL_act_225 rfl ?_
          refine aw_icmp_ne (tgt := 250) dL_act_227 (by decide) (by omega) (by omega) (fun h227 => ?_) (fun h227 => ?_)
          · refine aw_iload dL_act_250 rfl ?_
            refine aw_bipush dL_act_252 rfl ?_
            refine aw_icmp_ne (tgt := 283) dL_act_254 (by decide) (by omega) (by omega) (fun h254 => ?_) (fun h254 => ?_)
            · refine aw_iload dL_act_283 rfl ?_
              refine aw_bipush dL_act_285 rfl ?_
              refine aw_icmp_ne (tgt := 306) dL_act_287 (by decide) (by omega) (by omega) (fun h287 => ?_) (fun h287 => ?_)
              · refine aw_iload dL_act_306 rfl ?_
                refine aw_bipush dL_act_308 rfl ?_
                refine aw_icmp_ne (tgt := 338) dL_act_310 (by decide) (by omega) (by omega) (fun h310 => ?_) (fun h310 => ?_)
                · refine aw_aload_n dL_act_338 rfl rfl ?_
                  refine aw_iload dL_act_339 rfl ?_
                  refine aw_bipush dL_act_341 rfl ?_
                  refine aw_icmp_ge (tgt := 350) dL_act_343 (by decide) (by omega) (by omega) (fun h343 => ?_) (fun h343 => ?_)
                  · refine aw_iload dL_act_350 rfl ?_
                    refine aw_bipush dL_act_352 rfl ?_
                    refine aw_icmp_ne (tgt := 361) dL_act_354 (by decide) (by omega) (by omega) (fun h354 => ?_) (fun h354 => ?_)
                    · refine aw_iload dL_act_361 rfl ?_
                      refine aw_bipush dL_act_363 rfl ?_
                      refine aw_icmp_ne (tgt := 372) dL_act_365 (by decide) (by omega) (by omega) (fun h365 => ?_) (fun h365 => ?_)
                      · refine aw_iload dL_act_372 rfl ?_
                        refine aw_bipush dL_act_374 rfl ?_
                        refine aw_icmp_ge (tgt := 383) dL_act_376 (by decide) (by omega) (by omega) (fun h376 => ?_) (fun h376 => ?_)
                        · refine aw_iconst dL_act_383 ?_
                          refine aw_iload_n dL_act_384 rfl rfl ?_
                          refine aw_iload dL_act_385 rfl ?_
                          refine aw_bipush dL_act_387 rfl ?_
                          refine aw_icmp_ne (tgt := 414) dL_act_389 (by decide) (by omega) (by omega) (fun h389 => ?_) (fun h389 => absurd h389 (by omega))
                          refine aw_iload dL_act_414 rfl ?_
                          refine aw_callW (As := [rV K 0 0, iV 4, iV ((lowI (shI v 5) ((M 7 0 8) + 1)) + 1), iV (lowI (shI v 4) ((M 1 0 4) + 1))]) (rest := []) (c2 := 0 + 4) (s2 := 6 * (0 + 4)) (c_L_tends4 hst M h hc ((lowI (shI v 5) ((M 7 0 8) + 1)) + 1) (lowI (shI v 4) ((M 1 0 4) + 1)) (by have q0 := lowI_bd (shI v 5) (n := ((M 7 0 8) + 1)) (by omega); omega)) cw_L_tends dL_act_416 ml_L_86 rfl rfl (Nat.le_of_ble_eq_true rfl) (by decide) (by show 0 + 4 ≤ 0 + 4; omega) (by show 6 * (0) + 24 ≤ 6 * (0 + 4); omega) (by show 0 + 4 ≤ 5 ∧ 6 * (0 + 4) ≤ 30; omega) (fun z m q => ?_)
                          exact aw_iret dL_act_419 rfl rfl (by show 0 + 4 ≤ 5; omega) (by show 6 * (0 + 4) ≤ 30; omega) ⟨z, rfl, by
          have ho : odI v = 0 := if_neg h9
          have e : opF M v = (10, lowI (shI v 5) (M 7 0 8 + 1) + 1, 0, 0, 0) := by unfold opF; rw [ho]; unfold opI; rw [if_neg (by omega), if_neg (by omega), if_neg (by omega), if_neg (by omega), if_neg (by omega), if_neg (by omega), if_neg (by omega), if_neg (by omega), if_neg (by omega), if_neg (by omega)]; rfl
          unfold ACT; rw [e]; exact q⟩
                        · refine aw_iconst dL_act_379 ?_
                          refine aw_goto (tgt := 384) dL_act_380 (by decide) ?_
                          refine aw_iload_n dL_act_384 rfl rfl ?_
                          refine aw_iload dL_act_385 rfl ?_
                          refine aw_bipush dL_act_387 rfl ?_
                          refine aw_icmp_ne (tgt := 414) dL_act_389 (by decide) (by omega) (by omega) (fun h389 => ?_) (fun h389 => absurd h389 (by omega))
                          refine aw_iload dL_act_414 rfl ?_
                          refine aw_callW (As := [rV K 0 0, iV 3, iV ((lowI (shI v 5) ((M 7 0 8) + 1)) + 1), iV (lowI (shI v 4) ((M 1 0 4) + 1))]) (rest := []) (c2 := 0 + 4) (s2 := 6 * (0 + 4)) (c_L_tends3 hst M h hc ((lowI (shI v 5) ((M 7 0 8) + 1)) + 1) (lowI (shI v 4) ((M 1 0 4) + 1)) (by have q0 := lowI_bd (shI v 5) (n := ((M 7 0 8) + 1)) (by omega); omega) (by have q0 := lowI_bd (shI v 4) (n := ((M 1 0 4) + 1)) (by omega); omega)) cw_L_tends dL_act_416 ml_L_86 rfl rfl (Nat.le_of_ble_eq_true rfl) (by decide) (by show 0 + 4 ≤ 0 + 4; omega) (by show 6 * (0) + 24 ≤ 6 * (0 + 4); omega) (by show 0 + 4 ≤ 5 ∧ 6 * (0 + 4) ≤ 30; omega) (fun z m q => ?_)
                          exact aw_iret dL_act_419 rfl rfl (by show 0 + 4 ≤ 5; omega) (by show 6 * (0 + 4) ≤ 30; omega) ⟨z, rfl, by
          have ho : odI v = 0 := if_neg h9
          have e : opF M v = (9, lowI (shI v 5) (M 7 0 8 + 1) + 1, lowI (shI v 4) (M 1 0 4 + 1), 0, 0) := by unfold opF; rw [ho]; unfold opI; rw [if_neg (by omega), if_neg (by omega), if_neg (by omega), if_neg (by omega), if_neg (by omega), if_neg (by omega), if_neg (by omega), if_neg (by omega), if_neg (by omega), if_pos (by omega)]; rfl
          unfold ACT; rw [e]; exact q⟩
                      · refine aw_iconst dL_act_368 ?_
                        refine aw_goto (tgt := 384) dL_act_369 (by decide) ?_
                        refine aw_iload_n dL_act_384 rfl rfl ?_
                        refine aw_iload dL_act_385 rfl ?_
                        refine aw_bipush dL_act_387 rfl ?_
                        refine aw_icmp_ne (tgt := 414) dL_act_389 (by decide) (by omega) (by omega) (fun h389 => absurd h389 (by omega)) (fun h389 => ?_)
                        refine aw_iload_n dL_act_392 rfl rfl ?_
                        refine aw_bipush dL_act_393 rfl ?_
                        refine aw_ishr dL_act_395 ?_
                        refine aw_iload_n dL_act_396 rfl rfl ?_
                        refine aw_if_eq (tgt := 406) dL_act_397 (by decide) (by decide) (fun _ => ?_) (fun h => absurd (by decide) h)
                        refine aw_bipush dL_act_406 rfl ?_
                        refine lw_Si (As := [iV (shI v 8), iV 30]) (rest := [iV ((lowI (shI v 5) ((M 7 0 8) + 1)) + 1), iV 0, rV K 0 0]) (c2 := 0) (s2 := 6 * (0)) (c_L_low hst M (shI v 8) (30) (shI_r _ _) (by omega)) cs_L_low dL_act_408 ml_L_65 rfl rfl (Nat.le_of_ble_eq_true rfl) (by decide) (Nat.le_refl _) (Nat.le_refl _) (by show 0 ≤ 5 ∧ 6 * (0) ≤ 30; omega) ?_
                        refine aw_goto (tgt := 416) dL_act_411 (by decide) ?_
                        refine aw_callW (As := [rV K 0 0, iV 0, iV ((lowI (shI v 5) ((M 7 0 8) + 1)) + 1), iV (lowI (shI v 8) 30)]) (rest := []) (c2 := 0 + 4) (s2 := 6 * (0 + 4)) (c_L_tends0 hst M h hc ((lowI (shI v 5) ((M 7 0 8) + 1)) + 1) (lowI (shI v 8) 30) (by have q0 := lowI_bd (shI v 5) (n := ((M 7 0 8) + 1)) (by omega); omega) (by have q0 := lowI_bd (shI v 8) (n := 30) (by omega); omega)) cw_L_tends dL_act_416 ml_L_86 rfl rfl (Nat.le_of_ble_eq_true rfl) (by decide) (by show 0 + 4 ≤ 0 + 4; omega) (by show 6 * (0) + 24 ≤ 6 * (0 + 4); omega) (by show 0 + 4 ≤ 5 ∧ 6 * (0 + 4) ≤ 30; omega) (fun z m q => ?_)
                        exact aw_iret dL_act_419 rfl rfl (by show 0 + 4 ≤ 5; omega) (by show 6 * (0 + 4) ≤ 30; omega) ⟨z, rfl, by
          have ho : odI v = 0 := if_neg h9
          have e : opF M v = (8, lowI (shI v 5) (M 7 0 8 + 1) + 1, lowI (shI v 8) 30, 0, 0) := by unfold opF; rw [ho]; unfold opI; rw [if_neg (by omega), if_neg (by omega), if_neg (by omega), if_neg (by omega), if_neg (by omega), if_neg (by omega), if_neg (by omega), if_neg (by omega), if_pos (by omega)]; rfl
          unfold ACT; rw [e]; exact q⟩
                    · refine aw_iconst dL_act_357 ?_
                      refine aw_goto (tgt := 384) dL_act_358 (by decide) ?_
                      refine aw_iload_n dL_act_384 rfl rfl ?_
                      refine aw_iload dL_act_385 rfl ?_
                      refine aw_bipush dL_act_387 rfl ?_
                      refine aw_icmp_ne (tgt := 414) dL_act_389 (by decide) (by omega) (by omega) (fun h389 => ?_) (fun h389 => absurd h389 (by omega))
                      refine aw_iload dL_act_414 rfl ?_
                      refine aw_callW (As := [rV K 0 0, iV 2, iV ((lowI (shI v 5) ((M 7 0 8) + 1)) + 1), iV (lowI (shI v 4) ((M 1 0 4) + 1))]) (rest := []) (c2 := 0 + 4) (s2 := 6 * (0 + 4)) (c_L_tends2 hst M h hc ((lowI (shI v 5) ((M 7 0 8) + 1)) + 1) (lowI (shI v 4) ((M 1 0 4) + 1)) (by have q0 := lowI_bd (shI v 5) (n := ((M 7 0 8) + 1)) (by omega); omega)) cw_L_tends dL_act_416 ml_L_86 rfl rfl (Nat.le_of_ble_eq_true rfl) (by decide) (by show 0 + 4 ≤ 0 + 4; omega) (by show 6 * (0) + 24 ≤ 6 * (0 + 4); omega) (by show 0 + 4 ≤ 5 ∧ 6 * (0 + 4) ≤ 30; omega) (fun z m q => ?_)
                      exact aw_iret dL_act_419 rfl rfl (by show 0 + 4 ≤ 5; omega) (by show 6 * (0 + 4) ≤ 30; omega) ⟨z, rfl, by
          have ho : odI v = 0 := if_neg h9
          have e : opF M v = (7, lowI (shI v 5) (M 7 0 8 + 1) + 1, 0, 0, 0) := by unfold opF; rw [ho]; unfold opI; rw [if_neg (by omega), if_neg (by omega), if_neg (by omega), if_neg (by omega), if_neg (by omega), if_neg (by omega), if_neg (by omega), if_pos (by omega)]; rfl
          unfold ACT; rw [e]; exact q⟩
                  · refine aw_iconst dL_act_346 ?_
                    refine aw_goto (tgt := 384) dL_act_347 (by decide) ?_
                    refine aw_iload_n dL_act_384 rfl rfl ?_
                    refine aw_iload dL_act_385 rfl ?_
                    refine aw_bipush dL_act_387 rfl ?_
                    refine aw_icmp_ne (tgt := 414) dL_act_389 (by decide) (by omega) (by omega) (fun h389 => ?_) (fun h389 => absurd h389 (by omega))
                    refine aw_iload dL_act_414 rfl ?_
                    refine aw_callW (As := [rV K 0 0, iV 1, iV ((lowI (shI v 5) ((M 7 0 8) + 1)) + 1), iV (lowI (shI v 4) ((M 1 0 4) + 1))]) (rest := []) (c2 := 0 + 4) (s2 := 6 * (0 + 4)) (c_L_tends1 hst M h hc ((lowI (shI v 5) ((M 7 0 8) + 1)) + 1) (lowI (shI v 4) ((M 1 0 4) + 1)) (by have q0 := lowI_bd (shI v 5) (n := ((M 7 0 8) + 1)) (by omega); omega)) cw_L_tends dL_act_416 ml_L_86 rfl rfl (Nat.le_of_ble_eq_true rfl) (by decide) (by show 0 + 4 ≤ 0 + 4; omega) (by show 6 * (0) + 24 ≤ 6 * (0 + 4); omega) (by show 0 + 4 ≤ 5 ∧ 6 * (0 + 4) ≤ 30; omega) (fun z m q => ?_)
                    exact aw_iret dL_act_419 rfl rfl (by show 0 + 4 ≤ 5; omega) (by show 6 * (0 + 4) ≤ 30; omega) ⟨z, rfl, by
          have ho : odI v = 0 := if_neg h9
          have e : opF M v = (6, lowI (shI v 5) (M 7 0 8 + 1) + 1, 0, 0, 0) := by unfold opF; rw [ho]; unfold opI; rw [if_neg (by omega), if_neg (by omega), if_neg (by omega), if_neg (by omega), if_neg (by omega), if_neg (by omega), if_pos (by omega)]; rfl
          unfold ACT; rw [e]; exact q⟩
                · refine aw_aload_n dL_act_313 rfl rfl ?_
                  refine aw_iconst dL_act_314 ?_
                  refine aw_iconst dL_act_315 ?_
                  refine aw_iload_n dL_act_316 rfl rfl ?_
                  refine aw_iconst dL_act_317 ?_
                  refine aw_ishr dL_act_318 ?_
                  refine aw_iload_n dL_act_319 rfl rfl ?_
                  refine aw_if_eq (tgt := 329) dL_act_320 (by decide) (by decide) (fun _ => ?_) (fun h => absurd (by decide) h)
                  refine aw_bipush dL_act_329 rfl ?_
                  refine lw_Si (As := [iV (shI v 5), iV 10]) (rest := [iV 0, iV 5, rV K 0 0]) (c2 := 0) (s2 := 6 * (0)) (c_L_low hst M (shI v 5) (10) (shI_r _ _) (by omega)) cs_L_low dL_act_331 ml_L_65 rfl rfl (Nat.le_of_ble_eq_true rfl) (by decide) (Nat.le_refl _) (Nat.le_refl _) (by show 0 ≤ 5 ∧ 6 * (0) ≤ 30; omega) ?_
                  refine aw_callW (As := [rV K 0 0, iV 5, iV 0, iV (lowI (shI v 5) 10)]) (rest := []) (c2 := 0 + 4) (s2 := 6 * (0 + 4)) (c_L_tends5 hst M h hc (0) (lowI (shI v 5) 10) (by have q0 := lowI_bd (shI v 5) (n := 10) (by omega); omega)) cw_L_tends dL_act_334 ml_L_86 rfl rfl (Nat.le_of_ble_eq_true rfl) (by decide) (by show 0 + 4 ≤ 0 + 4; omega) (by show 6 * (0) + 24 ≤ 6 * (0 + 4); omega) (by show 0 + 4 ≤ 5 ∧ 6 * (0 + 4) ≤ 30; omega) (fun z m q => ?_)
                  exact aw_iret dL_act_337 rfl rfl (by show 0 + 4 ≤ 5; omega) (by show 6 * (0 + 4) ≤ 30; omega) ⟨z, rfl, by
          have ho : odI v = 0 := if_neg h9
          have e : opF M v = (5, lowI (shI v 5) 10, 0, 0, 0) := by unfold opF; rw [ho]; unfold opI; rw [if_neg (by omega), if_neg (by omega), if_neg (by omega), if_neg (by omega), if_neg (by omega), if_pos (by omega)]; rfl
          unfold ACT; rw [e]; exact q⟩
              · refine aw_aload_n dL_act_290 rfl rfl ?_
                refine aw_iload dL_act_291 rfl ?_
                refine aw_iload_n dL_act_293 rfl rfl ?_
                refine aw_bipush dL_act_294 rfl ?_
                refine aw_ishr dL_act_296 ?_
                refine aw_bipush dL_act_297 rfl ?_
                refine lw_Si (As := [iV (shI v 7), iV 10]) (rest := [iV (lowI (shI v 4) ((M 1 0 4) + 1)), rV K 0 0]) (c2 := 0) (s2 := 6 * (0)) (c_L_low hst M (shI v 7) (10) (shI_r _ _) (by omega)) cs_L_low dL_act_299 ml_L_65 rfl rfl (Nat.le_of_ble_eq_true rfl) (by decide) (Nat.le_refl _) (Nat.le_refl _) (by show 0 ≤ 5 ∧ 6 * (0) ≤ 30; omega) ?_
                refine aw_callW (As := [rV K 0 0, iV (lowI (shI v 4) ((M 1 0 4) + 1)), iV (lowI (shI v 7) 10)]) (rest := []) (c2 := 0 + 2) (s2 := 6 * (0 + 2)) (c_L_toggles hst M h hc (lowI (shI v 4) ((M 1 0 4) + 1)) (lowI (shI v 7) 10) (by have q0 := lowI_bd (shI v 4) (n := ((M 1 0 4) + 1)) (by omega); omega) (by have q0 := lowI_bd (shI v 7) (n := 10) (by omega); omega)) cw_L_toggles dL_act_302 ml_L_82 rfl rfl (Nat.le_of_ble_eq_true rfl) (by decide) (by show 0 + 2 ≤ 0 + 2; omega) (by show 6 * (0) + 12 ≤ 6 * (0 + 2); omega) (by show 0 + 2 ≤ 5 ∧ 6 * (0 + 2) ≤ 30; omega) (fun z m q => ?_)
                exact aw_iret dL_act_305 rfl rfl (by show 0 + 2 ≤ 5; omega) (by show 6 * (0 + 2) ≤ 30; omega) ⟨z, rfl, by
          have ho : odI v = 0 := if_neg h9
          have e : opF M v = (4, lowI (shI v 4) (M 1 0 4 + 1), lowI (shI v 7) 10, 0, 0) := by unfold opF; rw [ho]; unfold opI; rw [if_neg (by omega), if_neg (by omega), if_neg (by omega), if_neg (by omega), if_pos (by omega)]; rfl
          unfold ACT; rw [e]; exact q⟩
            · refine aw_aload_n dL_act_257 rfl rfl ?_
              refine aw_iconst dL_act_258 ?_
              refine aw_iload_n dL_act_259 rfl rfl ?_
              refine aw_iconst dL_act_260 ?_
              refine aw_ishr dL_act_261 ?_
              refine aw_iload_n dL_act_262 rfl rfl ?_
              refine aw_if_eq (tgt := 271) dL_act_263 (by decide) (by decide) (fun _ => ?_) (fun h => absurd (by decide) h)
              refine aw_bipush dL_act_271 rfl ?_
              refine lw_Si (As := [iV (shI v 5), iV 14]) (rest := [iV 2, rV K 0 0]) (c2 := 0) (s2 := 6 * (0)) (c_L_low hst M (shI v 5) (14) (shI_r _ _) (by omega)) cs_L_low dL_act_273 ml_L_65 rfl rfl (Nat.le_of_ble_eq_true rfl) (by decide) (Nat.le_refl _) (Nat.le_refl _) (by show 0 ≤ 5 ∧ 6 * (0) ≤ 30; omega) ?_
              refine aw_bipush dL_act_276 rfl ?_
              refine aw_iconst dL_act_278 ?_
              refine aw_callW (As := [rV K 0 0, iV 2, iV (lowI (shI v 5) 14), iV 15, iV 0]) (rest := []) (c2 := 0 + 4) (s2 := 6 * (0 + 4)) (c_L_asks2 hst M h hc (lowI (shI v 5) 14) (15) (0) (by have q0 := lowI_bd (shI v 5) (n := 14) (by omega); omega) (by omega)) cw_L_asks dL_act_279 ml_L_76 rfl rfl (Nat.le_of_ble_eq_true rfl) (by decide) (by show 0 + 4 ≤ 0 + 4; omega) (by show 6 * (0) + 24 ≤ 6 * (0 + 4); omega) (by show 0 + 4 ≤ 5 ∧ 6 * (0 + 4) ≤ 30; omega) (fun z m q => ?_)
              exact aw_iret dL_act_282 rfl rfl (by show 0 + 4 ≤ 5; omega) (by show 6 * (0 + 4) ≤ 30; omega) ⟨z, rfl, by
          have ho : odI v = 0 := if_neg h9
          have e : opF M v = (2, lowI (shI v 5) 14, 15, 0, 0) := by unfold opF; rw [ho]; unfold opI; rw [if_neg (by omega), if_neg (by omega), if_neg (by omega), if_pos (by omega)]; rfl
          unfold ACT; rw [e]; exact q⟩
          · refine aw_aload_n dL_act_230 rfl rfl ?_
            refine aw_iload dL_act_231 rfl ?_
            refine aw_iload_n dL_act_233 rfl rfl ?_
            refine aw_bipush dL_act_234 rfl ?_
            refine aw_ishr dL_act_236 ?_
            refine aw_bipush dL_act_237 rfl ?_
            refine lw_Si (As := [iV (shI v 6), iV 10]) (rest := [iV (lowI (shI v 4) ((M 1 0 4) + 1)), rV K 0 0]) (c2 := 0) (s2 := 6 * (0)) (c_L_low hst M (shI v 6) (10) (shI_r _ _) (by omega)) cs_L_low dL_act_239 ml_L_65 rfl rfl (Nat.le_of_ble_eq_true rfl) (by decide) (Nat.le_refl _) (Nat.le_refl _) (by show 0 ≤ 5 ∧ 6 * (0) ≤ 30; omega) ?_
            refine aw_iload dL_act_242 rfl ?_
            refine aw_bipush dL_act_244 rfl ?_
            refine aw_callW (As := [rV K 0 0, iV (lowI (shI v 4) ((M 1 0 4) + 1)), iV (lowI (shI v 6) 10), iV (1 + (lowI (shI v 7) 3)), iV 20]) (rest := []) (c2 := 0 + 5) (s2 := 6 * (0 + 5)) (c_L_holdAt hst M h hc (lowI (shI v 4) ((M 1 0 4) + 1)) (lowI (shI v 6) 10) (1 + (lowI (shI v 7) 3)) (20) (by have q0 := lowI_bd (shI v 4) (n := ((M 1 0 4) + 1)) (by omega); omega) (by have q0 := lowI_bd (shI v 6) (n := 10) (by omega); omega) (by have q0 := lowI_bd (shI v 7) (n := 3) (by omega); omega) (by omega)) cw_L_holdAt dL_act_246 ml_L_80 rfl rfl (Nat.le_of_ble_eq_true rfl) (by decide) (by show 0 + 5 ≤ 0 + 5; omega) (by show 6 * (0) + 30 ≤ 6 * (0 + 5); omega) (by show 0 + 5 ≤ 5 ∧ 6 * (0 + 5) ≤ 30; omega) (fun z m q => ?_)
            exact aw_iret dL_act_249 rfl rfl (by show 0 + 5 ≤ 5; omega) (by show 6 * (0 + 5) ≤ 30; omega) ⟨z, rfl, by
          have ho : odI v = 0 := if_neg h9
          have e : opF M v = (3, lowI (shI v 4) (M 1 0 4 + 1), lowI (shI v 6) 10, 1 + lowI (shI v 7) 3, 20) := by unfold opF; rw [ho]; unfold opI; rw [if_neg (by omega), if_neg (by omega), if_pos (by omega)]; rfl
          unfold ACT; rw [e]; exact q⟩
        · refine aw_aload_n dL_act_185 rfl rfl ?_
          refine aw_iconst dL_act_186 ?_
          refine aw_iload dL_act_187 rfl ?_
          refine aw_iload_n dL_act_189 rfl rfl ?_
          refine aw_bipush dL_act_190 rfl ?_
          refine aw_ishr dL_act_192 ?_
          refine aw_iload_n dL_act_193 rfl rfl ?_
          refine aw_if_eq (tgt := 203) dL_act_194 (by decide) (by decide) (fun _ => ?_) (fun h => absurd (by decide) h)
          refine aw_bipush dL_act_203 rfl ?_
          refine lw_Si (As := [iV (shI v 10), iV 40]) (rest := [iV (1 + (lowI (shI v 7) 3)), iV 1, rV K 0 0]) (c2 := 0) (s2 := 6 * (0)) (c_L_low hst M (shI v 10) (40) (shI_r _ _) (by omega)) cs_L_low dL_act_205 ml_L_65 rfl rfl (Nat.le_of_ble_eq_true rfl) (by decide) (Nat.le_refl _) (Nat.le_refl _) (by show 0 ≤ 5 ∧ 6 * (0) ≤ 30; omega) ?_
          refine aw_iload_n dL_act_208 rfl rfl ?_
          refine aw_if_eq (tgt := 216) dL_act_209 (by decide) (by decide) (fun _ => ?_) (fun h => absurd (by decide) h)
          refine aw_iconst dL_act_216 ?_
          refine aw_iadd dL_act_217 ?_
          refine aw_iconst dL_act_218 ?_
          refine aw_callW (As := [rV K 0 0, iV 1, iV (1 + (lowI (shI v 7) 3)), iV ((lowI (shI v 10) 40) + 1), iV 0]) (rest := []) (c2 := 0 + 4) (s2 := 6 * (0 + 4)) (c_L_asks1 hst M h hc (1 + (lowI (shI v 7) 3)) ((lowI (shI v 10) 40) + 1) (0) (by have q0 := lowI_bd (shI v 7) (n := 3) (by omega); omega) (by have q0 := lowI_bd (shI v 10) (n := 40) (by omega); omega)) cw_L_asks dL_act_219 ml_L_76 rfl rfl (Nat.le_of_ble_eq_true rfl) (by decide) (by show 0 + 4 ≤ 0 + 4; omega) (by show 6 * (0) + 24 ≤ 6 * (0 + 4); omega) (by show 0 + 4 ≤ 5 ∧ 6 * (0 + 4) ≤ 30; omega) (fun z m q => ?_)
          exact aw_iret dL_act_222 rfl rfl (by show 0 + 4 ≤ 5; omega) (by show 6 * (0 + 4) ≤ 30; omega) ⟨z, rfl, by
          have ho : odI v = 0 := if_neg h9
          have e : opF M v = (1, 1 + lowI (shI v 7) 3, lowI (shI v 10) 40 + 1, 0, 0) := by unfold opF; rw [ho]; unfold opI; rw [if_neg (by omega), if_pos (by omega)]; rfl
          unfold ACT; rw [e]; exact q⟩
      · refine aw_aload_n dL_act_107 rfl rfl ?_
        refine aw_iconst dL_act_108 ?_
        refine aw_iload_n dL_act_109 rfl rfl ?_
        refine aw_iconst dL_act_110 ?_
        refine aw_ishr dL_act_111 ?_
        refine aw_iload_n dL_act_112 rfl rfl ?_
        refine aw_if_eq (tgt := 121) dL_act_113 (by decide) (by decide) (fun _ => ?_) (fun h => absurd (by decide) h)
        refine aw_bipush dL_act_121 rfl ?_
        refine lw_Si (As := [iV (shI v 5), iV 10]) (rest := [iV 0, rV K 0 0]) (c2 := 0) (s2 := 6 * (0)) (c_L_low hst M (shI v 5) (10) (shI_r _ _) (by omega)) cs_L_low dL_act_123 ml_L_65 rfl rfl (Nat.le_of_ble_eq_true rfl) (by decide) (Nat.le_refl _) (Nat.le_refl _) (by show 0 ≤ 5 ∧ 6 * (0) ≤ 30; omega) ?_
        refine aw_iload_n dL_act_126 rfl rfl ?_
        refine aw_if_eq (tgt := 134) dL_act_127 (by decide) (by decide) (fun _ => ?_) (fun h => absurd (by decide) h)
        refine aw_iconst dL_act_134 ?_
        refine aw_iadd dL_act_135 ?_
        refine aw_iload_n dL_act_136 rfl rfl ?_
        refine aw_bipush dL_act_137 rfl ?_
        refine aw_ishr dL_act_139 ?_
        refine aw_iload_n dL_act_140 rfl rfl ?_
        refine aw_if_eq (tgt := 150) dL_act_141 (by decide) (by decide) (fun _ => ?_) (fun h => absurd (by decide) h)
        refine aw_bipush dL_act_150 rfl ?_
        refine lw_Si (As := [iV (shI v 9), iV 20]) (rest := [iV ((lowI (shI v 5) 10) + 1), iV 0, rV K 0 0]) (c2 := 0) (s2 := 6 * (0)) (c_L_low hst M (shI v 9) (20) (shI_r _ _) (by omega)) cs_L_low dL_act_152 ml_L_65 rfl rfl (Nat.le_of_ble_eq_true rfl) (by decide) (Nat.le_refl _) (Nat.le_refl _) (by show 0 ≤ 5 ∧ 6 * (0) ≤ 30; omega) ?_
        refine aw_iload_n dL_act_155 rfl rfl ?_
        refine aw_iconst dL_act_156 ?_
        refine aw_ishr dL_act_157 ?_
        refine aw_iload_n dL_act_158 rfl rfl ?_
        refine aw_if_eq (tgt := 168) dL_act_159 (by decide) (by decide) (fun _ => ?_) (fun h => absurd (by decide) h)
        refine aw_sipush dL_act_168 rfl ?_
        refine lw_Si (As := [iV (shI v 3), iV 200]) (rest := [iV (lowI (shI v 9) 20), iV ((lowI (shI v 5) 10) + 1), iV 0, rV K 0 0]) (c2 := 0) (s2 := 6 * (0)) (c_L_low hst M (shI v 3) (200) (shI_r _ _) (by omega)) cs_L_low dL_act_171 ml_L_65 rfl rfl (Nat.le_of_ble_eq_true rfl) (by decide) (Nat.le_refl _) (Nat.le_refl _) (by show 0 ≤ 5 ∧ 6 * (0) ≤ 30; omega) ?_
        refine aw_callW (As := [rV K 0 0, iV 0, iV ((lowI (shI v 5) 10) + 1), iV (lowI (shI v 9) 20), iV (lowI (shI v 3) 200)]) (rest := []) (c2 := 0 + 4) (s2 := 6 * (0 + 4)) (c_L_asks0 hst M h hc ((lowI (shI v 5) 10) + 1) (lowI (shI v 9) 20) (lowI (shI v 3) 200) (by have q0 := lowI_bd (shI v 5) (n := 10) (by omega); omega) (by have q0 := lowI_bd (shI v 9) (n := 20) (by omega); omega) (by have q0 := lowI_bd (shI v 3) (n := 200) (by omega); omega)) cw_L_asks dL_act_174 ml_L_76 rfl rfl (Nat.le_of_ble_eq_true rfl) (by decide) (by show 0 + 4 ≤ 0 + 4; omega) (by show 6 * (0) + 24 ≤ 6 * (0 + 4); omega) (by show 0 + 4 ≤ 5 ∧ 6 * (0 + 4) ≤ 30; omega) (fun z m q => ?_)
        exact aw_iret dL_act_177 rfl rfl (by show 0 + 4 ≤ 5; omega) (by show 6 * (0 + 4) ≤ 30; omega) ⟨z, rfl, by
          have ho : odI v = 0 := if_neg h9
          have e : opF M v = (0, lowI (shI v 5) 10 + 1, lowI (shI v 9) 20, lowI (shI v 3) 200, 0) := by unfold opF; rw [ho]; unfold opI; rw [if_pos (by omega)]; rfl
          unfold ACT; rw [e]; exact q⟩
  · refine aw_iconst dL_act_12 ?_
    refine aw_goto (tgt := 17) dL_act_13 (by decide) ?_
    refine aw_istore_n (L2 := [some (rV K 0 0), some (iV (v)), some (iV 1), none, none, none, none]) dL_act_17 rfl (by decide) rfl ?_
    refine aw_iload_n dL_act_18 rfl rfl ?_
    refine aw_iconst dL_act_19 ?_
    refine aw_ishr dL_act_20 ?_
    refine aw_aload_n dL_act_21 rfl rfl ?_
    refine lw_Vi (g := 0) (As := []) (rest := [iV (shI v 5)]) (c2 := 0) (s2 := 6 * (0)) (k_tickets hst M h) cv_X4_tickets dL_act_22 ml_L_70 rfl rfl rfl rfl rfl (Nat.le_of_ble_eq_true rfl) (by decide) (Nat.le_refl _) (Nat.le_refl _) (by show 0 ≤ 5 ∧ 6 * (0) ≤ 30; omega) ?_
    refine aw_iconst dL_act_25 ?_
    refine aw_iadd dL_act_26 ?_
    refine lw_Si (As := [iV (shI v 5), iV ((M 7 0 8) + 1)]) (rest := []) (c2 := 0) (s2 := 6 * (0)) (c_L_low hst M (shI v 5) ((M 7 0 8) + 1) (shI_r _ _) (by omega)) cs_L_low dL_act_27 ml_L_65 rfl rfl (Nat.le_of_ble_eq_true rfl) (by decide) (Nat.le_refl _) (Nat.le_refl _) (by show 0 ≤ 5 ∧ 6 * (0) ≤ 30; omega) ?_
    refine aw_iload_n dL_act_30 rfl rfl ?_
    refine aw_if_eq (tgt := 38) dL_act_31 (by decide) (by decide) (fun h => absurd h (by decide)) (fun _ => ?_)
    refine aw_iconst dL_act_34 ?_
    refine aw_goto (tgt := 39) dL_act_35 (by decide) ?_
    refine aw_iadd dL_act_39 ?_
    refine aw_istore_n (L2 := [some (rV K 0 0), some (iV (v)), some (iV 1), some (iV ((lowI (shI v 5) ((M 7 0 8) + 1)) + 0)), none, none, none]) dL_act_40 rfl (by decide) rfl ?_
    refine aw_iload_n dL_act_41 rfl rfl ?_
    refine aw_iconst dL_act_42 ?_
    refine aw_ishr dL_act_43 ?_
    refine aw_iload_n dL_act_44 rfl rfl ?_
    refine aw_if_eq (tgt := 53) dL_act_45 (by decide) (by decide) (fun h => absurd h (by decide)) (fun _ => ?_)
    refine aw_bipush dL_act_48 rfl ?_
    refine aw_goto (tgt := 59) dL_act_50 (by decide) ?_
    refine lw_Si (As := [iV (shI v 4), iV 14]) (rest := []) (c2 := 0) (s2 := 6 * (0)) (c_L_low hst M (shI v 4) (14) (shI_r _ _) (by omega)) cs_L_low dL_act_59 ml_L_65 rfl rfl (Nat.le_of_ble_eq_true rfl) (by decide) (Nat.le_refl _) (Nat.le_refl _) (by show 0 ≤ 5 ∧ 6 * (0) ≤ 30; omega) ?_
    refine aw_istore (L2 := [some (rV K 0 0), some (iV (v)), some (iV 1), some (iV ((lowI (shI v 5) ((M 7 0 8) + 1)) + 0)), some (iV (lowI (shI v 4) 14)), none, none]) dL_act_62 (by decide) rfl ?_
    refine aw_iconst dL_act_64 ?_
    refine aw_iload_n dL_act_65 rfl rfl ?_
    refine aw_bipush dL_act_66 rfl ?_
    refine aw_ishr dL_act_68 ?_
    refine aw_iload_n dL_act_69 rfl rfl ?_
    refine aw_if_eq (tgt := 78) dL_act_70 (by decide) (by decide) (fun h => absurd h (by decide)) (fun _ => ?_)
    refine aw_bipush dL_act_73 rfl ?_
    refine aw_goto (tgt := 79) dL_act_75 (by decide) ?_
    refine lw_Si (As := [iV (shI v 7), iV 24]) (rest := [iV 1]) (c2 := 0) (s2 := 6 * (0)) (c_L_low hst M (shI v 7) (24) (shI_r _ _) (by omega)) cs_L_low dL_act_79 ml_L_65 rfl rfl (Nat.le_of_ble_eq_true rfl) (by decide) (Nat.le_refl _) (Nat.le_refl _) (by show 0 ≤ 5 ∧ 6 * (0) ≤ 30; omega) ?_
    refine aw_iadd dL_act_82 ?_
    refine aw_istore (L2 := [some (rV K 0 0), some (iV (v)), some (iV 1), some (iV ((lowI (shI v 5) ((M 7 0 8) + 1)) + 0)), some (iV (lowI (shI v 4) 14)), some (iV (1 + (lowI (shI v 7) 24))), none]) dL_act_83 (by decide) rfl ?_
    refine aw_iload_n dL_act_85 rfl rfl ?_
    refine aw_bipush dL_act_86 rfl ?_
    refine lw_Si (As := [iV (v), iV 24]) (rest := []) (c2 := 0) (s2 := 6 * (0)) (c_L_low hst M (v) (24) r_v (by omega)) cs_L_low dL_act_88 ml_L_65 rfl rfl (Nat.le_of_ble_eq_true rfl) (by decide) (Nat.le_refl _) (Nat.le_refl _) (by show 0 ≤ 5 ∧ 6 * (0) ≤ 30; omega) ?_
    refine aw_istore (L2 := [some (rV K 0 0), some (iV (v)), some (iV 1), some (iV ((lowI (shI v 5) ((M 7 0 8) + 1)) + 0)), some (iV (lowI (shI v 4) 14)), some (iV (1 + (lowI (shI v 7) 24))), some (iV (lowI v 24))]) dL_act_91 (by decide) rfl ?_
    refine aw_iload dL_act_93 rfl ?_
    refine aw_iconst dL_act_95 ?_
    refine aw_icmp_lt (tgt := 107) dL_act_96 (by decide) (by omega) (by omega) (fun h96 => ?_) (fun h96 => ?_)
    · refine aw_aload_n dL_act_107 rfl rfl ?_
      refine aw_iconst dL_act_108 ?_
      refine aw_iload_n dL_act_109 rfl rfl ?_
      refine aw_iconst dL_act_110 ?_
      refine aw_ishr dL_act_111 ?_
      refine aw_iload_n dL_act_112 rfl rfl ?_
      refine aw_if_eq (tgt := 121) dL_act_113 (by decide) (by decide) (fun h => absurd h (by decide)) (fun _ => ?_)
      refine aw_bipush dL_act_116 rfl ?_
      refine aw_goto (tgt := 123) dL_act_118 (by decide) ?_
      refine lw_Si (As := [iV (shI v 5), iV 23]) (rest := [iV 0, rV K 0 0]) (c2 := 0) (s2 := 6 * (0)) (c_L_low hst M (shI v 5) (23) (shI_r _ _) (by omega)) cs_L_low dL_act_123 ml_L_65 rfl rfl (Nat.le_of_ble_eq_true rfl) (by decide) (Nat.le_refl _) (Nat.le_refl _) (by show 0 ≤ 5 ∧ 6 * (0) ≤ 30; omega) ?_
      refine aw_iload_n dL_act_126 rfl rfl ?_
      refine aw_if_eq (tgt := 134) dL_act_127 (by decide) (by decide) (fun h => absurd h (by decide)) (fun _ => ?_)
      refine aw_iconst dL_act_130 ?_
      refine aw_goto (tgt := 135) dL_act_131 (by decide) ?_
      refine aw_iadd dL_act_135 ?_
      refine aw_iload_n dL_act_136 rfl rfl ?_
      refine aw_bipush dL_act_137 rfl ?_
      refine aw_ishr dL_act_139 ?_
      refine aw_iload_n dL_act_140 rfl rfl ?_
      refine aw_if_eq (tgt := 150) dL_act_141 (by decide) (by decide) (fun h => absurd h (by decide)) (fun _ => ?_)
      refine aw_sipush dL_act_144 rfl ?_
      refine aw_goto (tgt := 152) dL_act_147 (by decide) ?_
      refine lw_Si (As := [iV (shI v 9), iV 1100]) (rest := [iV ((lowI (shI v 5) 23) + 0), iV 0, rV K 0 0]) (c2 := 0) (s2 := 6 * (0)) (c_L_low hst M (shI v 9) (1100) (shI_r _ _) (by omega)) cs_L_low dL_act_152 ml_L_65 rfl rfl (Nat.le_of_ble_eq_true rfl) (by decide) (Nat.le_refl _) (Nat.le_refl _) (by show 0 ≤ 5 ∧ 6 * (0) ≤ 30; omega) ?_
      refine aw_iload_n dL_act_155 rfl rfl ?_
      refine aw_iconst dL_act_156 ?_
      refine aw_ishr dL_act_157 ?_
      refine aw_iload_n dL_act_158 rfl rfl ?_
      refine aw_if_eq (tgt := 168) dL_act_159 (by decide) (by decide) (fun h => absurd h (by decide)) (fun _ => ?_)
      refine aw_sipush dL_act_162 rfl ?_
      refine aw_goto (tgt := 171) dL_act_165 (by decide) ?_
      refine lw_Si (As := [iV (shI v 3), iV 11000]) (rest := [iV (lowI (shI v 9) 1100), iV ((lowI (shI v 5) 23) + 0), iV 0, rV K 0 0]) (c2 := 0) (s2 := 6 * (0)) (c_L_low hst M (shI v 3) (11000) (shI_r _ _) (by omega)) cs_L_low dL_act_171 ml_L_65 rfl rfl (Nat.le_of_ble_eq_true rfl) (by decide) (Nat.le_refl _) (Nat.le_refl _) (by show 0 ≤ 5 ∧ 6 * (0) ≤ 30; omega) ?_
      refine aw_callW (As := [rV K 0 0, iV 0, iV ((lowI (shI v 5) 23) + 0), iV (lowI (shI v 9) 1100), iV (lowI (shI v 3) 11000)]) (rest := []) (c2 := 0 + 4) (s2 := 6 * (0 + 4)) (c_L_asks0 hst M h hc ((lowI (shI v 5) 23) + 0) (lowI (shI v 9) 1100) (lowI (shI v 3) 11000) (by have q0 := lowI_bd (shI v 5) (n := 23) (by omega); omega) (by have q0 := lowI_bd (shI v 9) (n := 1100) (by omega); omega) (by have q0 := lowI_bd (shI v 3) (n := 11000) (by omega); omega)) cw_L_asks dL_act_174 ml_L_76 rfl rfl (Nat.le_of_ble_eq_true rfl) (by decide) (by show 0 + 4 ≤ 0 + 4; omega) (by show 6 * (0) + 24 ≤ 6 * (0 + 4); omega) (by show 0 + 4 ≤ 5 ∧ 6 * (0 + 4) ≤ 30; omega) (fun z m q => ?_)
      exact aw_iret dL_act_177 rfl rfl (by show 0 + 4 ≤ 5; omega) (by show 6 * (0 + 4) ≤ 30; omega) ⟨z, rfl, by
          have ho : odI v = 1 := if_pos h9
          have e : opF M v = (0, lowI (shI v 5) 23 + 0, lowI (shI v 9) 1100, lowI (shI v 3) 11000, 0) := by unfold opF; rw [ho]; unfold opI; rw [if_pos (by omega)]; rfl
          unfold ACT; rw [e]; exact q⟩
    · refine aw_aload_n dL_act_99 rfl rfl ?_
      refine lw_Vi (g := 0) (As := []) (rest := []) (c2 := 0) (s2 := 6 * (0)) (k_rows hst M h) cv_X4_rows dL_act_100 ml_L_73 rfl rfl rfl rfl rfl (Nat.le_of_ble_eq_true rfl) (by decide) (Nat.le_refl _) (Nat.le_refl _) (by show 0 ≤ 5 ∧ 6 * (0) ≤ 30; omega) ?_
      refine aw_iconst dL_act_103 ?_
      refine aw_icmp_ge (tgt := 178) dL_act_104 (by decide) (by omega) (by omega) (fun h104 => ?_) (fun h104 => ?_)
      · refine aw_iload dL_act_178 rfl ?_
        refine aw_bipush dL_act_180 rfl ?_
        refine aw_icmp_ge (tgt := 223) dL_act_182 (by decide) (by omega) (by omega) (fun h182 => ?_) (fun h182 => ?_)
        · refine aw_iload dL_act_223 rfl ?_
          refine aw_bipush dL_act_225 rfl ?_
          refine aw_icmp_ne (tgt := 250) dL_act_227 (by decide) (by omega) (by omega) (fun h227 => ?_) (fun h227 => ?_)
          · refine aw_iload dL_act_250 rfl ?_
            refine aw_bipush dL_act_252 rfl ?_
            refine aw_icmp_ne (tgt := 283) dL_act_254 (by decide) (by omega) (by omega) (fun h254 => ?_) (fun h254 => ?_)
            · refine aw_iload dL_act_283 rfl ?_
              refine aw_bipush dL_act_285 rfl ?_
              refine aw_icmp_ne (tgt := 306) dL_act_287 (by decide) (by omega) (by omega) (fun h287 => ?_) (fun h287 => ?_)
              · refine aw_iload dL_act_306 rfl ?_
                refine aw_bipush dL_act_308 rfl ?_
                refine aw_icmp_ne (tgt := 338) dL_act_310 (by decide) (by omega) (by omega) (fun h310 => ?_) (fun h310 => ?_)
                · refine aw_aload_n dL_act_338 rfl rfl ?_
                  refine aw_iload dL_act_339 rfl ?_
                  refine aw_bipush dL_act_341 rfl ?_
                  refine aw_icmp_ge (tgt := 350) dL_act_343 (by decide) (by omega) (by omega) (fun h343 => ?_) (fun h343 => ?_)
                  · refine aw_iload dL_act_350 rfl ?_
                    refine aw_bipush dL_act_352 rfl ?_
                    refine aw_icmp_ne (tgt := 361) dL_act_354 (by decide) (by omega) (by omega) (fun h354 => ?_) (fun h354 => ?_)
                    · refine aw_iload dL_act_361 rfl ?_
                      refine aw_bipush dL_act_363 rfl ?_
                      refine aw_icmp_ne (tgt := 372) dL_act_365 (by decide) (by omega) (by omega) (fun h365 => ?_) (fun h365 => ?_)
                      · refine aw_iload dL_act_372 rfl ?_
                        refine aw_bipush dL_act_374 rfl ?_
                        refine aw_icmp_ge (tgt := 383) dL_act_376 (by decide) (by omega) (by omega) (fun h376 => ?_) (fun h376 => ?_)
                        · refine aw_iconst dL_act_383 ?_
                          refine aw_iload_n dL_act_384 rfl rfl ?_
                          refine aw_iload dL_act_385 rfl ?_
                          refine aw_bipush dL_act_387 rfl ?_
                          refine aw_icmp_ne (tgt := 414) dL_act_389 (by decide) (by omega) (by omega) (fun h389 => ?_) (fun h389 => absurd h389 (by omega))
                          refine aw_iload dL_act_414 rfl ?_
                          refine aw_callW (As := [rV K 0 0, iV 4, iV ((lowI (shI v 5) ((M 7 0 8) + 1)) + 0), iV (lowI (shI v 4) 14)]) (rest := []) (c2 := 0 + 4) (s2 := 6 * (0 + 4)) (c_L_tends4 hst M h hc ((lowI (shI v 5) ((M 7 0 8) + 1)) + 0) (lowI (shI v 4) 14) (by have q0 := lowI_bd (shI v 5) (n := ((M 7 0 8) + 1)) (by omega); omega)) cw_L_tends dL_act_416 ml_L_86 rfl rfl (Nat.le_of_ble_eq_true rfl) (by decide) (by show 0 + 4 ≤ 0 + 4; omega) (by show 6 * (0) + 24 ≤ 6 * (0 + 4); omega) (by show 0 + 4 ≤ 5 ∧ 6 * (0 + 4) ≤ 30; omega) (fun z m q => ?_)
                          exact aw_iret dL_act_419 rfl rfl (by show 0 + 4 ≤ 5; omega) (by show 6 * (0 + 4) ≤ 30; omega) ⟨z, rfl, by
          have ho : odI v = 1 := if_pos h9
          have e : opF M v = (10, lowI (shI v 5) (M 7 0 8 + 1) + 0, 0, 0, 0) := by unfold opF; rw [ho]; unfold opI; rw [if_neg (by omega), if_neg (by omega), if_neg (by omega), if_neg (by omega), if_neg (by omega), if_neg (by omega), if_neg (by omega), if_neg (by omega), if_neg (by omega), if_neg (by omega)]; rfl
          unfold ACT; rw [e]; exact q⟩
                        · refine aw_iconst dL_act_379 ?_
                          refine aw_goto (tgt := 384) dL_act_380 (by decide) ?_
                          refine aw_iload_n dL_act_384 rfl rfl ?_
                          refine aw_iload dL_act_385 rfl ?_
                          refine aw_bipush dL_act_387 rfl ?_
                          refine aw_icmp_ne (tgt := 414) dL_act_389 (by decide) (by omega) (by omega) (fun h389 => ?_) (fun h389 => absurd h389 (by omega))
                          refine aw_iload dL_act_414 rfl ?_
                          refine aw_callW (As := [rV K 0 0, iV 3, iV ((lowI (shI v 5) ((M 7 0 8) + 1)) + 0), iV (lowI (shI v 4) 14)]) (rest := []) (c2 := 0 + 4) (s2 := 6 * (0 + 4)) (c_L_tends3 hst M h hc ((lowI (shI v 5) ((M 7 0 8) + 1)) + 0) (lowI (shI v 4) 14) (by have q0 := lowI_bd (shI v 5) (n := ((M 7 0 8) + 1)) (by omega); omega) (by have q0 := lowI_bd (shI v 4) (n := 14) (by omega); omega)) cw_L_tends dL_act_416 ml_L_86 rfl rfl (Nat.le_of_ble_eq_true rfl) (by decide) (by show 0 + 4 ≤ 0 + 4; omega) (by show 6 * (0) + 24 ≤ 6 * (0 + 4); omega) (by show 0 + 4 ≤ 5 ∧ 6 * (0 + 4) ≤ 30; omega) (fun z m q => ?_)
                          exact aw_iret dL_act_419 rfl rfl (by show 0 + 4 ≤ 5; omega) (by show 6 * (0 + 4) ≤ 30; omega) ⟨z, rfl, by
          have ho : odI v = 1 := if_pos h9
          have e : opF M v = (9, lowI (shI v 5) (M 7 0 8 + 1) + 0, lowI (shI v 4) 14, 0, 0) := by unfold opF; rw [ho]; unfold opI; rw [if_neg (by omega), if_neg (by omega), if_neg (by omega), if_neg (by omega), if_neg (by omega), if_neg (by omega), if_neg (by omega), if_neg (by omega), if_neg (by omega), if_pos (by omega)]; rfl
          unfold ACT; rw [e]; exact q⟩
                      · refine aw_iconst dL_act_368 ?_
                        refine aw_goto (tgt := 384) dL_act_369 (by decide) ?_
                        refine aw_iload_n dL_act_384 rfl rfl ?_
                        refine aw_iload dL_act_385 rfl ?_
                        refine aw_bipush dL_act_387 rfl ?_
                        refine aw_icmp_ne (tgt := 414) dL_act_389 (by decide) (by omega) (by omega) (fun h389 => absurd h389 (by omega)) (fun h389 => ?_)
                        refine aw_iload_n dL_act_392 rfl rfl ?_
                        refine aw_bipush dL_act_393 rfl ?_
                        refine aw_ishr dL_act_395 ?_
                        refine aw_iload_n dL_act_396 rfl rfl ?_
                        refine aw_if_eq (tgt := 406) dL_act_397 (by decide) (by decide) (fun h => absurd h (by decide)) (fun _ => ?_)
                        refine aw_sipush dL_act_400 rfl ?_
                        refine aw_goto (tgt := 408) dL_act_403 (by decide) ?_
                        refine lw_Si (As := [iV (shI v 8), iV 220]) (rest := [iV ((lowI (shI v 5) ((M 7 0 8) + 1)) + 0), iV 0, rV K 0 0]) (c2 := 0) (s2 := 6 * (0)) (c_L_low hst M (shI v 8) (220) (shI_r _ _) (by omega)) cs_L_low dL_act_408 ml_L_65 rfl rfl (Nat.le_of_ble_eq_true rfl) (by decide) (Nat.le_refl _) (Nat.le_refl _) (by show 0 ≤ 5 ∧ 6 * (0) ≤ 30; omega) ?_
                        refine aw_goto (tgt := 416) dL_act_411 (by decide) ?_
                        refine aw_callW (As := [rV K 0 0, iV 0, iV ((lowI (shI v 5) ((M 7 0 8) + 1)) + 0), iV (lowI (shI v 8) 220)]) (rest := []) (c2 := 0 + 4) (s2 := 6 * (0 + 4)) (c_L_tends0 hst M h hc ((lowI (shI v 5) ((M 7 0 8) + 1)) + 0) (lowI (shI v 8) 220) (by have q0 := lowI_bd (shI v 5) (n := ((M 7 0 8) + 1)) (by omega); omega) (by have q0 := lowI_bd (shI v 8) (n := 220) (by omega); omega)) cw_L_tends dL_act_416 ml_L_86 rfl rfl (Nat.le_of_ble_eq_true rfl) (by decide) (by show 0 + 4 ≤ 0 + 4; omega) (by show 6 * (0) + 24 ≤ 6 * (0 + 4); omega) (by show 0 + 4 ≤ 5 ∧ 6 * (0 + 4) ≤ 30; omega) (fun z m q => ?_)
                        exact aw_iret dL_act_419 rfl rfl (by show 0 + 4 ≤ 5; omega) (by show 6 * (0 + 4) ≤ 30; omega) ⟨z, rfl, by
          have ho : odI v = 1 := if_pos h9
          have e : opF M v = (8, lowI (shI v 5) (M 7 0 8 + 1) + 0, lowI (shI v 8) 220, 0, 0) := by unfold opF; rw [ho]; unfold opI; rw [if_neg (by omega), if_neg (by omega), if_neg (by omega), if_neg (by omega), if_neg (by omega), if_neg (by omega), if_neg (by omega), if_neg (by omega), if_pos (by omega)]; rfl
          unfold ACT; rw [e]; exact q⟩
                    · refine aw_iconst dL_act_357 ?_
                      refine aw_goto (tgt := 384) dL_act_358 (by decide) ?_
                      refine aw_iload_n dL_act_384 rfl rfl ?_
                      refine aw_iload dL_act_385 rfl ?_
                      refine aw_bipush dL_act_387 rfl ?_
                      refine aw_icmp_ne (tgt := 414) dL_act_389 (by decide) (by omega) (by omega) (fun h389 => ?_) (fun h389 => absurd h389 (by omega))
                      refine aw_iload dL_act_414 rfl ?_
                      refine aw_callW (As := [rV K 0 0, iV 2, iV ((lowI (shI v 5) ((M 7 0 8) + 1)) + 0), iV (lowI (shI v 4) 14)]) (rest := []) (c2 := 0 + 4) (s2 := 6 * (0 + 4)) (c_L_tends2 hst M h hc ((lowI (shI v 5) ((M 7 0 8) + 1)) + 0) (lowI (shI v 4) 14) (by have q0 := lowI_bd (shI v 5) (n := ((M 7 0 8) + 1)) (by omega); omega)) cw_L_tends dL_act_416 ml_L_86 rfl rfl (Nat.le_of_ble_eq_true rfl) (by decide) (by show 0 + 4 ≤ 0 + 4; omega) (by show 6 * (0) + 24 ≤ 6 * (0 + 4); omega) (by show 0 + 4 ≤ 5 ∧ 6 * (0 + 4) ≤ 30; omega) (fun z m q => ?_)
                      exact aw_iret dL_act_419 rfl rfl (by show 0 + 4 ≤ 5; omega) (by show 6 * (0 + 4) ≤ 30; omega) ⟨z, rfl, by
          have ho : odI v = 1 := if_pos h9
          have e : opF M v = (7, lowI (shI v 5) (M 7 0 8 + 1) + 0, 0, 0, 0) := by unfold opF; rw [ho]; unfold opI; rw [if_neg (by omega), if_neg (by omega), if_neg (by omega), if_neg (by omega), if_neg (by omega), if_neg (by omega), if_neg (by omega), if_pos (by omega)]; rfl
          unfold ACT; rw [e]; exact q⟩
                  · refine aw_iconst dL_act_346 ?_
                    refine aw_goto (tgt := 384) dL_act_347 (by decide) ?_
                    refine aw_iload_n dL_act_384 rfl rfl ?_
                    refine aw_iload dL_act_385 rfl ?_
                    refine aw_bipush dL_act_387 rfl ?_
                    refine aw_icmp_ne (tgt := 414) dL_act_389 (by decide) (by omega) (by omega) (fun h389 => ?_) (fun h389 => absurd h389 (by omega))
                    refine aw_iload dL_act_414 rfl ?_
                    refine aw_callW (As := [rV K 0 0, iV 1, iV ((lowI (shI v 5) ((M 7 0 8) + 1)) + 0), iV (lowI (shI v 4) 14)]) (rest := []) (c2 := 0 + 4) (s2 := 6 * (0 + 4)) (c_L_tends1 hst M h hc ((lowI (shI v 5) ((M 7 0 8) + 1)) + 0) (lowI (shI v 4) 14) (by have q0 := lowI_bd (shI v 5) (n := ((M 7 0 8) + 1)) (by omega); omega)) cw_L_tends dL_act_416 ml_L_86 rfl rfl (Nat.le_of_ble_eq_true rfl) (by decide) (by show 0 + 4 ≤ 0 + 4; omega) (by show 6 * (0) + 24 ≤ 6 * (0 + 4); omega) (by show 0 + 4 ≤ 5 ∧ 6 * (0 + 4) ≤ 30; omega) (fun z m q => ?_)
                    exact aw_iret dL_act_419 rfl rfl (by show 0 + 4 ≤ 5; omega) (by show 6 * (0 + 4) ≤ 30; omega) ⟨z, rfl, by
          have ho : odI v = 1 := if_pos h9
          have e : opF M v = (6, lowI (shI v 5) (M 7 0 8 + 1) + 0, 0, 0, 0) := by unfold opF; rw [ho]; unfold opI; rw [if_neg (by omega), if_neg (by omega), if_neg (by omega), if_neg (by omega), if_neg (by omega), if_neg (by omega), if_pos (by omega)]; rfl
          unfold ACT; rw [e]; exact q⟩
                · refine aw_aload_n dL_act_313 rfl rfl ?_
                  refine aw_iconst dL_act_314 ?_
                  refine aw_iconst dL_act_315 ?_
                  refine aw_iload_n dL_act_316 rfl rfl ?_
                  refine aw_iconst dL_act_317 ?_
                  refine aw_ishr dL_act_318 ?_
                  refine aw_iload_n dL_act_319 rfl rfl ?_
                  refine aw_if_eq (tgt := 329) dL_act_320 (by decide) (by decide) (fun h => absurd h (by decide)) (fun _ => ?_)
                  refine aw_sipush dL_act_323 rfl ?_
                  refine aw_goto (tgt := 331) dL_act_326 (by decide) ?_
                  refine lw_Si (As := [iV (shI v 5), iV 1100]) (rest := [iV 0, iV 5, rV K 0 0]) (c2 := 0) (s2 := 6 * (0)) (c_L_low hst M (shI v 5) (1100) (shI_r _ _) (by omega)) cs_L_low dL_act_331 ml_L_65 rfl rfl (Nat.le_of_ble_eq_true rfl) (by decide) (Nat.le_refl _) (Nat.le_refl _) (by show 0 ≤ 5 ∧ 6 * (0) ≤ 30; omega) ?_
                  refine aw_callW (As := [rV K 0 0, iV 5, iV 0, iV (lowI (shI v 5) 1100)]) (rest := []) (c2 := 0 + 4) (s2 := 6 * (0 + 4)) (c_L_tends5 hst M h hc (0) (lowI (shI v 5) 1100) (by have q0 := lowI_bd (shI v 5) (n := 1100) (by omega); omega)) cw_L_tends dL_act_334 ml_L_86 rfl rfl (Nat.le_of_ble_eq_true rfl) (by decide) (by show 0 + 4 ≤ 0 + 4; omega) (by show 6 * (0) + 24 ≤ 6 * (0 + 4); omega) (by show 0 + 4 ≤ 5 ∧ 6 * (0 + 4) ≤ 30; omega) (fun z m q => ?_)
                  exact aw_iret dL_act_337 rfl rfl (by show 0 + 4 ≤ 5; omega) (by show 6 * (0 + 4) ≤ 30; omega) ⟨z, rfl, by
          have ho : odI v = 1 := if_pos h9
          have e : opF M v = (5, lowI (shI v 5) 1100, 0, 0, 0) := by unfold opF; rw [ho]; unfold opI; rw [if_neg (by omega), if_neg (by omega), if_neg (by omega), if_neg (by omega), if_neg (by omega), if_pos (by omega)]; rfl
          unfold ACT; rw [e]; exact q⟩
              · refine aw_aload_n dL_act_290 rfl rfl ?_
                refine aw_iload dL_act_291 rfl ?_
                refine aw_iload_n dL_act_293 rfl rfl ?_
                refine aw_bipush dL_act_294 rfl ?_
                refine aw_ishr dL_act_296 ?_
                refine aw_bipush dL_act_297 rfl ?_
                refine lw_Si (As := [iV (shI v 7), iV 10]) (rest := [iV (lowI (shI v 4) 14), rV K 0 0]) (c2 := 0) (s2 := 6 * (0)) (c_L_low hst M (shI v 7) (10) (shI_r _ _) (by omega)) cs_L_low dL_act_299 ml_L_65 rfl rfl (Nat.le_of_ble_eq_true rfl) (by decide) (Nat.le_refl _) (Nat.le_refl _) (by show 0 ≤ 5 ∧ 6 * (0) ≤ 30; omega) ?_
                refine aw_callW (As := [rV K 0 0, iV (lowI (shI v 4) 14), iV (lowI (shI v 7) 10)]) (rest := []) (c2 := 0 + 2) (s2 := 6 * (0 + 2)) (c_L_toggles hst M h hc (lowI (shI v 4) 14) (lowI (shI v 7) 10) (by have q0 := lowI_bd (shI v 4) (n := 14) (by omega); omega) (by have q0 := lowI_bd (shI v 7) (n := 10) (by omega); omega)) cw_L_toggles dL_act_302 ml_L_82 rfl rfl (Nat.le_of_ble_eq_true rfl) (by decide) (by show 0 + 2 ≤ 0 + 2; omega) (by show 6 * (0) + 12 ≤ 6 * (0 + 2); omega) (by show 0 + 2 ≤ 5 ∧ 6 * (0 + 2) ≤ 30; omega) (fun z m q => ?_)
                exact aw_iret dL_act_305 rfl rfl (by show 0 + 2 ≤ 5; omega) (by show 6 * (0 + 2) ≤ 30; omega) ⟨z, rfl, by
          have ho : odI v = 1 := if_pos h9
          have e : opF M v = (4, lowI (shI v 4) 14, lowI (shI v 7) 10, 0, 0) := by unfold opF; rw [ho]; unfold opI; rw [if_neg (by omega), if_neg (by omega), if_neg (by omega), if_neg (by omega), if_pos (by omega)]; rfl
          unfold ACT; rw [e]; exact q⟩
            · refine aw_aload_n dL_act_257 rfl rfl ?_
              refine aw_iconst dL_act_258 ?_
              refine aw_iload_n dL_act_259 rfl rfl ?_
              refine aw_iconst dL_act_260 ?_
              refine aw_ishr dL_act_261 ?_
              refine aw_iload_n dL_act_262 rfl rfl ?_
              refine aw_if_eq (tgt := 271) dL_act_263 (by decide) (by decide) (fun h => absurd h (by decide)) (fun _ => ?_)
              refine aw_bipush dL_act_266 rfl ?_
              refine aw_goto (tgt := 273) dL_act_268 (by decide) ?_
              refine lw_Si (As := [iV (shI v 5), iV 120]) (rest := [iV 2, rV K 0 0]) (c2 := 0) (s2 := 6 * (0)) (c_L_low hst M (shI v 5) (120) (shI_r _ _) (by omega)) cs_L_low dL_act_273 ml_L_65 rfl rfl (Nat.le_of_ble_eq_true rfl) (by decide) (Nat.le_refl _) (Nat.le_refl _) (by show 0 ≤ 5 ∧ 6 * (0) ≤ 30; omega) ?_
              refine aw_bipush dL_act_276 rfl ?_
              refine aw_iconst dL_act_278 ?_
              refine aw_callW (As := [rV K 0 0, iV 2, iV (lowI (shI v 5) 120), iV 15, iV 0]) (rest := []) (c2 := 0 + 4) (s2 := 6 * (0 + 4)) (c_L_asks2 hst M h hc (lowI (shI v 5) 120) (15) (0) (by have q0 := lowI_bd (shI v 5) (n := 120) (by omega); omega) (by omega)) cw_L_asks dL_act_279 ml_L_76 rfl rfl (Nat.le_of_ble_eq_true rfl) (by decide) (by show 0 + 4 ≤ 0 + 4; omega) (by show 6 * (0) + 24 ≤ 6 * (0 + 4); omega) (by show 0 + 4 ≤ 5 ∧ 6 * (0 + 4) ≤ 30; omega) (fun z m q => ?_)
              exact aw_iret dL_act_282 rfl rfl (by show 0 + 4 ≤ 5; omega) (by show 6 * (0 + 4) ≤ 30; omega) ⟨z, rfl, by
          have ho : odI v = 1 := if_pos h9
          have e : opF M v = (2, lowI (shI v 5) 120, 15, 0, 0) := by unfold opF; rw [ho]; unfold opI; rw [if_neg (by omega), if_neg (by omega), if_neg (by omega), if_pos (by omega)]; rfl
          unfold ACT; rw [e]; exact q⟩
          · refine aw_aload_n dL_act_230 rfl rfl ?_
            refine aw_iload dL_act_231 rfl ?_
            refine aw_iload_n dL_act_233 rfl rfl ?_
            refine aw_bipush dL_act_234 rfl ?_
            refine aw_ishr dL_act_236 ?_
            refine aw_bipush dL_act_237 rfl ?_
            refine lw_Si (As := [iV (shI v 6), iV 10]) (rest := [iV (lowI (shI v 4) 14), rV K 0 0]) (c2 := 0) (s2 := 6 * (0)) (c_L_low hst M (shI v 6) (10) (shI_r _ _) (by omega)) cs_L_low dL_act_239 ml_L_65 rfl rfl (Nat.le_of_ble_eq_true rfl) (by decide) (Nat.le_refl _) (Nat.le_refl _) (by show 0 ≤ 5 ∧ 6 * (0) ≤ 30; omega) ?_
            refine aw_iload dL_act_242 rfl ?_
            refine aw_bipush dL_act_244 rfl ?_
            refine aw_callW (As := [rV K 0 0, iV (lowI (shI v 4) 14), iV (lowI (shI v 6) 10), iV (1 + (lowI (shI v 7) 24)), iV 20]) (rest := []) (c2 := 0 + 5) (s2 := 6 * (0 + 5)) (c_L_holdAt hst M h hc (lowI (shI v 4) 14) (lowI (shI v 6) 10) (1 + (lowI (shI v 7) 24)) (20) (by have q0 := lowI_bd (shI v 4) (n := 14) (by omega); omega) (by have q0 := lowI_bd (shI v 6) (n := 10) (by omega); omega) (by have q0 := lowI_bd (shI v 7) (n := 24) (by omega); omega) (by omega)) cw_L_holdAt dL_act_246 ml_L_80 rfl rfl (Nat.le_of_ble_eq_true rfl) (by decide) (by show 0 + 5 ≤ 0 + 5; omega) (by show 6 * (0) + 30 ≤ 6 * (0 + 5); omega) (by show 0 + 5 ≤ 5 ∧ 6 * (0 + 5) ≤ 30; omega) (fun z m q => ?_)
            exact aw_iret dL_act_249 rfl rfl (by show 0 + 5 ≤ 5; omega) (by show 6 * (0 + 5) ≤ 30; omega) ⟨z, rfl, by
          have ho : odI v = 1 := if_pos h9
          have e : opF M v = (3, lowI (shI v 4) 14, lowI (shI v 6) 10, 1 + lowI (shI v 7) 24, 20) := by unfold opF; rw [ho]; unfold opI; rw [if_neg (by omega), if_neg (by omega), if_pos (by omega)]; rfl
          unfold ACT; rw [e]; exact q⟩
        · refine aw_aload_n dL_act_185 rfl rfl ?_
          refine aw_iconst dL_act_186 ?_
          refine aw_iload dL_act_187 rfl ?_
          refine aw_iload_n dL_act_189 rfl rfl ?_
          refine aw_bipush dL_act_190 rfl ?_
          refine aw_ishr dL_act_192 ?_
          refine aw_iload_n dL_act_193 rfl rfl ?_
          refine aw_if_eq (tgt := 203) dL_act_194 (by decide) (by decide) (fun h => absurd h (by decide)) (fun _ => ?_)
          refine aw_sipush dL_act_197 rfl ?_
          refine aw_goto (tgt := 205) dL_act_200 (by decide) ?_
          refine lw_Si (As := [iV (shI v 10), iV 220]) (rest := [iV (1 + (lowI (shI v 7) 24)), iV 1, rV K 0 0]) (c2 := 0) (s2 := 6 * (0)) (c_L_low hst M (shI v 10) (220) (shI_r _ _) (by omega)) cs_L_low dL_act_205 ml_L_65 rfl rfl (Nat.le_of_ble_eq_true rfl) (by decide) (Nat.le_refl _) (Nat.le_refl _) (by show 0 ≤ 5 ∧ 6 * (0) ≤ 30; omega) ?_
          refine aw_iload_n dL_act_208 rfl rfl ?_
          refine aw_if_eq (tgt := 216) dL_act_209 (by decide) (by decide) (fun h => absurd h (by decide)) (fun _ => ?_)
          refine aw_iconst dL_act_212 ?_
          refine aw_goto (tgt := 217) dL_act_213 (by decide) ?_
          refine aw_iadd dL_act_217 ?_
          refine aw_iconst dL_act_218 ?_
          refine aw_callW (As := [rV K 0 0, iV 1, iV (1 + (lowI (shI v 7) 24)), iV ((lowI (shI v 10) 220) + 0), iV 0]) (rest := []) (c2 := 0 + 4) (s2 := 6 * (0 + 4)) (c_L_asks1 hst M h hc (1 + (lowI (shI v 7) 24)) ((lowI (shI v 10) 220) + 0) (0) (by have q0 := lowI_bd (shI v 7) (n := 24) (by omega); omega) (by have q0 := lowI_bd (shI v 10) (n := 220) (by omega); omega)) cw_L_asks dL_act_219 ml_L_76 rfl rfl (Nat.le_of_ble_eq_true rfl) (by decide) (by show 0 + 4 ≤ 0 + 4; omega) (by show 6 * (0) + 24 ≤ 6 * (0 + 4); omega) (by show 0 + 4 ≤ 5 ∧ 6 * (0 + 4) ≤ 30; omega) (fun z m q => ?_)
          exact aw_iret dL_act_222 rfl rfl (by show 0 + 4 ≤ 5; omega) (by show 6 * (0 + 4) ≤ 30; omega) ⟨z, rfl, by
          have ho : odI v = 1 := if_pos h9
          have e : opF M v = (1, 1 + lowI (shI v 7) 24, lowI (shI v 10) 220 + 0, 0, 0) := by unfold opF; rw [ho]; unfold opI; rw [if_neg (by omega), if_pos (by omega)]; rfl
          unfold ACT; rw [e]; exact q⟩
      · refine aw_aload_n dL_act_107 rfl rfl ?_
        refine aw_iconst dL_act_108 ?_
        refine aw_iload_n dL_act_109 rfl rfl ?_
        refine aw_iconst dL_act_110 ?_
        refine aw_ishr dL_act_111 ?_
        refine aw_iload_n dL_act_112 rfl rfl ?_
        refine aw_if_eq (tgt := 121) dL_act_113 (by decide) (by decide) (fun h => absurd h (by decide)) (fun _ => ?_)
        refine aw_bipush dL_act_116 rfl ?_
        refine aw_goto (tgt := 123) dL_act_118 (by decide) ?_
        refine lw_Si (As := [iV (shI v 5), iV 23]) (rest := [iV 0, rV K 0 0]) (c2 := 0) (s2 := 6 * (0)) (c_L_low hst M (shI v 5) (23) (shI_r _ _) (by omega)) cs_L_low dL_act_123 ml_L_65 rfl rfl (Nat.le_of_ble_eq_true rfl) (by decide) (Nat.le_refl _) (Nat.le_refl _) (by show 0 ≤ 5 ∧ 6 * (0) ≤ 30; omega) ?_
        refine aw_iload_n dL_act_126 rfl rfl ?_
        refine aw_if_eq (tgt := 134) dL_act_127 (by decide) (by decide) (fun h => absurd h (by decide)) (fun _ => ?_)
        refine aw_iconst dL_act_130 ?_
        refine aw_goto (tgt := 135) dL_act_131 (by decide) ?_
        refine aw_iadd dL_act_135 ?_
        refine aw_iload_n dL_act_136 rfl rfl ?_
        refine aw_bipush dL_act_137 rfl ?_
        refine aw_ishr dL_act_139 ?_
        refine aw_iload_n dL_act_140 rfl rfl ?_
        refine aw_if_eq (tgt := 150) dL_act_141 (by decide) (by decide) (fun h => absurd h (by decide)) (fun _ => ?_)
        refine aw_sipush dL_act_144 rfl ?_
        refine aw_goto (tgt := 152) dL_act_147 (by decide) ?_
        refine lw_Si (As := [iV (shI v 9), iV 1100]) (rest := [iV ((lowI (shI v 5) 23) + 0), iV 0, rV K 0 0]) (c2 := 0) (s2 := 6 * (0)) (c_L_low hst M (shI v 9) (1100) (shI_r _ _) (by omega)) cs_L_low dL_act_152 ml_L_65 rfl rfl (Nat.le_of_ble_eq_true rfl) (by decide) (Nat.le_refl _) (Nat.le_refl _) (by show 0 ≤ 5 ∧ 6 * (0) ≤ 30; omega) ?_
        refine aw_iload_n dL_act_155 rfl rfl ?_
        refine aw_iconst dL_act_156 ?_
        refine aw_ishr dL_act_157 ?_
        refine aw_iload_n dL_act_158 rfl rfl ?_
        refine aw_if_eq (tgt := 168) dL_act_159 (by decide) (by decide) (fun h => absurd h (by decide)) (fun _ => ?_)
        refine aw_sipush dL_act_162 rfl ?_
        refine aw_goto (tgt := 171) dL_act_165 (by decide) ?_
        refine lw_Si (As := [iV (shI v 3), iV 11000]) (rest := [iV (lowI (shI v 9) 1100), iV ((lowI (shI v 5) 23) + 0), iV 0, rV K 0 0]) (c2 := 0) (s2 := 6 * (0)) (c_L_low hst M (shI v 3) (11000) (shI_r _ _) (by omega)) cs_L_low dL_act_171 ml_L_65 rfl rfl (Nat.le_of_ble_eq_true rfl) (by decide) (Nat.le_refl _) (Nat.le_refl _) (by show 0 ≤ 5 ∧ 6 * (0) ≤ 30; omega) ?_
        refine aw_callW (As := [rV K 0 0, iV 0, iV ((lowI (shI v 5) 23) + 0), iV (lowI (shI v 9) 1100), iV (lowI (shI v 3) 11000)]) (rest := []) (c2 := 0 + 4) (s2 := 6 * (0 + 4)) (c_L_asks0 hst M h hc ((lowI (shI v 5) 23) + 0) (lowI (shI v 9) 1100) (lowI (shI v 3) 11000) (by have q0 := lowI_bd (shI v 5) (n := 23) (by omega); omega) (by have q0 := lowI_bd (shI v 9) (n := 1100) (by omega); omega) (by have q0 := lowI_bd (shI v 3) (n := 11000) (by omega); omega)) cw_L_asks dL_act_174 ml_L_76 rfl rfl (Nat.le_of_ble_eq_true rfl) (by decide) (by show 0 + 4 ≤ 0 + 4; omega) (by show 6 * (0) + 24 ≤ 6 * (0 + 4); omega) (by show 0 + 4 ≤ 5 ∧ 6 * (0 + 4) ≤ 30; omega) (fun z m q => ?_)
        exact aw_iret dL_act_177 rfl rfl (by show 0 + 4 ≤ 5; omega) (by show 6 * (0 + 4) ≤ 30; omega) ⟨z, rfl, by
          have ho : odI v = 1 := if_pos h9
          have e : opF M v = (0, lowI (shI v 5) 23 + 0, lowI (shI v 9) 1100, lowI (shI v 3) 11000, 0) := by unfold opF; rw [ho]; unfold opI; rw [if_pos (by omega)]; rfl
          unfold ACT; rw [e]; exact q⟩
