/-! two objects, asked the same -/
theorem ne_mem {M m : Mem} {z : Int} (q : WR (Q_nextExpiry M) z m) : m = M := by
  obtain ⟨o, q, _⟩ := q
  rcases q with ⟨_, _, q⟩ | ⟨z, _, _, _, q⟩
  · exact q
  · exact q
theorem bb_mem {M m : Mem} {n z : Int} (q : WR (Q_bestBlock M n) z m) : m = M := by
  obtain ⟨o, q, _⟩ := q
  rcases q with ⟨_, _, q⟩ | ⟨_, _, q⟩ | ⟨z, _, _, _, q⟩
  · exact q
  · exact q
  · exact q
theorem sw_in {M m : Mem} (h : swM m = swM M) : m = M := by
  have h2 := congrArg swM h
  rw [swM_swM, swM_swM] at h2
  exact h2
theorem c2_L_nextExpiry {K : WPar} {l : Launch} (hst : l.stackTraces = false) (M : Mem) {c : Int} (h : INV M c) (hc : c ≤ 512) (heq : EQ2 M) : CTL K l iL_nextExpiry [rV K 30 0] M (rZm (fun z m => WR (Q_nextExpiry (swM M)) z (swM m))) := CTL_sw (c_L_nextExpiry (K := swK K) hst (swM M) (INV_cg heq.s h) hc)
theorem c2_L_asks3 {K : WPar} {l : Launch} (hst : l.stackTraces = false) (M : Mem) {c : Int} (h : INV M c) (hc : c ≤ 512) (heq : EQ2 M) (n p q : Int) (r_n : inR n) : CTL K l iL_asks [rV K 30 0, iV 3, iV n, iV p, iV q] M (rZm (fun z m => WR (Q_bestBlock (swM M) n) z (swM m))) := CTL_sw (c_L_asks3 (K := swK K) hst (swM M) (INV_cg heq.s h) hc n p q r_n)
set_option maxHeartbeats 4000000 in
set_option maxRecDepth 20000 in
theorem c_L_areAlike {K : WPar} {l : Launch} (hst : l.stackTraces = false) {c : Int} (M : Mem) (h : INV M c) (hc : c ≤ 512) (heq : EQ2 M) : CT K l iL_areAlike [rV K 0 0, rV K 30 0] M (rI 1 M) := by
  refine aw_met [some (rV K 0 0), some (rV K 30 0), none, none] hst (by decide) rfl (Nat.le_of_ble_eq_true rfl) rfl rfl (lcat rfl) ?_
  refine aw_rng (fun hM => ?_)
  refine aw_wide (a := 0) (b := 6 * (0)) (Nat.le_refl _) (Nat.le_refl _) ?_
  have n0 := h.hw.1
  have n1 := h.hw.2.1
  have T0 := h.bw.1
  have T1 := h.bw.2
  refine aw_aload_n dL_areAlike_0 rfl rfl ?_
  refine lw_Vi (g := 0) (As := []) (rest := []) (c2 := 0) (s2 := 6 * (0)) (k_rows hst M h) cv_X4_rows dL_areAlike_1 ml_L_73 rfl rfl rfl rfl rfl (Nat.le_of_ble_eq_true rfl) (by decide) (Nat.le_refl _) (Nat.le_refl _) (by show 0 ≤ 682 ∧ 6 * (0) ≤ 4092; omega) ?_
  refine aw_aload_n dL_areAlike_4 rfl rfl ?_
  refine lw_Vi (g := 30) (As := []) (rest := [iV (M 1 0 4)]) (c2 := 0) (s2 := 6 * (0)) (k2_rows hst M h heq) cv_X4_rows dL_areAlike_5 ml_L_73 rfl rfl rfl rfl rfl (Nat.le_of_ble_eq_true rfl) (by decide) (Nat.le_refl _) (Nat.le_refl _) (by show 0 ≤ 682 ∧ 6 * (0) ≤ 4092; omega) ?_
  refine aw_samen (tgt := 100) dL_areAlike_8 (by decide) (by rfl) ?_
  refine aw_aload_n dL_areAlike_11 rfl rfl ?_
  refine lw_Vi (g := 0) (As := []) (rest := []) (c2 := 0) (s2 := 6 * (0)) (k_tickets hst M h) cv_X4_tickets dL_areAlike_12 ml_L_70 rfl rfl rfl rfl rfl (Nat.le_of_ble_eq_true rfl) (by decide) (Nat.le_refl _) (Nat.le_refl _) (by show 0 ≤ 682 ∧ 6 * (0) ≤ 4092; omega) ?_
  refine aw_aload_n dL_areAlike_15 rfl rfl ?_
  refine lw_Vi (g := 30) (As := []) (rest := [iV (M 7 0 8)]) (c2 := 0) (s2 := 6 * (0)) (k2_tickets hst M h heq) cv_X4_tickets dL_areAlike_16 ml_L_70 rfl rfl rfl rfl rfl (Nat.le_of_ble_eq_true rfl) (by decide) (Nat.le_refl _) (Nat.le_refl _) (by show 0 ≤ 682 ∧ 6 * (0) ≤ 4092; omega) ?_
  refine aw_samen (tgt := 100) dL_areAlike_19 (by decide) (by rfl) ?_
  refine aw_aload_n dL_areAlike_22 rfl rfl ?_
  refine lw_Vi (g := 0) (As := []) (rest := []) (c2 := 0) (s2 := 6 * (0)) (k_takings hst M h) cv_X4_takings dL_areAlike_23 ml_L_90 rfl rfl rfl rfl rfl (Nat.le_of_ble_eq_true rfl) (by decide) (Nat.le_refl _) (Nat.le_refl _) (by show 0 ≤ 682 ∧ 6 * (0) ≤ 4092; omega) ?_
  refine aw_aload_n dL_areAlike_26 rfl rfl ?_
  refine lw_Vi (g := 30) (As := []) (rest := [iV (M 0 0 5)]) (c2 := 0) (s2 := 6 * (0)) (k2_takings hst M h heq) cv_X4_takings dL_areAlike_27 ml_L_90 rfl rfl rfl rfl rfl (Nat.le_of_ble_eq_true rfl) (by decide) (Nat.le_refl _) (Nat.le_refl _) (by show 0 ≤ 682 ∧ 6 * (0) ≤ 4092; omega) ?_
  refine aw_samen (tgt := 100) dL_areAlike_30 (by decide) (by rfl) ?_
  refine aw_aload_n dL_areAlike_33 rfl rfl ?_
  refine lw_Vi (g := 0) (As := []) (rest := []) (c2 := 0) (s2 := 6 * (0)) (k_now hst M h) cv_X4_now dL_areAlike_34 ml_L_93 rfl rfl rfl rfl rfl (Nat.le_of_ble_eq_true rfl) (by decide) (Nat.le_refl _) (Nat.le_refl _) (by show 0 ≤ 682 ∧ 6 * (0) ≤ 4092; omega) ?_
  refine aw_aload_n dL_areAlike_37 rfl rfl ?_
  refine lw_Vi (g := 30) (As := []) (rest := [iV (M 0 0 4)]) (c2 := 0) (s2 := 6 * (0)) (k2_now hst M h heq) cv_X4_now dL_areAlike_38 ml_L_93 rfl rfl rfl rfl rfl (Nat.le_of_ble_eq_true rfl) (by decide) (Nat.le_refl _) (Nat.le_refl _) (by show 0 ≤ 682 ∧ 6 * (0) ≤ 4092; omega) ?_
  refine aw_samen (tgt := 100) dL_areAlike_41 (by decide) (by rfl) ?_
  refine aw_aload_n dL_areAlike_44 rfl rfl ?_
  refine lw_Vi (g := 0) (As := []) (rest := []) (c2 := 0) (s2 := 6 * (0)) (k_orphans hst M h) cv_X4_orphans dL_areAlike_45 ml_L_96 rfl rfl rfl rfl rfl (Nat.le_of_ble_eq_true rfl) (by decide) (Nat.le_refl _) (Nat.le_refl _) (by show 0 ≤ 682 ∧ 6 * (0) ≤ 4092; omega) ?_
  refine aw_aload_n dL_areAlike_48 rfl rfl ?_
  refine lw_Vi (g := 30) (As := []) (rest := [iV (orS M)]) (c2 := 0) (s2 := 6 * (0)) (k2_orphans hst M h heq) cv_X4_orphans dL_areAlike_49 ml_L_96 rfl rfl rfl rfl rfl (Nat.le_of_ble_eq_true rfl) (by decide) (Nat.le_refl _) (Nat.le_refl _) (by show 0 ≤ 682 ∧ 6 * (0) ≤ 4092; omega) ?_
  refine aw_samen (tgt := 100) dL_areAlike_52 (by decide) (by rfl) ?_
  refine aw_aload_n dL_areAlike_55 rfl rfl ?_
  refine lw_Vr (R := fun z => LNG M z) (g := 0) (As := []) (rest := []) (c2 := 0) (s2 := 6 * (0)) (k_longestBlock hst M h) cv_X4_longestBlock dL_areAlike_56 ml_L_99 rfl rfl rfl rfl rfl (Nat.le_of_ble_eq_true rfl) (by decide) (Nat.le_refl _) (Nat.le_refl _) (by show 0 ≤ 682 ∧ 6 * (0) ≤ 4092; omega) (fun z56 h56 => ?_)
  refine aw_aload_n dL_areAlike_59 rfl rfl ?_
  refine lw_Vr (R := fun z => LNG M z) (g := 30) (As := []) (rest := [iV (z56)]) (c2 := 0) (s2 := 6 * (0)) (k2_longestBlock hst M h heq) cv_X4_longestBlock dL_areAlike_60 ml_L_99 rfl rfl rfl rfl rfl (Nat.le_of_ble_eq_true rfl) (by decide) (Nat.le_refl _) (Nat.le_refl _) (by show 0 ≤ 682 ∧ 6 * (0) ≤ 4092; omega) (fun z60 h60 => ?_)
  refine aw_samen (tgt := 100) dL_areAlike_63 (by decide) (by exact LNG_u h56 h60) ?_
  refine aw_aload_n dL_areAlike_66 rfl rfl ?_
  refine aw_callW (As := [rV K 0 0]) (rest := []) (c2 := 0 + 1) (s2 := 6 * (0 + 1)) (c_L_nextExpiry hst M h hc) cw_L_nextExpiry dL_areAlike_67 ml_L_102 rfl rfl (Nat.le_of_ble_eq_true rfl) (by decide) (by show 0 + 1 ≤ 0 + 1; omega) (by show 6 * (0) + 6 ≤ 6 * (0 + 1); omega) (by show 0 + 1 ≤ 682 ∧ 6 * (0 + 1) ≤ 4092; omega) (fun z67 m67 h67 => ?_)
  rw [ne_mem h67]
  refine aw_aload_n dL_areAlike_70 rfl rfl ?_
  refine aw_callW (As := [rV K 30 0]) (rest := [iV (z67)]) (c2 := 0 + 1 + 1) (s2 := 6 * (0 + 1 + 1)) (c2_L_nextExpiry hst M h hc heq) cw_L_nextExpiry dL_areAlike_71 ml_L_102 rfl rfl (Nat.le_of_ble_eq_true rfl) (by decide) (by show 0 + 1 + 1 ≤ 0 + 1 + 1; omega) (by show 6 * (0 + 1) + 6 ≤ 6 * (0 + 1 + 1); omega) (by show 0 + 1 + 1 ≤ 682 ∧ 6 * (0 + 1 + 1) ≤ 4092; omega) (fun z71 m71 h71 => ?_)
  rw [sw_in (ne_mem h71)]
  refine aw_samen (tgt := 100) dL_areAlike_74 (by decide) (by exact (wr_det (fun o o2 => d_nextExpiry heq.s) h67 h71).1) ?_
  refine aw_aload_n dL_areAlike_77 rfl rfl ?_
  refine aw_iconst dL_areAlike_78 ?_
  refine aw_iconst dL_areAlike_79 ?_
  refine aw_iconst dL_areAlike_80 ?_
  refine aw_iconst dL_areAlike_81 ?_
  refine aw_callW (As := [rV K 0 0, iV 3, iV 2, iV 0, iV 0]) (rest := []) (c2 := 0 + 1 + 1 + 4) (s2 := 6 * (0 + 1 + 1 + 4)) (c_L_asks3 hst M h hc 2 0 0 (by decide)) cw_L_asks dL_areAlike_82 ml_L_76 rfl rfl (Nat.le_of_ble_eq_true rfl) (by decide) (by show 0 + 1 + 1 + 4 ≤ 0 + 1 + 1 + 4; omega) (by show 6 * (0 + 1 + 1) + 24 ≤ 6 * (0 + 1 + 1 + 4); omega) (by show 0 + 1 + 1 + 4 ≤ 682 ∧ 6 * (0 + 1 + 1 + 4) ≤ 4092; omega) (fun z82 m82 h82 => ?_)
  rw [bb_mem h82]
  refine aw_aload_n dL_areAlike_85 rfl rfl ?_
  refine aw_iconst dL_areAlike_86 ?_
  refine aw_iconst dL_areAlike_87 ?_
  refine aw_iconst dL_areAlike_88 ?_
  refine aw_iconst dL_areAlike_89 ?_
  refine aw_callW (As := [rV K 30 0, iV 3, iV 2, iV 0, iV 0]) (rest := [iV (z82)]) (c2 := 0 + 1 + 1 + 4 + 4) (s2 := 6 * (0 + 1 + 1 + 4 + 4)) (c2_L_asks3 hst M h hc heq 2 0 0 (by decide)) cw_L_asks dL_areAlike_90 ml_L_76 rfl rfl (Nat.le_of_ble_eq_true rfl) (by decide) (by show 0 + 1 + 1 + 4 + 4 ≤ 0 + 1 + 1 + 4 + 4; omega) (by show 6 * (0 + 1 + 1 + 4) + 24 ≤ 6 * (0 + 1 + 1 + 4 + 4); omega) (by show 0 + 1 + 1 + 4 + 4 ≤ 682 ∧ 6 * (0 + 1 + 1 + 4 + 4) ≤ 4092; omega) (fun z90 m90 h90 => ?_)
  rw [sw_in (bb_mem h90)]
  refine aw_samen (tgt := 100) dL_areAlike_93 (by decide) (by exact (wr_det (fun o o2 => d_bestBlock heq.s) h82 h90).1) ?_
  refine aw_iconst dL_areAlike_96 ?_
  refine aw_goto (tgt := 101) dL_areAlike_97 (by decide) ?_
  refine aw_istore_n (L2 := [some (rV K 0 0), some (rV K 30 0), some (iV 1), none]) dL_areAlike_101 rfl (by decide) rfl ?_
  refine aw_iconst dL_areAlike_102 ?_
  refine aw_istore_n (L2 := [some (rV K 0 0), some (rV K 30 0), some (iV 1), some (iV 0)]) dL_areAlike_103 rfl (by decide) rfl ?_
  have lp104 : ∀ (n104 : Nat) (row : Int), (0 ≤ row ∧ row ≤ M 1 0 4) → ((M 1 0 4 - row).toNat) < n104 → AW K l iL_areAlike (ZM K iL_areAlike (rI 1 M)) 104 [some (rV K 0 0), some (rV K 30 0), some (iV 1), some (iV (row))] [] (M) (0 + 1 + 1 + 4 + 4 + 6 * Int.toNat row) (6 * (0 + 1 + 1 + 4 + 4 + 6 * Int.toNat row)) := by
    intro n104
    induction n104 with
    | zero =>
      intro row e1 hm104
      exact absurd hm104 (Nat.not_lt_zero _)
    | succ n104 ih104 =>
      intro row e1 hm104
      refine aw_iload_n dL_areAlike_104 rfl rfl ?_
      refine aw_aload_n dL_areAlike_105 rfl rfl ?_
      refine lw_Vi (g := 0) (As := []) (rest := [iV (row)]) (c2 := 0 + 1 + 1 + 4 + 4 + 6 * Int.toNat row) (s2 := 6 * (0 + 1 + 1 + 4 + 4 + 6 * Int.toNat row)) (k_rows hst M h) cv_X4_rows dL_areAlike_106 ml_L_73 rfl rfl rfl rfl rfl (Nat.le_of_ble_eq_true rfl) (by decide) (Nat.le_refl _) (Nat.le_refl _) (by show 0 + 1 + 1 + 4 + 4 + 6 * Int.toNat row ≤ 682 ∧ 6 * (0 + 1 + 1 + 4 + 4 + 6 * Int.toNat row) ≤ 4092; omega) ?_
      refine aw_icmp_ge (tgt := 171) dL_areAlike_109 (by decide) (by omega) (by omega) (fun h109 => ?_) (fun h109 => ?_)
      · refine aw_iconst dL_areAlike_171 ?_
        refine aw_istore_n (L2 := [some (rV K 0 0), some (rV K 30 0), some (iV 1), some (iV 1)]) dL_areAlike_172 rfl (by decide) rfl ?_
        have lp173 : ∀ (n173 : Nat) (ticket : Int), (1 ≤ ticket ∧ ticket ≤ M 7 0 8 + 1) → ((M 7 0 8 + 1 - ticket).toNat) < n173 → AW K l iL_areAlike (ZM K iL_areAlike (rI 1 M)) 173 [some (rV K 0 0), some (rV K 30 0), some (iV 1), some (iV (ticket))] [] (M) (0 + 1 + 1 + 4 + 4 + 6 * Int.toNat row + 6 * Int.toNat (ticket - 1)) (6 * (0 + 1 + 1 + 4 + 4 + 6 * Int.toNat row + 6 * Int.toNat (ticket - 1))) := by
          intro n173
          induction n173 with
          | zero =>
            intro ticket f1 hm173
            exact absurd hm173 (Nat.not_lt_zero _)
          | succ n173 ih173 =>
            intro ticket f1 hm173
            refine aw_iload_n dL_areAlike_173 rfl rfl ?_
            refine aw_aload_n dL_areAlike_174 rfl rfl ?_
            refine lw_Vi (g := 0) (As := []) (rest := [iV (ticket)]) (c2 := 0 + 1 + 1 + 4 + 4 + 6 * Int.toNat row + 6 * Int.toNat (ticket - 1)) (s2 := 6 * (0 + 1 + 1 + 4 + 4 + 6 * Int.toNat row + 6 * Int.toNat (ticket - 1))) (k_tickets hst M h) cv_X4_tickets dL_areAlike_175 ml_L_70 rfl rfl rfl rfl rfl (Nat.le_of_ble_eq_true rfl) (by decide) (Nat.le_refl _) (Nat.le_refl _) (by show 0 + 1 + 1 + 4 + 4 + 6 * Int.toNat row + 6 * Int.toNat (ticket - 1) ≤ 682 ∧ 6 * (0 + 1 + 1 + 4 + 4 + 6 * Int.toNat row + 6 * Int.toNat (ticket - 1)) ≤ 4092; omega) ?_
            refine aw_icmp_gt (tgt := 236) dL_areAlike_178 (by decide) (by omega) (by omega) (fun h178 => ?_) (fun h178 => ?_)
            · refine aw_iload_n dL_areAlike_236 rfl rfl ?_
              exact aw_iret dL_areAlike_237 rfl rfl (by show 0 + 1 + 1 + 4 + 4 + 6 * Int.toNat row + 6 * Int.toNat (ticket - 1) ≤ 682; omega) (by show 6 * (0 + 1 + 1 + 4 + 4 + 6 * Int.toNat row + 6 * Int.toNat (ticket - 1)) ≤ 4092; omega) ⟨rfl, rfl⟩
            · refine aw_iload_n dL_areAlike_181 rfl rfl ?_
              refine aw_if_eq (tgt := 236) dL_areAlike_182 (by decide) (by decide) (fun h => absurd h (by decide)) (fun _ => ?_)
              refine aw_aload_n dL_areAlike_185 rfl rfl ?_
              refine aw_iload_n dL_areAlike_186 rfl rfl ?_
              refine lw_Vi (g := 0) (As := [iV (ticket)]) (rest := []) (c2 := 0 + 1 + 1 + 4 + 4 + 6 * Int.toNat row + 6 * Int.toNat (ticket - 1) + 1) (s2 := 6 * (0 + 1 + 1 + 4 + 4 + 6 * Int.toNat row + 6 * Int.toNat (ticket - 1) + 1)) (k_ticketState hst M h (ticket) (by omega)) cv_X4_ticketState dL_areAlike_187 ml_L_114 rfl rfl rfl rfl rfl (Nat.le_of_ble_eq_true rfl) (by decide) (by show 0 + 1 + 1 + 4 + 4 + 6 * Int.toNat row + 6 * Int.toNat (ticket - 1) + 1 ≤ 0 + 1 + 1 + 4 + 4 + 6 * Int.toNat row + 6 * Int.toNat (ticket - 1) + 1; omega) (by show 6 * (0 + 1 + 1 + 4 + 4 + 6 * Int.toNat row + 6 * Int.toNat (ticket - 1)) + 6 ≤ 6 * (0 + 1 + 1 + 4 + 4 + 6 * Int.toNat row + 6 * Int.toNat (ticket - 1) + 1); omega) (by show 0 + 1 + 1 + 4 + 4 + 6 * Int.toNat row + 6 * Int.toNat (ticket - 1) + 1 ≤ 682 ∧ 6 * (0 + 1 + 1 + 4 + 4 + 6 * Int.toNat row + 6 * Int.toNat (ticket - 1) + 1) ≤ 4092; omega) ?_
              refine aw_aload_n dL_areAlike_190 rfl rfl ?_
              refine aw_iload_n dL_areAlike_191 rfl rfl ?_
              refine lw_Vi (g := 30) (As := [iV (ticket)]) (rest := [iV (M 8 0 ticket)]) (c2 := 0 + 1 + 1 + 4 + 4 + 6 * Int.toNat row + 6 * Int.toNat (ticket - 1) + 1 + 1) (s2 := 6 * (0 + 1 + 1 + 4 + 4 + 6 * Int.toNat row + 6 * Int.toNat (ticket - 1) + 1 + 1)) (k2_ticketState hst M h heq (ticket) (by omega)) cv_X4_ticketState dL_areAlike_192 ml_L_114 rfl rfl rfl rfl rfl (Nat.le_of_ble_eq_true rfl) (by decide) (by show 0 + 1 + 1 + 4 + 4 + 6 * Int.toNat row + 6 * Int.toNat (ticket - 1) + 1 + 1 ≤ 0 + 1 + 1 + 4 + 4 + 6 * Int.toNat row + 6 * Int.toNat (ticket - 1) + 1 + 1; omega) (by show 6 * (0 + 1 + 1 + 4 + 4 + 6 * Int.toNat row + 6 * Int.toNat (ticket - 1) + 1) + 6 ≤ 6 * (0 + 1 + 1 + 4 + 4 + 6 * Int.toNat row + 6 * Int.toNat (ticket - 1) + 1 + 1); omega) (by show 0 + 1 + 1 + 4 + 4 + 6 * Int.toNat row + 6 * Int.toNat (ticket - 1) + 1 + 1 ≤ 682 ∧ 6 * (0 + 1 + 1 + 4 + 4 + 6 * Int.toNat row + 6 * Int.toNat (ticket - 1) + 1 + 1) ≤ 4092; omega) ?_
              refine aw_samen (tgt := 228) dL_areAlike_195 (by decide) (by rfl) ?_
              refine aw_aload_n dL_areAlike_198 rfl rfl ?_
              refine aw_iload_n dL_areAlike_199 rfl rfl ?_
              refine lw_Vi (g := 0) (As := [iV (ticket)]) (rest := []) (c2 := 0 + 1 + 1 + 4 + 4 + 6 * Int.toNat row + 6 * Int.toNat (ticket - 1) + 1 + 1 + 1) (s2 := 6 * (0 + 1 + 1 + 4 + 4 + 6 * Int.toNat row + 6 * Int.toNat (ticket - 1) + 1 + 1 + 1)) (k_seatsOf hst M h (ticket) (by omega)) cv_X4_seatsOf dL_areAlike_200 ml_L_117 rfl rfl rfl rfl rfl (Nat.le_of_ble_eq_true rfl) (by decide) (by show 0 + 1 + 1 + 4 + 4 + 6 * Int.toNat row + 6 * Int.toNat (ticket - 1) + 1 + 1 + 1 ≤ 0 + 1 + 1 + 4 + 4 + 6 * Int.toNat row + 6 * Int.toNat (ticket - 1) + 1 + 1 + 1; omega) (by show 6 * (0 + 1 + 1 + 4 + 4 + 6 * Int.toNat row + 6 * Int.toNat (ticket - 1) + 1 + 1) + 6 ≤ 6 * (0 + 1 + 1 + 4 + 4 + 6 * Int.toNat row + 6 * Int.toNat (ticket - 1) + 1 + 1 + 1); omega) (by show 0 + 1 + 1 + 4 + 4 + 6 * Int.toNat row + 6 * Int.toNat (ticket - 1) + 1 + 1 + 1 ≤ 682 ∧ 6 * (0 + 1 + 1 + 4 + 4 + 6 * Int.toNat row + 6 * Int.toNat (ticket - 1) + 1 + 1 + 1) ≤ 4092; omega) ?_
              refine aw_aload_n dL_areAlike_203 rfl rfl ?_
              refine aw_iload_n dL_areAlike_204 rfl rfl ?_
              refine lw_Vi (g := 30) (As := [iV (ticket)]) (rest := [iV (soM M ticket)]) (c2 := 0 + 1 + 1 + 4 + 4 + 6 * Int.toNat row + 6 * Int.toNat (ticket - 1) + 1 + 1 + 1 + 1) (s2 := 6 * (0 + 1 + 1 + 4 + 4 + 6 * Int.toNat row + 6 * Int.toNat (ticket - 1) + 1 + 1 + 1 + 1)) (k2_seatsOf hst M h heq (ticket) (by omega)) cv_X4_seatsOf dL_areAlike_205 ml_L_117 rfl rfl rfl rfl rfl (Nat.le_of_ble_eq_true rfl) (by decide) (by show 0 + 1 + 1 + 4 + 4 + 6 * Int.toNat row + 6 * Int.toNat (ticket - 1) + 1 + 1 + 1 + 1 ≤ 0 + 1 + 1 + 4 + 4 + 6 * Int.toNat row + 6 * Int.toNat (ticket - 1) + 1 + 1 + 1 + 1; omega) (by show 6 * (0 + 1 + 1 + 4 + 4 + 6 * Int.toNat row + 6 * Int.toNat (ticket - 1) + 1 + 1 + 1) + 6 ≤ 6 * (0 + 1 + 1 + 4 + 4 + 6 * Int.toNat row + 6 * Int.toNat (ticket - 1) + 1 + 1 + 1 + 1); omega) (by show 0 + 1 + 1 + 4 + 4 + 6 * Int.toNat row + 6 * Int.toNat (ticket - 1) + 1 + 1 + 1 + 1 ≤ 682 ∧ 6 * (0 + 1 + 1 + 4 + 4 + 6 * Int.toNat row + 6 * Int.toNat (ticket - 1) + 1 + 1 + 1 + 1) ≤ 4092; omega) ?_
              refine aw_samen (tgt := 228) dL_areAlike_208 (by decide) (by rfl) ?_
              refine aw_aload_n dL_areAlike_211 rfl rfl ?_
              refine aw_iload_n dL_areAlike_212 rfl rfl ?_
              refine lw_Vi (g := 0) (As := [iV (ticket)]) (rest := []) (c2 := 0 + 1 + 1 + 4 + 4 + 6 * Int.toNat row + 6 * Int.toNat (ticket - 1) + 1 + 1 + 1 + 1 + 1) (s2 := 6 * (0 + 1 + 1 + 4 + 4 + 6 * Int.toNat row + 6 * Int.toNat (ticket - 1) + 1 + 1 + 1 + 1 + 1)) (k_priceOf hst M h (ticket) (by omega)) cv_X4_priceOf dL_areAlike_213 ml_L_120 rfl rfl rfl rfl rfl (Nat.le_of_ble_eq_true rfl) (by decide) (by show 0 + 1 + 1 + 4 + 4 + 6 * Int.toNat row + 6 * Int.toNat (ticket - 1) + 1 + 1 + 1 + 1 + 1 ≤ 0 + 1 + 1 + 4 + 4 + 6 * Int.toNat row + 6 * Int.toNat (ticket - 1) + 1 + 1 + 1 + 1 + 1; omega) (by show 6 * (0 + 1 + 1 + 4 + 4 + 6 * Int.toNat row + 6 * Int.toNat (ticket - 1) + 1 + 1 + 1 + 1) + 6 ≤ 6 * (0 + 1 + 1 + 4 + 4 + 6 * Int.toNat row + 6 * Int.toNat (ticket - 1) + 1 + 1 + 1 + 1 + 1); omega) (by show 0 + 1 + 1 + 4 + 4 + 6 * Int.toNat row + 6 * Int.toNat (ticket - 1) + 1 + 1 + 1 + 1 + 1 ≤ 682 ∧ 6 * (0 + 1 + 1 + 4 + 4 + 6 * Int.toNat row + 6 * Int.toNat (ticket - 1) + 1 + 1 + 1 + 1 + 1) ≤ 4092; omega) ?_
              refine aw_aload_n dL_areAlike_216 rfl rfl ?_
              refine aw_iload_n dL_areAlike_217 rfl rfl ?_
              refine lw_Vi (g := 30) (As := [iV (ticket)]) (rest := [iV (priceM M ticket)]) (c2 := 0 + 1 + 1 + 4 + 4 + 6 * Int.toNat row + 6 * Int.toNat (ticket - 1) + 1 + 1 + 1 + 1 + 1 + 1) (s2 := 6 * (0 + 1 + 1 + 4 + 4 + 6 * Int.toNat row + 6 * Int.toNat (ticket - 1) + 1 + 1 + 1 + 1 + 1 + 1)) (k2_priceOf hst M h heq (ticket) (by omega)) cv_X4_priceOf dL_areAlike_218 ml_L_120 rfl rfl rfl rfl rfl (Nat.le_of_ble_eq_true rfl) (by decide) (by show 0 + 1 + 1 + 4 + 4 + 6 * Int.toNat row + 6 * Int.toNat (ticket - 1) + 1 + 1 + 1 + 1 + 1 + 1 ≤ 0 + 1 + 1 + 4 + 4 + 6 * Int.toNat row + 6 * Int.toNat (ticket - 1) + 1 + 1 + 1 + 1 + 1 + 1; omega) (by show 6 * (0 + 1 + 1 + 4 + 4 + 6 * Int.toNat row + 6 * Int.toNat (ticket - 1) + 1 + 1 + 1 + 1 + 1) + 6 ≤ 6 * (0 + 1 + 1 + 4 + 4 + 6 * Int.toNat row + 6 * Int.toNat (ticket - 1) + 1 + 1 + 1 + 1 + 1 + 1); omega) (by show 0 + 1 + 1 + 4 + 4 + 6 * Int.toNat row + 6 * Int.toNat (ticket - 1) + 1 + 1 + 1 + 1 + 1 + 1 ≤ 682 ∧ 6 * (0 + 1 + 1 + 4 + 4 + 6 * Int.toNat row + 6 * Int.toNat (ticket - 1) + 1 + 1 + 1 + 1 + 1 + 1) ≤ 4092; omega) ?_
              refine aw_samen (tgt := 228) dL_areAlike_221 (by decide) (by rfl) ?_
              refine aw_iconst dL_areAlike_224 ?_
              refine aw_goto (tgt := 229) dL_areAlike_225 (by decide) ?_
              refine aw_istore_n (L2 := [some (rV K 0 0), some (rV K 30 0), some (iV 1), some (iV (ticket))]) dL_areAlike_229 rfl (by decide) rfl ?_
              refine aw_iinc (L2 := [some (rV K 0 0), some (rV K 30 0), some (iV 1), some (iV (ticket + 1))]) dL_areAlike_230 rfl (by decide) rfl ?_
              refine aw_goto (tgt := 173) dL_areAlike_233 (by decide) ?_
              refine aw_wide (a := 0 + 1 + 1 + 4 + 4 + 6 * Int.toNat row + 6 * Int.toNat ((ticket + 1) - 1)) (b := 6 * (0 + 1 + 1 + 4 + 4 + 6 * Int.toNat row + 6 * Int.toNat ((ticket + 1) - 1))) (by omega) (by omega) ?_
              exact ih173 (ticket + 1) (by omega) (by omega)
        refine aw_wide (a := 0 + 1 + 1 + 4 + 4 + 6 * Int.toNat row + 6 * Int.toNat (1 - 1)) (b := 6 * (0 + 1 + 1 + 4 + 4 + 6 * Int.toNat row + 6 * Int.toNat (1 - 1))) (by omega) (by omega) ?_
        exact lp173 (((M 7 0 8 + 1 - 1).toNat) + 1) (1) (by omega) (Nat.lt_succ_self _)
      · refine aw_iload_n dL_areAlike_112 rfl rfl ?_
        refine aw_if_eq (tgt := 171) dL_areAlike_113 (by decide) (by decide) (fun h => absurd h (by decide)) (fun _ => ?_)
        refine aw_aload_n dL_areAlike_116 rfl rfl ?_
        refine aw_iload_n dL_areAlike_117 rfl rfl ?_
        refine lw_Vi (g := 0) (As := [iV (row)]) (rest := []) (c2 := 0 + 1 + 1 + 4 + 4 + 6 * Int.toNat row + 1) (s2 := 6 * (0 + 1 + 1 + 4 + 4 + 6 * Int.toNat row + 1)) (k_freeSeats hst M h (row) (by omega)) cv_X4_freeSeats dL_areAlike_118 ml_L_105 rfl rfl rfl rfl rfl (Nat.le_of_ble_eq_true rfl) (by decide) (by show 0 + 1 + 1 + 4 + 4 + 6 * Int.toNat row + 1 ≤ 0 + 1 + 1 + 4 + 4 + 6 * Int.toNat row + 1; omega) (by show 6 * (0 + 1 + 1 + 4 + 4 + 6 * Int.toNat row) + 6 ≤ 6 * (0 + 1 + 1 + 4 + 4 + 6 * Int.toNat row + 1); omega) (by show 0 + 1 + 1 + 4 + 4 + 6 * Int.toNat row + 1 ≤ 682 ∧ 6 * (0 + 1 + 1 + 4 + 4 + 6 * Int.toNat row + 1) ≤ 4092; omega) ?_
        refine aw_aload_n dL_areAlike_121 rfl rfl ?_
        refine aw_iload_n dL_areAlike_122 rfl rfl ?_
        refine lw_Vi (g := 30) (As := [iV (row)]) (rest := [iV (frC M row)]) (c2 := 0 + 1 + 1 + 4 + 4 + 6 * Int.toNat row + 1 + 1) (s2 := 6 * (0 + 1 + 1 + 4 + 4 + 6 * Int.toNat row + 1 + 1)) (k2_freeSeats hst M h heq (row) (by omega)) cv_X4_freeSeats dL_areAlike_123 ml_L_105 rfl rfl rfl rfl rfl (Nat.le_of_ble_eq_true rfl) (by decide) (by show 0 + 1 + 1 + 4 + 4 + 6 * Int.toNat row + 1 + 1 ≤ 0 + 1 + 1 + 4 + 4 + 6 * Int.toNat row + 1 + 1; omega) (by show 6 * (0 + 1 + 1 + 4 + 4 + 6 * Int.toNat row + 1) + 6 ≤ 6 * (0 + 1 + 1 + 4 + 4 + 6 * Int.toNat row + 1 + 1); omega) (by show 0 + 1 + 1 + 4 + 4 + 6 * Int.toNat row + 1 + 1 ≤ 682 ∧ 6 * (0 + 1 + 1 + 4 + 4 + 6 * Int.toNat row + 1 + 1) ≤ 4092; omega) ?_
        refine aw_samen (tgt := 163) dL_areAlike_126 (by decide) (by rfl) ?_
        refine aw_aload_n dL_areAlike_129 rfl rfl ?_
        refine aw_iload_n dL_areAlike_130 rfl rfl ?_
        refine aw_iconst dL_areAlike_131 ?_
        refine lw_Vi (g := 0) (As := [iV (row), iV 0]) (rest := []) (c2 := 0 + 1 + 1 + 4 + 4 + 6 * Int.toNat row + 1 + 1 + 1) (s2 := 6 * (0 + 1 + 1 + 4 + 4 + 6 * Int.toNat row + 1 + 1 + 1)) (k_ticketAt hst M h (row) (0) (by have w := h.hw.2.2 row (by omega) (by omega); omega)) cv_X4_ticketAt dL_areAlike_132 ml_L_108 rfl rfl rfl rfl rfl (Nat.le_of_ble_eq_true rfl) (by decide) (by show 0 + 1 + 1 + 4 + 4 + 6 * Int.toNat row + 1 + 1 + 1 ≤ 0 + 1 + 1 + 4 + 4 + 6 * Int.toNat row + 1 + 1 + 1; omega) (by show 6 * (0 + 1 + 1 + 4 + 4 + 6 * Int.toNat row + 1 + 1) + 6 ≤ 6 * (0 + 1 + 1 + 4 + 4 + 6 * Int.toNat row + 1 + 1 + 1); omega) (by show 0 + 1 + 1 + 4 + 4 + 6 * Int.toNat row + 1 + 1 + 1 ≤ 682 ∧ 6 * (0 + 1 + 1 + 4 + 4 + 6 * Int.toNat row + 1 + 1 + 1) ≤ 4092; omega) ?_
        refine aw_aload_n dL_areAlike_135 rfl rfl ?_
        refine aw_iload_n dL_areAlike_136 rfl rfl ?_
        refine aw_iconst dL_areAlike_137 ?_
        refine lw_Vi (g := 30) (As := [iV (row), iV 0]) (rest := [iV (max (M 6 row 0) 0)]) (c2 := 0 + 1 + 1 + 4 + 4 + 6 * Int.toNat row + 1 + 1 + 1 + 1) (s2 := 6 * (0 + 1 + 1 + 4 + 4 + 6 * Int.toNat row + 1 + 1 + 1 + 1)) (k2_ticketAt hst M h heq (row) (0) (by have w := h.hw.2.2 row (by omega) (by omega); omega)) cv_X4_ticketAt dL_areAlike_138 ml_L_108 rfl rfl rfl rfl rfl (Nat.le_of_ble_eq_true rfl) (by decide) (by show 0 + 1 + 1 + 4 + 4 + 6 * Int.toNat row + 1 + 1 + 1 + 1 ≤ 0 + 1 + 1 + 4 + 4 + 6 * Int.toNat row + 1 + 1 + 1 + 1; omega) (by show 6 * (0 + 1 + 1 + 4 + 4 + 6 * Int.toNat row + 1 + 1 + 1) + 6 ≤ 6 * (0 + 1 + 1 + 4 + 4 + 6 * Int.toNat row + 1 + 1 + 1 + 1); omega) (by show 0 + 1 + 1 + 4 + 4 + 6 * Int.toNat row + 1 + 1 + 1 + 1 ≤ 682 ∧ 6 * (0 + 1 + 1 + 4 + 4 + 6 * Int.toNat row + 1 + 1 + 1 + 1) ≤ 4092; omega) ?_
        refine aw_samen (tgt := 163) dL_areAlike_141 (by decide) (by rfl) ?_
        refine aw_aload_n dL_areAlike_144 rfl rfl ?_
        refine aw_iload_n dL_areAlike_145 rfl rfl ?_
        refine aw_iconst dL_areAlike_146 ?_
        refine lw_Vi (g := 0) (As := [iV (row), iV 0]) (rest := []) (c2 := 0 + 1 + 1 + 4 + 4 + 6 * Int.toNat row + 1 + 1 + 1 + 1 + 1) (s2 := 6 * (0 + 1 + 1 + 4 + 4 + 6 * Int.toNat row + 1 + 1 + 1 + 1 + 1)) (k_state hst M h (row) (0) (by have w := h.hw.2.2 row (by omega) (by omega); omega)) cv_X4_state dL_areAlike_147 ml_L_111 rfl rfl rfl rfl rfl (Nat.le_of_ble_eq_true rfl) (by decide) (by show 0 + 1 + 1 + 4 + 4 + 6 * Int.toNat row + 1 + 1 + 1 + 1 + 1 ≤ 0 + 1 + 1 + 4 + 4 + 6 * Int.toNat row + 1 + 1 + 1 + 1 + 1; omega) (by show 6 * (0 + 1 + 1 + 4 + 4 + 6 * Int.toNat row + 1 + 1 + 1 + 1) + 6 ≤ 6 * (0 + 1 + 1 + 4 + 4 + 6 * Int.toNat row + 1 + 1 + 1 + 1 + 1); omega) (by show 0 + 1 + 1 + 4 + 4 + 6 * Int.toNat row + 1 + 1 + 1 + 1 + 1 ≤ 682 ∧ 6 * (0 + 1 + 1 + 4 + 4 + 6 * Int.toNat row + 1 + 1 + 1 + 1 + 1) ≤ 4092; omega) ?_
        refine aw_aload_n dL_areAlike_150 rfl rfl ?_
        refine aw_iload_n dL_areAlike_151 rfl rfl ?_
        refine aw_iconst dL_areAlike_152 ?_
        refine lw_Vi (g := 30) (As := [iV (row), iV 0]) (rest := [iV (stV M row 0)]) (c2 := 0 + 1 + 1 + 4 + 4 + 6 * Int.toNat row + 1 + 1 + 1 + 1 + 1 + 1) (s2 := 6 * (0 + 1 + 1 + 4 + 4 + 6 * Int.toNat row + 1 + 1 + 1 + 1 + 1 + 1)) (k2_state hst M h heq (row) (0) (by have w := h.hw.2.2 row (by omega) (by omega); omega)) cv_X4_state dL_areAlike_153 ml_L_111 rfl rfl rfl rfl rfl (Nat.le_of_ble_eq_true rfl) (by decide) (by show 0 + 1 + 1 + 4 + 4 + 6 * Int.toNat row + 1 + 1 + 1 + 1 + 1 + 1 ≤ 0 + 1 + 1 + 4 + 4 + 6 * Int.toNat row + 1 + 1 + 1 + 1 + 1 + 1; omega) (by show 6 * (0 + 1 + 1 + 4 + 4 + 6 * Int.toNat row + 1 + 1 + 1 + 1 + 1) + 6 ≤ 6 * (0 + 1 + 1 + 4 + 4 + 6 * Int.toNat row + 1 + 1 + 1 + 1 + 1 + 1); omega) (by show 0 + 1 + 1 + 4 + 4 + 6 * Int.toNat row + 1 + 1 + 1 + 1 + 1 + 1 ≤ 682 ∧ 6 * (0 + 1 + 1 + 4 + 4 + 6 * Int.toNat row + 1 + 1 + 1 + 1 + 1 + 1) ≤ 4092; omega) ?_
        refine aw_samen (tgt := 163) dL_areAlike_156 (by decide) (by rfl) ?_
        refine aw_iconst dL_areAlike_159 ?_
        refine aw_goto (tgt := 164) dL_areAlike_160 (by decide) ?_
        refine aw_istore_n (L2 := [some (rV K 0 0), some (rV K 30 0), some (iV 1), some (iV (row))]) dL_areAlike_164 rfl (by decide) rfl ?_
        refine aw_iinc (L2 := [some (rV K 0 0), some (rV K 30 0), some (iV 1), some (iV (row + 1))]) dL_areAlike_165 rfl (by decide) rfl ?_
        refine aw_goto (tgt := 104) dL_areAlike_168 (by decide) ?_
        refine aw_wide (a := 0 + 1 + 1 + 4 + 4 + 6 * Int.toNat (row + 1)) (b := 6 * (0 + 1 + 1 + 4 + 4 + 6 * Int.toNat (row + 1))) (by omega) (by omega) ?_
        exact ih104 (row + 1) (by omega) (by omega)
  refine aw_wide (a := 0 + 1 + 1 + 4 + 4 + 6 * Int.toNat 0) (b := 6 * (0 + 1 + 1 + 4 + 4 + 6 * Int.toNat 0)) (by omega) (by omega) ?_
  exact lp104 (((M 1 0 4 - 0).toNat) + 1) (0) (by omega) (Nat.lt_succ_self _)
