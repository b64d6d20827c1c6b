def iL_cell : MInfo := (yL_cell, cL_cell, 2, some .int, (0, 0), (0, 0), [])
def iL_low : MInfo := (yL_low, cL_low, 2, some .int, (0, 0), (0, 0), [])
def iL_asks : MInfo := (yL_asks, cL_asks, 6, some .int, (9, 194), (4, 24), [(0, 61, 62, 28), (0, 61, 67, 31)])
def iL_holdAt : MInfo := (yL_holdAt, cL_holdAt, 6, some .int, (9, 166), (5, 30), [(0, 9, 10, 37), (0, 9, 15, 28), (0, 9, 20, 31)])
def iL_toggles : MInfo := (yL_toggles, cL_toggles, 4, some .int, (8, 146), (2, 12), [(0, 14, 15, 37), (0, 14, 19, 31)])
def iL_tends : MInfo := (yL_tends, cL_tends, 5, some .int, (9, 171), (4, 24), [(0, 71, 72, 37), (0, 71, 77, 28), (0, 71, 82, 31)])
def iL_nextExpiry : MInfo := (yL_nextExpiry, cL_nextExpiry, 2, some .int, (7, 121), (1, 6), [(0, 4, 5, 31)])
def iL_act : MInfo := (yL_act, cL_act, 7, some .int, (10, 219), (5, 30), [])
def iL_areAlike : MInfo := (yL_areAlike, cL_areAlike, 4, some .boolean, (10, 219), (682, 4092), [])
def iL_wide : MInfo := (yL_wide, cL_wide, 4, some .int, (9, 168), (21, 126), [])
def iL_isSeat : MInfo := (yL_isSeat, cL_isSeat, 4, some .boolean, (8, 145), (1, 6), [(0, 14, 15, 37)])
def iL_areSeatsSo : MInfo := (yL_areSeatsSo, cL_areSeatsSo, 12, some .boolean, (10, 191), (2205, 13230), [])
def iL_isFree : MInfo := (yL_isFree, cL_isFree, 6, some .boolean, (10, 191), (41, 246), [])
def iL_sum : MInfo := (yL_sum, cL_sum, 6, some .int, (8, 144), (20, 120), [])
def iL_isBestSo : MInfo := (yL_isBestSo, cL_isBestSo, 6, some .boolean, (11, 219), (19965, 119790), [])
def iL_isGroupSo : MInfo := (yL_isGroupSo, cL_isGroupSo, 9, some .boolean, (11, 219), (9880, 59280), [])
theorem cs_L_cell : CALS iL_cell 2 := ⟨co_L_cell, st_L_cell, in_L, by decide, by decide, by decide +kernel⟩
theorem cs_L_low : CALS iL_low 2 := ⟨co_L_low, st_L_low, in_L, by decide, by decide, by decide +kernel⟩
theorem cw_L_asks : CALSW iL_asks 5 := ⟨co_L_asks, st_L_asks, in_L, by decide, by decide, by decide +kernel⟩
theorem cw_L_holdAt : CALSW iL_holdAt 5 := ⟨co_L_holdAt, st_L_holdAt, in_L, by decide, by decide, by decide +kernel⟩
theorem cw_L_toggles : CALSW iL_toggles 3 := ⟨co_L_toggles, st_L_toggles, in_L, by decide, by decide, by decide +kernel⟩
theorem cw_L_tends : CALSW iL_tends 4 := ⟨co_L_tends, st_L_tends, in_L, by decide, by decide, by decide +kernel⟩
theorem cw_L_nextExpiry : CALSW iL_nextExpiry 1 := ⟨co_L_nextExpiry, st_L_nextExpiry, in_L, by decide, by decide, by decide +kernel⟩
theorem cs_L_act : CALS iL_act 2 := ⟨co_L_act, st_L_act, in_L, by decide, by decide, by decide +kernel⟩
theorem cs_L_areAlike : CALS iL_areAlike 2 := ⟨co_L_areAlike, st_L_areAlike, in_L, by decide, by decide, by decide +kernel⟩
theorem cs_L_wide : CALS iL_wide 2 := ⟨co_L_wide, st_L_wide, in_L, by decide, by decide, by decide +kernel⟩
theorem cw_L_isSeat : CALSW iL_isSeat 3 := ⟨co_L_isSeat, st_L_isSeat, in_L, by decide, by decide, by decide +kernel⟩
theorem cs_L_areSeatsSo : CALS iL_areSeatsSo 1 := ⟨co_L_areSeatsSo, st_L_areSeatsSo, in_L, by decide, by decide, by decide +kernel⟩
theorem cs_L_isFree : CALS iL_isFree 4 := ⟨co_L_isFree, st_L_isFree, in_L, by decide, by decide, by decide +kernel⟩
theorem cs_L_sum : CALS iL_sum 4 := ⟨co_L_sum, st_L_sum, in_L, by decide, by decide, by decide +kernel⟩
theorem cs_L_isBestSo : CALS iL_isBestSo 2 := ⟨co_L_isBestSo, st_L_isBestSo, in_L, by decide, by decide, by decide +kernel⟩
theorem cs_L_isGroupSo : CALS iL_isGroupSo 2 := ⟨co_L_isGroupSo, st_L_isGroupSo, in_L, by decide, by decide, by decide +kernel⟩
theorem cz_IAE : Cond.castable eIAE eIAE ∈ lw_tbl := by decide +kernel
theorem cz_ISE : Cond.castable eISE eISE ∈ lw_tbl := by decide +kernel
theorem cz_IOB : Cond.castable eIOB eIOB ∈ lw_tbl := by decide +kernel
set_option maxHeartbeats 4000000 in
set_option maxRecDepth 20000 in
theorem c_L_asks0 {K : WPar} {l : Launch} (hst : l.stackTraces = false) (M : Mem) {c : Int} (h : INV M c) (hc : c ≤ 512) (n : Int) (p : Int) (q : Int) (r_n : inR n) (r_p : inR p) (r_q : inR q) : CTL K l iL_asks [rV K 0 0, iV 0, iV (n), iV (p), iV (q)] M (rZm (fun z m => WR (Q_addRow M (n) (p) (q)) z m)) := by
  refine aw_metW [some (rV K 0 0), some (iV 0), some (iV (n)), some (iV (p)), some (iV (q)), none] hst (by decide) (Nat.le_of_ble_eq_true rfl) rfl rfl (lcat rfl) ?_
  refine aw_rng (fun hM => ?_)
  refine aw_iload_n dL_asks_0 rfl rfl ?_
  refine aw_if_ne (tgt := 15) dL_asks_1 (by decide) (by decide) (fun h => absurd h (by decide)) (fun _ => ?_)
  refine aw_aload_n dL_asks_4 rfl rfl ?_
  refine aw_iload_n dL_asks_5 rfl rfl ?_
  refine aw_iload_n dL_asks_6 rfl rfl ?_
  refine aw_iload dL_asks_7 rfl ?_
  refine aw_callV (g := 0) (As := [iV (n), iV (p), iV (q)]) (rest := []) (c_X4_addRow hst M (n) (p) (q) r_n r_p r_q h.hw) cv_X4_addRow dL_asks_9 ml_L_8 rfl rfl rfl rfl rfl (Nat.le_of_ble_eq_true rfl) (by decide) (by decide) (fun r M1 q => ?_) (fun E M1 q => ?_)
  · have q0 := q
    rcases q with ⟨e, q1, hm⟩ | ⟨e, q1, hm⟩ | ⟨z, e, q1⟩
    · cases e
    · cases e
    · cases e
      refine aw_goto (tgt := 61) dL_asks_12 (by decide) ?_
      exact aw_iretW dL_asks_61 rfl rfl (by decide) (by decide) ⟨z, rfl, ⟨_, q0, Or.inl ⟨z, rfl, rfl⟩⟩⟩
  · have q0 := q
    rcases q with ⟨e, q1, hm⟩ | ⟨e, q1, hm⟩ | ⟨z, e, q1⟩
    · cases e
      refine ax_catch (name := eIAE) (i := 5) [] ⟨0, 61, 62, 28⟩ [⟨0, 61, 67, 31⟩] rfl (fun _ hz => by cases hz) (by decide) (by decide) kl_L_28 cz_IAE dL_asks_62 (by decide) rfl ?_
      refine aw_ldc (z := -99999) dL_asks_64 cn_L_30 rfl ?_
      exact aw_iretW dL_asks_66 rfl rfl (by decide) (by decide) ⟨-99999, rfl, ⟨_, q0, Or.inr ⟨⟨_, rfl⟩, rfl⟩⟩⟩
    · cases e
      refine ax_catch (name := eISE) (i := 5) [⟨0, 61, 62, 28⟩] ⟨0, 61, 67, 31⟩ [] rfl (List.forall_mem_cons.mpr ⟨Or.inr ⟨by decide, eIAE, kl_L_28, by decide +kernel⟩, fun _ hz => by cases hz⟩) (by decide) (by decide) kl_L_31 cz_ISE dL_asks_67 (by decide) rfl ?_
      refine aw_ldc (z := -99999) dL_asks_69 cn_L_30 rfl ?_
      exact aw_iretW dL_asks_71 rfl rfl (by decide) (by decide) ⟨-99999, rfl, ⟨_, q0, Or.inr ⟨⟨_, rfl⟩, rfl⟩⟩⟩
    · cases e
set_option maxHeartbeats 4000000 in
set_option maxRecDepth 20000 in
theorem c_L_asks1 {K : WPar} {l : Launch} (hst : l.stackTraces = false) (M : Mem) {c : Int} (h : INV M c) (hc : c ≤ 512) (n : Int) (p : Int) (q : Int) (r_n : inR n) (r_p : inR p) : CTL K l iL_asks [rV K 0 0, iV 1, iV (n), iV (p), iV (q)] M (rZm (fun z m => WR (Q_hold M (n) (p)) z m)) := by
  refine aw_metW [some (rV K 0 0), some (iV 1), some (iV (n)), some (iV (p)), some (iV (q)), none] hst (by decide) (Nat.le_of_ble_eq_true rfl) rfl rfl (lcat rfl) ?_
  refine aw_rng (fun hM => ?_)
  refine aw_iload_n dL_asks_0 rfl rfl ?_
  refine aw_if_ne (tgt := 15) dL_asks_1 (by decide) (by decide) (fun _ => ?_) (fun h => absurd h (by decide))
  refine aw_iload_n dL_asks_15 rfl rfl ?_
  refine aw_iconst dL_asks_16 ?_
  refine aw_icmp_ne (tgt := 29) dL_asks_17 (by decide) (by decide) (by decide) (fun h => absurd h (by decide)) (fun _ => ?_)
  refine aw_aload_n dL_asks_20 rfl rfl ?_
  refine aw_iload_n dL_asks_21 rfl rfl ?_
  refine aw_iload_n dL_asks_22 rfl rfl ?_
  refine aw_callV (g := 0) (As := [iV (n), iV (p)]) (rest := []) (c_X4_hold hst M (n) (p) r_n r_p h.hw h.bw (h.nowb hc)) cv_X4_hold dL_asks_23 ml_L_14 rfl rfl rfl rfl rfl (Nat.le_of_ble_eq_true rfl) (by decide) (by decide) (fun r M1 q => ?_) (fun E M1 q => ?_)
  · have q0 := q
    rcases q with ⟨e, q1, hm⟩ | ⟨e, q1, hm⟩ | ⟨z, e, q1⟩
    · cases e
    · cases e
    · cases e
      refine aw_goto (tgt := 61) dL_asks_26 (by decide) ?_
      exact aw_iretW dL_asks_61 rfl rfl (by decide) (by decide) ⟨z, rfl, ⟨_, q0, Or.inl ⟨z, rfl, rfl⟩⟩⟩
  · have q0 := q
    rcases q with ⟨e, q1, hm⟩ | ⟨e, q1, hm⟩ | ⟨z, e, q1⟩
    · cases e
      refine ax_catch (name := eIAE) (i := 5) [] ⟨0, 61, 62, 28⟩ [⟨0, 61, 67, 31⟩] rfl (fun _ hz => by cases hz) (by decide) (by decide) kl_L_28 cz_IAE dL_asks_62 (by decide) rfl ?_
      refine aw_ldc (z := -99999) dL_asks_64 cn_L_30 rfl ?_
      exact aw_iretW dL_asks_66 rfl rfl (by decide) (by decide) ⟨-99999, rfl, ⟨_, q0, Or.inr ⟨⟨_, rfl⟩, rfl⟩⟩⟩
    · cases e
      refine ax_catch (name := eISE) (i := 5) [⟨0, 61, 62, 28⟩] ⟨0, 61, 67, 31⟩ [] rfl (List.forall_mem_cons.mpr ⟨Or.inr ⟨by decide, eIAE, kl_L_28, by decide +kernel⟩, fun _ hz => by cases hz⟩) (by decide) (by decide) kl_L_31 cz_ISE dL_asks_67 (by decide) rfl ?_
      refine aw_ldc (z := -99999) dL_asks_69 cn_L_30 rfl ?_
      exact aw_iretW dL_asks_71 rfl rfl (by decide) (by decide) ⟨-99999, rfl, ⟨_, q0, Or.inr ⟨⟨_, rfl⟩, rfl⟩⟩⟩
    · cases e
set_option maxHeartbeats 4000000 in
set_option maxRecDepth 20000 in
theorem c_L_asks2 {K : WPar} {l : Launch} (hst : l.stackTraces = false) (M : Mem) {c : Int} (h : INV M c) (hc : c ≤ 512) (n : Int) (p : Int) (q : Int) (r_n : inR n) (r_p : inR p) : CTL K l iL_asks [rV K 0 0, iV 2, iV (n), iV (p), iV (q)] M (rZm (fun z m => WR (Q_holdGroup M (n) (p)) z m)) := by
  refine aw_metW [some (rV K 0 0), some (iV 2), some (iV (n)), some (iV (p)), some (iV (q)), none] hst (by decide) (Nat.le_of_ble_eq_true rfl) rfl rfl (lcat rfl) ?_
  refine aw_rng (fun hM => ?_)
  refine aw_iload_n dL_asks_0 rfl rfl ?_
  refine aw_if_ne (tgt := 15) dL_asks_1 (by decide) (by decide) (fun _ => ?_) (fun h => absurd h (by decide))
  refine aw_iload_n dL_asks_15 rfl rfl ?_
  refine aw_iconst dL_asks_16 ?_
  refine aw_icmp_ne (tgt := 29) dL_asks_17 (by decide) (by decide) (by decide) (fun _ => ?_) (fun h => absurd h (by decide))
  refine aw_iload_n dL_asks_29 rfl rfl ?_
  refine aw_iconst dL_asks_30 ?_
  refine aw_icmp_ne (tgt := 43) dL_asks_31 (by decide) (by decide) (by decide) (fun h => absurd h (by decide)) (fun _ => ?_)
  refine aw_aload_n dL_asks_34 rfl rfl ?_
  refine aw_iload_n dL_asks_35 rfl rfl ?_
  refine aw_iload_n dL_asks_36 rfl rfl ?_
  refine aw_callV (g := 0) (As := [iV (n), iV (p)]) (rest := []) (c_X4_holdGroup hst M (n) (p) r_n r_p h.hw h.bw (h.nowb hc)) cv_X4_holdGroup dL_asks_37 ml_L_18 rfl rfl rfl rfl rfl (Nat.le_of_ble_eq_true rfl) (by decide) (by decide) (fun r M1 q => ?_) (fun E M1 q => ?_)
  · have q0 := q
    rcases q with ⟨e, q1, hm⟩ | ⟨e, q1, hm⟩ | ⟨z, e, q1⟩
    · cases e
    · cases e
    · cases e
      refine aw_goto (tgt := 61) dL_asks_40 (by decide) ?_
      exact aw_iretW dL_asks_61 rfl rfl (by decide) (by decide) ⟨z, rfl, ⟨_, q0, Or.inl ⟨z, rfl, rfl⟩⟩⟩
  · have q0 := q
    rcases q with ⟨e, q1, hm⟩ | ⟨e, q1, hm⟩ | ⟨z, e, q1⟩
    · cases e
      refine ax_catch (name := eIAE) (i := 5) [] ⟨0, 61, 62, 28⟩ [⟨0, 61, 67, 31⟩] rfl (fun _ hz => by cases hz) (by decide) (by decide) kl_L_28 cz_IAE dL_asks_62 (by decide) rfl ?_
      refine aw_ldc (z := -99999) dL_asks_64 cn_L_30 rfl ?_
      exact aw_iretW dL_asks_66 rfl rfl (by decide) (by decide) ⟨-99999, rfl, ⟨_, q0, Or.inr ⟨⟨_, rfl⟩, rfl⟩⟩⟩
    · cases e
      refine ax_catch (name := eISE) (i := 5) [⟨0, 61, 62, 28⟩] ⟨0, 61, 67, 31⟩ [] rfl (List.forall_mem_cons.mpr ⟨Or.inr ⟨by decide, eIAE, kl_L_28, by decide +kernel⟩, fun _ hz => by cases hz⟩) (by decide) (by decide) kl_L_31 cz_ISE dL_asks_67 (by decide) rfl ?_
      refine aw_ldc (z := -99999) dL_asks_69 cn_L_30 rfl ?_
      exact aw_iretW dL_asks_71 rfl rfl (by decide) (by decide) ⟨-99999, rfl, ⟨_, q0, Or.inr ⟨⟨_, rfl⟩, rfl⟩⟩⟩
    · cases e
set_option maxHeartbeats 4000000 in
set_option maxRecDepth 20000 in
theorem c_L_asks3 {K : WPar} {l : Launch} (hst : l.stackTraces = false) (M : Mem) {c : Int} (h : INV M c) (hc : c ≤ 512) (n : Int) (p : Int) (q : Int) (r_n : inR n) : CTL K l iL_asks [rV K 0 0, iV 3, iV (n), iV (p), iV (q)] M (rZm (fun z m => WR (Q_bestBlock M (n)) z m)) := by
  refine aw_metW [some (rV K 0 0), some (iV 3), some (iV (n)), some (iV (p)), some (iV (q)), none] hst (by decide) (Nat.le_of_ble_eq_true rfl) rfl rfl (lcat rfl) ?_
  refine aw_rng (fun hM => ?_)
  refine aw_iload_n dL_asks_0 rfl rfl ?_
  refine aw_if_ne (tgt := 15) dL_asks_1 (by decide) (by decide) (fun _ => ?_) (fun h => absurd h (by decide))
  refine aw_iload_n dL_asks_15 rfl rfl ?_
  refine aw_iconst dL_asks_16 ?_
  refine aw_icmp_ne (tgt := 29) dL_asks_17 (by decide) (by decide) (by decide) (fun _ => ?_) (fun h => absurd h (by decide))
  refine aw_iload_n dL_asks_29 rfl rfl ?_
  refine aw_iconst dL_asks_30 ?_
  refine aw_icmp_ne (tgt := 43) dL_asks_31 (by decide) (by decide) (by decide) (fun _ => ?_) (fun h => absurd h (by decide))
  refine aw_iload_n dL_asks_43 rfl rfl ?_
  refine aw_iconst dL_asks_44 ?_
  refine aw_icmp_ne (tgt := 56) dL_asks_45 (by decide) (by decide) (by decide) (fun h => absurd h (by decide)) (fun _ => ?_)
  refine aw_aload_n dL_asks_48 rfl rfl ?_
  refine aw_iload_n dL_asks_49 rfl rfl ?_
  refine aw_callV (g := 0) (As := [iV (n)]) (rest := []) (c_X4_bestBlock hst M (n) r_n h.hw) cv_X4_bestBlock dL_asks_50 ml_L_21 rfl rfl rfl rfl rfl (Nat.le_of_ble_eq_true rfl) (by decide) (by decide) (fun r M1 q => ?_) (fun E M1 q => ?_)
  · have q0 := q
    rcases q with ⟨e, q1, hm⟩ | ⟨e, q1, hm⟩ | ⟨z, e, q1⟩
    · cases e
    · cases e
    · cases e
      refine aw_goto (tgt := 61) dL_asks_53 (by decide) ?_
      exact aw_iretW dL_asks_61 rfl rfl (by decide) (by decide) ⟨z, rfl, ⟨_, q0, Or.inl ⟨z, rfl, rfl⟩⟩⟩
  · have q0 := q
    rcases q with ⟨e, q1, hm⟩ | ⟨e, q1, hm⟩ | ⟨z, e, q1⟩
    · cases e
      refine ax_catch (name := eIAE) (i := 5) [] ⟨0, 61, 62, 28⟩ [⟨0, 61, 67, 31⟩] rfl (fun _ hz => by cases hz) (by decide) (by decide) kl_L_28 cz_IAE dL_asks_62 (by decide) rfl ?_
      refine aw_ldc (z := -99999) dL_asks_64 cn_L_30 rfl ?_
      exact aw_iretW dL_asks_66 rfl rfl (by decide) (by decide) ⟨-99999, rfl, ⟨_, q0, Or.inr ⟨⟨_, rfl⟩, rfl⟩⟩⟩
    · cases e
      refine ax_catch (name := eISE) (i := 5) [⟨0, 61, 62, 28⟩] ⟨0, 61, 67, 31⟩ [] rfl (List.forall_mem_cons.mpr ⟨Or.inr ⟨by decide, eIAE, kl_L_28, by decide +kernel⟩, fun _ hz => by cases hz⟩) (by decide) (by decide) kl_L_31 cz_ISE dL_asks_67 (by decide) rfl ?_
      refine aw_ldc (z := -99999) dL_asks_69 cn_L_30 rfl ?_
      exact aw_iretW dL_asks_71 rfl rfl (by decide) (by decide) ⟨-99999, rfl, ⟨_, q0, Or.inr ⟨⟨_, rfl⟩, rfl⟩⟩⟩
    · cases e
set_option maxHeartbeats 4000000 in
set_option maxRecDepth 20000 in
theorem c_L_asks4 {K : WPar} {l : Launch} (hst : l.stackTraces = false) (M : Mem) {c : Int} (h : INV M c) (hc : c ≤ 512) (n : Int) (p : Int) (q : Int) (r_n : inR n) : CTL K l iL_asks [rV K 0 0, iV 4, iV (n), iV (p), iV (q)] M (rZm (fun z m => WR (Q_rowsForGroup M (n)) z m)) := by
  refine aw_metW [some (rV K 0 0), some (iV 4), some (iV (n)), some (iV (p)), some (iV (q)), none] hst (by decide) (Nat.le_of_ble_eq_true rfl) rfl rfl (lcat rfl) ?_
  refine aw_rng (fun hM => ?_)
  refine aw_iload_n dL_asks_0 rfl rfl ?_
  refine aw_if_ne (tgt := 15) dL_asks_1 (by decide) (by decide) (fun _ => ?_) (fun h => absurd h (by decide))
  refine aw_iload_n dL_asks_15 rfl rfl ?_
  refine aw_iconst dL_asks_16 ?_
  refine aw_icmp_ne (tgt := 29) dL_asks_17 (by decide) (by decide) (by decide) (fun _ => ?_) (fun h => absurd h (by decide))
  refine aw_iload_n dL_asks_29 rfl rfl ?_
  refine aw_iconst dL_asks_30 ?_
  refine aw_icmp_ne (tgt := 43) dL_asks_31 (by decide) (by decide) (by decide) (fun _ => ?_) (fun h => absurd h (by decide))
  refine aw_iload_n dL_asks_43 rfl rfl ?_
  refine aw_iconst dL_asks_44 ?_
  refine aw_icmp_ne (tgt := 56) dL_asks_45 (by decide) (by decide) (by decide) (fun _ => ?_) (fun h => absurd h (by decide))
  refine aw_aload_n dL_asks_56 rfl rfl ?_
  refine aw_iload_n dL_asks_57 rfl rfl ?_
  refine aw_callV (g := 0) (As := [iV (n)]) (rest := []) (c_X4_rowsForGroup hst M (n) r_n h.hw) cv_X4_rowsForGroup dL_asks_58 ml_L_25 rfl rfl rfl rfl rfl (Nat.le_of_ble_eq_true rfl) (by decide) (by decide) (fun r M1 q => ?_) (fun E M1 q => ?_)
  · have q0 := q
    rcases q with ⟨e, q1, hm⟩ | ⟨e, q1, hm⟩ | ⟨z, e, q1⟩
    · cases e
    · cases e
    · cases e
      exact aw_iretW dL_asks_61 rfl rfl (by decide) (by decide) ⟨z, rfl, ⟨_, q0, Or.inl ⟨z, rfl, rfl⟩⟩⟩
  · have q0 := q
    rcases q with ⟨e, q1, hm⟩ | ⟨e, q1, hm⟩ | ⟨z, e, q1⟩
    · cases e
      refine ax_catch (name := eIAE) (i := 5) [] ⟨0, 61, 62, 28⟩ [⟨0, 61, 67, 31⟩] rfl (fun _ hz => by cases hz) (by decide) (by decide) kl_L_28 cz_IAE dL_asks_62 (by decide) rfl ?_
      refine aw_ldc (z := -99999) dL_asks_64 cn_L_30 rfl ?_
      exact aw_iretW dL_asks_66 rfl rfl (by decide) (by decide) ⟨-99999, rfl, ⟨_, q0, Or.inr ⟨⟨_, rfl⟩, rfl⟩⟩⟩
    · cases e
      refine ax_catch (name := eISE) (i := 5) [⟨0, 61, 62, 28⟩] ⟨0, 61, 67, 31⟩ [] rfl (List.forall_mem_cons.mpr ⟨Or.inr ⟨by decide, eIAE, kl_L_28, by decide +kernel⟩, fun _ hz => by cases hz⟩) (by decide) (by decide) kl_L_31 cz_ISE dL_asks_67 (by decide) rfl ?_
      refine aw_ldc (z := -99999) dL_asks_69 cn_L_30 rfl ?_
      exact aw_iretW dL_asks_71 rfl rfl (by decide) (by decide) ⟨-99999, rfl, ⟨_, q0, Or.inr ⟨⟨_, rfl⟩, rfl⟩⟩⟩
    · cases e
set_option maxHeartbeats 4000000 in
set_option maxRecDepth 20000 in
theorem c_L_holdAt {K : WPar} {l : Launch} (hst : l.stackTraces = false) (M : Mem) {c : Int} (h : INV M c) (hc : c ≤ 512) (row : Int) (first : Int) (n : Int) (minutes : Int) (r_row : inR row) (r_first : inR first) (r_n : inR n) (r_minutes : inR minutes) : CTL K l iL_holdAt [rV K 0 0, iV (row), iV (first), iV (n), iV (minutes)] M (rZm (fun z m => WR (Q_holdAt M (row) (first) (n) (minutes)) z m)) := by
  refine aw_metW [some (rV K 0 0), some (iV (row)), some (iV (first)), some (iV (n)), some (iV (minutes)), none] hst (by decide) (Nat.le_of_ble_eq_true rfl) rfl rfl (lcat rfl) ?_
  refine aw_rng (fun hM => ?_)
  refine aw_aload_n dL_holdAt_0 rfl rfl ?_
  refine aw_iload_n dL_holdAt_1 rfl rfl ?_
  refine aw_iload_n dL_holdAt_2 rfl rfl ?_
  refine aw_iload_n dL_holdAt_3 rfl rfl ?_
  refine aw_iload dL_holdAt_4 rfl ?_
  refine aw_callV (g := 0) (As := [iV (row), iV (first), iV (n), iV (minutes)]) (rest := []) (c_X4_holdAt hst M (row) (first) (n) (minutes) r_row r_first r_n r_minutes h.hw h.bw (h.nowb hc)) cv_X4_holdAt dL_holdAt_6 ml_L_33 rfl rfl rfl rfl rfl (Nat.le_of_ble_eq_true rfl) (by decide) (by decide) (fun r M1 q => ?_) (fun E M1 q => ?_)
  · have q0 := q
    rcases q with ⟨e, q1, hm⟩ | ⟨e, q1, hm⟩ | ⟨e, q1, hm⟩ | ⟨z, e, q1⟩
    · cases e
    · cases e
    · cases e
    · cases e
      exact aw_iretW dL_holdAt_9 rfl rfl (by decide) (by decide) ⟨z, rfl, ⟨_, q0, Or.inl ⟨z, rfl, rfl⟩⟩⟩
  · have q0 := q
    rcases q with ⟨e, q1, hm⟩ | ⟨e, q1, hm⟩ | ⟨e, q1, hm⟩ | ⟨z, e, q1⟩
    · cases e
      refine ax_catch (name := eIOB) (i := 5) [] ⟨0, 9, 10, 37⟩ [⟨0, 9, 15, 28⟩, ⟨0, 9, 20, 31⟩] rfl (fun _ hz => by cases hz) (by decide) (by decide) kl_L_37 cz_IOB dL_holdAt_10 (by decide) rfl ?_
      refine aw_ldc (z := -99999) dL_holdAt_12 cn_L_30 rfl ?_
      exact aw_iretW dL_holdAt_14 rfl rfl (by decide) (by decide) ⟨-99999, rfl, ⟨_, q0, Or.inr ⟨⟨_, rfl⟩, rfl⟩⟩⟩
    · cases e
      refine ax_catch (name := eIAE) (i := 5) [⟨0, 9, 10, 37⟩] ⟨0, 9, 15, 28⟩ [⟨0, 9, 20, 31⟩] rfl (List.forall_mem_cons.mpr ⟨Or.inr ⟨by decide, eIOB, kl_L_37, by decide +kernel⟩, fun _ hz => by cases hz⟩) (by decide) (by decide) kl_L_28 cz_IAE dL_holdAt_15 (by decide) rfl ?_
      refine aw_ldc (z := -99999) dL_holdAt_17 cn_L_30 rfl ?_
      exact aw_iretW dL_holdAt_19 rfl rfl (by decide) (by decide) ⟨-99999, rfl, ⟨_, q0, Or.inr ⟨⟨_, rfl⟩, rfl⟩⟩⟩
    · cases e
      refine ax_catch (name := eISE) (i := 5) [⟨0, 9, 10, 37⟩, ⟨0, 9, 15, 28⟩] ⟨0, 9, 20, 31⟩ [] rfl (List.forall_mem_cons.mpr ⟨Or.inr ⟨by decide, eIOB, kl_L_37, by decide +kernel⟩, List.forall_mem_cons.mpr ⟨Or.inr ⟨by decide, eIAE, kl_L_28, by decide +kernel⟩, fun _ hz => by cases hz⟩⟩) (by decide) (by decide) kl_L_31 cz_ISE dL_holdAt_20 (by decide) rfl ?_
      refine aw_ldc (z := -99999) dL_holdAt_22 cn_L_30 rfl ?_
      exact aw_iretW dL_holdAt_24 rfl rfl (by decide) (by decide) ⟨-99999, rfl, ⟨_, q0, Or.inr ⟨⟨_, rfl⟩, rfl⟩⟩⟩
    · cases e
set_option maxHeartbeats 4000000 in
set_option maxRecDepth 20000 in
theorem c_L_toggles {K : WPar} {l : Launch} (hst : l.stackTraces = false) (M : Mem) {c : Int} (h : INV M c) (hc : c ≤ 512) (row : Int) (seat : Int) (r_row : inR row) (r_seat : inR seat) : CTL K l iL_toggles [rV K 0 0, iV (row), iV (seat)] M (rZm (fun z m => WR (Q_toggleBlocked M (row) (seat)) z m)) := by
  refine aw_metW [some (rV K 0 0), some (iV (row)), some (iV (seat)), none] hst (by decide) (Nat.le_of_ble_eq_true rfl) rfl rfl (lcat rfl) ?_
  refine aw_rng (fun hM => ?_)
  refine aw_aload_n dL_toggles_0 rfl rfl ?_
  refine aw_iload_n dL_toggles_1 rfl rfl ?_
  refine aw_iload_n dL_toggles_2 rfl rfl ?_
  refine aw_callV (g := 0) (As := [iV (row), iV (seat)]) (rest := []) (c_X4_toggleBlocked hst M (row) (seat) r_row r_seat h.hw) cv_X4_toggleBlocked dL_toggles_3 ml_L_39 rfl rfl rfl rfl rfl (Nat.le_of_ble_eq_true rfl) (by decide) (by decide) (fun r M1 q => ?_) (fun E M1 q => ?_)
  · have q0 := q
    rcases q with ⟨e, q1, hm⟩ | ⟨e, q1, hm⟩ | ⟨z, e, q1⟩
    · cases e
    · cases e
    · cases e
      have hz : z = 0 ∨ z = 1 := by
        rw [q1.2.2.1]; split
        · exact Or.inr rfl
        · exact Or.inl rfl
      refine aw_if_eq (tgt := 13) dL_toggles_6 (by decide) (by omega) (fun hq => ?_) (fun hq => ?_)
      · subst hq
        refine aw_iconst dL_toggles_13 ?_
        exact aw_iretW dL_toggles_14 rfl rfl (by decide) (by decide) ⟨0, rfl, ⟨_, q0, Or.inl ⟨0, rfl, rfl⟩⟩⟩
      · have hq1 : z = 1 := by omega
        subst hq1
        refine aw_iconst dL_toggles_9 ?_
        refine aw_goto (tgt := 14) dL_toggles_10 (by decide) ?_
        exact aw_iretW dL_toggles_14 rfl rfl (by decide) (by decide) ⟨1, rfl, ⟨_, q0, Or.inl ⟨1, rfl, rfl⟩⟩⟩
  · have q0 := q
    rcases q with ⟨e, q1, hm⟩ | ⟨e, q1, hm⟩ | ⟨z, e, q1⟩
    · cases e
      refine ax_catchn (name := eIOB) (i := 3) [] ⟨0, 14, 15, 37⟩ [⟨0, 14, 19, 31⟩] rfl (fun _ hz => by cases hz) (by decide) (by decide) kl_L_37 cz_IOB dL_toggles_15 rfl (by decide) rfl ?_
      refine aw_ldc (z := -99999) dL_toggles_16 cn_L_30 rfl ?_
      exact aw_iretW dL_toggles_18 rfl rfl (by decide) (by decide) ⟨-99999, rfl, ⟨_, q0, Or.inr ⟨⟨_, rfl⟩, rfl⟩⟩⟩
    · cases e
      refine ax_catchn (name := eISE) (i := 3) [⟨0, 14, 15, 37⟩] ⟨0, 14, 19, 31⟩ [] rfl (List.forall_mem_cons.mpr ⟨Or.inr ⟨by decide, eIOB, kl_L_37, by decide +kernel⟩, fun _ hz => by cases hz⟩) (by decide) (by decide) kl_L_31 cz_ISE dL_toggles_19 rfl (by decide) rfl ?_
      refine aw_ldc (z := -99999) dL_toggles_20 cn_L_30 rfl ?_
      exact aw_iretW dL_toggles_22 rfl rfl (by decide) (by decide) ⟨-99999, rfl, ⟨_, q0, Or.inr ⟨⟨_, rfl⟩, rfl⟩⟩⟩
    · cases e
set_option maxHeartbeats 4000000 in
set_option maxRecDepth 20000 in
theorem c_L_tends0 {K : WPar} {l : Launch} (hst : l.stackTraces = false) (M : Mem) {c : Int} (h : INV M c) (hc : c ≤ 512) (ticket : Int) (a : Int) (r_ticket : inR ticket) (r_a : inR a) : CTL K l iL_tends [rV K 0 0, iV 0, iV (ticket), iV (a)] M (rZm (fun z m => WR (Q_extend M (ticket) (a)) z m)) := by
  refine aw_metW [some (rV K 0 0), some (iV 0), some (iV (ticket)), some (iV (a)), none] hst (by decide) (Nat.le_of_ble_eq_true rfl) rfl rfl (lcat rfl) ?_
  refine aw_rng (fun hM => ?_)
  refine aw_iload_n dL_tends_0 rfl rfl ?_
  refine aw_if_ne (tgt := 13) dL_tends_1 (by decide) (by decide) (fun h => absurd h (by decide)) (fun _ => ?_)
  refine aw_aload_n dL_tends_4 rfl rfl ?_
  refine aw_iload_n dL_tends_5 rfl rfl ?_
  refine aw_iload_n dL_tends_6 rfl rfl ?_
  refine aw_callV (g := 0) (As := [iV (ticket), iV (a)]) (rest := []) (c_X4_extend hst M (ticket) (a) r_ticket r_a h.bw (h.nowb hc)) cv_X4_extend dL_tends_7 ml_L_43 rfl rfl rfl rfl rfl (Nat.le_of_ble_eq_true rfl) (by decide) (by decide) (fun r M1 q => ?_) (fun E M1 q => ?_)
  · have q0 := q
    rcases q with ⟨e, q1, hm⟩ | ⟨e, q1, hm⟩ | ⟨e, q1, hm⟩ | ⟨z, e, q1⟩
    · cases e
    · cases e
    · cases e
    · cases e
      refine aw_goto (tgt := 71) dL_tends_10 (by decide) ?_
      exact aw_iretW dL_tends_71 rfl rfl (by decide) (by decide) ⟨z, rfl, ⟨_, q0, Or.inl ⟨z, rfl, rfl⟩⟩⟩
  · have q0 := q
    rcases q with ⟨e, q1, hm⟩ | ⟨e, q1, hm⟩ | ⟨e, q1, hm⟩ | ⟨z, e, q1⟩
    · cases e
      refine ax_catch (name := eIOB) (i := 4) [] ⟨0, 71, 72, 37⟩ [⟨0, 71, 77, 28⟩, ⟨0, 71, 82, 31⟩] rfl (fun _ hz => by cases hz) (by decide) (by decide) kl_L_37 cz_IOB dL_tends_72 (by decide) rfl ?_
      refine aw_ldc (z := -99999) dL_tends_74 cn_L_30 rfl ?_
      exact aw_iretW dL_tends_76 rfl rfl (by decide) (by decide) ⟨-99999, rfl, ⟨_, q0, Or.inr ⟨⟨_, rfl⟩, rfl⟩⟩⟩
    · cases e
      refine ax_catch (name := eIAE) (i := 4) [⟨0, 71, 72, 37⟩] ⟨0, 71, 77, 28⟩ [⟨0, 71, 82, 31⟩] rfl (List.forall_mem_cons.mpr ⟨Or.inr ⟨by decide, eIOB, kl_L_37, by decide +kernel⟩, fun _ hz => by cases hz⟩) (by decide) (by decide) kl_L_28 cz_IAE dL_tends_77 (by decide) rfl ?_
      refine aw_ldc (z := -99999) dL_tends_79 cn_L_30 rfl ?_
      exact aw_iretW dL_tends_81 rfl rfl (by decide) (by decide) ⟨-99999, rfl, ⟨_, q0, Or.inr ⟨⟨_, rfl⟩, rfl⟩⟩⟩
    · cases e
      refine ax_catch (name := eISE) (i := 4) [⟨0, 71, 72, 37⟩, ⟨0, 71, 77, 28⟩] ⟨0, 71, 82, 31⟩ [] rfl (List.forall_mem_cons.mpr ⟨Or.inr ⟨by decide, eIOB, kl_L_37, by decide +kernel⟩, List.forall_mem_cons.mpr ⟨Or.inr ⟨by decide, eIAE, kl_L_28, by decide +kernel⟩, fun _ hz => by cases hz⟩⟩) (by decide) (by decide) kl_L_31 cz_ISE dL_tends_82 (by decide) rfl ?_
      refine aw_ldc (z := -99999) dL_tends_84 cn_L_30 rfl ?_
      exact aw_iretW dL_tends_86 rfl rfl (by decide) (by decide) ⟨-99999, rfl, ⟨_, q0, Or.inr ⟨⟨_, rfl⟩, rfl⟩⟩⟩
    · cases e
set_option maxHeartbeats 4000000 in
set_option maxRecDepth 20000 in
theorem c_L_tends1 {K : WPar} {l : Launch} (hst : l.stackTraces = false) (M : Mem) {c : Int} (h : INV M c) (hc : c ≤ 512) (ticket : Int) (a : Int) (r_ticket : inR ticket) : CTL K l iL_tends [rV K 0 0, iV 1, iV (ticket), iV (a)] M (rZm (fun z m => WR (Q_pay M (ticket)) z m)) := by
  refine aw_metW [some (rV K 0 0), some (iV 1), some (iV (ticket)), some (iV (a)), none] hst (by decide) (Nat.le_of_ble_eq_true rfl) rfl rfl (lcat rfl) ?_
  refine aw_rng (fun hM => ?_)
  refine aw_iload_n dL_tends_0 rfl rfl ?_
  refine aw_if_ne (tgt := 13) dL_tends_1 (by decide) (by decide) (fun _ => ?_) (fun h => absurd h (by decide))
  refine aw_iload_n dL_tends_13 rfl rfl ?_
  refine aw_iconst dL_tends_14 ?_
  refine aw_icmp_ne (tgt := 26) dL_tends_15 (by decide) (by decide) (by decide) (fun h => absurd h (by decide)) (fun _ => ?_)
  refine aw_aload_n dL_tends_18 rfl rfl ?_
  refine aw_iload_n dL_tends_19 rfl rfl ?_
  refine aw_callV (g := 0) (As := [iV (ticket)]) (rest := []) (c_X4_pay hst M (ticket) r_ticket h.hw h.bw (h.balb hc)) cv_X4_pay dL_tends_20 ml_L_46 rfl rfl rfl rfl rfl (Nat.le_of_ble_eq_true rfl) (by decide) (by decide) (fun r M1 q => ?_) (fun E M1 q => ?_)
  · have q0 := q
    rcases q with ⟨e, q1, hm⟩ | ⟨e, q1, hm⟩ | ⟨z, e, q1⟩
    · cases e
    · cases e
    · cases e
      refine aw_goto (tgt := 71) dL_tends_23 (by decide) ?_
      exact aw_iretW dL_tends_71 rfl rfl (by decide) (by decide) ⟨z, rfl, ⟨_, q0, Or.inl ⟨z, rfl, rfl⟩⟩⟩
  · have q0 := q
    rcases q with ⟨e, q1, hm⟩ | ⟨e, q1, hm⟩ | ⟨z, e, q1⟩
    · cases e
      refine ax_catch (name := eIOB) (i := 4) [] ⟨0, 71, 72, 37⟩ [⟨0, 71, 77, 28⟩, ⟨0, 71, 82, 31⟩] rfl (fun _ hz => by cases hz) (by decide) (by decide) kl_L_37 cz_IOB dL_tends_72 (by decide) rfl ?_
      refine aw_ldc (z := -99999) dL_tends_74 cn_L_30 rfl ?_
      exact aw_iretW dL_tends_76 rfl rfl (by decide) (by decide) ⟨-99999, rfl, ⟨_, q0, Or.inr ⟨⟨_, rfl⟩, rfl⟩⟩⟩
    · cases e
      refine ax_catch (name := eISE) (i := 4) [⟨0, 71, 72, 37⟩, ⟨0, 71, 77, 28⟩] ⟨0, 71, 82, 31⟩ [] rfl (List.forall_mem_cons.mpr ⟨Or.inr ⟨by decide, eIOB, kl_L_37, by decide +kernel⟩, List.forall_mem_cons.mpr ⟨Or.inr ⟨by decide, eIAE, kl_L_28, by decide +kernel⟩, fun _ hz => by cases hz⟩⟩) (by decide) (by decide) kl_L_31 cz_ISE dL_tends_82 (by decide) rfl ?_
      refine aw_ldc (z := -99999) dL_tends_84 cn_L_30 rfl ?_
      exact aw_iretW dL_tends_86 rfl rfl (by decide) (by decide) ⟨-99999, rfl, ⟨_, q0, Or.inr ⟨⟨_, rfl⟩, rfl⟩⟩⟩
    · cases e
set_option maxHeartbeats 4000000 in
set_option maxRecDepth 20000 in
theorem c_L_tends2 {K : WPar} {l : Launch} (hst : l.stackTraces = false) (M : Mem) {c : Int} (h : INV M c) (hc : c ≤ 512) (ticket : Int) (a : Int) (r_ticket : inR ticket) : CTL K l iL_tends [rV K 0 0, iV 2, iV (ticket), iV (a)] M (rZm (fun z m => WR (Q_cancel M (ticket)) z m)) := by
  refine aw_metW [some (rV K 0 0), some (iV 2), some (iV (ticket)), some (iV (a)), none] hst (by decide) (Nat.le_of_ble_eq_true rfl) rfl rfl (lcat rfl) ?_
  refine aw_rng (fun hM => ?_)
  refine aw_iload_n dL_tends_0 rfl rfl ?_
  refine aw_if_ne (tgt := 13) dL_tends_1 (by decide) (by decide) (fun _ => ?_) (fun h => absurd h (by decide))
  refine aw_iload_n dL_tends_13 rfl rfl ?_
  refine aw_iconst dL_tends_14 ?_
  refine aw_icmp_ne (tgt := 26) dL_tends_15 (by decide) (by decide) (by decide) (fun _ => ?_) (fun h => absurd h (by decide))
  refine aw_iload_n dL_tends_26 rfl rfl ?_
  refine aw_iconst dL_tends_27 ?_
  refine aw_icmp_ne (tgt := 39) dL_tends_28 (by decide) (by decide) (by decide) (fun h => absurd h (by decide)) (fun _ => ?_)
  refine aw_aload_n dL_tends_31 rfl rfl ?_
  refine aw_iload_n dL_tends_32 rfl rfl ?_
  refine aw_callV (g := 0) (As := [iV (ticket)]) (rest := []) (c_X4_cancel hst M (ticket) r_ticket h.hw h.bw (h.balb hc) (h.pd _)) cv_X4_cancel dL_tends_33 ml_L_49 rfl rfl rfl rfl rfl (Nat.le_of_ble_eq_true rfl) (by decide) (by decide) (fun r M1 q => ?_) (fun E M1 q => ?_)
  · have q0 := q
    rcases q with ⟨e, q1, hm⟩ | ⟨e, q1, hm⟩ | ⟨z, e, q1⟩
    · cases e
    · cases e
    · cases e
      refine aw_goto (tgt := 71) dL_tends_36 (by decide) ?_
      exact aw_iretW dL_tends_71 rfl rfl (by decide) (by decide) ⟨z, rfl, ⟨_, q0, Or.inl ⟨z, rfl, rfl⟩⟩⟩
  · have q0 := q
    rcases q with ⟨e, q1, hm⟩ | ⟨e, q1, hm⟩ | ⟨z, e, q1⟩
    · cases e
      refine ax_catch (name := eIOB) (i := 4) [] ⟨0, 71, 72, 37⟩ [⟨0, 71, 77, 28⟩, ⟨0, 71, 82, 31⟩] rfl (fun _ hz => by cases hz) (by decide) (by decide) kl_L_37 cz_IOB dL_tends_72 (by decide) rfl ?_
      refine aw_ldc (z := -99999) dL_tends_74 cn_L_30 rfl ?_
      exact aw_iretW dL_tends_76 rfl rfl (by decide) (by decide) ⟨-99999, rfl, ⟨_, q0, Or.inr ⟨⟨_, rfl⟩, rfl⟩⟩⟩
    · cases e
      refine ax_catch (name := eISE) (i := 4) [⟨0, 71, 72, 37⟩, ⟨0, 71, 77, 28⟩] ⟨0, 71, 82, 31⟩ [] rfl (List.forall_mem_cons.mpr ⟨Or.inr ⟨by decide, eIOB, kl_L_37, by decide +kernel⟩, List.forall_mem_cons.mpr ⟨Or.inr ⟨by decide, eIAE, kl_L_28, by decide +kernel⟩, fun _ hz => by cases hz⟩⟩) (by decide) (by decide) kl_L_31 cz_ISE dL_tends_82 (by decide) rfl ?_
      refine aw_ldc (z := -99999) dL_tends_84 cn_L_30 rfl ?_
      exact aw_iretW dL_tends_86 rfl rfl (by decide) (by decide) ⟨-99999, rfl, ⟨_, q0, Or.inr ⟨⟨_, rfl⟩, rfl⟩⟩⟩
    · cases e
set_option maxHeartbeats 4000000 in
set_option maxRecDepth 20000 in
theorem c_L_tends3 {K : WPar} {l : Launch} (hst : l.stackTraces = false) (M : Mem) {c : Int} (h : INV M c) (hc : c ≤ 512) (ticket : Int) (a : Int) (r_ticket : inR ticket) (r_a : inR a) : CTL K l iL_tends [rV K 0 0, iV 3, iV (ticket), iV (a)] M (rZm (fun z m => WR (Q_wish M (ticket) (a)) z m)) := by
  refine aw_metW [some (rV K 0 0), some (iV 3), some (iV (ticket)), some (iV (a)), none] hst (by decide) (Nat.le_of_ble_eq_true rfl) rfl rfl (lcat rfl) ?_
  refine aw_rng (fun hM => ?_)
  refine aw_iload_n dL_tends_0 rfl rfl ?_
  refine aw_if_ne (tgt := 13) dL_tends_1 (by decide) (by decide) (fun _ => ?_) (fun h => absurd h (by decide))
  refine aw_iload_n dL_tends_13 rfl rfl ?_
  refine aw_iconst dL_tends_14 ?_
  refine aw_icmp_ne (tgt := 26) dL_tends_15 (by decide) (by decide) (by decide) (fun _ => ?_) (fun h => absurd h (by decide))
  refine aw_iload_n dL_tends_26 rfl rfl ?_
  refine aw_iconst dL_tends_27 ?_
  refine aw_icmp_ne (tgt := 39) dL_tends_28 (by decide) (by decide) (by decide) (fun _ => ?_) (fun h => absurd h (by decide))
  refine aw_iload_n dL_tends_39 rfl rfl ?_
  refine aw_iconst dL_tends_40 ?_
  refine aw_icmp_ne (tgt := 53) dL_tends_41 (by decide) (by decide) (by decide) (fun h => absurd h (by decide)) (fun _ => ?_)
  refine aw_aload_n dL_tends_44 rfl rfl ?_
  refine aw_iload_n dL_tends_45 rfl rfl ?_
  refine aw_iload_n dL_tends_46 rfl rfl ?_
  refine aw_callV (g := 0) (As := [iV (ticket), iV (a)]) (rest := []) (c_X4_wish hst M (ticket) (a) r_ticket r_a h.hw h.bw) cv_X4_wish dL_tends_47 ml_L_52 rfl rfl rfl rfl rfl (Nat.le_of_ble_eq_true rfl) (by decide) (by decide) (fun r M1 q => ?_) (fun E M1 q => ?_)
  · have q0 := q
    rcases q with ⟨e, q1, hm⟩ | ⟨e, q1, hm⟩ | ⟨z, e, q1⟩
    · cases e
    · cases e
    · cases e
      refine aw_goto (tgt := 71) dL_tends_50 (by decide) ?_
      exact aw_iretW dL_tends_71 rfl rfl (by decide) (by decide) ⟨z, rfl, ⟨_, q0, Or.inl ⟨z, rfl, rfl⟩⟩⟩
  · have q0 := q
    rcases q with ⟨e, q1, hm⟩ | ⟨e, q1, hm⟩ | ⟨z, e, q1⟩
    · cases e
      refine ax_catch (name := eIOB) (i := 4) [] ⟨0, 71, 72, 37⟩ [⟨0, 71, 77, 28⟩, ⟨0, 71, 82, 31⟩] rfl (fun _ hz => by cases hz) (by decide) (by decide) kl_L_37 cz_IOB dL_tends_72 (by decide) rfl ?_
      refine aw_ldc (z := -99999) dL_tends_74 cn_L_30 rfl ?_
      exact aw_iretW dL_tends_76 rfl rfl (by decide) (by decide) ⟨-99999, rfl, ⟨_, q0, Or.inr ⟨⟨_, rfl⟩, rfl⟩⟩⟩
    · cases e
      refine ax_catch (name := eISE) (i := 4) [⟨0, 71, 72, 37⟩, ⟨0, 71, 77, 28⟩] ⟨0, 71, 82, 31⟩ [] rfl (List.forall_mem_cons.mpr ⟨Or.inr ⟨by decide, eIOB, kl_L_37, by decide +kernel⟩, List.forall_mem_cons.mpr ⟨Or.inr ⟨by decide, eIAE, kl_L_28, by decide +kernel⟩, fun _ hz => by cases hz⟩⟩) (by decide) (by decide) kl_L_31 cz_ISE dL_tends_82 (by decide) rfl ?_
      refine aw_ldc (z := -99999) dL_tends_84 cn_L_30 rfl ?_
      exact aw_iretW dL_tends_86 rfl rfl (by decide) (by decide) ⟨-99999, rfl, ⟨_, q0, Or.inr ⟨⟨_, rfl⟩, rfl⟩⟩⟩
    · cases e
set_option maxHeartbeats 4000000 in
set_option maxRecDepth 20000 in
theorem c_L_tends4 {K : WPar} {l : Launch} (hst : l.stackTraces = false) (M : Mem) {c : Int} (h : INV M c) (hc : c ≤ 512) (ticket : Int) (a : Int) (r_ticket : inR ticket) : CTL K l iL_tends [rV K 0 0, iV 4, iV (ticket), iV (a)] M (rZm (fun z m => WR (Q_exchange M (ticket)) z m)) := by
  refine aw_metW [some (rV K 0 0), some (iV 4), some (iV (ticket)), some (iV (a)), none] hst (by decide) (Nat.le_of_ble_eq_true rfl) rfl rfl (lcat rfl) ?_
  refine aw_rng (fun hM => ?_)
  refine aw_iload_n dL_tends_0 rfl rfl ?_
  refine aw_if_ne (tgt := 13) dL_tends_1 (by decide) (by decide) (fun _ => ?_) (fun h => absurd h (by decide))
  refine aw_iload_n dL_tends_13 rfl rfl ?_
  refine aw_iconst dL_tends_14 ?_
  refine aw_icmp_ne (tgt := 26) dL_tends_15 (by decide) (by decide) (by decide) (fun _ => ?_) (fun h => absurd h (by decide))
  refine aw_iload_n dL_tends_26 rfl rfl ?_
  refine aw_iconst dL_tends_27 ?_
  refine aw_icmp_ne (tgt := 39) dL_tends_28 (by decide) (by decide) (by decide) (fun _ => ?_) (fun h => absurd h (by decide))
  refine aw_iload_n dL_tends_39 rfl rfl ?_
  refine aw_iconst dL_tends_40 ?_
  refine aw_icmp_ne (tgt := 53) dL_tends_41 (by decide) (by decide) (by decide) (fun _ => ?_) (fun h => absurd h (by decide))
  refine aw_iload_n dL_tends_53 rfl rfl ?_
  refine aw_iconst dL_tends_54 ?_
  refine aw_icmp_ne (tgt := 66) dL_tends_55 (by decide) (by decide) (by decide) (fun h => absurd h (by decide)) (fun _ => ?_)
  refine aw_aload_n dL_tends_58 rfl rfl ?_
  refine aw_iload_n dL_tends_59 rfl rfl ?_
  refine aw_callV (g := 0) (As := [iV (ticket)]) (rest := []) (c_X4_exchange hst M (ticket) r_ticket h.hw h.bw h.xw h.vpl) cv_X4_exchange dL_tends_60 ml_L_55 rfl rfl rfl rfl rfl (Nat.le_of_ble_eq_true rfl) (by decide) (by decide) (fun r M1 q => ?_) (fun E M1 q => ?_)
  · have q0 := q
    rcases q with ⟨e, q1, hm⟩ | ⟨e, q1, hm⟩ | ⟨z, e, q1⟩
    · cases e
    · cases e
    · cases e
      refine aw_goto (tgt := 71) dL_tends_63 (by decide) ?_
      exact aw_iretW dL_tends_71 rfl rfl (by decide) (by decide) ⟨z, rfl, ⟨_, q0, Or.inl ⟨z, rfl, rfl⟩⟩⟩
  · have q0 := q
    rcases q with ⟨e, q1, hm⟩ | ⟨e, q1, hm⟩ | ⟨z, e, q1⟩
    · cases e
      refine ax_catch (name := eIOB) (i := 4) [] ⟨0, 71, 72, 37⟩ [⟨0, 71, 77, 28⟩, ⟨0, 71, 82, 31⟩] rfl (fun _ hz => by cases hz) (by decide) (by decide) kl_L_37 cz_IOB dL_tends_72 (by decide) rfl ?_
      refine aw_ldc (z := -99999) dL_tends_74 cn_L_30 rfl ?_
      exact aw_iretW dL_tends_76 rfl rfl (by decide) (by decide) ⟨-99999, rfl, ⟨_, q0, Or.inr ⟨⟨_, rfl⟩, rfl⟩⟩⟩
    · cases e
      refine ax_catch (name := eISE) (i := 4) [⟨0, 71, 72, 37⟩, ⟨0, 71, 77, 28⟩] ⟨0, 71, 82, 31⟩ [] rfl (List.forall_mem_cons.mpr ⟨Or.inr ⟨by decide, eIOB, kl_L_37, by decide +kernel⟩, List.forall_mem_cons.mpr ⟨Or.inr ⟨by decide, eIAE, kl_L_28, by decide +kernel⟩, fun _ hz => by cases hz⟩⟩) (by decide) (by decide) kl_L_31 cz_ISE dL_tends_82 (by decide) rfl ?_
      refine aw_ldc (z := -99999) dL_tends_84 cn_L_30 rfl ?_
      exact aw_iretW dL_tends_86 rfl rfl (by decide) (by decide) ⟨-99999, rfl, ⟨_, q0, Or.inr ⟨⟨_, rfl⟩, rfl⟩⟩⟩
    · cases e
set_option maxHeartbeats 4000000 in
set_option maxRecDepth 20000 in
theorem c_L_tends5 {K : WPar} {l : Launch} (hst : l.stackTraces = false) (M : Mem) {c : Int} (h : INV M c) (hc : c ≤ 512) (ticket : Int) (a : Int) (r_a : inR a) : CTL K l iL_tends [rV K 0 0, iV 5, iV (ticket), iV (a)] M (rZm (fun z m => WR (Q_pass M (a)) z m)) := by
  refine aw_metW [some (rV K 0 0), some (iV 5), some (iV (ticket)), some (iV (a)), none] hst (by decide) (Nat.le_of_ble_eq_true rfl) rfl rfl (lcat rfl) ?_
  refine aw_rng (fun hM => ?_)
  refine aw_iload_n dL_tends_0 rfl rfl ?_
  refine aw_if_ne (tgt := 13) dL_tends_1 (by decide) (by decide) (fun _ => ?_) (fun h => absurd h (by decide))
  refine aw_iload_n dL_tends_13 rfl rfl ?_
  refine aw_iconst dL_tends_14 ?_
  refine aw_icmp_ne (tgt := 26) dL_tends_15 (by decide) (by decide) (by decide) (fun _ => ?_) (fun h => absurd h (by decide))
  refine aw_iload_n dL_tends_26 rfl rfl ?_
  refine aw_iconst dL_tends_27 ?_
  refine aw_icmp_ne (tgt := 39) dL_tends_28 (by decide) (by decide) (by decide) (fun _ => ?_) (fun h => absurd h (by decide))
  refine aw_iload_n dL_tends_39 rfl rfl ?_
  refine aw_iconst dL_tends_40 ?_
  refine aw_icmp_ne (tgt := 53) dL_tends_41 (by decide) (by decide) (by decide) (fun _ => ?_) (fun h => absurd h (by decide))
  refine aw_iload_n dL_tends_53 rfl rfl ?_
  refine aw_iconst dL_tends_54 ?_
  refine aw_icmp_ne (tgt := 66) dL_tends_55 (by decide) (by decide) (by decide) (fun _ => ?_) (fun h => absurd h (by decide))
  refine aw_aload_n dL_tends_66 rfl rfl ?_
  refine aw_iload_n dL_tends_67 rfl rfl ?_
  refine aw_callV (g := 0) (As := [iV (a)]) (rest := []) (c_X4_pass hst M (a) r_a h.hw h.bw (h.nowb hc)) cv_X4_pass dL_tends_68 ml_L_58 rfl rfl rfl rfl rfl (Nat.le_of_ble_eq_true rfl) (by decide) (by decide) (fun r M1 q => ?_) (fun E M1 q => ?_)
  · have q0 := q
    rcases q with ⟨e, q1, hm⟩ | ⟨z, e, q1⟩
    · cases e
    · cases e
      exact aw_iretW dL_tends_71 rfl rfl (by decide) (by decide) ⟨z, rfl, ⟨_, q0, Or.inl ⟨z, rfl, rfl⟩⟩⟩
  · have q0 := q
    rcases q with ⟨e, q1, hm⟩ | ⟨z, e, q1⟩
    · cases e
      refine ax_catch (name := eIAE) (i := 4) [⟨0, 71, 72, 37⟩] ⟨0, 71, 77, 28⟩ [⟨0, 71, 82, 31⟩] rfl (List.forall_mem_cons.mpr ⟨Or.inr ⟨by decide, eIOB, kl_L_37, by decide +kernel⟩, fun _ hz => by cases hz⟩) (by decide) (by decide) kl_L_28 cz_IAE dL_tends_77 (by decide) rfl ?_
      refine aw_ldc (z := -99999) dL_tends_79 cn_L_30 rfl ?_
      exact aw_iretW dL_tends_81 rfl rfl (by decide) (by decide) ⟨-99999, rfl, ⟨_, q0, Or.inr ⟨⟨_, rfl⟩, rfl⟩⟩⟩
    · cases e
set_option maxHeartbeats 4000000 in
set_option maxRecDepth 20000 in
theorem c_L_nextExpiry {K : WPar} {l : Launch} (hst : l.stackTraces = false) (M : Mem) {c : Int} (h : INV M c) (hc : c ≤ 512) : CTL K l iL_nextExpiry [rV K 0 0] M (rZm (fun z m => WR (Q_nextExpiry M) z m)) := by
  refine aw_metW [some (rV K 0 0), none] hst (by decide) (Nat.le_of_ble_eq_true rfl) rfl rfl (lcat rfl) ?_
  refine aw_rng (fun hM => ?_)
  refine aw_aload_n dL_nextExpiry_0 rfl rfl ?_
  refine aw_callV (g := 0) (As := []) (rest := []) (c_X4_nextExpiry hst M h.bw h.en) cv_X4_nextExpiry dL_nextExpiry_1 ml_L_61 rfl rfl rfl rfl rfl (Nat.le_of_ble_eq_true rfl) (by decide) (by decide) (fun r M1 q => ?_) (fun E M1 q => ?_)
  · have q0 := q
    rcases q with ⟨e, q1, hm⟩ | ⟨z, e, q1⟩
    · cases e
    · cases e
      exact aw_iretW dL_nextExpiry_4 rfl rfl (by decide) (by decide) ⟨z, rfl, ⟨_, q0, Or.inl ⟨z, rfl, rfl⟩⟩⟩
  · have q0 := q
    rcases q with ⟨e, q1, hm⟩ | ⟨z, e, q1⟩
    · cases e
      refine ax_catchn (name := eISE) (i := 1) [] ⟨0, 4, 5, 31⟩ [] rfl (fun _ hz => by cases hz) (by decide) (by decide) kl_L_31 cz_ISE dL_nextExpiry_5 rfl (by decide) rfl ?_
      refine aw_ldc (z := -99999) dL_nextExpiry_6 cn_L_30 rfl ?_
      exact aw_iretW dL_nextExpiry_8 rfl rfl (by decide) (by decide) ⟨-99999, rfl, ⟨_, q0, Or.inr ⟨⟨_, rfl⟩, rfl⟩⟩⟩
    · cases e
set_option maxHeartbeats 4000000 in
set_option maxRecDepth 20000 in
theorem c_L_isSeat {K : WPar} {l : Launch} (hst : l.stackTraces = false) (M : Mem) {c : Int} (h : INV M c) (hc : c ≤ 512) (row : Int) (seat : Int) (r_row : inR row) (r_seat : inR seat) (hv : 0 ≤ row ∧ row < M 1 0 4) (hs : 0 ≤ seat) : CTL K l iL_isSeat [rV K 0 0, iV (row), iV (seat)] M (rI (if seat < M 2 0 row then 1 else 0) M) := by
  refine aw_metW [some (rV K 0 0), some (iV (row)), some (iV (seat)), none] hst (by decide) (Nat.le_of_ble_eq_true rfl) rfl rfl (lcat rfl) ?_
  refine aw_rng (fun hM => ?_)
  refine aw_aload_n dL_isSeat_0 rfl rfl ?_
  refine aw_iload_n dL_isSeat_1 rfl rfl ?_
  refine aw_iload_n dL_isSeat_2 rfl rfl ?_
  refine aw_callV (g := 0) (As := [iV (row), iV (seat)]) (rest := []) (c_X4_state hst M (row) (seat) r_row r_seat h.hw h.bw h.vo) cv_X4_state dL_isSeat_3 ml_L_111 rfl rfl rfl rfl rfl (Nat.le_of_ble_eq_true rfl) (by decide) (by decide) (fun r M1 q => ?_) (fun E M1 q => ?_)
  · have q0 := q
    rcases q with ⟨e, q1, hm⟩ | ⟨z, e, q1⟩
    · cases e
    · cases e
      have hz : 0 ≤ z ∧ z ≤ 3 := by
        rw [q1.2.1]
        repeat' split
        all_goals decide
      refine aw_if_lt (tgt := 13) dL_isSeat_6 (by decide) (by omega) (fun hq => absurd hq (by omega)) (fun hq => ?_)
      refine aw_iconst dL_isSeat_9 ?_
      refine aw_goto (tgt := 14) dL_isSeat_10 (by decide) ?_
      exact aw_iretW dL_isSeat_14 rfl rfl (by decide) (by decide) ⟨by rw [if_pos q1.1.2.2.2], q1.2.2⟩
  · have q0 := q
    rcases q with ⟨e, q1, hm⟩ | ⟨z, e, q1⟩
    · cases e
      refine ax_catchn (name := eIOB) (i := 3) [] ⟨0, 14, 15, 37⟩ [] rfl (fun _ hz => by cases hz) (by decide) (by decide) kl_L_37 cz_IOB dL_isSeat_15 rfl (by decide) rfl ?_
      refine aw_iconst dL_isSeat_16 ?_
      exact aw_iretW dL_isSeat_17 rfl rfl (by decide) (by decide) ⟨by rw [if_neg (fun y => q1 ⟨hv.1, hv.2, hs, y⟩)], hm⟩
    · cases e
