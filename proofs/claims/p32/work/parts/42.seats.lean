/-! seats and tickets of one mind -/
theorem vS_sym (sc w s : Int) : vS sc w s = vS sc w (w - 1 - s) := by
  unfold vS
  split <;> split <;> omega
theorem orC_n {w s : Int} {o : Int → Int} (h : o s ≠ 0) : orC w o s = 0 := if_neg (fun q => h q.1.2.2)
theorem orC_l {w s r : Int} {o : Int → Int} (s1 : s < w) (hr : isRun o s r) (h : r ≠ 0) : orC w o s = 0 := by
  refine if_neg (fun q => q.2.1 ⟨?_, by omega, ?_⟩)
  · have := hr.1; have := hr.2.1; omega
  · have a := hr.1
    have b := hr.2.1
    exact hr.2.2.1 (s - 1) (by omega) (by omega)
theorem orC_r {w s : Int} {o : Int → Int} (s0 : 0 ≤ s) (s1 : s + 1 < w) (h : o (s + 1) = 0) : orC w o s = 0 := if_neg (fun q => q.2.2 ⟨by omega, s1, h⟩)
theorem orC_y {w s : Int} {o : Int → Int} (s0 : 0 ≤ s) (s1 : s < w) (h : o s = 0) (hr : isRun o s 0) (hn : s + 1 = w ∨ o (s + 1) ≠ 0) : orC w o s = 1 := by
  refine if_pos ⟨⟨s0, s1, h⟩, fun q => ?_, fun q => ?_⟩
  · rcases hr.2.2.2 with e | e
    · have := q.1; omega
    · rw [show s - 0 - 1 = s - 1 by omega] at e
      exact e q.2.2
  · rcases hn with e | e
    · have := q.2.1; omega
    · exact e q.2.2
theorem ne_ends {M m : Mem} {z : Int} (he : ENDS M) (q : WR (Q_nextExpiry M) z m) : z = -99999 ∨ (M 0 0 4 < z ∧ z ≤ M 0 0 4 + 200) := by
  obtain ⟨o, q, w⟩ := q
  rcases q with ⟨rfl, _, _⟩ | ⟨y, rfl, q1, q2, _⟩
  · rcases w with ⟨a, e, _⟩ | ⟨_, e⟩
    · cases e
    · exact Or.inl e
  · rcases w with ⟨a, e, e2⟩ | ⟨⟨E, e⟩, _⟩
    · have : y = a := by simpa using e
      subst this
      rcases q1 with ⟨x, _⟩ | ⟨_, ⟨t, t1, t2, t3, t4⟩, _⟩
      · exact absurd x q2
      · have := he t t1 t2 t3
        omega
    · cases e
def orR (M : Mem) (r : Int) : Int := sumI (orC (M 2 0 r) (M 6 r)) (M 2 0 r)
theorem so_0 {M : Mem} {t : Int} (o : 2 ≤ M 8 0 t) : soM M t = 0 := if_neg (by omega)
theorem so_1 {M : Mem} {c t : Int} (h : INV M c) (t1 : 1 ≤ t) (t2 : t ≤ M 7 0 8) (o : ¬ 2 ≤ M 8 0 t) : 1 ≤ soM M t := by
  have ti := (h.2.1.2 t t1 t2).1
  unfold soM
  rw [if_pos (by omega)]
  exact h.size t1 t2 (by omega)
theorem so_r {M : Mem} {t : Int} (hM : ∀ g i j, inR (M g i j)) : inR (soM M t) := by
  unfold soM
  split
  · exact hM 9 0 t
  · decide
theorem stV_b {M : Mem} {r s : Int} (h : M 6 r s = -1) : stV M r s = 3 := by
  unfold stV
  rw [if_neg (by omega), if_pos h]
theorem stV_h {M : Mem} {r s : Int} (h : 1 ≤ M 6 r s) (h2 : M 8 0 (M 6 r s) = 0) : stV M r s = 1 := by
  unfold stV
  rw [if_neg (by omega), if_neg (by omega), if_pos h2]
theorem stV_s {M : Mem} {r s : Int} (h : 1 ≤ M 6 r s) (h2 : M 8 0 (M 6 r s) = 1) : stV M r s = 2 := by
  unfold stV
  rw [if_neg (by omega), if_neg (by omega), if_neg (by omega)]
theorem INV.kind {M : Mem} {c : Int} (h : INV M c) {r s : Int} (r0 : 0 ≤ r) (r1 : r < M 1 0 4) (s0 : 0 ≤ s) (s1 : s < M 2 0 r) : M 6 r s = 0 ∨ M 6 r s = -1 ∨ ((1 ≤ M 6 r s ∧ M 8 0 (M 6 r s) = 0) ∧ M 6 r s ≤ M 7 0 8) ∨ ((1 ≤ M 6 r s ∧ M 8 0 (M 6 r s) = 1) ∧ M 6 r s ≤ M 7 0 8) := by
  rcases h.seat r0 r1 s0 s1 with q | q | q
  · exact Or.inl q
  · exact Or.inr (Or.inl q)
  · have := (h.2.1.2 _ q.1 q.2.1).1
    by_cases e : M 8 0 (M 6 r s) = 0
    · exact Or.inr (Or.inr (Or.inl ⟨⟨q.1, e⟩, q.2.1⟩))
    · exact Or.inr (Or.inr (Or.inr ⟨⟨q.1, by omega⟩, q.2.1⟩))
set_option maxHeartbeats 4000000 in
set_option maxRecDepth 20000 in
theorem c_L_areSeatsSo {K : WPar} {l : Launch} (hst : l.stackTraces = false) {c : Int} (M : Mem) (h : INV M c) (hc : c ≤ 512) (he : ENDS M) : CT K l iL_areSeatsSo [rV K 0 0] M (rI 1 M) := by
  refine aw_met [some (rV K 0 0), none, none, none, none, none, none, none, none, none, none, none] hst (by decide) rfl (Nat.le_of_ble_eq_true rfl) rfl rfl (lcat rfl) ?_
  refine aw_rng (fun hM => ?_)
  refine aw_wide (a := 0) (b := 6 * (0)) (Nat.le_refl _) (Nat.le_refl _) ?_
  have n0 := h.hw.1
  have n1 := h.hw.2.1
  have T0 := h.bw.1
  have T1 := h.bw.2
  refine aw_iconst dL_areSeatsSo_0 ?_
  refine aw_istore_n (L2 := [some (rV K 0 0), some (iV 0), none, none, none, none, none, none, none, none, none, none]) dL_areSeatsSo_1 rfl (by decide) rfl ?_
  refine aw_iconst dL_areSeatsSo_2 ?_
  refine aw_istore_n (L2 := [some (rV K 0 0), some (iV 0), some (iV 0), none, none, none, none, none, none, none, none, none]) dL_areSeatsSo_3 rfl (by decide) rfl ?_
  refine aw_iconst dL_areSeatsSo_4 ?_
  refine aw_istore_n (L2 := [some (rV K 0 0), some (iV 0), some (iV 0), some (iV 0), none, none, none, none, none, none, none, none]) dL_areSeatsSo_5 rfl (by decide) rfl ?_
  refine aw_iconst dL_areSeatsSo_6 ?_
  refine aw_istore (L2 := [some (rV K 0 0), some (iV 0), some (iV 0), some (iV 0), some (iV 0), none, none, none, none, none, none, none]) dL_areSeatsSo_7 (by decide) rfl ?_
  have lp9 : ∀ (n9 : Nat) (orp lon own row : Int), (0 ≤ row ∧ row ≤ M 1 0 4) → (orp = sumI (orR M) row) → (isLongR row (M 2 0) (M 6) lon) → (own = sumI (ownC M) row) → ((0 ≤ orp ∧ orp ≤ 20 * row) ∧ (0 ≤ lon ∧ lon ≤ 20) ∧ 0 ≤ own ∧ own ≤ 20 * row) → ((M 1 0 4 - row).toNat) < n9 → AW K l iL_areSeatsSo (ZM K iL_areSeatsSo (rI 1 M)) 9 [some (rV K 0 0), some (iV (orp)), some (iV (lon)), some (iV (own)), some (iV (row)), none, none, none, none, none, none, none] [] (M) (0 + 142 * Int.toNat row) (6 * (0 + 142 * Int.toNat row)) := by
    intro n9
    induction n9 with
    | zero =>
      intro orp lon own row e1 e2 e3 e4 e5 hm9
      exact absurd hm9 (Nat.not_lt_zero _)
    | succ n9 ih9 =>
      intro orp lon own row e1 e2 e3 e4 e5 hm9
      refine aw_iload dL_areSeatsSo_9 rfl ?_
      refine aw_aload_n dL_areSeatsSo_11 rfl rfl ?_
      refine lw_Vi (g := 0) (As := []) (rest := [iV (row)]) (c2 := 0 + 142 * Int.toNat row) (s2 := 6 * (0 + 142 * Int.toNat row)) (k_rows hst M h) cv_X4_rows dL_areSeatsSo_12 ml_L_73 rfl rfl rfl rfl rfl (Nat.le_of_ble_eq_true rfl) (by decide) (Nat.le_refl _) (Nat.le_refl _) (by show 0 + 142 * Int.toNat row ≤ 2205 ∧ 6 * (0 + 142 * Int.toNat row) ≤ 13230; omega) ?_
      refine aw_icmp_ge (tgt := 288) dL_areSeatsSo_15 (by decide) (by omega) (by omega) (fun h15 => ?_) (fun h15 => ?_)
      · refine aw_iconst dL_areSeatsSo_288 ?_
        refine aw_istore (L2 := [some (rV K 0 0), some (iV (orp)), some (iV (lon)), some (iV (own)), some (iV 1), none, none, none, none, none, none, none]) dL_areSeatsSo_289 (by decide) rfl ?_
        have lp291 : ∀ (n291 : Nat) (ow3 ticket : Int), (1 ≤ ticket ∧ ticket ≤ M 7 0 8 + 1) → (ow3 = own - sumI (fun t => soM M (t + 1)) (ticket - 1)) → ((M 7 0 8 + 1 - ticket).toNat) < n291 → AW K l iL_areSeatsSo (ZM K iL_areSeatsSo (rI 1 M)) 291 [some (rV K 0 0), some (iV (orp)), some (iV (lon)), some (iV (ow3)), some (iV (ticket)), none, none, none, none, none, none, none] [] (M) (0 + 142 * Int.toNat row + 5 * Int.toNat (ticket - 1)) (6 * (0 + 142 * Int.toNat row + 5 * Int.toNat (ticket - 1))) := by
          intro n291
          induction n291 with
          | zero =>
            intro ow3 ticket g1 g2 hm291
            exact absurd hm291 (Nat.not_lt_zero _)
          | succ n291 ih291 =>
            intro ow3 ticket g1 g2 hm291
            refine aw_iload dL_areSeatsSo_291 rfl ?_
            refine aw_aload_n dL_areSeatsSo_293 rfl rfl ?_
            refine lw_Vi (g := 0) (As := []) (rest := [iV (ticket)]) (c2 := 0 + 142 * Int.toNat row + 5 * Int.toNat (ticket - 1)) (s2 := 6 * (0 + 142 * Int.toNat row + 5 * Int.toNat (ticket - 1))) (k_tickets hst M h) cv_X4_tickets dL_areSeatsSo_294 ml_L_70 rfl rfl rfl rfl rfl (Nat.le_of_ble_eq_true rfl) (by decide) (Nat.le_refl _) (Nat.le_refl _) (by show 0 + 142 * Int.toNat row + 5 * Int.toNat (ticket - 1) ≤ 2205 ∧ 6 * (0 + 142 * Int.toNat row + 5 * Int.toNat (ticket - 1)) ≤ 13230; omega) ?_
            refine aw_icmp_gt (tgt := 368) dL_areSeatsSo_297 (by decide) (by omega) (by omega) (fun h297 => ?_) (fun h297 => ?_)
            · refine aw_aload_n dL_areSeatsSo_368 rfl rfl ?_
              refine aw_callW (As := [rV K 0 0]) (rest := []) (c2 := 0 + 142 * Int.toNat row + 5 * Int.toNat (ticket - 1) + 1) (s2 := 6 * (0 + 142 * Int.toNat row + 5 * Int.toNat (ticket - 1) + 1)) (c_L_nextExpiry hst M h hc) cw_L_nextExpiry dL_areSeatsSo_369 ml_L_102 rfl rfl (Nat.le_of_ble_eq_true rfl) (by decide) (by show 0 + 142 * Int.toNat row + 5 * Int.toNat (ticket - 1) + 1 ≤ 0 + 142 * Int.toNat row + 5 * Int.toNat (ticket - 1) + 1; omega) (by show 6 * (0 + 142 * Int.toNat row + 5 * Int.toNat (ticket - 1)) + 6 ≤ 6 * (0 + 142 * Int.toNat row + 5 * Int.toNat (ticket - 1) + 1); omega) (by show 0 + 142 * Int.toNat row + 5 * Int.toNat (ticket - 1) + 1 ≤ 2205 ∧ 6 * (0 + 142 * Int.toNat row + 5 * Int.toNat (ticket - 1) + 1) ≤ 13230; omega) (fun z369 m369 h369 => ?_)
              rw [ne_mem h369]
              have e369 := ne_ends he h369
              refine aw_istore (L2 := [some (rV K 0 0), some (iV (orp)), some (iV (lon)), some (iV (ow3)), some (iV (z369)), none, none, none, none, none, none, none]) dL_areSeatsSo_372 (by decide) rfl ?_
              refine aw_iload_n dL_areSeatsSo_374 rfl rfl ?_
              refine aw_if_ne (tgt := 427) dL_areSeatsSo_375 (by decide) (by have q : ow3 = 0 := (by have q1 := own_tot h; have q2 : row = M 1 0 4 := (by omega); have q3 : ticket - 1 = M 7 0 8 := (by omega); rw [g2, e4, q2, q3]; omega); omega) (fun h375 => absurd h375 (by have q : ow3 = 0 := (by have q1 := own_tot h; have q2 : row = M 1 0 4 := (by omega); have q3 : ticket - 1 = M 7 0 8 := (by omega); rw [g2, e4, q2, q3]; omega); omega)) (fun h375 => ?_)
              refine aw_aload_n dL_areSeatsSo_378 rfl rfl ?_
              refine lw_Vi (g := 0) (As := []) (rest := []) (c2 := 0 + 142 * Int.toNat row + 5 * Int.toNat (ticket - 1) + 1) (s2 := 6 * (0 + 142 * Int.toNat row + 5 * Int.toNat (ticket - 1) + 1)) (k_orphans hst M h) cv_X4_orphans dL_areSeatsSo_379 ml_L_96 rfl rfl rfl rfl rfl (Nat.le_of_ble_eq_true rfl) (by decide) (Nat.le_refl _) (Nat.le_refl _) (by show 0 + 142 * Int.toNat row + 5 * Int.toNat (ticket - 1) + 1 ≤ 2205 ∧ 6 * (0 + 142 * Int.toNat row + 5 * Int.toNat (ticket - 1) + 1) ≤ 13230; omega) ?_
              refine aw_iload_n dL_areSeatsSo_382 rfl rfl ?_
              refine aw_samen (tgt := 427) dL_areSeatsSo_383 (by decide) (by have q2 : row = M 1 0 4 := (by omega); rw [e2, q2]; rfl) ?_
              refine aw_aload_n dL_areSeatsSo_386 rfl rfl ?_
              refine lw_Vr (R := fun z => LNG M z) (g := 0) (As := []) (rest := []) (c2 := 0 + 142 * Int.toNat row + 5 * Int.toNat (ticket - 1) + 1) (s2 := 6 * (0 + 142 * Int.toNat row + 5 * Int.toNat (ticket - 1) + 1)) (k_longestBlock hst M h) cv_X4_longestBlock dL_areSeatsSo_387 ml_L_99 rfl rfl rfl rfl rfl (Nat.le_of_ble_eq_true rfl) (by decide) (Nat.le_refl _) (Nat.le_refl _) (by show 0 + 142 * Int.toNat row + 5 * Int.toNat (ticket - 1) + 1 ≤ 2205 ∧ 6 * (0 + 142 * Int.toNat row + 5 * Int.toNat (ticket - 1) + 1) ≤ 13230; omega) (fun z387 h387 => ?_)
              refine aw_iload_n dL_areSeatsSo_390 rfl rfl ?_
              refine aw_samen (tgt := 427) dL_areSeatsSo_391 (by decide) (by have q2 : row = M 1 0 4 := (by omega); rw [q2] at e3; exact LNG_u h387 e3) ?_
              refine aw_iload dL_areSeatsSo_394 rfl ?_
              refine aw_ldc (z := -99999) dL_areSeatsSo_396 cn_L_30 rfl ?_
              refine aw_icmp_eq (tgt := 423) dL_areSeatsSo_398 (by decide) (by have q := h.nowb hc; omega) (by omega) (fun h398 => ?_) (fun h398 => ?_)
              · refine aw_iconst dL_areSeatsSo_423 ?_
                refine aw_goto (tgt := 428) dL_areSeatsSo_424 (by decide) ?_
                exact aw_iret dL_areSeatsSo_428 rfl rfl (by show 0 + 142 * Int.toNat row + 5 * Int.toNat (ticket - 1) + 1 ≤ 2205; omega) (by show 6 * (0 + 142 * Int.toNat row + 5 * Int.toNat (ticket - 1) + 1) ≤ 13230; omega) ⟨rfl, rfl⟩
              · refine aw_iload dL_areSeatsSo_401 rfl ?_
                refine aw_aload_n dL_areSeatsSo_403 rfl rfl ?_
                refine lw_Vi (g := 0) (As := []) (rest := [iV (z369)]) (c2 := 0 + 142 * Int.toNat row + 5 * Int.toNat (ticket - 1) + 1) (s2 := 6 * (0 + 142 * Int.toNat row + 5 * Int.toNat (ticket - 1) + 1)) (k_now hst M h) cv_X4_now dL_areSeatsSo_404 ml_L_93 rfl rfl rfl rfl rfl (Nat.le_of_ble_eq_true rfl) (by decide) (Nat.le_refl _) (Nat.le_refl _) (by show 0 + 142 * Int.toNat row + 5 * Int.toNat (ticket - 1) + 1 ≤ 2205 ∧ 6 * (0 + 142 * Int.toNat row + 5 * Int.toNat (ticket - 1) + 1) ≤ 13230; omega) ?_
                refine aw_icmp_le (tgt := 427) dL_areSeatsSo_407 (by decide) (by have q := h.nowb hc; omega) (by have q := h.nowb hc; omega) (fun h407 => absurd h407 (by have q := e369.resolve_left h398; omega)) (fun h407 => ?_)
                refine aw_iload dL_areSeatsSo_410 rfl ?_
                refine aw_aload_n dL_areSeatsSo_412 rfl rfl ?_
                refine lw_Vi (g := 0) (As := []) (rest := [iV (z369)]) (c2 := 0 + 142 * Int.toNat row + 5 * Int.toNat (ticket - 1) + 1) (s2 := 6 * (0 + 142 * Int.toNat row + 5 * Int.toNat (ticket - 1) + 1)) (k_now hst M h) cv_X4_now dL_areSeatsSo_413 ml_L_93 rfl rfl rfl rfl rfl (Nat.le_of_ble_eq_true rfl) (by decide) (Nat.le_refl _) (Nat.le_refl _) (by show 0 + 142 * Int.toNat row + 5 * Int.toNat (ticket - 1) + 1 ≤ 2205 ∧ 6 * (0 + 142 * Int.toNat row + 5 * Int.toNat (ticket - 1) + 1) ≤ 13230; omega) ?_
                refine aw_sipush dL_areSeatsSo_416 rfl ?_
                refine aw_iadd dL_areSeatsSo_419 ?_
                refine aw_icmp_gt (tgt := 427) dL_areSeatsSo_420 (by decide) (by have q := h.nowb hc; omega) (by have q := h.nowb hc; omega) (fun h420 => absurd h420 (by have q := e369.resolve_left h398; omega)) (fun h420 => ?_)
                refine aw_iconst dL_areSeatsSo_423 ?_
                refine aw_goto (tgt := 428) dL_areSeatsSo_424 (by decide) ?_
                exact aw_iret dL_areSeatsSo_428 rfl rfl (by show 0 + 142 * Int.toNat row + 5 * Int.toNat (ticket - 1) + 1 ≤ 2205; omega) (by show 6 * (0 + 142 * Int.toNat row + 5 * Int.toNat (ticket - 1) + 1) ≤ 13230; omega) ⟨rfl, rfl⟩
            · refine aw_iload_n dL_areSeatsSo_300 rfl rfl ?_
              refine aw_aload_n dL_areSeatsSo_301 rfl rfl ?_
              refine aw_iload dL_areSeatsSo_302 rfl ?_
              refine lw_Vi (g := 0) (As := [iV (ticket)]) (rest := [iV (ow3)]) (c2 := 0 + 142 * Int.toNat row + 5 * Int.toNat (ticket - 1) + 1) (s2 := 6 * (0 + 142 * Int.toNat row + 5 * Int.toNat (ticket - 1) + 1)) (k_seatsOf hst M h (ticket) (by omega)) cv_X4_seatsOf dL_areSeatsSo_304 ml_L_117 rfl rfl rfl rfl rfl (Nat.le_of_ble_eq_true rfl) (by decide) (by show 0 + 142 * Int.toNat row + 5 * Int.toNat (ticket - 1) + 1 ≤ 0 + 142 * Int.toNat row + 5 * Int.toNat (ticket - 1) + 1; omega) (by show 6 * (0 + 142 * Int.toNat row + 5 * Int.toNat (ticket - 1)) + 6 ≤ 6 * (0 + 142 * Int.toNat row + 5 * Int.toNat (ticket - 1) + 1); omega) (by show 0 + 142 * Int.toNat row + 5 * Int.toNat (ticket - 1) + 1 ≤ 2205 ∧ 6 * (0 + 142 * Int.toNat row + 5 * Int.toNat (ticket - 1) + 1) ≤ 13230; omega) ?_
              refine aw_isub dL_areSeatsSo_307 ?_
              refine aw_istore_n (L2 := [some (rV K 0 0), some (iV (orp)), some (iV (lon)), some (iV (ow3 - (soM M ticket))), some (iV (ticket)), none, none, none, none, none, none, none]) dL_areSeatsSo_308 rfl (by decide) rfl ?_
              refine aw_aload_n dL_areSeatsSo_309 rfl rfl ?_
              refine aw_iload dL_areSeatsSo_310 rfl ?_
              refine lw_Vi (g := 0) (As := [iV (ticket)]) (rest := []) (c2 := 0 + 142 * Int.toNat row + 5 * Int.toNat (ticket - 1) + 1 + 1) (s2 := 6 * (0 + 142 * Int.toNat row + 5 * Int.toNat (ticket - 1) + 1 + 1)) (k_ticketState hst M h (ticket) (by omega)) cv_X4_ticketState dL_areSeatsSo_312 ml_L_114 rfl rfl rfl rfl rfl (Nat.le_of_ble_eq_true rfl) (by decide) (by show 0 + 142 * Int.toNat row + 5 * Int.toNat (ticket - 1) + 1 + 1 ≤ 0 + 142 * Int.toNat row + 5 * Int.toNat (ticket - 1) + 1 + 1; omega) (by show 6 * (0 + 142 * Int.toNat row + 5 * Int.toNat (ticket - 1) + 1) + 6 ≤ 6 * (0 + 142 * Int.toNat row + 5 * Int.toNat (ticket - 1) + 1 + 1); omega) (by show 0 + 142 * Int.toNat row + 5 * Int.toNat (ticket - 1) + 1 + 1 ≤ 2205 ∧ 6 * (0 + 142 * Int.toNat row + 5 * Int.toNat (ticket - 1) + 1 + 1) ≤ 13230; omega) ?_
              refine aw_iconst dL_areSeatsSo_315 ?_
              refine aw_icmp_ge (tgt := 323) dL_areSeatsSo_316 (by decide) (by exact hM 8 0 ticket) (by omega) (fun h316 => ?_) (fun h316 => ?_)
              · refine aw_iconst dL_areSeatsSo_323 ?_
                refine aw_aload_n dL_areSeatsSo_324 rfl rfl ?_
                refine aw_iload dL_areSeatsSo_325 rfl ?_
                refine lw_Vi (g := 0) (As := [iV (ticket)]) (rest := [iV 0]) (c2 := 0 + 142 * Int.toNat row + 5 * Int.toNat (ticket - 1) + 1 + 1 + 1) (s2 := 6 * (0 + 142 * Int.toNat row + 5 * Int.toNat (ticket - 1) + 1 + 1 + 1)) (k_seatsOf hst M h (ticket) (by omega)) cv_X4_seatsOf dL_areSeatsSo_327 ml_L_117 rfl rfl rfl rfl rfl (Nat.le_of_ble_eq_true rfl) (by decide) (by show 0 + 142 * Int.toNat row + 5 * Int.toNat (ticket - 1) + 1 + 1 + 1 ≤ 0 + 142 * Int.toNat row + 5 * Int.toNat (ticket - 1) + 1 + 1 + 1; omega) (by show 6 * (0 + 142 * Int.toNat row + 5 * Int.toNat (ticket - 1) + 1 + 1) + 6 ≤ 6 * (0 + 142 * Int.toNat row + 5 * Int.toNat (ticket - 1) + 1 + 1 + 1); omega) (by show 0 + 142 * Int.toNat row + 5 * Int.toNat (ticket - 1) + 1 + 1 + 1 ≤ 2205 ∧ 6 * (0 + 142 * Int.toNat row + 5 * Int.toNat (ticket - 1) + 1 + 1 + 1) ≤ 13230; omega) ?_
                refine aw_if_le (tgt := 337) dL_areSeatsSo_330 (by decide) (by exact so_r hM) (fun h330 => ?_) (fun h330 => absurd (by rw [so_0 h316]; decide) h330)
                refine aw_iconst dL_areSeatsSo_337 ?_
                refine aw_icmp_ne (tgt := 360) dL_areSeatsSo_338 (by decide) (by decide) (by decide) (fun h => absurd h (by decide)) (fun _ => ?_)
                refine aw_aload_n dL_areSeatsSo_341 rfl rfl ?_
                refine aw_iload dL_areSeatsSo_342 rfl ?_
                refine lw_Vi (g := 0) (As := [iV (ticket)]) (rest := []) (c2 := 0 + 142 * Int.toNat row + 5 * Int.toNat (ticket - 1) + 1 + 1 + 1 + 1) (s2 := 6 * (0 + 142 * Int.toNat row + 5 * Int.toNat (ticket - 1) + 1 + 1 + 1 + 1)) (k_ticketState hst M h (ticket) (by omega)) cv_X4_ticketState dL_areSeatsSo_344 ml_L_114 rfl rfl rfl rfl rfl (Nat.le_of_ble_eq_true rfl) (by decide) (by show 0 + 142 * Int.toNat row + 5 * Int.toNat (ticket - 1) + 1 + 1 + 1 + 1 ≤ 0 + 142 * Int.toNat row + 5 * Int.toNat (ticket - 1) + 1 + 1 + 1 + 1; omega) (by show 6 * (0 + 142 * Int.toNat row + 5 * Int.toNat (ticket - 1) + 1 + 1 + 1) + 6 ≤ 6 * (0 + 142 * Int.toNat row + 5 * Int.toNat (ticket - 1) + 1 + 1 + 1 + 1); omega) (by show 0 + 142 * Int.toNat row + 5 * Int.toNat (ticket - 1) + 1 + 1 + 1 + 1 ≤ 2205 ∧ 6 * (0 + 142 * Int.toNat row + 5 * Int.toNat (ticket - 1) + 1 + 1 + 1 + 1) ≤ 13230; omega) ?_
                refine aw_iconst dL_areSeatsSo_347 ?_
                refine aw_icmp_le (tgt := 362) dL_areSeatsSo_348 (by decide) (by exact hM 8 0 ticket) (by omega) (fun h348 => absurd h348 (by omega)) (fun h348 => ?_)
                refine aw_aload_n dL_areSeatsSo_351 rfl rfl ?_
                refine aw_iload dL_areSeatsSo_352 rfl ?_
                refine lw_Vi (g := 0) (As := [iV (ticket)]) (rest := []) (c2 := 0 + 142 * Int.toNat row + 5 * Int.toNat (ticket - 1) + 1 + 1 + 1 + 1 + 1) (s2 := 6 * (0 + 142 * Int.toNat row + 5 * Int.toNat (ticket - 1) + 1 + 1 + 1 + 1 + 1)) (k_priceOf hst M h (ticket) (by omega)) cv_X4_priceOf dL_areSeatsSo_354 ml_L_120 rfl rfl rfl rfl rfl (Nat.le_of_ble_eq_true rfl) (by decide) (by show 0 + 142 * Int.toNat row + 5 * Int.toNat (ticket - 1) + 1 + 1 + 1 + 1 + 1 ≤ 0 + 142 * Int.toNat row + 5 * Int.toNat (ticket - 1) + 1 + 1 + 1 + 1 + 1; omega) (by show 6 * (0 + 142 * Int.toNat row + 5 * Int.toNat (ticket - 1) + 1 + 1 + 1 + 1) + 6 ≤ 6 * (0 + 142 * Int.toNat row + 5 * Int.toNat (ticket - 1) + 1 + 1 + 1 + 1 + 1); omega) (by show 0 + 142 * Int.toNat row + 5 * Int.toNat (ticket - 1) + 1 + 1 + 1 + 1 + 1 ≤ 2205 ∧ 6 * (0 + 142 * Int.toNat row + 5 * Int.toNat (ticket - 1) + 1 + 1 + 1 + 1 + 1) ≤ 13230; omega) ?_
                refine aw_if_eq (tgt := 362) dL_areSeatsSo_357 (by decide) (by have q := h.closed g1.1 (show 1 < M 8 0 ticket by omega); omega) (fun h357 => ?_) (fun h357 => absurd (by exact h.closed g1.1 (by omega)) h357)
                refine aw_iinc (L2 := [some (rV K 0 0), some (iV (orp)), some (iV (lon)), some (iV (ow3 - (soM M ticket))), some (iV (ticket + 1)), none, none, none, none, none, none, none]) dL_areSeatsSo_362 rfl (by decide) rfl ?_
                refine aw_goto (tgt := 291) dL_areSeatsSo_365 (by decide) ?_
                refine aw_wide (a := 0 + 142 * Int.toNat row + 5 * Int.toNat ((ticket + 1) - 1)) (b := 6 * (0 + 142 * Int.toNat row + 5 * Int.toNat ((ticket + 1) - 1))) (by omega) (by omega) ?_
                exact ih291 (ow3 - (soM M ticket)) (ticket + 1) (by omega) (by rw [show ticket + 1 - 1 = (ticket - 1) + 1 by omega, sumI_s (by omega), g2, show ticket - 1 + 1 = ticket by omega]; omega) (by omega)
              · refine aw_iconst dL_areSeatsSo_319 ?_
                refine aw_goto (tgt := 324) dL_areSeatsSo_320 (by decide) ?_
                refine aw_aload_n dL_areSeatsSo_324 rfl rfl ?_
                refine aw_iload dL_areSeatsSo_325 rfl ?_
                refine lw_Vi (g := 0) (As := [iV (ticket)]) (rest := [iV 1]) (c2 := 0 + 142 * Int.toNat row + 5 * Int.toNat (ticket - 1) + 1 + 1 + 1) (s2 := 6 * (0 + 142 * Int.toNat row + 5 * Int.toNat (ticket - 1) + 1 + 1 + 1)) (k_seatsOf hst M h (ticket) (by omega)) cv_X4_seatsOf dL_areSeatsSo_327 ml_L_117 rfl rfl rfl rfl rfl (Nat.le_of_ble_eq_true rfl) (by decide) (by show 0 + 142 * Int.toNat row + 5 * Int.toNat (ticket - 1) + 1 + 1 + 1 ≤ 0 + 142 * Int.toNat row + 5 * Int.toNat (ticket - 1) + 1 + 1 + 1; omega) (by show 6 * (0 + 142 * Int.toNat row + 5 * Int.toNat (ticket - 1) + 1 + 1) + 6 ≤ 6 * (0 + 142 * Int.toNat row + 5 * Int.toNat (ticket - 1) + 1 + 1 + 1); omega) (by show 0 + 142 * Int.toNat row + 5 * Int.toNat (ticket - 1) + 1 + 1 + 1 ≤ 2205 ∧ 6 * (0 + 142 * Int.toNat row + 5 * Int.toNat (ticket - 1) + 1 + 1 + 1) ≤ 13230; omega) ?_
                refine aw_if_le (tgt := 337) dL_areSeatsSo_330 (by decide) (by exact so_r hM) (fun h330 => absurd h330 (by have q := so_1 h g1.1 (by omega) h316; omega)) (fun h330 => ?_)
                refine aw_iconst dL_areSeatsSo_333 ?_
                refine aw_goto (tgt := 338) dL_areSeatsSo_334 (by decide) ?_
                refine aw_icmp_ne (tgt := 360) dL_areSeatsSo_338 (by decide) (by decide) (by decide) (fun h => absurd h (by decide)) (fun _ => ?_)
                refine aw_aload_n dL_areSeatsSo_341 rfl rfl ?_
                refine aw_iload dL_areSeatsSo_342 rfl ?_
                refine lw_Vi (g := 0) (As := [iV (ticket)]) (rest := []) (c2 := 0 + 142 * Int.toNat row + 5 * Int.toNat (ticket - 1) + 1 + 1 + 1 + 1) (s2 := 6 * (0 + 142 * Int.toNat row + 5 * Int.toNat (ticket - 1) + 1 + 1 + 1 + 1)) (k_ticketState hst M h (ticket) (by omega)) cv_X4_ticketState dL_areSeatsSo_344 ml_L_114 rfl rfl rfl rfl rfl (Nat.le_of_ble_eq_true rfl) (by decide) (by show 0 + 142 * Int.toNat row + 5 * Int.toNat (ticket - 1) + 1 + 1 + 1 + 1 ≤ 0 + 142 * Int.toNat row + 5 * Int.toNat (ticket - 1) + 1 + 1 + 1 + 1; omega) (by show 6 * (0 + 142 * Int.toNat row + 5 * Int.toNat (ticket - 1) + 1 + 1 + 1) + 6 ≤ 6 * (0 + 142 * Int.toNat row + 5 * Int.toNat (ticket - 1) + 1 + 1 + 1 + 1); omega) (by show 0 + 142 * Int.toNat row + 5 * Int.toNat (ticket - 1) + 1 + 1 + 1 + 1 ≤ 2205 ∧ 6 * (0 + 142 * Int.toNat row + 5 * Int.toNat (ticket - 1) + 1 + 1 + 1 + 1) ≤ 13230; omega) ?_
                refine aw_iconst dL_areSeatsSo_347 ?_
                refine aw_icmp_le (tgt := 362) dL_areSeatsSo_348 (by decide) (by exact hM 8 0 ticket) (by omega) (fun h348 => ?_) (fun h348 => absurd (by omega) h348)
                refine aw_iinc (L2 := [some (rV K 0 0), some (iV (orp)), some (iV (lon)), some (iV (ow3 - (soM M ticket))), some (iV (ticket + 1)), none, none, none, none, none, none, none]) dL_areSeatsSo_362 rfl (by decide) rfl ?_
                refine aw_goto (tgt := 291) dL_areSeatsSo_365 (by decide) ?_
                refine aw_wide (a := 0 + 142 * Int.toNat row + 5 * Int.toNat ((ticket + 1) - 1)) (b := 6 * (0 + 142 * Int.toNat row + 5 * Int.toNat ((ticket + 1) - 1))) (by omega) (by omega) ?_
                exact ih291 (ow3 - (soM M ticket)) (ticket + 1) (by omega) (by rw [show ticket + 1 - 1 = (ticket - 1) + 1 by omega, sumI_s (by omega), g2, show ticket - 1 + 1 = ticket by omega]; omega) (by omega)
        refine aw_wide (a := 0 + 142 * Int.toNat row + 5 * Int.toNat (1 - 1)) (b := 6 * (0 + 142 * Int.toNat row + 5 * Int.toNat (1 - 1))) (by omega) (by omega) ?_
        exact lp291 (((M 7 0 8 + 1 - 1).toNat) + 1) (own) (1) (by omega) (by rw [show (1 : Int) - 1 = 0 by decide, sumI_0]; omega) (Nat.lt_succ_self _)
      · have h15x : row < M 1 0 4 := by omega
        have w0 := h.hw.2.2 row e1.1 h15x
        refine aw_aload_n dL_areSeatsSo_18 rfl rfl ?_
        refine aw_iload dL_areSeatsSo_19 rfl ?_
        refine lw_Si (As := [rV K 0 0, iV (row)]) (rest := []) (c2 := 0 + 142 * Int.toNat row + 21) (s2 := 6 * (0 + 142 * Int.toNat row + 21)) (c_L_wide hst M (row) h hc ⟨e1.1, h15x⟩) cs_L_wide dL_areSeatsSo_21 ml_L_127 rfl rfl (Nat.le_of_ble_eq_true rfl) (by decide) (by show 0 + 142 * Int.toNat row + 21 ≤ 0 + 142 * Int.toNat row + 21; omega) (by show 6 * (0 + 142 * Int.toNat row) + 126 ≤ 6 * (0 + 142 * Int.toNat row + 21); omega) (by show 0 + 142 * Int.toNat row + 21 ≤ 2205 ∧ 6 * (0 + 142 * Int.toNat row + 21) ≤ 13230; omega) ?_
        refine aw_istore (L2 := [some (rV K 0 0), some (iV (orp)), some (iV (lon)), some (iV (own)), some (iV (row)), some (iV (M 2 0 row)), none, none, none, none, none, none]) dL_areSeatsSo_24 (by decide) rfl ?_
        refine aw_iconst dL_areSeatsSo_26 ?_
        refine aw_istore (L2 := [some (rV K 0 0), some (iV (orp)), some (iV (lon)), some (iV (own)), some (iV (row)), some (iV (M 2 0 row)), some (iV 0), none, none, none, none, none]) dL_areSeatsSo_27 (by decide) rfl ?_
        refine aw_iconst dL_areSeatsSo_29 ?_
        refine aw_istore (L2 := [some (rV K 0 0), some (iV (orp)), some (iV (lon)), some (iV (own)), some (iV (row)), some (iV (M 2 0 row)), some (iV 0), some (iV 0), none, none, none, none]) dL_areSeatsSo_30 (by decide) rfl ?_
        refine aw_iconst dL_areSeatsSo_32 ?_
        refine aw_istore (L2 := [some (rV K 0 0), some (iV (orp)), some (iV (lon)), some (iV (own)), some (iV (row)), some (iV (M 2 0 row)), some (iV 0), some (iV 0), some (iV 0), none, none, none]) dL_areSeatsSo_33 (by decide) rfl ?_
        have lp35 : ∀ (n35 : Nat) (or2 lo2 ow2 fre rn seat : Int), (0 ≤ seat ∧ seat ≤ M 2 0 row) → (or2 = orp + sumI (orC (M 2 0 row) (M 6 row)) seat) → (∃ z, isLong (M 6 row) seat z ∧ lo2 = max lon z) → (isRun (M 6 row) seat rn) → (ow2 = own + sumI (fun s => if 0 < M 6 row s then 1 else 0) seat) → (fre = sumI (fun s => if M 6 row s = 0 then 1 else 0) seat) → ((orp ≤ or2 ∧ or2 ≤ orp + seat) ∧ (own ≤ ow2 ∧ ow2 ≤ own + seat) ∧ (0 ≤ fre ∧ fre ≤ seat) ∧ 0 ≤ lo2 ∧ lo2 ≤ 20) → ((M 2 0 row - seat).toNat) < n35 → AW K l iL_areSeatsSo (ZM K iL_areSeatsSo (rI 1 M)) 35 [some (rV K 0 0), some (iV (or2)), some (iV (lo2)), some (iV (ow2)), some (iV (row)), some (iV (M 2 0 row)), some (iV (fre)), some (iV (rn)), some (iV (seat)), none, none, none] [] (M) (0 + 142 * Int.toNat row + 21 + 6 * Int.toNat seat) (6 * (0 + 142 * Int.toNat row + 21 + 6 * Int.toNat seat)) := by
          intro n35
          induction n35 with
          | zero =>
            intro or2 lo2 ow2 fre rn seat f1 f2 f3 f4 f5 f6 f7 hm35
            exact absurd hm35 (Nat.not_lt_zero _)
          | succ n35 ih35 =>
            intro or2 lo2 ow2 fre rn seat f1 f2 f3 f4 f5 f6 f7 hm35
            refine aw_iload dL_areSeatsSo_35 rfl ?_
            refine aw_iload dL_areSeatsSo_37 rfl ?_
            refine aw_icmp_ge (tgt := 256) dL_areSeatsSo_39 (by decide) (by omega) (by omega) (fun h39 => ?_) (fun h39 => ?_)
            · refine aw_iload dL_areSeatsSo_256 rfl ?_
              refine aw_iconst dL_areSeatsSo_258 ?_
              refine aw_icmp_lt (tgt := 280) dL_areSeatsSo_259 (by decide) (by omega) (by omega) (fun h259 => absurd h259 (by omega)) (fun h259 => ?_)
              refine aw_iload dL_areSeatsSo_262 rfl ?_
              refine aw_bipush dL_areSeatsSo_264 rfl ?_
              refine aw_icmp_gt (tgt := 280) dL_areSeatsSo_266 (by decide) (by omega) (by omega) (fun h266 => absurd h266 (by omega)) (fun h266 => ?_)
              refine aw_aload_n dL_areSeatsSo_269 rfl rfl ?_
              refine aw_iload dL_areSeatsSo_270 rfl ?_
              refine lw_Vi (g := 0) (As := [iV (row)]) (rest := []) (c2 := 0 + 142 * Int.toNat row + 21 + 6 * Int.toNat seat + 1) (s2 := 6 * (0 + 142 * Int.toNat row + 21 + 6 * Int.toNat seat + 1)) (k_freeSeats hst M h (row) (by omega)) cv_X4_freeSeats dL_areSeatsSo_272 ml_L_105 rfl rfl rfl rfl rfl (Nat.le_of_ble_eq_true rfl) (by decide) (by show 0 + 142 * Int.toNat row + 21 + 6 * Int.toNat seat + 1 ≤ 0 + 142 * Int.toNat row + 21 + 6 * Int.toNat seat + 1; omega) (by show 6 * (0 + 142 * Int.toNat row + 21 + 6 * Int.toNat seat) + 6 ≤ 6 * (0 + 142 * Int.toNat row + 21 + 6 * Int.toNat seat + 1); omega) (by show 0 + 142 * Int.toNat row + 21 + 6 * Int.toNat seat + 1 ≤ 2205 ∧ 6 * (0 + 142 * Int.toNat row + 21 + 6 * Int.toNat seat + 1) ≤ 13230; omega) ?_
              refine aw_iload dL_areSeatsSo_275 rfl ?_
              refine aw_same (tgt := 282) dL_areSeatsSo_277 (by decide) (by have sq : seat = M 2 0 row := (by omega); rw [f6, sq]; rfl) ?_
              refine aw_iinc (L2 := [some (rV K 0 0), some (iV (or2)), some (iV (lo2)), some (iV (ow2)), some (iV (row + 1)), some (iV (M 2 0 row)), some (iV (fre)), some (iV (rn)), some (iV (seat)), none, none, none]) dL_areSeatsSo_282 rfl (by decide) rfl ?_
              refine aw_goto (tgt := 9) dL_areSeatsSo_285 (by decide) ?_
              refine aw_weak (L' := [some (rV K 0 0), some (iV (or2)), some (iV (lo2)), some (iV (ow2)), some (iV (row + 1)), none, none, none, none, none, none, none]) ⟨Or.inr rfl, Or.inr rfl, Or.inr rfl, Or.inr rfl, Or.inr rfl, Or.inl rfl, Or.inl rfl, Or.inl rfl, Or.inl rfl, Or.inr rfl, Or.inr rfl, Or.inr rfl, trivial⟩ ?_
              refine aw_wide (a := 0 + 142 * Int.toNat (row + 1)) (b := 6 * (0 + 142 * Int.toNat (row + 1))) (by omega) (by omega) ?_
              exact ih9 (or2) (lo2) (ow2) (row + 1) (by omega) (by have sq : seat = M 2 0 row := (by omega); rw [sumI_s e1.1, ← e2, f2, sq]; rfl) (by have sq : seat = M 2 0 row := (by omega); obtain ⟨z, z1, z2⟩ := f3; rw [z2]; exact isLongR_s e1.1 e3 (sq ▸ z1)) (by have sq : seat = M 2 0 row := (by omega); rw [sumI_s e1.1, ← e4, f5, sq]; rfl) (by omega) (by omega)
            · have h39x : seat < M 2 0 row := by omega
              refine aw_aload_n dL_areSeatsSo_42 rfl rfl ?_
              refine aw_iload dL_areSeatsSo_43 rfl ?_
              refine aw_iload dL_areSeatsSo_45 rfl ?_
              refine lw_Vi (g := 0) (As := [iV (row), iV (seat)]) (rest := []) (c2 := 0 + 142 * Int.toNat row + 21 + 6 * Int.toNat seat + 1) (s2 := 6 * (0 + 142 * Int.toNat row + 21 + 6 * Int.toNat seat + 1)) (k_state hst M h (row) (seat) (by omega)) cv_X4_state dL_areSeatsSo_47 ml_L_111 rfl rfl rfl rfl rfl (Nat.le_of_ble_eq_true rfl) (by decide) (by show 0 + 142 * Int.toNat row + 21 + 6 * Int.toNat seat + 1 ≤ 0 + 142 * Int.toNat row + 21 + 6 * Int.toNat seat + 1; omega) (by show 6 * (0 + 142 * Int.toNat row + 21 + 6 * Int.toNat seat) + 6 ≤ 6 * (0 + 142 * Int.toNat row + 21 + 6 * Int.toNat seat + 1); omega) (by show 0 + 142 * Int.toNat row + 21 + 6 * Int.toNat seat + 1 ≤ 2205 ∧ 6 * (0 + 142 * Int.toNat row + 21 + 6 * Int.toNat seat + 1) ≤ 13230; omega) ?_
              rcases h.kind e1.1 h15x f1.1 h39x with hk | hk | ⟨hk, hT⟩ | ⟨hk, hT⟩
              · refine aw_st (st' := [iV 0]) (by rw [stV_0.mpr hk]) ?_
                refine aw_istore (L2 := [some (rV K 0 0), some (iV (or2)), some (iV (lo2)), some (iV (ow2)), some (iV (row)), some (iV (M 2 0 row)), some (iV (fre)), some (iV (rn)), some (iV (seat)), some (iV 0), none, none]) dL_areSeatsSo_50 (by decide) rfl ?_
                refine aw_aload_n dL_areSeatsSo_52 rfl rfl ?_
                refine aw_iload dL_areSeatsSo_53 rfl ?_
                refine aw_iload dL_areSeatsSo_55 rfl ?_
                refine lw_Vi (g := 0) (As := [iV (row), iV (seat)]) (rest := []) (c2 := 0 + 142 * Int.toNat row + 21 + 6 * Int.toNat seat + 1 + 1) (s2 := 6 * (0 + 142 * Int.toNat row + 21 + 6 * Int.toNat seat + 1 + 1)) (k_ticketAt hst M h (row) (seat) (by omega)) cv_X4_ticketAt dL_areSeatsSo_57 ml_L_108 rfl rfl rfl rfl rfl (Nat.le_of_ble_eq_true rfl) (by decide) (by show 0 + 142 * Int.toNat row + 21 + 6 * Int.toNat seat + 1 + 1 ≤ 0 + 142 * Int.toNat row + 21 + 6 * Int.toNat seat + 1 + 1; omega) (by show 6 * (0 + 142 * Int.toNat row + 21 + 6 * Int.toNat seat + 1) + 6 ≤ 6 * (0 + 142 * Int.toNat row + 21 + 6 * Int.toNat seat + 1 + 1); omega) (by show 0 + 142 * Int.toNat row + 21 + 6 * Int.toNat seat + 1 + 1 ≤ 2205 ∧ 6 * (0 + 142 * Int.toNat row + 21 + 6 * Int.toNat seat + 1 + 1) ≤ 13230; omega) ?_
                refine aw_st (st' := [iV 0]) (by rw [Int.max_eq_right (by omega)]) ?_
                refine aw_istore (L2 := [some (rV K 0 0), some (iV (or2)), some (iV (lo2)), some (iV (ow2)), some (iV (row)), some (iV (M 2 0 row)), some (iV (fre)), some (iV (rn)), some (iV (seat)), some (iV 0), some (iV 0), none]) dL_areSeatsSo_60 (by decide) rfl ?_
                refine aw_iload dL_areSeatsSo_62 rfl ?_
                refine aw_iconst dL_areSeatsSo_64 ?_
                refine aw_icmp_gt (tgt := 140) dL_areSeatsSo_65 (by decide) (by decide) (by decide) (fun h => absurd h (by decide)) (fun _ => ?_)
                refine aw_iload dL_areSeatsSo_68 rfl ?_
                refine aw_if_le (tgt := 77) dL_areSeatsSo_70 (by decide) (by decide) (fun _ => ?_) (fun h => absurd (by decide) h)
                refine aw_iconst dL_areSeatsSo_77 ?_
                refine aw_iload dL_areSeatsSo_78 rfl ?_
                refine aw_iconst dL_areSeatsSo_80 ?_
                refine aw_icmp_eq (tgt := 90) dL_areSeatsSo_81 (by decide) (by decide) (by decide) (fun h => absurd h (by decide)) (fun _ => ?_)
                refine aw_iload dL_areSeatsSo_84 rfl ?_
                refine aw_iconst dL_areSeatsSo_86 ?_
                refine aw_icmp_ne (tgt := 94) dL_areSeatsSo_87 (by decide) (by decide) (by decide) (fun _ => ?_) (fun h => absurd h (by decide))
                refine aw_iconst dL_areSeatsSo_94 ?_
                refine aw_icmp_ne (tgt := 140) dL_areSeatsSo_95 (by decide) (by decide) (by decide) (fun h => absurd h (by decide)) (fun _ => ?_)
                refine aw_iload dL_areSeatsSo_98 rfl ?_
                refine aw_if_le (tgt := 116) dL_areSeatsSo_100 (by decide) (by decide) (fun _ => ?_) (fun h => absurd (by decide) h)
                refine aw_aload_n dL_areSeatsSo_116 rfl rfl ?_
                refine aw_iload dL_areSeatsSo_117 rfl ?_
                refine aw_iload dL_areSeatsSo_119 rfl ?_
                refine lw_Vi (g := 0) (As := [iV (row), iV (seat)]) (rest := []) (c2 := 0 + 142 * Int.toNat row + 21 + 6 * Int.toNat seat + 1 + 1 + 1) (s2 := 6 * (0 + 142 * Int.toNat row + 21 + 6 * Int.toNat seat + 1 + 1 + 1)) (k_value hst M h (row) (seat) (by omega)) cv_X4_value dL_areSeatsSo_121 ml_L_131 rfl rfl rfl rfl rfl (Nat.le_of_ble_eq_true rfl) (by decide) (by show 0 + 142 * Int.toNat row + 21 + 6 * Int.toNat seat + 1 + 1 + 1 ≤ 0 + 142 * Int.toNat row + 21 + 6 * Int.toNat seat + 1 + 1 + 1; omega) (by show 6 * (0 + 142 * Int.toNat row + 21 + 6 * Int.toNat seat + 1 + 1) + 6 ≤ 6 * (0 + 142 * Int.toNat row + 21 + 6 * Int.toNat seat + 1 + 1 + 1); omega) (by show 0 + 142 * Int.toNat row + 21 + 6 * Int.toNat seat + 1 + 1 + 1 ≤ 2205 ∧ 6 * (0 + 142 * Int.toNat row + 21 + 6 * Int.toNat seat + 1 + 1 + 1) ≤ 13230; omega) ?_
                refine aw_aload_n dL_areSeatsSo_124 rfl rfl ?_
                refine aw_iload dL_areSeatsSo_125 rfl ?_
                refine aw_iload dL_areSeatsSo_127 rfl ?_
                refine aw_iconst dL_areSeatsSo_129 ?_
                refine aw_isub dL_areSeatsSo_130 ?_
                refine aw_iload dL_areSeatsSo_131 rfl ?_
                refine aw_isub dL_areSeatsSo_133 ?_
                refine lw_Vi (g := 0) (As := [iV (row), iV (((M 2 0 row) - 1) - seat)]) (rest := [iV (vS (M 3 0 row) (M 2 0 row) seat)]) (c2 := 0 + 142 * Int.toNat row + 21 + 6 * Int.toNat seat + 1 + 1 + 1 + 1) (s2 := 6 * (0 + 142 * Int.toNat row + 21 + 6 * Int.toNat seat + 1 + 1 + 1 + 1)) (k_value hst M h (row) (((M 2 0 row) - 1) - seat) (by omega)) cv_X4_value dL_areSeatsSo_134 ml_L_131 rfl rfl rfl rfl rfl (Nat.le_of_ble_eq_true rfl) (by decide) (by show 0 + 142 * Int.toNat row + 21 + 6 * Int.toNat seat + 1 + 1 + 1 + 1 ≤ 0 + 142 * Int.toNat row + 21 + 6 * Int.toNat seat + 1 + 1 + 1 + 1; omega) (by show 6 * (0 + 142 * Int.toNat row + 21 + 6 * Int.toNat seat + 1 + 1 + 1) + 6 ≤ 6 * (0 + 142 * Int.toNat row + 21 + 6 * Int.toNat seat + 1 + 1 + 1 + 1); omega) (by show 0 + 142 * Int.toNat row + 21 + 6 * Int.toNat seat + 1 + 1 + 1 + 1 ≤ 2205 ∧ 6 * (0 + 142 * Int.toNat row + 21 + 6 * Int.toNat seat + 1 + 1 + 1 + 1) ≤ 13230; omega) ?_
                refine aw_same (tgt := 142) dL_areSeatsSo_137 (by decide) (by exact vS_sym _ _ _) ?_
                refine aw_iload dL_areSeatsSo_142 rfl ?_
                refine aw_if_ne (tgt := 178) dL_areSeatsSo_144 (by decide) (by decide) (fun h => absurd h (by decide)) (fun _ => ?_)
                refine aw_iload dL_areSeatsSo_147 rfl ?_
                refine aw_if_ne (tgt := 178) dL_areSeatsSo_149 (by decide) (by have a := f4.1; have b := f4.2.1; omega) (fun h149 => ?_) (fun h149 => ?_)
                · refine aw_iconst dL_areSeatsSo_178 ?_
                  refine aw_istore (L2 := [some (rV K 0 0), some (iV (or2)), some (iV (lo2)), some (iV (ow2)), some (iV (row)), some (iV (M 2 0 row)), some (iV (fre)), some (iV (rn)), some (iV (seat)), some (iV 0), some (iV 0), some (iV 0)]) dL_areSeatsSo_179 (by decide) rfl ?_
                  refine aw_iload_n dL_areSeatsSo_181 rfl rfl ?_
                  refine aw_iload dL_areSeatsSo_182 rfl ?_
                  refine aw_if_le (tgt := 191) dL_areSeatsSo_184 (by decide) (by decide) (fun _ => ?_) (fun h => absurd (by decide) h)
                  refine aw_iconst dL_areSeatsSo_191 ?_
                  refine aw_iadd dL_areSeatsSo_192 ?_
                  refine aw_istore_n (L2 := [some (rV K 0 0), some (iV (or2)), some (iV (lo2)), some (iV (ow2 + 0)), some (iV (row)), some (iV (M 2 0 row)), some (iV (fre)), some (iV (rn)), some (iV (seat)), some (iV 0), some (iV 0), some (iV 0)]) dL_areSeatsSo_193 rfl (by decide) rfl ?_
                  refine aw_iload dL_areSeatsSo_194 rfl ?_
                  refine aw_iload dL_areSeatsSo_196 rfl ?_
                  refine aw_if_ne (tgt := 205) dL_areSeatsSo_198 (by decide) (by decide) (fun h => absurd h (by decide)) (fun _ => ?_)
                  refine aw_iconst dL_areSeatsSo_201 ?_
                  refine aw_goto (tgt := 206) dL_areSeatsSo_202 (by decide) ?_
                  refine aw_iadd dL_areSeatsSo_206 ?_
                  refine aw_istore (L2 := [some (rV K 0 0), some (iV (or2)), some (iV (lo2)), some (iV (ow2 + 0)), some (iV (row)), some (iV (M 2 0 row)), some (iV (fre + 1)), some (iV (rn)), some (iV (seat)), some (iV 0), some (iV 0), some (iV 0)]) dL_areSeatsSo_207 (by decide) rfl ?_
                  refine aw_iload dL_areSeatsSo_209 rfl ?_
                  refine aw_if_ne (tgt := 221) dL_areSeatsSo_211 (by decide) (by decide) (fun h => absurd h (by decide)) (fun _ => ?_)
                  refine aw_iload dL_areSeatsSo_214 rfl ?_
                  refine aw_iconst dL_areSeatsSo_216 ?_
                  refine aw_iadd dL_areSeatsSo_217 ?_
                  refine aw_goto (tgt := 222) dL_areSeatsSo_218 (by decide) ?_
                  refine aw_istore (L2 := [some (rV K 0 0), some (iV (or2)), some (iV (lo2)), some (iV (ow2 + 0)), some (iV (row)), some (iV (M 2 0 row)), some (iV (fre + 1)), some (iV (rn + 1)), some (iV (seat)), some (iV 0), some (iV 0), some (iV 0)]) dL_areSeatsSo_222 (by decide) rfl ?_
                  refine aw_iload dL_areSeatsSo_224 rfl ?_
                  refine aw_iload_n dL_areSeatsSo_226 rfl rfl ?_
                  refine aw_icmp_le (tgt := 235) dL_areSeatsSo_227 (by decide) (by have a := f4.1; have b := f4.2.1; omega) (by omega) (fun h227 => ?_) (fun h227 => ?_)
                  · refine aw_iload_n dL_areSeatsSo_235 rfl rfl ?_
                    refine aw_istore_n (L2 := [some (rV K 0 0), some (iV (or2)), some (iV (lo2)), some (iV (ow2 + 0)), some (iV (row)), some (iV (M 2 0 row)), some (iV (fre + 1)), some (iV (rn + 1)), some (iV (seat)), some (iV 0), some (iV 0), some (iV 0)]) dL_areSeatsSo_236 rfl (by decide) rfl ?_
                    refine aw_iload_n dL_areSeatsSo_237 rfl rfl ?_
                    refine aw_iload dL_areSeatsSo_238 rfl ?_
                    refine aw_if_eq (tgt := 247) dL_areSeatsSo_240 (by decide) (by decide) (fun _ => ?_) (fun h => absurd (by decide) h)
                    refine aw_iconst dL_areSeatsSo_247 ?_
                    refine aw_iadd dL_areSeatsSo_248 ?_
                    refine aw_istore_n (L2 := [some (rV K 0 0), some (iV (or2 + 0)), some (iV (lo2)), some (iV (ow2 + 0)), some (iV (row)), some (iV (M 2 0 row)), some (iV (fre + 1)), some (iV (rn + 1)), some (iV (seat)), some (iV 0), some (iV 0), some (iV 0)]) dL_areSeatsSo_249 rfl (by decide) rfl ?_
                    refine aw_iinc (L2 := [some (rV K 0 0), some (iV (or2 + 0)), some (iV (lo2)), some (iV (ow2 + 0)), some (iV (row)), some (iV (M 2 0 row)), some (iV (fre + 1)), some (iV (rn + 1)), some (iV (seat + 1)), some (iV 0), some (iV 0), some (iV 0)]) dL_areSeatsSo_250 rfl (by decide) rfl ?_
                    refine aw_goto (tgt := 35) dL_areSeatsSo_253 (by decide) ?_
                    refine aw_weak (L' := [some (rV K 0 0), some (iV (or2 + 0)), some (iV (lo2)), some (iV (ow2 + 0)), some (iV (row)), some (iV (M 2 0 row)), some (iV (fre + 1)), some (iV (rn + 1)), some (iV (seat + 1)), none, none, none]) ⟨Or.inr rfl, Or.inr rfl, Or.inr rfl, Or.inr rfl, Or.inr rfl, Or.inr rfl, Or.inr rfl, Or.inr rfl, Or.inr rfl, Or.inl rfl, Or.inl rfl, Or.inl rfl, trivial⟩ ?_
                    refine aw_wide (a := 0 + 142 * Int.toNat row + 21 + 6 * Int.toNat (seat + 1)) (b := 6 * (0 + 142 * Int.toNat row + 21 + 6 * Int.toNat (seat + 1))) (by omega) (by omega) ?_
                    exact ih35 (or2 + 0) (lo2) (ow2 + 0) (fre + 1) (rn + 1) (seat + 1) (by omega) (by rw [sumI_s f1.1, orC_l h39x f4 h149, f2]; omega) (by obtain ⟨z, z1, z2⟩ := f3; exact ⟨max z (rn + 1), (isLong_st f1.1 z1 f4 hk).1, by omega⟩) (by exact isRun_t f4 hk) (by rw [sumI_s f1.1, if_neg (show ¬ 0 < M 6 row seat by omega), f5]; omega) (by rw [sumI_s f1.1, if_pos hk, f6]) (by have a := f4.1; have b := f4.2.1; omega) (by omega)
                  · refine aw_iload dL_areSeatsSo_230 rfl ?_
                    refine aw_goto (tgt := 236) dL_areSeatsSo_232 (by decide) ?_
                    refine aw_istore_n (L2 := [some (rV K 0 0), some (iV (or2)), some (iV (rn + 1)), some (iV (ow2 + 0)), some (iV (row)), some (iV (M 2 0 row)), some (iV (fre + 1)), some (iV (rn + 1)), some (iV (seat)), some (iV 0), some (iV 0), some (iV 0)]) dL_areSeatsSo_236 rfl (by decide) rfl ?_
                    refine aw_iload_n dL_areSeatsSo_237 rfl rfl ?_
                    refine aw_iload dL_areSeatsSo_238 rfl ?_
                    refine aw_if_eq (tgt := 247) dL_areSeatsSo_240 (by decide) (by decide) (fun _ => ?_) (fun h => absurd (by decide) h)
                    refine aw_iconst dL_areSeatsSo_247 ?_
                    refine aw_iadd dL_areSeatsSo_248 ?_
                    refine aw_istore_n (L2 := [some (rV K 0 0), some (iV (or2 + 0)), some (iV (rn + 1)), some (iV (ow2 + 0)), some (iV (row)), some (iV (M 2 0 row)), some (iV (fre + 1)), some (iV (rn + 1)), some (iV (seat)), some (iV 0), some (iV 0), some (iV 0)]) dL_areSeatsSo_249 rfl (by decide) rfl ?_
                    refine aw_iinc (L2 := [some (rV K 0 0), some (iV (or2 + 0)), some (iV (rn + 1)), some (iV (ow2 + 0)), some (iV (row)), some (iV (M 2 0 row)), some (iV (fre + 1)), some (iV (rn + 1)), some (iV (seat + 1)), some (iV 0), some (iV 0), some (iV 0)]) dL_areSeatsSo_250 rfl (by decide) rfl ?_
                    refine aw_goto (tgt := 35) dL_areSeatsSo_253 (by decide) ?_
                    refine aw_weak (L' := [some (rV K 0 0), some (iV (or2 + 0)), some (iV (rn + 1)), some (iV (ow2 + 0)), some (iV (row)), some (iV (M 2 0 row)), some (iV (fre + 1)), some (iV (rn + 1)), some (iV (seat + 1)), none, none, none]) ⟨Or.inr rfl, Or.inr rfl, Or.inr rfl, Or.inr rfl, Or.inr rfl, Or.inr rfl, Or.inr rfl, Or.inr rfl, Or.inr rfl, Or.inl rfl, Or.inl rfl, Or.inl rfl, trivial⟩ ?_
                    refine aw_wide (a := 0 + 142 * Int.toNat row + 21 + 6 * Int.toNat (seat + 1)) (b := 6 * (0 + 142 * Int.toNat row + 21 + 6 * Int.toNat (seat + 1))) (by omega) (by omega) ?_
                    exact ih35 (or2 + 0) (rn + 1) (ow2 + 0) (fre + 1) (rn + 1) (seat + 1) (by omega) (by rw [sumI_s f1.1, orC_l h39x f4 h149, f2]; omega) (by obtain ⟨z, z1, z2⟩ := f3; exact ⟨max z (rn + 1), (isLong_st f1.1 z1 f4 hk).1, by omega⟩) (by exact isRun_t f4 hk) (by rw [sumI_s f1.1, if_neg (show ¬ 0 < M 6 row seat by omega), f5]; omega) (by rw [sumI_s f1.1, if_pos hk, f6]) (by have a := f4.1; have b := f4.2.1; omega) (by omega)
                · refine aw_iload dL_areSeatsSo_152 rfl ?_
                  refine aw_iconst dL_areSeatsSo_154 ?_
                  refine aw_iadd dL_areSeatsSo_155 ?_
                  refine aw_iload dL_areSeatsSo_156 rfl ?_
                  refine aw_icmp_eq (tgt := 174) dL_areSeatsSo_158 (by decide) (by omega) (by omega) (fun h158 => ?_) (fun h158 => ?_)
                  · refine aw_iconst dL_areSeatsSo_174 ?_
                    refine aw_goto (tgt := 179) dL_areSeatsSo_175 (by decide) ?_
                    refine aw_istore (L2 := [some (rV K 0 0), some (iV (or2)), some (iV (lo2)), some (iV (ow2)), some (iV (row)), some (iV (M 2 0 row)), some (iV (fre)), some (iV (rn)), some (iV (seat)), some (iV 0), some (iV 0), some (iV 1)]) dL_areSeatsSo_179 (by decide) rfl ?_
                    refine aw_iload_n dL_areSeatsSo_181 rfl rfl ?_
                    refine aw_iload dL_areSeatsSo_182 rfl ?_
                    refine aw_if_le (tgt := 191) dL_areSeatsSo_184 (by decide) (by decide) (fun _ => ?_) (fun h => absurd (by decide) h)
                    refine aw_iconst dL_areSeatsSo_191 ?_
                    refine aw_iadd dL_areSeatsSo_192 ?_
                    refine aw_istore_n (L2 := [some (rV K 0 0), some (iV (or2)), some (iV (lo2)), some (iV (ow2 + 0)), some (iV (row)), some (iV (M 2 0 row)), some (iV (fre)), some (iV (rn)), some (iV (seat)), some (iV 0), some (iV 0), some (iV 1)]) dL_areSeatsSo_193 rfl (by decide) rfl ?_
                    refine aw_iload dL_areSeatsSo_194 rfl ?_
                    refine aw_iload dL_areSeatsSo_196 rfl ?_
                    refine aw_if_ne (tgt := 205) dL_areSeatsSo_198 (by decide) (by decide) (fun h => absurd h (by decide)) (fun _ => ?_)
                    refine aw_iconst dL_areSeatsSo_201 ?_
                    refine aw_goto (tgt := 206) dL_areSeatsSo_202 (by decide) ?_
                    refine aw_iadd dL_areSeatsSo_206 ?_
                    refine aw_istore (L2 := [some (rV K 0 0), some (iV (or2)), some (iV (lo2)), some (iV (ow2 + 0)), some (iV (row)), some (iV (M 2 0 row)), some (iV (fre + 1)), some (iV (rn)), some (iV (seat)), some (iV 0), some (iV 0), some (iV 1)]) dL_areSeatsSo_207 (by decide) rfl ?_
                    refine aw_iload dL_areSeatsSo_209 rfl ?_
                    refine aw_if_ne (tgt := 221) dL_areSeatsSo_211 (by decide) (by decide) (fun h => absurd h (by decide)) (fun _ => ?_)
                    refine aw_iload dL_areSeatsSo_214 rfl ?_
                    refine aw_iconst dL_areSeatsSo_216 ?_
                    refine aw_iadd dL_areSeatsSo_217 ?_
                    refine aw_goto (tgt := 222) dL_areSeatsSo_218 (by decide) ?_
                    refine aw_istore (L2 := [some (rV K 0 0), some (iV (or2)), some (iV (lo2)), some (iV (ow2 + 0)), some (iV (row)), some (iV (M 2 0 row)), some (iV (fre + 1)), some (iV (rn + 1)), some (iV (seat)), some (iV 0), some (iV 0), some (iV 1)]) dL_areSeatsSo_222 (by decide) rfl ?_
                    refine aw_iload dL_areSeatsSo_224 rfl ?_
                    refine aw_iload_n dL_areSeatsSo_226 rfl rfl ?_
                    refine aw_icmp_le (tgt := 235) dL_areSeatsSo_227 (by decide) (by have a := f4.1; have b := f4.2.1; omega) (by omega) (fun h227 => ?_) (fun h227 => ?_)
                    · refine aw_iload_n dL_areSeatsSo_235 rfl rfl ?_
                      refine aw_istore_n (L2 := [some (rV K 0 0), some (iV (or2)), some (iV (lo2)), some (iV (ow2 + 0)), some (iV (row)), some (iV (M 2 0 row)), some (iV (fre + 1)), some (iV (rn + 1)), some (iV (seat)), some (iV 0), some (iV 0), some (iV 1)]) dL_areSeatsSo_236 rfl (by decide) rfl ?_
                      refine aw_iload_n dL_areSeatsSo_237 rfl rfl ?_
                      refine aw_iload dL_areSeatsSo_238 rfl ?_
                      refine aw_if_eq (tgt := 247) dL_areSeatsSo_240 (by decide) (by decide) (fun h => absurd h (by decide)) (fun _ => ?_)
                      refine aw_iconst dL_areSeatsSo_243 ?_
                      refine aw_goto (tgt := 248) dL_areSeatsSo_244 (by decide) ?_
                      refine aw_iadd dL_areSeatsSo_248 ?_
                      refine aw_istore_n (L2 := [some (rV K 0 0), some (iV (or2 + 1)), some (iV (lo2)), some (iV (ow2 + 0)), some (iV (row)), some (iV (M 2 0 row)), some (iV (fre + 1)), some (iV (rn + 1)), some (iV (seat)), some (iV 0), some (iV 0), some (iV 1)]) dL_areSeatsSo_249 rfl (by decide) rfl ?_
                      refine aw_iinc (L2 := [some (rV K 0 0), some (iV (or2 + 1)), some (iV (lo2)), some (iV (ow2 + 0)), some (iV (row)), some (iV (M 2 0 row)), some (iV (fre + 1)), some (iV (rn + 1)), some (iV (seat + 1)), some (iV 0), some (iV 0), some (iV 1)]) dL_areSeatsSo_250 rfl (by decide) rfl ?_
                      refine aw_goto (tgt := 35) dL_areSeatsSo_253 (by decide) ?_
                      refine aw_weak (L' := [some (rV K 0 0), some (iV (or2 + 1)), some (iV (lo2)), some (iV (ow2 + 0)), some (iV (row)), some (iV (M 2 0 row)), some (iV (fre + 1)), some (iV (rn + 1)), some (iV (seat + 1)), none, none, none]) ⟨Or.inr rfl, Or.inr rfl, Or.inr rfl, Or.inr rfl, Or.inr rfl, Or.inr rfl, Or.inr rfl, Or.inr rfl, Or.inr rfl, Or.inl rfl, Or.inl rfl, Or.inl rfl, trivial⟩ ?_
                      refine aw_wide (a := 0 + 142 * Int.toNat row + 21 + 6 * Int.toNat (seat + 1)) (b := 6 * (0 + 142 * Int.toNat row + 21 + 6 * Int.toNat (seat + 1))) (by omega) (by omega) ?_
                      exact ih35 (or2 + 1) (lo2) (ow2 + 0) (fre + 1) (rn + 1) (seat + 1) (by omega) (by rw [sumI_s f1.1, orC_y f1.1 h39x hk (h149 ▸ f4) (Or.inl h158), f2]; omega) (by obtain ⟨z, z1, z2⟩ := f3; exact ⟨max z (rn + 1), (isLong_st f1.1 z1 f4 hk).1, by omega⟩) (by exact isRun_t f4 hk) (by rw [sumI_s f1.1, if_neg (show ¬ 0 < M 6 row seat by omega), f5]; omega) (by rw [sumI_s f1.1, if_pos hk, f6]) (by have a := f4.1; have b := f4.2.1; omega) (by omega)
                    · refine aw_iload dL_areSeatsSo_230 rfl ?_
                      refine aw_goto (tgt := 236) dL_areSeatsSo_232 (by decide) ?_
                      refine aw_istore_n (L2 := [some (rV K 0 0), some (iV (or2)), some (iV (rn + 1)), some (iV (ow2 + 0)), some (iV (row)), some (iV (M 2 0 row)), some (iV (fre + 1)), some (iV (rn + 1)), some (iV (seat)), some (iV 0), some (iV 0), some (iV 1)]) dL_areSeatsSo_236 rfl (by decide) rfl ?_
                      refine aw_iload_n dL_areSeatsSo_237 rfl rfl ?_
                      refine aw_iload dL_areSeatsSo_238 rfl ?_
                      refine aw_if_eq (tgt := 247) dL_areSeatsSo_240 (by decide) (by decide) (fun h => absurd h (by decide)) (fun _ => ?_)
                      refine aw_iconst dL_areSeatsSo_243 ?_
                      refine aw_goto (tgt := 248) dL_areSeatsSo_244 (by decide) ?_
                      refine aw_iadd dL_areSeatsSo_248 ?_
                      refine aw_istore_n (L2 := [some (rV K 0 0), some (iV (or2 + 1)), some (iV (rn + 1)), some (iV (ow2 + 0)), some (iV (row)), some (iV (M 2 0 row)), some (iV (fre + 1)), some (iV (rn + 1)), some (iV (seat)), some (iV 0), some (iV 0), some (iV 1)]) dL_areSeatsSo_249 rfl (by decide) rfl ?_
                      refine aw_iinc (L2 := [some (rV K 0 0), some (iV (or2 + 1)), some (iV (rn + 1)), some (iV (ow2 + 0)), some (iV (row)), some (iV (M 2 0 row)), some (iV (fre + 1)), some (iV (rn + 1)), some (iV (seat + 1)), some (iV 0), some (iV 0), some (iV 1)]) dL_areSeatsSo_250 rfl (by decide) rfl ?_
                      refine aw_goto (tgt := 35) dL_areSeatsSo_253 (by decide) ?_
                      refine aw_weak (L' := [some (rV K 0 0), some (iV (or2 + 1)), some (iV (rn + 1)), some (iV (ow2 + 0)), some (iV (row)), some (iV (M 2 0 row)), some (iV (fre + 1)), some (iV (rn + 1)), some (iV (seat + 1)), none, none, none]) ⟨Or.inr rfl, Or.inr rfl, Or.inr rfl, Or.inr rfl, Or.inr rfl, Or.inr rfl, Or.inr rfl, Or.inr rfl, Or.inr rfl, Or.inl rfl, Or.inl rfl, Or.inl rfl, trivial⟩ ?_
                      refine aw_wide (a := 0 + 142 * Int.toNat row + 21 + 6 * Int.toNat (seat + 1)) (b := 6 * (0 + 142 * Int.toNat row + 21 + 6 * Int.toNat (seat + 1))) (by omega) (by omega) ?_
                      exact ih35 (or2 + 1) (rn + 1) (ow2 + 0) (fre + 1) (rn + 1) (seat + 1) (by omega) (by rw [sumI_s f1.1, orC_y f1.1 h39x hk (h149 ▸ f4) (Or.inl h158), f2]; omega) (by obtain ⟨z, z1, z2⟩ := f3; exact ⟨max z (rn + 1), (isLong_st f1.1 z1 f4 hk).1, by omega⟩) (by exact isRun_t f4 hk) (by rw [sumI_s f1.1, if_neg (show ¬ 0 < M 6 row seat by omega), f5]; omega) (by rw [sumI_s f1.1, if_pos hk, f6]) (by have a := f4.1; have b := f4.2.1; omega) (by omega)
                  · refine aw_aload_n dL_areSeatsSo_161 rfl rfl ?_
                    refine aw_iload dL_areSeatsSo_162 rfl ?_
                    refine aw_iload dL_areSeatsSo_164 rfl ?_
                    refine aw_iconst dL_areSeatsSo_166 ?_
                    refine aw_iadd dL_areSeatsSo_167 ?_
                    refine lw_Vi (g := 0) (As := [iV (row), iV (seat + 1)]) (rest := []) (c2 := 0 + 142 * Int.toNat row + 21 + 6 * Int.toNat seat + 1 + 1 + 1 + 1 + 1) (s2 := 6 * (0 + 142 * Int.toNat row + 21 + 6 * Int.toNat seat + 1 + 1 + 1 + 1 + 1)) (k_state hst M h (row) (seat + 1) (by omega)) cv_X4_state dL_areSeatsSo_168 ml_L_111 rfl rfl rfl rfl rfl (Nat.le_of_ble_eq_true rfl) (by decide) (by show 0 + 142 * Int.toNat row + 21 + 6 * Int.toNat seat + 1 + 1 + 1 + 1 + 1 ≤ 0 + 142 * Int.toNat row + 21 + 6 * Int.toNat seat + 1 + 1 + 1 + 1 + 1; omega) (by show 6 * (0 + 142 * Int.toNat row + 21 + 6 * Int.toNat seat + 1 + 1 + 1 + 1) + 6 ≤ 6 * (0 + 142 * Int.toNat row + 21 + 6 * Int.toNat seat + 1 + 1 + 1 + 1 + 1); omega) (by show 0 + 142 * Int.toNat row + 21 + 6 * Int.toNat seat + 1 + 1 + 1 + 1 + 1 ≤ 2205 ∧ 6 * (0 + 142 * Int.toNat row + 21 + 6 * Int.toNat seat + 1 + 1 + 1 + 1 + 1) ≤ 13230; omega) ?_
                    refine aw_if_eq (tgt := 178) dL_areSeatsSo_171 (by decide) (by have q := stV_r M row (seat + 1); omega) (fun h171 => ?_) (fun h171 => ?_)
                    · refine aw_iconst dL_areSeatsSo_178 ?_
                      refine aw_istore (L2 := [some (rV K 0 0), some (iV (or2)), some (iV (lo2)), some (iV (ow2)), some (iV (row)), some (iV (M 2 0 row)), some (iV (fre)), some (iV (rn)), some (iV (seat)), some (iV 0), some (iV 0), some (iV 0)]) dL_areSeatsSo_179 (by decide) rfl ?_
                      refine aw_iload_n dL_areSeatsSo_181 rfl rfl ?_
                      refine aw_iload dL_areSeatsSo_182 rfl ?_
                      refine aw_if_le (tgt := 191) dL_areSeatsSo_184 (by decide) (by decide) (fun _ => ?_) (fun h => absurd (by decide) h)
                      refine aw_iconst dL_areSeatsSo_191 ?_
                      refine aw_iadd dL_areSeatsSo_192 ?_
                      refine aw_istore_n (L2 := [some (rV K 0 0), some (iV (or2)), some (iV (lo2)), some (iV (ow2 + 0)), some (iV (row)), some (iV (M 2 0 row)), some (iV (fre)), some (iV (rn)), some (iV (seat)), some (iV 0), some (iV 0), some (iV 0)]) dL_areSeatsSo_193 rfl (by decide) rfl ?_
                      refine aw_iload dL_areSeatsSo_194 rfl ?_
                      refine aw_iload dL_areSeatsSo_196 rfl ?_
                      refine aw_if_ne (tgt := 205) dL_areSeatsSo_198 (by decide) (by decide) (fun h => absurd h (by decide)) (fun _ => ?_)
                      refine aw_iconst dL_areSeatsSo_201 ?_
                      refine aw_goto (tgt := 206) dL_areSeatsSo_202 (by decide) ?_
                      refine aw_iadd dL_areSeatsSo_206 ?_
                      refine aw_istore (L2 := [some (rV K 0 0), some (iV (or2)), some (iV (lo2)), some (iV (ow2 + 0)), some (iV (row)), some (iV (M 2 0 row)), some (iV (fre + 1)), some (iV (rn)), some (iV (seat)), some (iV 0), some (iV 0), some (iV 0)]) dL_areSeatsSo_207 (by decide) rfl ?_
                      refine aw_iload dL_areSeatsSo_209 rfl ?_
                      refine aw_if_ne (tgt := 221) dL_areSeatsSo_211 (by decide) (by decide) (fun h => absurd h (by decide)) (fun _ => ?_)
                      refine aw_iload dL_areSeatsSo_214 rfl ?_
                      refine aw_iconst dL_areSeatsSo_216 ?_
                      refine aw_iadd dL_areSeatsSo_217 ?_
                      refine aw_goto (tgt := 222) dL_areSeatsSo_218 (by decide) ?_
                      refine aw_istore (L2 := [some (rV K 0 0), some (iV (or2)), some (iV (lo2)), some (iV (ow2 + 0)), some (iV (row)), some (iV (M 2 0 row)), some (iV (fre + 1)), some (iV (rn + 1)), some (iV (seat)), some (iV 0), some (iV 0), some (iV 0)]) dL_areSeatsSo_222 (by decide) rfl ?_
                      refine aw_iload dL_areSeatsSo_224 rfl ?_
                      refine aw_iload_n dL_areSeatsSo_226 rfl rfl ?_
                      refine aw_icmp_le (tgt := 235) dL_areSeatsSo_227 (by decide) (by have a := f4.1; have b := f4.2.1; omega) (by omega) (fun h227 => ?_) (fun h227 => ?_)
                      · refine aw_iload_n dL_areSeatsSo_235 rfl rfl ?_
                        refine aw_istore_n (L2 := [some (rV K 0 0), some (iV (or2)), some (iV (lo2)), some (iV (ow2 + 0)), some (iV (row)), some (iV (M 2 0 row)), some (iV (fre + 1)), some (iV (rn + 1)), some (iV (seat)), some (iV 0), some (iV 0), some (iV 0)]) dL_areSeatsSo_236 rfl (by decide) rfl ?_
                        refine aw_iload_n dL_areSeatsSo_237 rfl rfl ?_
                        refine aw_iload dL_areSeatsSo_238 rfl ?_
                        refine aw_if_eq (tgt := 247) dL_areSeatsSo_240 (by decide) (by decide) (fun _ => ?_) (fun h => absurd (by decide) h)
                        refine aw_iconst dL_areSeatsSo_247 ?_
                        refine aw_iadd dL_areSeatsSo_248 ?_
                        refine aw_istore_n (L2 := [some (rV K 0 0), some (iV (or2 + 0)), some (iV (lo2)), some (iV (ow2 + 0)), some (iV (row)), some (iV (M 2 0 row)), some (iV (fre + 1)), some (iV (rn + 1)), some (iV (seat)), some (iV 0), some (iV 0), some (iV 0)]) dL_areSeatsSo_249 rfl (by decide) rfl ?_
                        refine aw_iinc (L2 := [some (rV K 0 0), some (iV (or2 + 0)), some (iV (lo2)), some (iV (ow2 + 0)), some (iV (row)), some (iV (M 2 0 row)), some (iV (fre + 1)), some (iV (rn + 1)), some (iV (seat + 1)), some (iV 0), some (iV 0), some (iV 0)]) dL_areSeatsSo_250 rfl (by decide) rfl ?_
                        refine aw_goto (tgt := 35) dL_areSeatsSo_253 (by decide) ?_
                        refine aw_weak (L' := [some (rV K 0 0), some (iV (or2 + 0)), some (iV (lo2)), some (iV (ow2 + 0)), some (iV (row)), some (iV (M 2 0 row)), some (iV (fre + 1)), some (iV (rn + 1)), some (iV (seat + 1)), none, none, none]) ⟨Or.inr rfl, Or.inr rfl, Or.inr rfl, Or.inr rfl, Or.inr rfl, Or.inr rfl, Or.inr rfl, Or.inr rfl, Or.inr rfl, Or.inl rfl, Or.inl rfl, Or.inl rfl, trivial⟩ ?_
                        refine aw_wide (a := 0 + 142 * Int.toNat row + 21 + 6 * Int.toNat (seat + 1)) (b := 6 * (0 + 142 * Int.toNat row + 21 + 6 * Int.toNat (seat + 1))) (by omega) (by omega) ?_
                        exact ih35 (or2 + 0) (lo2) (ow2 + 0) (fre + 1) (rn + 1) (seat + 1) (by omega) (by rw [sumI_s f1.1, orC_r f1.1 (by omega) (stV_0.mp h171), f2]; omega) (by obtain ⟨z, z1, z2⟩ := f3; exact ⟨max z (rn + 1), (isLong_st f1.1 z1 f4 hk).1, by omega⟩) (by exact isRun_t f4 hk) (by rw [sumI_s f1.1, if_neg (show ¬ 0 < M 6 row seat by omega), f5]; omega) (by rw [sumI_s f1.1, if_pos hk, f6]) (by have a := f4.1; have b := f4.2.1; omega) (by omega)
                      · refine aw_iload dL_areSeatsSo_230 rfl ?_
                        refine aw_goto (tgt := 236) dL_areSeatsSo_232 (by decide) ?_
                        refine aw_istore_n (L2 := [some (rV K 0 0), some (iV (or2)), some (iV (rn + 1)), some (iV (ow2 + 0)), some (iV (row)), some (iV (M 2 0 row)), some (iV (fre + 1)), some (iV (rn + 1)), some (iV (seat)), some (iV 0), some (iV 0), some (iV 0)]) dL_areSeatsSo_236 rfl (by decide) rfl ?_
                        refine aw_iload_n dL_areSeatsSo_237 rfl rfl ?_
                        refine aw_iload dL_areSeatsSo_238 rfl ?_
                        refine aw_if_eq (tgt := 247) dL_areSeatsSo_240 (by decide) (by decide) (fun _ => ?_) (fun h => absurd (by decide) h)
                        refine aw_iconst dL_areSeatsSo_247 ?_
                        refine aw_iadd dL_areSeatsSo_248 ?_
                        refine aw_istore_n (L2 := [some (rV K 0 0), some (iV (or2 + 0)), some (iV (rn + 1)), some (iV (ow2 + 0)), some (iV (row)), some (iV (M 2 0 row)), some (iV (fre + 1)), some (iV (rn + 1)), some (iV (seat)), some (iV 0), some (iV 0), some (iV 0)]) dL_areSeatsSo_249 rfl (by decide) rfl ?_
                        refine aw_iinc (L2 := [some (rV K 0 0), some (iV (or2 + 0)), some (iV (rn + 1)), some (iV (ow2 + 0)), some (iV (row)), some (iV (M 2 0 row)), some (iV (fre + 1)), some (iV (rn + 1)), some (iV (seat + 1)), some (iV 0), some (iV 0), some (iV 0)]) dL_areSeatsSo_250 rfl (by decide) rfl ?_
                        refine aw_goto (tgt := 35) dL_areSeatsSo_253 (by decide) ?_
                        refine aw_weak (L' := [some (rV K 0 0), some (iV (or2 + 0)), some (iV (rn + 1)), some (iV (ow2 + 0)), some (iV (row)), some (iV (M 2 0 row)), some (iV (fre + 1)), some (iV (rn + 1)), some (iV (seat + 1)), none, none, none]) ⟨Or.inr rfl, Or.inr rfl, Or.inr rfl, Or.inr rfl, Or.inr rfl, Or.inr rfl, Or.inr rfl, Or.inr rfl, Or.inr rfl, Or.inl rfl, Or.inl rfl, Or.inl rfl, trivial⟩ ?_
                        refine aw_wide (a := 0 + 142 * Int.toNat row + 21 + 6 * Int.toNat (seat + 1)) (b := 6 * (0 + 142 * Int.toNat row + 21 + 6 * Int.toNat (seat + 1))) (by omega) (by omega) ?_
                        exact ih35 (or2 + 0) (rn + 1) (ow2 + 0) (fre + 1) (rn + 1) (seat + 1) (by omega) (by rw [sumI_s f1.1, orC_r f1.1 (by omega) (stV_0.mp h171), f2]; omega) (by obtain ⟨z, z1, z2⟩ := f3; exact ⟨max z (rn + 1), (isLong_st f1.1 z1 f4 hk).1, by omega⟩) (by exact isRun_t f4 hk) (by rw [sumI_s f1.1, if_neg (show ¬ 0 < M 6 row seat by omega), f5]; omega) (by rw [sumI_s f1.1, if_pos hk, f6]) (by have a := f4.1; have b := f4.2.1; omega) (by omega)
                    · refine aw_iconst dL_areSeatsSo_174 ?_
                      refine aw_goto (tgt := 179) dL_areSeatsSo_175 (by decide) ?_
                      refine aw_istore (L2 := [some (rV K 0 0), some (iV (or2)), some (iV (lo2)), some (iV (ow2)), some (iV (row)), some (iV (M 2 0 row)), some (iV (fre)), some (iV (rn)), some (iV (seat)), some (iV 0), some (iV 0), some (iV 1)]) dL_areSeatsSo_179 (by decide) rfl ?_
                      refine aw_iload_n dL_areSeatsSo_181 rfl rfl ?_
                      refine aw_iload dL_areSeatsSo_182 rfl ?_
                      refine aw_if_le (tgt := 191) dL_areSeatsSo_184 (by decide) (by decide) (fun _ => ?_) (fun h => absurd (by decide) h)
                      refine aw_iconst dL_areSeatsSo_191 ?_
                      refine aw_iadd dL_areSeatsSo_192 ?_
                      refine aw_istore_n (L2 := [some (rV K 0 0), some (iV (or2)), some (iV (lo2)), some (iV (ow2 + 0)), some (iV (row)), some (iV (M 2 0 row)), some (iV (fre)), some (iV (rn)), some (iV (seat)), some (iV 0), some (iV 0), some (iV 1)]) dL_areSeatsSo_193 rfl (by decide) rfl ?_
                      refine aw_iload dL_areSeatsSo_194 rfl ?_
                      refine aw_iload dL_areSeatsSo_196 rfl ?_
                      refine aw_if_ne (tgt := 205) dL_areSeatsSo_198 (by decide) (by decide) (fun h => absurd h (by decide)) (fun _ => ?_)
                      refine aw_iconst dL_areSeatsSo_201 ?_
                      refine aw_goto (tgt := 206) dL_areSeatsSo_202 (by decide) ?_
                      refine aw_iadd dL_areSeatsSo_206 ?_
                      refine aw_istore (L2 := [some (rV K 0 0), some (iV (or2)), some (iV (lo2)), some (iV (ow2 + 0)), some (iV (row)), some (iV (M 2 0 row)), some (iV (fre + 1)), some (iV (rn)), some (iV (seat)), some (iV 0), some (iV 0), some (iV 1)]) dL_areSeatsSo_207 (by decide) rfl ?_
                      refine aw_iload dL_areSeatsSo_209 rfl ?_
                      refine aw_if_ne (tgt := 221) dL_areSeatsSo_211 (by decide) (by decide) (fun h => absurd h (by decide)) (fun _ => ?_)
                      refine aw_iload dL_areSeatsSo_214 rfl ?_
                      refine aw_iconst dL_areSeatsSo_216 ?_
                      refine aw_iadd dL_areSeatsSo_217 ?_
                      refine aw_goto (tgt := 222) dL_areSeatsSo_218 (by decide) ?_
                      refine aw_istore (L2 := [some (rV K 0 0), some (iV (or2)), some (iV (lo2)), some (iV (ow2 + 0)), some (iV (row)), some (iV (M 2 0 row)), some (iV (fre + 1)), some (iV (rn + 1)), some (iV (seat)), some (iV 0), some (iV 0), some (iV 1)]) dL_areSeatsSo_222 (by decide) rfl ?_
                      refine aw_iload dL_areSeatsSo_224 rfl ?_
                      refine aw_iload_n dL_areSeatsSo_226 rfl rfl ?_
                      refine aw_icmp_le (tgt := 235) dL_areSeatsSo_227 (by decide) (by have a := f4.1; have b := f4.2.1; omega) (by omega) (fun h227 => ?_) (fun h227 => ?_)
                      · refine aw_iload_n dL_areSeatsSo_235 rfl rfl ?_
                        refine aw_istore_n (L2 := [some (rV K 0 0), some (iV (or2)), some (iV (lo2)), some (iV (ow2 + 0)), some (iV (row)), some (iV (M 2 0 row)), some (iV (fre + 1)), some (iV (rn + 1)), some (iV (seat)), some (iV 0), some (iV 0), some (iV 1)]) dL_areSeatsSo_236 rfl (by decide) rfl ?_
                        refine aw_iload_n dL_areSeatsSo_237 rfl rfl ?_
                        refine aw_iload dL_areSeatsSo_238 rfl ?_
                        refine aw_if_eq (tgt := 247) dL_areSeatsSo_240 (by decide) (by decide) (fun h => absurd h (by decide)) (fun _ => ?_)
                        refine aw_iconst dL_areSeatsSo_243 ?_
                        refine aw_goto (tgt := 248) dL_areSeatsSo_244 (by decide) ?_
                        refine aw_iadd dL_areSeatsSo_248 ?_
                        refine aw_istore_n (L2 := [some (rV K 0 0), some (iV (or2 + 1)), some (iV (lo2)), some (iV (ow2 + 0)), some (iV (row)), some (iV (M 2 0 row)), some (iV (fre + 1)), some (iV (rn + 1)), some (iV (seat)), some (iV 0), some (iV 0), some (iV 1)]) dL_areSeatsSo_249 rfl (by decide) rfl ?_
                        refine aw_iinc (L2 := [some (rV K 0 0), some (iV (or2 + 1)), some (iV (lo2)), some (iV (ow2 + 0)), some (iV (row)), some (iV (M 2 0 row)), some (iV (fre + 1)), some (iV (rn + 1)), some (iV (seat + 1)), some (iV 0), some (iV 0), some (iV 1)]) dL_areSeatsSo_250 rfl (by decide) rfl ?_
                        refine aw_goto (tgt := 35) dL_areSeatsSo_253 (by decide) ?_
                        refine aw_weak (L' := [some (rV K 0 0), some (iV (or2 + 1)), some (iV (lo2)), some (iV (ow2 + 0)), some (iV (row)), some (iV (M 2 0 row)), some (iV (fre + 1)), some (iV (rn + 1)), some (iV (seat + 1)), none, none, none]) ⟨Or.inr rfl, Or.inr rfl, Or.inr rfl, Or.inr rfl, Or.inr rfl, Or.inr rfl, Or.inr rfl, Or.inr rfl, Or.inr rfl, Or.inl rfl, Or.inl rfl, Or.inl rfl, trivial⟩ ?_
                        refine aw_wide (a := 0 + 142 * Int.toNat row + 21 + 6 * Int.toNat (seat + 1)) (b := 6 * (0 + 142 * Int.toNat row + 21 + 6 * Int.toNat (seat + 1))) (by omega) (by omega) ?_
                        exact ih35 (or2 + 1) (lo2) (ow2 + 0) (fre + 1) (rn + 1) (seat + 1) (by omega) (by rw [sumI_s f1.1, orC_y f1.1 h39x hk (h149 ▸ f4) (Or.inr (fun q => h171 (stV_0.mpr q))), f2]; omega) (by obtain ⟨z, z1, z2⟩ := f3; exact ⟨max z (rn + 1), (isLong_st f1.1 z1 f4 hk).1, by omega⟩) (by exact isRun_t f4 hk) (by rw [sumI_s f1.1, if_neg (show ¬ 0 < M 6 row seat by omega), f5]; omega) (by rw [sumI_s f1.1, if_pos hk, f6]) (by have a := f4.1; have b := f4.2.1; omega) (by omega)
                      · refine aw_iload dL_areSeatsSo_230 rfl ?_
                        refine aw_goto (tgt := 236) dL_areSeatsSo_232 (by decide) ?_
                        refine aw_istore_n (L2 := [some (rV K 0 0), some (iV (or2)), some (iV (rn + 1)), some (iV (ow2 + 0)), some (iV (row)), some (iV (M 2 0 row)), some (iV (fre + 1)), some (iV (rn + 1)), some (iV (seat)), some (iV 0), some (iV 0), some (iV 1)]) dL_areSeatsSo_236 rfl (by decide) rfl ?_
                        refine aw_iload_n dL_areSeatsSo_237 rfl rfl ?_
                        refine aw_iload dL_areSeatsSo_238 rfl ?_
                        refine aw_if_eq (tgt := 247) dL_areSeatsSo_240 (by decide) (by decide) (fun h => absurd h (by decide)) (fun _ => ?_)
                        refine aw_iconst dL_areSeatsSo_243 ?_
                        refine aw_goto (tgt := 248) dL_areSeatsSo_244 (by decide) ?_
                        refine aw_iadd dL_areSeatsSo_248 ?_
                        refine aw_istore_n (L2 := [some (rV K 0 0), some (iV (or2 + 1)), some (iV (rn + 1)), some (iV (ow2 + 0)), some (iV (row)), some (iV (M 2 0 row)), some (iV (fre + 1)), some (iV (rn + 1)), some (iV (seat)), some (iV 0), some (iV 0), some (iV 1)]) dL_areSeatsSo_249 rfl (by decide) rfl ?_
                        refine aw_iinc (L2 := [some (rV K 0 0), some (iV (or2 + 1)), some (iV (rn + 1)), some (iV (ow2 + 0)), some (iV (row)), some (iV (M 2 0 row)), some (iV (fre + 1)), some (iV (rn + 1)), some (iV (seat + 1)), some (iV 0), some (iV 0), some (iV 1)]) dL_areSeatsSo_250 rfl (by decide) rfl ?_
                        refine aw_goto (tgt := 35) dL_areSeatsSo_253 (by decide) ?_
                        refine aw_weak (L' := [some (rV K 0 0), some (iV (or2 + 1)), some (iV (rn + 1)), some (iV (ow2 + 0)), some (iV (row)), some (iV (M 2 0 row)), some (iV (fre + 1)), some (iV (rn + 1)), some (iV (seat + 1)), none, none, none]) ⟨Or.inr rfl, Or.inr rfl, Or.inr rfl, Or.inr rfl, Or.inr rfl, Or.inr rfl, Or.inr rfl, Or.inr rfl, Or.inr rfl, Or.inl rfl, Or.inl rfl, Or.inl rfl, trivial⟩ ?_
                        refine aw_wide (a := 0 + 142 * Int.toNat row + 21 + 6 * Int.toNat (seat + 1)) (b := 6 * (0 + 142 * Int.toNat row + 21 + 6 * Int.toNat (seat + 1))) (by omega) (by omega) ?_
                        exact ih35 (or2 + 1) (rn + 1) (ow2 + 0) (fre + 1) (rn + 1) (seat + 1) (by omega) (by rw [sumI_s f1.1, orC_y f1.1 h39x hk (h149 ▸ f4) (Or.inr (fun q => h171 (stV_0.mpr q))), f2]; omega) (by obtain ⟨z, z1, z2⟩ := f3; exact ⟨max z (rn + 1), (isLong_st f1.1 z1 f4 hk).1, by omega⟩) (by exact isRun_t f4 hk) (by rw [sumI_s f1.1, if_neg (show ¬ 0 < M 6 row seat by omega), f5]; omega) (by rw [sumI_s f1.1, if_pos hk, f6]) (by have a := f4.1; have b := f4.2.1; omega) (by omega)
              · refine aw_st (st' := [iV 3]) (by rw [stV_b hk]) ?_
                refine aw_istore (L2 := [some (rV K 0 0), some (iV (or2)), some (iV (lo2)), some (iV (ow2)), some (iV (row)), some (iV (M 2 0 row)), some (iV (fre)), some (iV (rn)), some (iV (seat)), some (iV 3), none, none]) dL_areSeatsSo_50 (by decide) rfl ?_
                refine aw_aload_n dL_areSeatsSo_52 rfl rfl ?_
                refine aw_iload dL_areSeatsSo_53 rfl ?_
                refine aw_iload dL_areSeatsSo_55 rfl ?_
                refine lw_Vi (g := 0) (As := [iV (row), iV (seat)]) (rest := []) (c2 := 0 + 142 * Int.toNat row + 21 + 6 * Int.toNat seat + 1 + 1) (s2 := 6 * (0 + 142 * Int.toNat row + 21 + 6 * Int.toNat seat + 1 + 1)) (k_ticketAt hst M h (row) (seat) (by omega)) cv_X4_ticketAt dL_areSeatsSo_57 ml_L_108 rfl rfl rfl rfl rfl (Nat.le_of_ble_eq_true rfl) (by decide) (by show 0 + 142 * Int.toNat row + 21 + 6 * Int.toNat seat + 1 + 1 ≤ 0 + 142 * Int.toNat row + 21 + 6 * Int.toNat seat + 1 + 1; omega) (by show 6 * (0 + 142 * Int.toNat row + 21 + 6 * Int.toNat seat + 1) + 6 ≤ 6 * (0 + 142 * Int.toNat row + 21 + 6 * Int.toNat seat + 1 + 1); omega) (by show 0 + 142 * Int.toNat row + 21 + 6 * Int.toNat seat + 1 + 1 ≤ 2205 ∧ 6 * (0 + 142 * Int.toNat row + 21 + 6 * Int.toNat seat + 1 + 1) ≤ 13230; omega) ?_
                refine aw_st (st' := [iV 0]) (by rw [Int.max_eq_right (by omega)]) ?_
                refine aw_istore (L2 := [some (rV K 0 0), some (iV (or2)), some (iV (lo2)), some (iV (ow2)), some (iV (row)), some (iV (M 2 0 row)), some (iV (fre)), some (iV (rn)), some (iV (seat)), some (iV 3), some (iV 0), none]) dL_areSeatsSo_60 (by decide) rfl ?_
                refine aw_iload dL_areSeatsSo_62 rfl ?_
                refine aw_iconst dL_areSeatsSo_64 ?_
                refine aw_icmp_gt (tgt := 140) dL_areSeatsSo_65 (by decide) (by decide) (by decide) (fun h => absurd h (by decide)) (fun _ => ?_)
                refine aw_iload dL_areSeatsSo_68 rfl ?_
                refine aw_if_le (tgt := 77) dL_areSeatsSo_70 (by decide) (by decide) (fun _ => ?_) (fun h => absurd (by decide) h)
                refine aw_iconst dL_areSeatsSo_77 ?_
                refine aw_iload dL_areSeatsSo_78 rfl ?_
                refine aw_iconst dL_areSeatsSo_80 ?_
                refine aw_icmp_eq (tgt := 90) dL_areSeatsSo_81 (by decide) (by decide) (by decide) (fun h => absurd h (by decide)) (fun _ => ?_)
                refine aw_iload dL_areSeatsSo_84 rfl ?_
                refine aw_iconst dL_areSeatsSo_86 ?_
                refine aw_icmp_ne (tgt := 94) dL_areSeatsSo_87 (by decide) (by decide) (by decide) (fun _ => ?_) (fun h => absurd h (by decide))
                refine aw_iconst dL_areSeatsSo_94 ?_
                refine aw_icmp_ne (tgt := 140) dL_areSeatsSo_95 (by decide) (by decide) (by decide) (fun h => absurd h (by decide)) (fun _ => ?_)
                refine aw_iload dL_areSeatsSo_98 rfl ?_
                refine aw_if_le (tgt := 116) dL_areSeatsSo_100 (by decide) (by decide) (fun _ => ?_) (fun h => absurd (by decide) h)
                refine aw_aload_n dL_areSeatsSo_116 rfl rfl ?_
                refine aw_iload dL_areSeatsSo_117 rfl ?_
                refine aw_iload dL_areSeatsSo_119 rfl ?_
                refine lw_Vi (g := 0) (As := [iV (row), iV (seat)]) (rest := []) (c2 := 0 + 142 * Int.toNat row + 21 + 6 * Int.toNat seat + 1 + 1 + 1) (s2 := 6 * (0 + 142 * Int.toNat row + 21 + 6 * Int.toNat seat + 1 + 1 + 1)) (k_value hst M h (row) (seat) (by omega)) cv_X4_value dL_areSeatsSo_121 ml_L_131 rfl rfl rfl rfl rfl (Nat.le_of_ble_eq_true rfl) (by decide) (by show 0 + 142 * Int.toNat row + 21 + 6 * Int.toNat seat + 1 + 1 + 1 ≤ 0 + 142 * Int.toNat row + 21 + 6 * Int.toNat seat + 1 + 1 + 1; omega) (by show 6 * (0 + 142 * Int.toNat row + 21 + 6 * Int.toNat seat + 1 + 1) + 6 ≤ 6 * (0 + 142 * Int.toNat row + 21 + 6 * Int.toNat seat + 1 + 1 + 1); omega) (by show 0 + 142 * Int.toNat row + 21 + 6 * Int.toNat seat + 1 + 1 + 1 ≤ 2205 ∧ 6 * (0 + 142 * Int.toNat row + 21 + 6 * Int.toNat seat + 1 + 1 + 1) ≤ 13230; omega) ?_
                refine aw_aload_n dL_areSeatsSo_124 rfl rfl ?_
                refine aw_iload dL_areSeatsSo_125 rfl ?_
                refine aw_iload dL_areSeatsSo_127 rfl ?_
                refine aw_iconst dL_areSeatsSo_129 ?_
                refine aw_isub dL_areSeatsSo_130 ?_
                refine aw_iload dL_areSeatsSo_131 rfl ?_
                refine aw_isub dL_areSeatsSo_133 ?_
                refine lw_Vi (g := 0) (As := [iV (row), iV (((M 2 0 row) - 1) - seat)]) (rest := [iV (vS (M 3 0 row) (M 2 0 row) seat)]) (c2 := 0 + 142 * Int.toNat row + 21 + 6 * Int.toNat seat + 1 + 1 + 1 + 1) (s2 := 6 * (0 + 142 * Int.toNat row + 21 + 6 * Int.toNat seat + 1 + 1 + 1 + 1)) (k_value hst M h (row) (((M 2 0 row) - 1) - seat) (by omega)) cv_X4_value dL_areSeatsSo_134 ml_L_131 rfl rfl rfl rfl rfl (Nat.le_of_ble_eq_true rfl) (by decide) (by show 0 + 142 * Int.toNat row + 21 + 6 * Int.toNat seat + 1 + 1 + 1 + 1 ≤ 0 + 142 * Int.toNat row + 21 + 6 * Int.toNat seat + 1 + 1 + 1 + 1; omega) (by show 6 * (0 + 142 * Int.toNat row + 21 + 6 * Int.toNat seat + 1 + 1 + 1) + 6 ≤ 6 * (0 + 142 * Int.toNat row + 21 + 6 * Int.toNat seat + 1 + 1 + 1 + 1); omega) (by show 0 + 142 * Int.toNat row + 21 + 6 * Int.toNat seat + 1 + 1 + 1 + 1 ≤ 2205 ∧ 6 * (0 + 142 * Int.toNat row + 21 + 6 * Int.toNat seat + 1 + 1 + 1 + 1) ≤ 13230; omega) ?_
                refine aw_same (tgt := 142) dL_areSeatsSo_137 (by decide) (by exact vS_sym _ _ _) ?_
                refine aw_iload dL_areSeatsSo_142 rfl ?_
                refine aw_if_ne (tgt := 178) dL_areSeatsSo_144 (by decide) (by decide) (fun _ => ?_) (fun h => absurd h (by decide))
                refine aw_iconst dL_areSeatsSo_178 ?_
                refine aw_istore (L2 := [some (rV K 0 0), some (iV (or2)), some (iV (lo2)), some (iV (ow2)), some (iV (row)), some (iV (M 2 0 row)), some (iV (fre)), some (iV (rn)), some (iV (seat)), some (iV 3), some (iV 0), some (iV 0)]) dL_areSeatsSo_179 (by decide) rfl ?_
                refine aw_iload_n dL_areSeatsSo_181 rfl rfl ?_
                refine aw_iload dL_areSeatsSo_182 rfl ?_
                refine aw_if_le (tgt := 191) dL_areSeatsSo_184 (by decide) (by decide) (fun _ => ?_) (fun h => absurd (by decide) h)
                refine aw_iconst dL_areSeatsSo_191 ?_
                refine aw_iadd dL_areSeatsSo_192 ?_
                refine aw_istore_n (L2 := [some (rV K 0 0), some (iV (or2)), some (iV (lo2)), some (iV (ow2 + 0)), some (iV (row)), some (iV (M 2 0 row)), some (iV (fre)), some (iV (rn)), some (iV (seat)), some (iV 3), some (iV 0), some (iV 0)]) dL_areSeatsSo_193 rfl (by decide) rfl ?_
                refine aw_iload dL_areSeatsSo_194 rfl ?_
                refine aw_iload dL_areSeatsSo_196 rfl ?_
                refine aw_if_ne (tgt := 205) dL_areSeatsSo_198 (by decide) (by decide) (fun _ => ?_) (fun h => absurd h (by decide))
                refine aw_iconst dL_areSeatsSo_205 ?_
                refine aw_iadd dL_areSeatsSo_206 ?_
                refine aw_istore (L2 := [some (rV K 0 0), some (iV (or2)), some (iV (lo2)), some (iV (ow2 + 0)), some (iV (row)), some (iV (M 2 0 row)), some (iV (fre + 0)), some (iV (rn)), some (iV (seat)), some (iV 3), some (iV 0), some (iV 0)]) dL_areSeatsSo_207 (by decide) rfl ?_
                refine aw_iload dL_areSeatsSo_209 rfl ?_
                refine aw_if_ne (tgt := 221) dL_areSeatsSo_211 (by decide) (by decide) (fun _ => ?_) (fun h => absurd h (by decide))
                refine aw_iconst dL_areSeatsSo_221 ?_
                refine aw_istore (L2 := [some (rV K 0 0), some (iV (or2)), some (iV (lo2)), some (iV (ow2 + 0)), some (iV (row)), some (iV (M 2 0 row)), some (iV (fre + 0)), some (iV 0), some (iV (seat)), some (iV 3), some (iV 0), some (iV 0)]) dL_areSeatsSo_222 (by decide) rfl ?_
                refine aw_iload dL_areSeatsSo_224 rfl ?_
                refine aw_iload_n dL_areSeatsSo_226 rfl rfl ?_
                refine aw_icmp_le (tgt := 235) dL_areSeatsSo_227 (by decide) (by have a := f4.1; have b := f4.2.1; omega) (by omega) (fun h227 => ?_) (fun h227 => absurd (by omega) h227)
                refine aw_iload_n dL_areSeatsSo_235 rfl rfl ?_
                refine aw_istore_n (L2 := [some (rV K 0 0), some (iV (or2)), some (iV (lo2)), some (iV (ow2 + 0)), some (iV (row)), some (iV (M 2 0 row)), some (iV (fre + 0)), some (iV 0), some (iV (seat)), some (iV 3), some (iV 0), some (iV 0)]) dL_areSeatsSo_236 rfl (by decide) rfl ?_
                refine aw_iload_n dL_areSeatsSo_237 rfl rfl ?_
                refine aw_iload dL_areSeatsSo_238 rfl ?_
                refine aw_if_eq (tgt := 247) dL_areSeatsSo_240 (by decide) (by decide) (fun _ => ?_) (fun h => absurd (by decide) h)
                refine aw_iconst dL_areSeatsSo_247 ?_
                refine aw_iadd dL_areSeatsSo_248 ?_
                refine aw_istore_n (L2 := [some (rV K 0 0), some (iV (or2 + 0)), some (iV (lo2)), some (iV (ow2 + 0)), some (iV (row)), some (iV (M 2 0 row)), some (iV (fre + 0)), some (iV 0), some (iV (seat)), some (iV 3), some (iV 0), some (iV 0)]) dL_areSeatsSo_249 rfl (by decide) rfl ?_
                refine aw_iinc (L2 := [some (rV K 0 0), some (iV (or2 + 0)), some (iV (lo2)), some (iV (ow2 + 0)), some (iV (row)), some (iV (M 2 0 row)), some (iV (fre + 0)), some (iV 0), some (iV (seat + 1)), some (iV 3), some (iV 0), some (iV 0)]) dL_areSeatsSo_250 rfl (by decide) rfl ?_
                refine aw_goto (tgt := 35) dL_areSeatsSo_253 (by decide) ?_
                refine aw_weak (L' := [some (rV K 0 0), some (iV (or2 + 0)), some (iV (lo2)), some (iV (ow2 + 0)), some (iV (row)), some (iV (M 2 0 row)), some (iV (fre + 0)), some (iV 0), some (iV (seat + 1)), none, none, none]) ⟨Or.inr rfl, Or.inr rfl, Or.inr rfl, Or.inr rfl, Or.inr rfl, Or.inr rfl, Or.inr rfl, Or.inr rfl, Or.inr rfl, Or.inl rfl, Or.inl rfl, Or.inl rfl, trivial⟩ ?_
                refine aw_wide (a := 0 + 142 * Int.toNat row + 21 + 6 * Int.toNat (seat + 1)) (b := 6 * (0 + 142 * Int.toNat row + 21 + 6 * Int.toNat (seat + 1))) (by omega) (by omega) ?_
                exact ih35 (or2 + 0) (lo2) (ow2 + 0) (fre + 0) (0) (seat + 1) (by omega) (by rw [sumI_s f1.1, orC_n (by omega), f2]; omega) (by obtain ⟨z, z1, z2⟩ := f3; exact ⟨max z 0, (isLong_sf f1.1 z1 f4 (by omega)).1, by omega⟩) (by exact isRun_f f4 (by omega)) (by rw [sumI_s f1.1, if_neg (show ¬ 0 < M 6 row seat by omega), f5]; omega) (by rw [sumI_s f1.1, if_neg (show ¬ M 6 row seat = 0 by omega), f6]) (by have a := f4.1; have b := f4.2.1; omega) (by omega)
              · refine aw_st (st' := [iV 1]) (by rw [stV_h hk.1 hk.2]) ?_
                refine aw_istore (L2 := [some (rV K 0 0), some (iV (or2)), some (iV (lo2)), some (iV (ow2)), some (iV (row)), some (iV (M 2 0 row)), some (iV (fre)), some (iV (rn)), some (iV (seat)), some (iV 1), none, none]) dL_areSeatsSo_50 (by decide) rfl ?_
                refine aw_aload_n dL_areSeatsSo_52 rfl rfl ?_
                refine aw_iload dL_areSeatsSo_53 rfl ?_
                refine aw_iload dL_areSeatsSo_55 rfl ?_
                refine lw_Vi (g := 0) (As := [iV (row), iV (seat)]) (rest := []) (c2 := 0 + 142 * Int.toNat row + 21 + 6 * Int.toNat seat + 1 + 1) (s2 := 6 * (0 + 142 * Int.toNat row + 21 + 6 * Int.toNat seat + 1 + 1)) (k_ticketAt hst M h (row) (seat) (by omega)) cv_X4_ticketAt dL_areSeatsSo_57 ml_L_108 rfl rfl rfl rfl rfl (Nat.le_of_ble_eq_true rfl) (by decide) (by show 0 + 142 * Int.toNat row + 21 + 6 * Int.toNat seat + 1 + 1 ≤ 0 + 142 * Int.toNat row + 21 + 6 * Int.toNat seat + 1 + 1; omega) (by show 6 * (0 + 142 * Int.toNat row + 21 + 6 * Int.toNat seat + 1) + 6 ≤ 6 * (0 + 142 * Int.toNat row + 21 + 6 * Int.toNat seat + 1 + 1); omega) (by show 0 + 142 * Int.toNat row + 21 + 6 * Int.toNat seat + 1 + 1 ≤ 2205 ∧ 6 * (0 + 142 * Int.toNat row + 21 + 6 * Int.toNat seat + 1 + 1) ≤ 13230; omega) ?_
                refine aw_st (st' := [iV (M 6 row seat)]) (by rw [Int.max_eq_left (by omega)]) ?_
                refine aw_istore (L2 := [some (rV K 0 0), some (iV (or2)), some (iV (lo2)), some (iV (ow2)), some (iV (row)), some (iV (M 2 0 row)), some (iV (fre)), some (iV (rn)), some (iV (seat)), some (iV 1), some (iV (M 6 row seat)), none]) dL_areSeatsSo_60 (by decide) rfl ?_
                refine aw_iload dL_areSeatsSo_62 rfl ?_
                refine aw_iconst dL_areSeatsSo_64 ?_
                refine aw_icmp_gt (tgt := 140) dL_areSeatsSo_65 (by decide) (by decide) (by decide) (fun h => absurd h (by decide)) (fun _ => ?_)
                refine aw_iload dL_areSeatsSo_68 rfl ?_
                refine aw_if_le (tgt := 77) dL_areSeatsSo_70 (by decide) (by omega) (fun h70 => absurd h70 (by omega)) (fun h70 => ?_)
                refine aw_iconst dL_areSeatsSo_73 ?_
                refine aw_goto (tgt := 78) dL_areSeatsSo_74 (by decide) ?_
                refine aw_iload dL_areSeatsSo_78 rfl ?_
                refine aw_iconst dL_areSeatsSo_80 ?_
                refine aw_icmp_eq (tgt := 90) dL_areSeatsSo_81 (by decide) (by decide) (by decide) (fun _ => ?_) (fun h => absurd (by decide) h)
                refine aw_iconst dL_areSeatsSo_90 ?_
                refine aw_goto (tgt := 95) dL_areSeatsSo_91 (by decide) ?_
                refine aw_icmp_ne (tgt := 140) dL_areSeatsSo_95 (by decide) (by decide) (by decide) (fun h => absurd h (by decide)) (fun _ => ?_)
                refine aw_iload dL_areSeatsSo_98 rfl ?_
                refine aw_if_le (tgt := 116) dL_areSeatsSo_100 (by decide) (by omega) (fun h100 => absurd h100 (by omega)) (fun h100 => ?_)
                refine aw_aload_n dL_areSeatsSo_103 rfl rfl ?_
                refine aw_iload dL_areSeatsSo_104 rfl ?_
                refine lw_Vi (g := 0) (As := [iV (M 6 row seat)]) (rest := []) (c2 := 0 + 142 * Int.toNat row + 21 + 6 * Int.toNat seat + 1 + 1 + 1) (s2 := 6 * (0 + 142 * Int.toNat row + 21 + 6 * Int.toNat seat + 1 + 1 + 1)) (k_ticketState hst M h (M 6 row seat) (by omega)) cv_X4_ticketState dL_areSeatsSo_106 ml_L_114 rfl rfl rfl rfl rfl (Nat.le_of_ble_eq_true rfl) (by decide) (by show 0 + 142 * Int.toNat row + 21 + 6 * Int.toNat seat + 1 + 1 + 1 ≤ 0 + 142 * Int.toNat row + 21 + 6 * Int.toNat seat + 1 + 1 + 1; omega) (by show 6 * (0 + 142 * Int.toNat row + 21 + 6 * Int.toNat seat + 1 + 1) + 6 ≤ 6 * (0 + 142 * Int.toNat row + 21 + 6 * Int.toNat seat + 1 + 1 + 1); omega) (by show 0 + 142 * Int.toNat row + 21 + 6 * Int.toNat seat + 1 + 1 + 1 ≤ 2205 ∧ 6 * (0 + 142 * Int.toNat row + 21 + 6 * Int.toNat seat + 1 + 1 + 1) ≤ 13230; omega) ?_
                refine aw_iload dL_areSeatsSo_109 rfl ?_
                refine aw_iconst dL_areSeatsSo_111 ?_
                refine aw_isub dL_areSeatsSo_112 ?_
                refine aw_samen (tgt := 140) dL_areSeatsSo_113 (by decide) (by omega) ?_
                refine aw_aload_n dL_areSeatsSo_116 rfl rfl ?_
                refine aw_iload dL_areSeatsSo_117 rfl ?_
                refine aw_iload dL_areSeatsSo_119 rfl ?_
                refine lw_Vi (g := 0) (As := [iV (row), iV (seat)]) (rest := []) (c2 := 0 + 142 * Int.toNat row + 21 + 6 * Int.toNat seat + 1 + 1 + 1 + 1) (s2 := 6 * (0 + 142 * Int.toNat row + 21 + 6 * Int.toNat seat + 1 + 1 + 1 + 1)) (k_value hst M h (row) (seat) (by omega)) cv_X4_value dL_areSeatsSo_121 ml_L_131 rfl rfl rfl rfl rfl (Nat.le_of_ble_eq_true rfl) (by decide) (by show 0 + 142 * Int.toNat row + 21 + 6 * Int.toNat seat + 1 + 1 + 1 + 1 ≤ 0 + 142 * Int.toNat row + 21 + 6 * Int.toNat seat + 1 + 1 + 1 + 1; omega) (by show 6 * (0 + 142 * Int.toNat row + 21 + 6 * Int.toNat seat + 1 + 1 + 1) + 6 ≤ 6 * (0 + 142 * Int.toNat row + 21 + 6 * Int.toNat seat + 1 + 1 + 1 + 1); omega) (by show 0 + 142 * Int.toNat row + 21 + 6 * Int.toNat seat + 1 + 1 + 1 + 1 ≤ 2205 ∧ 6 * (0 + 142 * Int.toNat row + 21 + 6 * Int.toNat seat + 1 + 1 + 1 + 1) ≤ 13230; omega) ?_
                refine aw_aload_n dL_areSeatsSo_124 rfl rfl ?_
                refine aw_iload dL_areSeatsSo_125 rfl ?_
                refine aw_iload dL_areSeatsSo_127 rfl ?_
                refine aw_iconst dL_areSeatsSo_129 ?_
                refine aw_isub dL_areSeatsSo_130 ?_
                refine aw_iload dL_areSeatsSo_131 rfl ?_
                refine aw_isub dL_areSeatsSo_133 ?_
                refine lw_Vi (g := 0) (As := [iV (row), iV (((M 2 0 row) - 1) - seat)]) (rest := [iV (vS (M 3 0 row) (M 2 0 row) seat)]) (c2 := 0 + 142 * Int.toNat row + 21 + 6 * Int.toNat seat + 1 + 1 + 1 + 1 + 1) (s2 := 6 * (0 + 142 * Int.toNat row + 21 + 6 * Int.toNat seat + 1 + 1 + 1 + 1 + 1)) (k_value hst M h (row) (((M 2 0 row) - 1) - seat) (by omega)) cv_X4_value dL_areSeatsSo_134 ml_L_131 rfl rfl rfl rfl rfl (Nat.le_of_ble_eq_true rfl) (by decide) (by show 0 + 142 * Int.toNat row + 21 + 6 * Int.toNat seat + 1 + 1 + 1 + 1 + 1 ≤ 0 + 142 * Int.toNat row + 21 + 6 * Int.toNat seat + 1 + 1 + 1 + 1 + 1; omega) (by show 6 * (0 + 142 * Int.toNat row + 21 + 6 * Int.toNat seat + 1 + 1 + 1 + 1) + 6 ≤ 6 * (0 + 142 * Int.toNat row + 21 + 6 * Int.toNat seat + 1 + 1 + 1 + 1 + 1); omega) (by show 0 + 142 * Int.toNat row + 21 + 6 * Int.toNat seat + 1 + 1 + 1 + 1 + 1 ≤ 2205 ∧ 6 * (0 + 142 * Int.toNat row + 21 + 6 * Int.toNat seat + 1 + 1 + 1 + 1 + 1) ≤ 13230; omega) ?_
                refine aw_same (tgt := 142) dL_areSeatsSo_137 (by decide) (by exact vS_sym _ _ _) ?_
                refine aw_iload dL_areSeatsSo_142 rfl ?_
                refine aw_if_ne (tgt := 178) dL_areSeatsSo_144 (by decide) (by decide) (fun _ => ?_) (fun h => absurd h (by decide))
                refine aw_iconst dL_areSeatsSo_178 ?_
                refine aw_istore (L2 := [some (rV K 0 0), some (iV (or2)), some (iV (lo2)), some (iV (ow2)), some (iV (row)), some (iV (M 2 0 row)), some (iV (fre)), some (iV (rn)), some (iV (seat)), some (iV 1), some (iV (M 6 row seat)), some (iV 0)]) dL_areSeatsSo_179 (by decide) rfl ?_
                refine aw_iload_n dL_areSeatsSo_181 rfl rfl ?_
                refine aw_iload dL_areSeatsSo_182 rfl ?_
                refine aw_if_le (tgt := 191) dL_areSeatsSo_184 (by decide) (by omega) (fun h184 => absurd h184 (by omega)) (fun h184 => ?_)
                refine aw_iconst dL_areSeatsSo_187 ?_
                refine aw_goto (tgt := 192) dL_areSeatsSo_188 (by decide) ?_
                refine aw_iadd dL_areSeatsSo_192 ?_
                refine aw_istore_n (L2 := [some (rV K 0 0), some (iV (or2)), some (iV (lo2)), some (iV (ow2 + 1)), some (iV (row)), some (iV (M 2 0 row)), some (iV (fre)), some (iV (rn)), some (iV (seat)), some (iV 1), some (iV (M 6 row seat)), some (iV 0)]) dL_areSeatsSo_193 rfl (by decide) rfl ?_
                refine aw_iload dL_areSeatsSo_194 rfl ?_
                refine aw_iload dL_areSeatsSo_196 rfl ?_
                refine aw_if_ne (tgt := 205) dL_areSeatsSo_198 (by decide) (by decide) (fun _ => ?_) (fun h => absurd h (by decide))
                refine aw_iconst dL_areSeatsSo_205 ?_
                refine aw_iadd dL_areSeatsSo_206 ?_
                refine aw_istore (L2 := [some (rV K 0 0), some (iV (or2)), some (iV (lo2)), some (iV (ow2 + 1)), some (iV (row)), some (iV (M 2 0 row)), some (iV (fre + 0)), some (iV (rn)), some (iV (seat)), some (iV 1), some (iV (M 6 row seat)), some (iV 0)]) dL_areSeatsSo_207 (by decide) rfl ?_
                refine aw_iload dL_areSeatsSo_209 rfl ?_
                refine aw_if_ne (tgt := 221) dL_areSeatsSo_211 (by decide) (by decide) (fun _ => ?_) (fun h => absurd h (by decide))
                refine aw_iconst dL_areSeatsSo_221 ?_
                refine aw_istore (L2 := [some (rV K 0 0), some (iV (or2)), some (iV (lo2)), some (iV (ow2 + 1)), some (iV (row)), some (iV (M 2 0 row)), some (iV (fre + 0)), some (iV 0), some (iV (seat)), some (iV 1), some (iV (M 6 row seat)), some (iV 0)]) dL_areSeatsSo_222 (by decide) rfl ?_
                refine aw_iload dL_areSeatsSo_224 rfl ?_
                refine aw_iload_n dL_areSeatsSo_226 rfl rfl ?_
                refine aw_icmp_le (tgt := 235) dL_areSeatsSo_227 (by decide) (by have a := f4.1; have b := f4.2.1; omega) (by omega) (fun h227 => ?_) (fun h227 => absurd (by omega) h227)
                refine aw_iload_n dL_areSeatsSo_235 rfl rfl ?_
                refine aw_istore_n (L2 := [some (rV K 0 0), some (iV (or2)), some (iV (lo2)), some (iV (ow2 + 1)), some (iV (row)), some (iV (M 2 0 row)), some (iV (fre + 0)), some (iV 0), some (iV (seat)), some (iV 1), some (iV (M 6 row seat)), some (iV 0)]) dL_areSeatsSo_236 rfl (by decide) rfl ?_
                refine aw_iload_n dL_areSeatsSo_237 rfl rfl ?_
                refine aw_iload dL_areSeatsSo_238 rfl ?_
                refine aw_if_eq (tgt := 247) dL_areSeatsSo_240 (by decide) (by decide) (fun _ => ?_) (fun h => absurd (by decide) h)
                refine aw_iconst dL_areSeatsSo_247 ?_
                refine aw_iadd dL_areSeatsSo_248 ?_
                refine aw_istore_n (L2 := [some (rV K 0 0), some (iV (or2 + 0)), some (iV (lo2)), some (iV (ow2 + 1)), some (iV (row)), some (iV (M 2 0 row)), some (iV (fre + 0)), some (iV 0), some (iV (seat)), some (iV 1), some (iV (M 6 row seat)), some (iV 0)]) dL_areSeatsSo_249 rfl (by decide) rfl ?_
                refine aw_iinc (L2 := [some (rV K 0 0), some (iV (or2 + 0)), some (iV (lo2)), some (iV (ow2 + 1)), some (iV (row)), some (iV (M 2 0 row)), some (iV (fre + 0)), some (iV 0), some (iV (seat + 1)), some (iV 1), some (iV (M 6 row seat)), some (iV 0)]) dL_areSeatsSo_250 rfl (by decide) rfl ?_
                refine aw_goto (tgt := 35) dL_areSeatsSo_253 (by decide) ?_
                refine aw_weak (L' := [some (rV K 0 0), some (iV (or2 + 0)), some (iV (lo2)), some (iV (ow2 + 1)), some (iV (row)), some (iV (M 2 0 row)), some (iV (fre + 0)), some (iV 0), some (iV (seat + 1)), none, none, none]) ⟨Or.inr rfl, Or.inr rfl, Or.inr rfl, Or.inr rfl, Or.inr rfl, Or.inr rfl, Or.inr rfl, Or.inr rfl, Or.inr rfl, Or.inl rfl, Or.inl rfl, Or.inl rfl, trivial⟩ ?_
                refine aw_wide (a := 0 + 142 * Int.toNat row + 21 + 6 * Int.toNat (seat + 1)) (b := 6 * (0 + 142 * Int.toNat row + 21 + 6 * Int.toNat (seat + 1))) (by omega) (by omega) ?_
                exact ih35 (or2 + 0) (lo2) (ow2 + 1) (fre + 0) (0) (seat + 1) (by omega) (by rw [sumI_s f1.1, orC_n (by omega), f2]; omega) (by obtain ⟨z, z1, z2⟩ := f3; exact ⟨max z 0, (isLong_sf f1.1 z1 f4 (by omega)).1, by omega⟩) (by exact isRun_f f4 (by omega)) (by rw [sumI_s f1.1, if_pos (show 0 < M 6 row seat by omega), f5]; omega) (by rw [sumI_s f1.1, if_neg (show ¬ M 6 row seat = 0 by omega), f6]) (by have a := f4.1; have b := f4.2.1; omega) (by omega)
              · refine aw_st (st' := [iV 2]) (by rw [stV_s hk.1 hk.2]) ?_
                refine aw_istore (L2 := [some (rV K 0 0), some (iV (or2)), some (iV (lo2)), some (iV (ow2)), some (iV (row)), some (iV (M 2 0 row)), some (iV (fre)), some (iV (rn)), some (iV (seat)), some (iV 2), none, none]) dL_areSeatsSo_50 (by decide) rfl ?_
                refine aw_aload_n dL_areSeatsSo_52 rfl rfl ?_
                refine aw_iload dL_areSeatsSo_53 rfl ?_
                refine aw_iload dL_areSeatsSo_55 rfl ?_
                refine lw_Vi (g := 0) (As := [iV (row), iV (seat)]) (rest := []) (c2 := 0 + 142 * Int.toNat row + 21 + 6 * Int.toNat seat + 1 + 1) (s2 := 6 * (0 + 142 * Int.toNat row + 21 + 6 * Int.toNat seat + 1 + 1)) (k_ticketAt hst M h (row) (seat) (by omega)) cv_X4_ticketAt dL_areSeatsSo_57 ml_L_108 rfl rfl rfl rfl rfl (Nat.le_of_ble_eq_true rfl) (by decide) (by show 0 + 142 * Int.toNat row + 21 + 6 * Int.toNat seat + 1 + 1 ≤ 0 + 142 * Int.toNat row + 21 + 6 * Int.toNat seat + 1 + 1; omega) (by show 6 * (0 + 142 * Int.toNat row + 21 + 6 * Int.toNat seat + 1) + 6 ≤ 6 * (0 + 142 * Int.toNat row + 21 + 6 * Int.toNat seat + 1 + 1); omega) (by show 0 + 142 * Int.toNat row + 21 + 6 * Int.toNat seat + 1 + 1 ≤ 2205 ∧ 6 * (0 + 142 * Int.toNat row + 21 + 6 * Int.toNat seat + 1 + 1) ≤ 13230; omega) ?_
                refine aw_st (st' := [iV (M 6 row seat)]) (by rw [Int.max_eq_left (by omega)]) ?_
                refine aw_istore (L2 := [some (rV K 0 0), some (iV (or2)), some (iV (lo2)), some (iV (ow2)), some (iV (row)), some (iV (M 2 0 row)), some (iV (fre)), some (iV (rn)), some (iV (seat)), some (iV 2), some (iV (M 6 row seat)), none]) dL_areSeatsSo_60 (by decide) rfl ?_
                refine aw_iload dL_areSeatsSo_62 rfl ?_
                refine aw_iconst dL_areSeatsSo_64 ?_
                refine aw_icmp_gt (tgt := 140) dL_areSeatsSo_65 (by decide) (by decide) (by decide) (fun h => absurd h (by decide)) (fun _ => ?_)
                refine aw_iload dL_areSeatsSo_68 rfl ?_
                refine aw_if_le (tgt := 77) dL_areSeatsSo_70 (by decide) (by omega) (fun h70 => absurd h70 (by omega)) (fun h70 => ?_)
                refine aw_iconst dL_areSeatsSo_73 ?_
                refine aw_goto (tgt := 78) dL_areSeatsSo_74 (by decide) ?_
                refine aw_iload dL_areSeatsSo_78 rfl ?_
                refine aw_iconst dL_areSeatsSo_80 ?_
                refine aw_icmp_eq (tgt := 90) dL_areSeatsSo_81 (by decide) (by decide) (by decide) (fun h => absurd h (by decide)) (fun _ => ?_)
                refine aw_iload dL_areSeatsSo_84 rfl ?_
                refine aw_iconst dL_areSeatsSo_86 ?_
                refine aw_icmp_ne (tgt := 94) dL_areSeatsSo_87 (by decide) (by decide) (by decide) (fun h => absurd h (by decide)) (fun _ => ?_)
                refine aw_iconst dL_areSeatsSo_90 ?_
                refine aw_goto (tgt := 95) dL_areSeatsSo_91 (by decide) ?_
                refine aw_icmp_ne (tgt := 140) dL_areSeatsSo_95 (by decide) (by decide) (by decide) (fun h => absurd h (by decide)) (fun _ => ?_)
                refine aw_iload dL_areSeatsSo_98 rfl ?_
                refine aw_if_le (tgt := 116) dL_areSeatsSo_100 (by decide) (by omega) (fun h100 => absurd h100 (by omega)) (fun h100 => ?_)
                refine aw_aload_n dL_areSeatsSo_103 rfl rfl ?_
                refine aw_iload dL_areSeatsSo_104 rfl ?_
                refine lw_Vi (g := 0) (As := [iV (M 6 row seat)]) (rest := []) (c2 := 0 + 142 * Int.toNat row + 21 + 6 * Int.toNat seat + 1 + 1 + 1) (s2 := 6 * (0 + 142 * Int.toNat row + 21 + 6 * Int.toNat seat + 1 + 1 + 1)) (k_ticketState hst M h (M 6 row seat) (by omega)) cv_X4_ticketState dL_areSeatsSo_106 ml_L_114 rfl rfl rfl rfl rfl (Nat.le_of_ble_eq_true rfl) (by decide) (by show 0 + 142 * Int.toNat row + 21 + 6 * Int.toNat seat + 1 + 1 + 1 ≤ 0 + 142 * Int.toNat row + 21 + 6 * Int.toNat seat + 1 + 1 + 1; omega) (by show 6 * (0 + 142 * Int.toNat row + 21 + 6 * Int.toNat seat + 1 + 1) + 6 ≤ 6 * (0 + 142 * Int.toNat row + 21 + 6 * Int.toNat seat + 1 + 1 + 1); omega) (by show 0 + 142 * Int.toNat row + 21 + 6 * Int.toNat seat + 1 + 1 + 1 ≤ 2205 ∧ 6 * (0 + 142 * Int.toNat row + 21 + 6 * Int.toNat seat + 1 + 1 + 1) ≤ 13230; omega) ?_
                refine aw_iload dL_areSeatsSo_109 rfl ?_
                refine aw_iconst dL_areSeatsSo_111 ?_
                refine aw_isub dL_areSeatsSo_112 ?_
                refine aw_samen (tgt := 140) dL_areSeatsSo_113 (by decide) (by omega) ?_
                refine aw_aload_n dL_areSeatsSo_116 rfl rfl ?_
                refine aw_iload dL_areSeatsSo_117 rfl ?_
                refine aw_iload dL_areSeatsSo_119 rfl ?_
                refine lw_Vi (g := 0) (As := [iV (row), iV (seat)]) (rest := []) (c2 := 0 + 142 * Int.toNat row + 21 + 6 * Int.toNat seat + 1 + 1 + 1 + 1) (s2 := 6 * (0 + 142 * Int.toNat row + 21 + 6 * Int.toNat seat + 1 + 1 + 1 + 1)) (k_value hst M h (row) (seat) (by omega)) cv_X4_value dL_areSeatsSo_121 ml_L_131 rfl rfl rfl rfl rfl (Nat.le_of_ble_eq_true rfl) (by decide) (by show 0 + 142 * Int.toNat row + 21 + 6 * Int.toNat seat + 1 + 1 + 1 + 1 ≤ 0 + 142 * Int.toNat row + 21 + 6 * Int.toNat seat + 1 + 1 + 1 + 1; omega) (by show 6 * (0 + 142 * Int.toNat row + 21 + 6 * Int.toNat seat + 1 + 1 + 1) + 6 ≤ 6 * (0 + 142 * Int.toNat row + 21 + 6 * Int.toNat seat + 1 + 1 + 1 + 1); omega) (by show 0 + 142 * Int.toNat row + 21 + 6 * Int.toNat seat + 1 + 1 + 1 + 1 ≤ 2205 ∧ 6 * (0 + 142 * Int.toNat row + 21 + 6 * Int.toNat seat + 1 + 1 + 1 + 1) ≤ 13230; omega) ?_
                refine aw_aload_n dL_areSeatsSo_124 rfl rfl ?_
                refine aw_iload dL_areSeatsSo_125 rfl ?_
                refine aw_iload dL_areSeatsSo_127 rfl ?_
                refine aw_iconst dL_areSeatsSo_129 ?_
                refine aw_isub dL_areSeatsSo_130 ?_
                refine aw_iload dL_areSeatsSo_131 rfl ?_
                refine aw_isub dL_areSeatsSo_133 ?_
                refine lw_Vi (g := 0) (As := [iV (row), iV (((M 2 0 row) - 1) - seat)]) (rest := [iV (vS (M 3 0 row) (M 2 0 row) seat)]) (c2 := 0 + 142 * Int.toNat row + 21 + 6 * Int.toNat seat + 1 + 1 + 1 + 1 + 1) (s2 := 6 * (0 + 142 * Int.toNat row + 21 + 6 * Int.toNat seat + 1 + 1 + 1 + 1 + 1)) (k_value hst M h (row) (((M 2 0 row) - 1) - seat) (by omega)) cv_X4_value dL_areSeatsSo_134 ml_L_131 rfl rfl rfl rfl rfl (Nat.le_of_ble_eq_true rfl) (by decide) (by show 0 + 142 * Int.toNat row + 21 + 6 * Int.toNat seat + 1 + 1 + 1 + 1 + 1 ≤ 0 + 142 * Int.toNat row + 21 + 6 * Int.toNat seat + 1 + 1 + 1 + 1 + 1; omega) (by show 6 * (0 + 142 * Int.toNat row + 21 + 6 * Int.toNat seat + 1 + 1 + 1 + 1) + 6 ≤ 6 * (0 + 142 * Int.toNat row + 21 + 6 * Int.toNat seat + 1 + 1 + 1 + 1 + 1); omega) (by show 0 + 142 * Int.toNat row + 21 + 6 * Int.toNat seat + 1 + 1 + 1 + 1 + 1 ≤ 2205 ∧ 6 * (0 + 142 * Int.toNat row + 21 + 6 * Int.toNat seat + 1 + 1 + 1 + 1 + 1) ≤ 13230; omega) ?_
                refine aw_same (tgt := 142) dL_areSeatsSo_137 (by decide) (by exact vS_sym _ _ _) ?_
                refine aw_iload dL_areSeatsSo_142 rfl ?_
                refine aw_if_ne (tgt := 178) dL_areSeatsSo_144 (by decide) (by decide) (fun _ => ?_) (fun h => absurd h (by decide))
                refine aw_iconst dL_areSeatsSo_178 ?_
                refine aw_istore (L2 := [some (rV K 0 0), some (iV (or2)), some (iV (lo2)), some (iV (ow2)), some (iV (row)), some (iV (M 2 0 row)), some (iV (fre)), some (iV (rn)), some (iV (seat)), some (iV 2), some (iV (M 6 row seat)), some (iV 0)]) dL_areSeatsSo_179 (by decide) rfl ?_
                refine aw_iload_n dL_areSeatsSo_181 rfl rfl ?_
                refine aw_iload dL_areSeatsSo_182 rfl ?_
                refine aw_if_le (tgt := 191) dL_areSeatsSo_184 (by decide) (by omega) (fun h184 => absurd h184 (by omega)) (fun h184 => ?_)
                refine aw_iconst dL_areSeatsSo_187 ?_
                refine aw_goto (tgt := 192) dL_areSeatsSo_188 (by decide) ?_
                refine aw_iadd dL_areSeatsSo_192 ?_
                refine aw_istore_n (L2 := [some (rV K 0 0), some (iV (or2)), some (iV (lo2)), some (iV (ow2 + 1)), some (iV (row)), some (iV (M 2 0 row)), some (iV (fre)), some (iV (rn)), some (iV (seat)), some (iV 2), some (iV (M 6 row seat)), some (iV 0)]) dL_areSeatsSo_193 rfl (by decide) rfl ?_
                refine aw_iload dL_areSeatsSo_194 rfl ?_
                refine aw_iload dL_areSeatsSo_196 rfl ?_
                refine aw_if_ne (tgt := 205) dL_areSeatsSo_198 (by decide) (by decide) (fun _ => ?_) (fun h => absurd h (by decide))
                refine aw_iconst dL_areSeatsSo_205 ?_
                refine aw_iadd dL_areSeatsSo_206 ?_
                refine aw_istore (L2 := [some (rV K 0 0), some (iV (or2)), some (iV (lo2)), some (iV (ow2 + 1)), some (iV (row)), some (iV (M 2 0 row)), some (iV (fre + 0)), some (iV (rn)), some (iV (seat)), some (iV 2), some (iV (M 6 row seat)), some (iV 0)]) dL_areSeatsSo_207 (by decide) rfl ?_
                refine aw_iload dL_areSeatsSo_209 rfl ?_
                refine aw_if_ne (tgt := 221) dL_areSeatsSo_211 (by decide) (by decide) (fun _ => ?_) (fun h => absurd h (by decide))
                refine aw_iconst dL_areSeatsSo_221 ?_
                refine aw_istore (L2 := [some (rV K 0 0), some (iV (or2)), some (iV (lo2)), some (iV (ow2 + 1)), some (iV (row)), some (iV (M 2 0 row)), some (iV (fre + 0)), some (iV 0), some (iV (seat)), some (iV 2), some (iV (M 6 row seat)), some (iV 0)]) dL_areSeatsSo_222 (by decide) rfl ?_
                refine aw_iload dL_areSeatsSo_224 rfl ?_
                refine aw_iload_n dL_areSeatsSo_226 rfl rfl ?_
                refine aw_icmp_le (tgt := 235) dL_areSeatsSo_227 (by decide) (by have a := f4.1; have b := f4.2.1; omega) (by omega) (fun h227 => ?_) (fun h227 => absurd (by omega) h227)
                refine aw_iload_n dL_areSeatsSo_235 rfl rfl ?_
                refine aw_istore_n (L2 := [some (rV K 0 0), some (iV (or2)), some (iV (lo2)), some (iV (ow2 + 1)), some (iV (row)), some (iV (M 2 0 row)), some (iV (fre + 0)), some (iV 0), some (iV (seat)), some (iV 2), some (iV (M 6 row seat)), some (iV 0)]) dL_areSeatsSo_236 rfl (by decide) rfl ?_
                refine aw_iload_n dL_areSeatsSo_237 rfl rfl ?_
                refine aw_iload dL_areSeatsSo_238 rfl ?_
                refine aw_if_eq (tgt := 247) dL_areSeatsSo_240 (by decide) (by decide) (fun _ => ?_) (fun h => absurd (by decide) h)
                refine aw_iconst dL_areSeatsSo_247 ?_
                refine aw_iadd dL_areSeatsSo_248 ?_
                refine aw_istore_n (L2 := [some (rV K 0 0), some (iV (or2 + 0)), some (iV (lo2)), some (iV (ow2 + 1)), some (iV (row)), some (iV (M 2 0 row)), some (iV (fre + 0)), some (iV 0), some (iV (seat)), some (iV 2), some (iV (M 6 row seat)), some (iV 0)]) dL_areSeatsSo_249 rfl (by decide) rfl ?_
                refine aw_iinc (L2 := [some (rV K 0 0), some (iV (or2 + 0)), some (iV (lo2)), some (iV (ow2 + 1)), some (iV (row)), some (iV (M 2 0 row)), some (iV (fre + 0)), some (iV 0), some (iV (seat + 1)), some (iV 2), some (iV (M 6 row seat)), some (iV 0)]) dL_areSeatsSo_250 rfl (by decide) rfl ?_
                refine aw_goto (tgt := 35) dL_areSeatsSo_253 (by decide) ?_
                refine aw_weak (L' := [some (rV K 0 0), some (iV (or2 + 0)), some (iV (lo2)), some (iV (ow2 + 1)), some (iV (row)), some (iV (M 2 0 row)), some (iV (fre + 0)), some (iV 0), some (iV (seat + 1)), none, none, none]) ⟨Or.inr rfl, Or.inr rfl, Or.inr rfl, Or.inr rfl, Or.inr rfl, Or.inr rfl, Or.inr rfl, Or.inr rfl, Or.inr rfl, Or.inl rfl, Or.inl rfl, Or.inl rfl, trivial⟩ ?_
                refine aw_wide (a := 0 + 142 * Int.toNat row + 21 + 6 * Int.toNat (seat + 1)) (b := 6 * (0 + 142 * Int.toNat row + 21 + 6 * Int.toNat (seat + 1))) (by omega) (by omega) ?_
                exact ih35 (or2 + 0) (lo2) (ow2 + 1) (fre + 0) (0) (seat + 1) (by omega) (by rw [sumI_s f1.1, orC_n (by omega), f2]; omega) (by obtain ⟨z, z1, z2⟩ := f3; exact ⟨max z 0, (isLong_sf f1.1 z1 f4 (by omega)).1, by omega⟩) (by exact isRun_f f4 (by omega)) (by rw [sumI_s f1.1, if_pos (show 0 < M 6 row seat by omega), f5]; omega) (by rw [sumI_s f1.1, if_neg (show ¬ M 6 row seat = 0 by omega), f6]) (by have a := f4.1; have b := f4.2.1; omega) (by omega)
        refine aw_wide (a := 0 + 142 * Int.toNat row + 21 + 6 * Int.toNat 0) (b := 6 * (0 + 142 * Int.toNat row + 21 + 6 * Int.toNat 0)) (by omega) (by omega) ?_
        exact lp35 (((M 2 0 row - 0).toNat) + 1) (orp) (lon) (own) (0) (0) (0) (by omega) (by rw [sumI_0]; omega) (by exact ⟨0, isLong_0 _, by omega⟩) (by exact isRun_0 _) (by rw [sumI_0]; omega) (by rfl) (by omega) (Nat.lt_succ_self _)
  refine aw_wide (a := 0 + 142 * Int.toNat 0) (b := 6 * (0 + 142 * Int.toNat 0)) (by omega) (by omega) ?_
  exact lp9 (((M 1 0 4 - 0).toNat) + 1) (0) (0) (0) (0) (by omega) (by rfl) (by exact isLongR_0 _ _) (by rfl) (by omega) (Nat.lt_succ_self _)
