/-! seats, asked one by one -/
theorem stV_r (M : Mem) (r s : Int) : 0 ≤ stV M r s ∧ stV M r s ≤ 3 := by
  unfold stV
  repeat' split
  all_goals decide
theorem stV_0 {M : Mem} {r s : Int} : stV M r s = 0 ↔ M 6 r s = 0 := by
  unfold stV
  by_cases e : M 6 r s = 0
  · rw [if_pos e]; exact ⟨fun _ => e, fun _ => rfl⟩
  · rw [if_neg e]
    refine ⟨fun q => ?_, fun q => absurd q e⟩
    by_cases e2 : M 6 r s = -1
    · rw [if_pos e2] at q; omega
    · rw [if_neg e2] at q
      by_cases e3 : M 8 0 (M 6 r s) = 0
      · rw [if_pos e3] at q; omega
      · rw [if_neg e3] at q; omega
set_option maxHeartbeats 4000000 in
set_option maxRecDepth 20000 in
theorem c_L_wide {K : WPar} {l : Launch} (hst : l.stackTraces = false) {c : Int} (M : Mem) (row : Int) (h : INV M c) (hc : c ≤ 512) (hv : 0 ≤ row ∧ row < M 1 0 4) : CT K l iL_wide [rV K 0 0, iV (row)] M (rI (M 2 0 row) M) := by
  refine aw_met [some (rV K 0 0), some (iV (row)), none, none] hst (by decide) rfl (Nat.le_of_ble_eq_true rfl) rfl rfl (lcat rfl) ?_
  refine aw_rng (fun hM => ?_)
  refine aw_wide (a := 0) (b := 6 * (0)) (Nat.le_refl _) (Nat.le_refl _) ?_
  have n0 := h.hw.1
  have n1 := h.hw.2.1
  have w0 := h.hw.2.2 row hv.1 hv.2
  refine aw_iconst dL_wide_0 ?_
  refine aw_istore_n (L2 := [some (rV K 0 0), some (iV (row)), some (iV 0), none]) dL_wide_1 rfl (by decide) rfl ?_
  refine aw_iconst dL_wide_2 ?_
  refine aw_istore_n (L2 := [some (rV K 0 0), some (iV (row)), some (iV 0), some (iV 1)]) dL_wide_3 rfl (by decide) rfl ?_
  have lp4 : ∀ (n4 : Nat) (n is : Int), (0 ≤ n ∧ n ≤ M 2 0 row) → ((is = 1) ∨ (is = 0 ∧ n = M 2 0 row)) → ((2 * (M 2 0 row - n) + is).toNat) < n4 → AW K l iL_wide (ZM K iL_wide (rI (M 2 0 row) M)) 4 [some (rV K 0 0), some (iV (row)), some (iV (n)), some (iV (is))] [] (M) (0 + Int.toNat (n + 1 - is)) (6 * (0 + Int.toNat (n + 1 - is))) := by
    intro n4
    induction n4 with
    | zero =>
      intro n is e1 e2 hm4
      exact absurd hm4 (Nat.not_lt_zero _)
    | succ n4 ih4 =>
      intro n is e1 e2 hm4
      refine aw_iload_n dL_wide_4 rfl rfl ?_
      refine aw_if_eq (tgt := 36) dL_wide_5 (by decide) (by omega) (fun h5 => ?_) (fun h5 => ?_)
      · refine aw_iload_n dL_wide_36 rfl rfl ?_
        exact aw_iret dL_wide_37 rfl rfl (by show 0 + Int.toNat (n + 1 - is) ≤ 21; omega) (by show 6 * (0 + Int.toNat (n + 1 - is)) ≤ 126; omega) ⟨congrArg (fun z => Sum.inl (some z)) (by omega), rfl⟩
      · refine aw_iload_n dL_wide_8 rfl rfl ?_
        refine aw_bipush dL_wide_9 rfl ?_
        refine aw_icmp_ge (tgt := 36) dL_wide_11 (by decide) (by omega) (by omega) (fun h11 => absurd h11 (by omega)) (fun h11 => ?_)
        refine aw_aload_n dL_wide_14 rfl rfl ?_
        refine aw_iload_n dL_wide_15 rfl rfl ?_
        refine aw_iload_n dL_wide_16 rfl rfl ?_
        refine lw_Wi (As := [rV K 0 0, iV (row), iV (n)]) (rest := []) (c2 := 0 + Int.toNat (n + 1 - is) + 1) (s2 := 6 * (0 + Int.toNat (n + 1 - is) + 1)) (c_L_isSeat hst M h hc (row) (n) (by omega) (by omega) hv (by omega)) cw_L_isSeat dL_wide_17 ml_L_123 rfl rfl (Nat.le_of_ble_eq_true rfl) (by decide) (by show 0 + Int.toNat (n + 1 - is) + 1 ≤ 0 + Int.toNat (n + 1 - is) + 1; omega) (by show 6 * (0 + Int.toNat (n + 1 - is)) + 6 ≤ 6 * (0 + Int.toNat (n + 1 - is) + 1); omega) (by show 0 + Int.toNat (n + 1 - is) + 1 ≤ 21 ∧ 6 * (0 + Int.toNat (n + 1 - is) + 1) ≤ 126; omega) ?_
        by_cases hq : n < M 2 0 row
        · refine aw_st (st' := [iV 1]) (by rw [if_pos hq]) ?_
          refine aw_istore_n (L2 := [some (rV K 0 0), some (iV (row)), some (iV (n)), some (iV 1)]) dL_wide_20 rfl (by decide) rfl ?_
          refine aw_iload_n dL_wide_21 rfl rfl ?_
          refine aw_iload_n dL_wide_22 rfl rfl ?_
          refine aw_if_eq (tgt := 30) dL_wide_23 (by decide) (by decide) (fun h => absurd h (by decide)) (fun _ => ?_)
          refine aw_iconst dL_wide_26 ?_
          refine aw_goto (tgt := 31) dL_wide_27 (by decide) ?_
          refine aw_iadd dL_wide_31 ?_
          refine aw_istore_n (L2 := [some (rV K 0 0), some (iV (row)), some (iV (n + 1)), some (iV 1)]) dL_wide_32 rfl (by decide) rfl ?_
          refine aw_goto (tgt := 4) dL_wide_33 (by decide) ?_
          refine aw_wide (a := 0 + Int.toNat ((n + 1) + 1 - 1)) (b := 6 * (0 + Int.toNat ((n + 1) + 1 - 1))) (by omega) (by omega) ?_
          exact ih4 (n + 1) (1) (by omega) (by omega) (by omega)
        · refine aw_st (st' := [iV 0]) (by rw [if_neg hq]) ?_
          refine aw_istore_n (L2 := [some (rV K 0 0), some (iV (row)), some (iV (n)), some (iV 0)]) dL_wide_20 rfl (by decide) rfl ?_
          refine aw_iload_n dL_wide_21 rfl rfl ?_
          refine aw_iload_n dL_wide_22 rfl rfl ?_
          refine aw_if_eq (tgt := 30) dL_wide_23 (by decide) (by decide) (fun _ => ?_) (fun h => absurd (by decide) h)
          refine aw_iconst dL_wide_30 ?_
          refine aw_iadd dL_wide_31 ?_
          refine aw_istore_n (L2 := [some (rV K 0 0), some (iV (row)), some (iV (n + 0)), some (iV 0)]) dL_wide_32 rfl (by decide) rfl ?_
          refine aw_goto (tgt := 4) dL_wide_33 (by decide) ?_
          refine aw_wide (a := 0 + Int.toNat ((n + 0) + 1 - 0)) (b := 6 * (0 + Int.toNat ((n + 0) + 1 - 0))) (by omega) (by omega) ?_
          exact ih4 (n + 0) (0) (by omega) (by omega) (by omega)
  refine aw_wide (a := 0 + Int.toNat (0 + 1 - 1)) (b := 6 * (0 + Int.toNat (0 + 1 - 1))) (by omega) (by omega) ?_
  exact lp4 (((2 * (M 2 0 row - 0) + 1).toNat) + 1) (0) (1) (by omega) (by exact Or.inl rfl) (Nat.lt_succ_self _)
set_option maxHeartbeats 4000000 in
set_option maxRecDepth 20000 in
theorem c_L_isFree {K : WPar} {l : Launch} (hst : l.stackTraces = false) {c : Int} (M : Mem) (row : Int) (first : Int) (n : Int) (h : INV M c) (hc : c ≤ 512) (hv : 0 ≤ row ∧ row < M 1 0 4) (hf : 0 ≤ first ∧ first ≤ 1000) (hn : 1 ≤ n ∧ n ≤ 20) : CT K l iL_isFree [rV K 0 0, iV (row), iV (first), iV (n)] M (rB (first + n ≤ M 2 0 row ∧ allF (M 6 row) first n) M) := by
  refine aw_met [some (rV K 0 0), some (iV (row)), some (iV (first)), some (iV (n)), none, none] hst (by decide) rfl (Nat.le_of_ble_eq_true rfl) rfl rfl (lcat rfl) ?_
  refine aw_rng (fun hM => ?_)
  refine aw_wide (a := 0) (b := 6 * (0)) (Nat.le_refl _) (Nat.le_refl _) ?_
  have n0 := h.hw.1
  have n1 := h.hw.2.1
  have w0 := h.hw.2.2 row hv.1 hv.2
  refine aw_iload_n dL_isFree_0 rfl rfl ?_
  refine aw_iload_n dL_isFree_1 rfl rfl ?_
  refine aw_iadd dL_isFree_2 ?_
  refine aw_aload_n dL_isFree_3 rfl rfl ?_
  refine aw_iload_n dL_isFree_4 rfl rfl ?_
  refine lw_Si (As := [rV K 0 0, iV (row)]) (rest := [iV (first + n)]) (c2 := 0 + 21) (s2 := 6 * (0 + 21)) (c_L_wide hst M (row) h hc hv) cs_L_wide dL_isFree_5 ml_L_127 rfl rfl (Nat.le_of_ble_eq_true rfl) (by decide) (by show 0 + 21 ≤ 0 + 21; omega) (by show 6 * (0) + 126 ≤ 6 * (0 + 21); omega) (by show 0 + 21 ≤ 41 ∧ 6 * (0 + 21) ≤ 246; omega) ?_
  refine aw_icmp_gt (tgt := 15) dL_isFree_8 (by decide) (by omega) (by omega) (fun h8 => ?_) (fun h8 => ?_)
  · refine aw_iconst dL_isFree_15 ?_
    refine aw_istore (L2 := [some (rV K 0 0), some (iV (row)), some (iV (first)), some (iV (n)), some (iV 0), none]) dL_isFree_16 (by decide) rfl ?_
    refine aw_iload_n dL_isFree_18 rfl rfl ?_
    refine aw_istore (L2 := [some (rV K 0 0), some (iV (row)), some (iV (first)), some (iV (n)), some (iV 0), some (iV (first))]) dL_isFree_19 (by decide) rfl ?_
    have lp21 : ∀ (n21 : Nat) (is seat : Int), (first ≤ seat ∧ seat ≤ first + n) → ((is = 1 ∧ first + n ≤ M 2 0 row ∧ allF (M 6 row) first (seat - first)) ∨ (is = 0 ∧ ¬ (first + n ≤ M 2 0 row ∧ allF (M 6 row) first n))) → ((first + n - seat).toNat) < n21 → AW K l iL_isFree (ZM K iL_isFree (rB (first + n ≤ M 2 0 row ∧ allF (M 6 row) first n) M)) 21 [some (rV K 0 0), some (iV (row)), some (iV (first)), some (iV (n)), some (iV (is)), some (iV (seat))] [] (M) (0 + 21 + Int.toNat (seat - first)) (6 * (0 + 21 + Int.toNat (seat - first))) := by
      intro n21
      induction n21 with
      | zero =>
        intro is seat e1 e2 hm21
        exact absurd hm21 (Nat.not_lt_zero _)
      | succ n21 ih21 =>
        intro is seat e1 e2 hm21
        refine aw_iload dL_isFree_21 rfl ?_
        refine aw_iload_n dL_isFree_23 rfl rfl ?_
        refine aw_iload_n dL_isFree_24 rfl rfl ?_
        refine aw_iadd dL_isFree_25 ?_
        refine aw_icmp_ge (tgt := 57) dL_isFree_26 (by decide) (by omega) (by omega) (fun h26 => ?_) (fun h26 => ?_)
        · rcases e2 with ⟨y1, y2, y3⟩ | ⟨y1, y2⟩
          · subst y1
            refine aw_iload dL_isFree_57 rfl ?_
            exact aw_iret dL_isFree_59 rfl rfl (by show 0 + 21 + Int.toNat (seat - first) ≤ 41; omega) (by show 6 * (0 + 21 + Int.toNat (seat - first)) ≤ 246; omega) ⟨Or.inl ⟨rfl, by first | exact absurd h31 (by decide) | (have y4 : seat - first = n := (by omega); rw [y4] at y3; exact ⟨y2, y3⟩)⟩, rfl⟩
          · subst y1
            refine aw_iload dL_isFree_57 rfl ?_
            exact aw_iret dL_isFree_59 rfl rfl (by show 0 + 21 + Int.toNat (seat - first) ≤ 41; omega) (by show 6 * (0 + 21 + Int.toNat (seat - first)) ≤ 246; omega) ⟨Or.inr ⟨rfl, y2⟩, rfl⟩
        · refine aw_iload dL_isFree_29 rfl ?_
          refine aw_if_eq (tgt := 57) dL_isFree_31 (by decide) (by omega) (fun h31 => ?_) (fun h31 => ?_)
          · rcases e2 with ⟨y1, y2, y3⟩ | ⟨y1, y2⟩
            · subst y1
              refine aw_iload dL_isFree_57 rfl ?_
              exact aw_iret dL_isFree_59 rfl rfl (by show 0 + 21 + Int.toNat (seat - first) ≤ 41; omega) (by show 6 * (0 + 21 + Int.toNat (seat - first)) ≤ 246; omega) ⟨Or.inl ⟨rfl, by first | exact absurd h31 (by decide) | (have y4 : seat - first = n := (by omega); rw [y4] at y3; exact ⟨y2, y3⟩)⟩, rfl⟩
            · subst y1
              refine aw_iload dL_isFree_57 rfl ?_
              exact aw_iret dL_isFree_59 rfl rfl (by show 0 + 21 + Int.toNat (seat - first) ≤ 41; omega) (by show 6 * (0 + 21 + Int.toNat (seat - first)) ≤ 246; omega) ⟨Or.inr ⟨rfl, y2⟩, rfl⟩
          · refine aw_aload_n dL_isFree_34 rfl rfl ?_
            refine aw_iload_n dL_isFree_35 rfl rfl ?_
            refine aw_iload dL_isFree_36 rfl ?_
            refine lw_Vi (g := 0) (As := [iV (row), iV (seat)]) (rest := []) (c2 := 0 + 21 + Int.toNat (seat - first) + 1) (s2 := 6 * (0 + 21 + Int.toNat (seat - first) + 1)) (k_state hst M h (row) (seat) (by omega)) cv_X4_state dL_isFree_38 ml_L_111 rfl rfl rfl rfl rfl (Nat.le_of_ble_eq_true rfl) (by decide) (by show 0 + 21 + Int.toNat (seat - first) + 1 ≤ 0 + 21 + Int.toNat (seat - first) + 1; omega) (by show 6 * (0 + 21 + Int.toNat (seat - first)) + 6 ≤ 6 * (0 + 21 + Int.toNat (seat - first) + 1); omega) (by show 0 + 21 + Int.toNat (seat - first) + 1 ≤ 41 ∧ 6 * (0 + 21 + Int.toNat (seat - first) + 1) ≤ 246; omega) ?_
            refine aw_if_ne (tgt := 48) dL_isFree_41 (by decide) (by have q := stV_r M row seat; omega) (fun h41 => ?_) (fun h41 => ?_)
            · refine aw_iconst dL_isFree_48 ?_
              refine aw_istore (L2 := [some (rV K 0 0), some (iV (row)), some (iV (first)), some (iV (n)), some (iV 0), some (iV (seat))]) dL_isFree_49 (by decide) rfl ?_
              refine aw_iinc (L2 := [some (rV K 0 0), some (iV (row)), some (iV (first)), some (iV (n)), some (iV 0), some (iV (seat + 1))]) dL_isFree_51 rfl (by decide) rfl ?_
              refine aw_goto (tgt := 21) dL_isFree_54 (by decide) ?_
              refine aw_wide (a := 0 + 21 + Int.toNat ((seat + 1) - first)) (b := 6 * (0 + 21 + Int.toNat ((seat + 1) - first))) (by omega) (by omega) ?_
              exact ih21 (0) (seat + 1) (by omega) (by first | (rcases e2 with y | y; exact Or.inr ⟨rfl, fun q => h41 (stV_0.mpr (q.2 seat (by omega) (by omega)))⟩; omega) | (rcases e2 with y | y; exact Or.inl ⟨rfl, y.2.1, allF_s y.2.2 (stV_0.mp h41)⟩; omega)) (by omega)
            · refine aw_iconst dL_isFree_44 ?_
              refine aw_goto (tgt := 49) dL_isFree_45 (by decide) ?_
              refine aw_istore (L2 := [some (rV K 0 0), some (iV (row)), some (iV (first)), some (iV (n)), some (iV 1), some (iV (seat))]) dL_isFree_49 (by decide) rfl ?_
              refine aw_iinc (L2 := [some (rV K 0 0), some (iV (row)), some (iV (first)), some (iV (n)), some (iV 1), some (iV (seat + 1))]) dL_isFree_51 rfl (by decide) rfl ?_
              refine aw_goto (tgt := 21) dL_isFree_54 (by decide) ?_
              refine aw_wide (a := 0 + 21 + Int.toNat ((seat + 1) - first)) (b := 6 * (0 + 21 + Int.toNat ((seat + 1) - first))) (by omega) (by omega) ?_
              exact ih21 (1) (seat + 1) (by omega) (by first | (rcases e2 with y | y; exact Or.inr ⟨rfl, fun q => h41 (stV_0.mpr (q.2 seat (by omega) (by omega)))⟩; omega) | (rcases e2 with y | y; exact Or.inl ⟨rfl, y.2.1, allF_s y.2.2 (stV_0.mp h41)⟩; omega)) (by omega)
    refine aw_wide (a := 0 + 21 + Int.toNat (first - first)) (b := 6 * (0 + 21 + Int.toNat (first - first))) (by omega) (by omega) ?_
    exact lp21 (((first + n - first).toNat) + 1) (0) (first) (by omega) (by first | exact Or.inl ⟨rfl, by omega, allF_0 _ _⟩ | exact Or.inr ⟨rfl, fun q => by omega⟩) (Nat.lt_succ_self _)
  · refine aw_iconst dL_isFree_11 ?_
    refine aw_goto (tgt := 16) dL_isFree_12 (by decide) ?_
    refine aw_istore (L2 := [some (rV K 0 0), some (iV (row)), some (iV (first)), some (iV (n)), some (iV 1), none]) dL_isFree_16 (by decide) rfl ?_
    refine aw_iload_n dL_isFree_18 rfl rfl ?_
    refine aw_istore (L2 := [some (rV K 0 0), some (iV (row)), some (iV (first)), some (iV (n)), some (iV 1), some (iV (first))]) dL_isFree_19 (by decide) rfl ?_
    have lp21 : ∀ (n21 : Nat) (is seat : Int), (first ≤ seat ∧ seat ≤ first + n) → ((is = 1 ∧ first + n ≤ M 2 0 row ∧ allF (M 6 row) first (seat - first)) ∨ (is = 0 ∧ ¬ (first + n ≤ M 2 0 row ∧ allF (M 6 row) first n))) → ((first + n - seat).toNat) < n21 → AW K l iL_isFree (ZM K iL_isFree (rB (first + n ≤ M 2 0 row ∧ allF (M 6 row) first n) M)) 21 [some (rV K 0 0), some (iV (row)), some (iV (first)), some (iV (n)), some (iV (is)), some (iV (seat))] [] (M) (0 + 21 + Int.toNat (seat - first)) (6 * (0 + 21 + Int.toNat (seat - first))) := by
      intro n21
      induction n21 with
      | zero =>
        intro is seat e1 e2 hm21
        exact absurd hm21 (Nat.not_lt_zero _)
      | succ n21 ih21 =>
        intro is seat e1 e2 hm21
        refine aw_iload dL_isFree_21 rfl ?_
        refine aw_iload_n dL_isFree_23 rfl rfl ?_
        refine aw_iload_n dL_isFree_24 rfl rfl ?_
        refine aw_iadd dL_isFree_25 ?_
        refine aw_icmp_ge (tgt := 57) dL_isFree_26 (by decide) (by omega) (by omega) (fun h26 => ?_) (fun h26 => ?_)
        · rcases e2 with ⟨y1, y2, y3⟩ | ⟨y1, y2⟩
          · subst y1
            refine aw_iload dL_isFree_57 rfl ?_
            exact aw_iret dL_isFree_59 rfl rfl (by show 0 + 21 + Int.toNat (seat - first) ≤ 41; omega) (by show 6 * (0 + 21 + Int.toNat (seat - first)) ≤ 246; omega) ⟨Or.inl ⟨rfl, by first | exact absurd h31 (by decide) | (have y4 : seat - first = n := (by omega); rw [y4] at y3; exact ⟨y2, y3⟩)⟩, rfl⟩
          · subst y1
            refine aw_iload dL_isFree_57 rfl ?_
            exact aw_iret dL_isFree_59 rfl rfl (by show 0 + 21 + Int.toNat (seat - first) ≤ 41; omega) (by show 6 * (0 + 21 + Int.toNat (seat - first)) ≤ 246; omega) ⟨Or.inr ⟨rfl, y2⟩, rfl⟩
        · refine aw_iload dL_isFree_29 rfl ?_
          refine aw_if_eq (tgt := 57) dL_isFree_31 (by decide) (by omega) (fun h31 => ?_) (fun h31 => ?_)
          · rcases e2 with ⟨y1, y2, y3⟩ | ⟨y1, y2⟩
            · subst y1
              refine aw_iload dL_isFree_57 rfl ?_
              exact aw_iret dL_isFree_59 rfl rfl (by show 0 + 21 + Int.toNat (seat - first) ≤ 41; omega) (by show 6 * (0 + 21 + Int.toNat (seat - first)) ≤ 246; omega) ⟨Or.inl ⟨rfl, by first | exact absurd h31 (by decide) | (have y4 : seat - first = n := (by omega); rw [y4] at y3; exact ⟨y2, y3⟩)⟩, rfl⟩
            · subst y1
              refine aw_iload dL_isFree_57 rfl ?_
              exact aw_iret dL_isFree_59 rfl rfl (by show 0 + 21 + Int.toNat (seat - first) ≤ 41; omega) (by show 6 * (0 + 21 + Int.toNat (seat - first)) ≤ 246; omega) ⟨Or.inr ⟨rfl, y2⟩, rfl⟩
          · refine aw_aload_n dL_isFree_34 rfl rfl ?_
            refine aw_iload_n dL_isFree_35 rfl rfl ?_
            refine aw_iload dL_isFree_36 rfl ?_
            refine lw_Vi (g := 0) (As := [iV (row), iV (seat)]) (rest := []) (c2 := 0 + 21 + Int.toNat (seat - first) + 1) (s2 := 6 * (0 + 21 + Int.toNat (seat - first) + 1)) (k_state hst M h (row) (seat) (by omega)) cv_X4_state dL_isFree_38 ml_L_111 rfl rfl rfl rfl rfl (Nat.le_of_ble_eq_true rfl) (by decide) (by show 0 + 21 + Int.toNat (seat - first) + 1 ≤ 0 + 21 + Int.toNat (seat - first) + 1; omega) (by show 6 * (0 + 21 + Int.toNat (seat - first)) + 6 ≤ 6 * (0 + 21 + Int.toNat (seat - first) + 1); omega) (by show 0 + 21 + Int.toNat (seat - first) + 1 ≤ 41 ∧ 6 * (0 + 21 + Int.toNat (seat - first) + 1) ≤ 246; omega) ?_
            refine aw_if_ne (tgt := 48) dL_isFree_41 (by decide) (by have q := stV_r M row seat; omega) (fun h41 => ?_) (fun h41 => ?_)
            · refine aw_iconst dL_isFree_48 ?_
              refine aw_istore (L2 := [some (rV K 0 0), some (iV (row)), some (iV (first)), some (iV (n)), some (iV 0), some (iV (seat))]) dL_isFree_49 (by decide) rfl ?_
              refine aw_iinc (L2 := [some (rV K 0 0), some (iV (row)), some (iV (first)), some (iV (n)), some (iV 0), some (iV (seat + 1))]) dL_isFree_51 rfl (by decide) rfl ?_
              refine aw_goto (tgt := 21) dL_isFree_54 (by decide) ?_
              refine aw_wide (a := 0 + 21 + Int.toNat ((seat + 1) - first)) (b := 6 * (0 + 21 + Int.toNat ((seat + 1) - first))) (by omega) (by omega) ?_
              exact ih21 (0) (seat + 1) (by omega) (by first | (rcases e2 with y | y; exact Or.inr ⟨rfl, fun q => h41 (stV_0.mpr (q.2 seat (by omega) (by omega)))⟩; omega) | (rcases e2 with y | y; exact Or.inl ⟨rfl, y.2.1, allF_s y.2.2 (stV_0.mp h41)⟩; omega)) (by omega)
            · refine aw_iconst dL_isFree_44 ?_
              refine aw_goto (tgt := 49) dL_isFree_45 (by decide) ?_
              refine aw_istore (L2 := [some (rV K 0 0), some (iV (row)), some (iV (first)), some (iV (n)), some (iV 1), some (iV (seat))]) dL_isFree_49 (by decide) rfl ?_
              refine aw_iinc (L2 := [some (rV K 0 0), some (iV (row)), some (iV (first)), some (iV (n)), some (iV 1), some (iV (seat + 1))]) dL_isFree_51 rfl (by decide) rfl ?_
              refine aw_goto (tgt := 21) dL_isFree_54 (by decide) ?_
              refine aw_wide (a := 0 + 21 + Int.toNat ((seat + 1) - first)) (b := 6 * (0 + 21 + Int.toNat ((seat + 1) - first))) (by omega) (by omega) ?_
              exact ih21 (1) (seat + 1) (by omega) (by first | (rcases e2 with y | y; exact Or.inr ⟨rfl, fun q => h41 (stV_0.mpr (q.2 seat (by omega) (by omega)))⟩; omega) | (rcases e2 with y | y; exact Or.inl ⟨rfl, y.2.1, allF_s y.2.2 (stV_0.mp h41)⟩; omega)) (by omega)
    refine aw_wide (a := 0 + 21 + Int.toNat (first - first)) (b := 6 * (0 + 21 + Int.toNat (first - first))) (by omega) (by omega) ?_
    exact lp21 (((first + n - first).toNat) + 1) (1) (first) (by omega) (by first | exact Or.inl ⟨rfl, by omega, allF_0 _ _⟩ | exact Or.inr ⟨rfl, fun q => by omega⟩) (Nat.lt_succ_self _)
set_option maxHeartbeats 4000000 in
set_option maxRecDepth 20000 in
theorem c_L_sum {K : WPar} {l : Launch} (hst : l.stackTraces = false) {c : Int} (M : Mem) (row : Int) (first : Int) (n : Int) (h : INV M c) (hv : 0 ≤ row ∧ row < M 1 0 4) (hb : 0 ≤ first ∧ 1 ≤ n ∧ first + n ≤ M 2 0 row) : CT K l iL_sum [rV K 0 0, iV (row), iV (first), iV (n)] M (rI (vB (M 3 0 row) (M 2 0 row) first n) M) := by
  refine aw_met [some (rV K 0 0), some (iV (row)), some (iV (first)), some (iV (n)), none, none] hst (by decide) rfl (Nat.le_of_ble_eq_true rfl) rfl rfl (lcat rfl) ?_
  refine aw_rng (fun hM => ?_)
  refine aw_wide (a := 0) (b := 6 * (0)) (Nat.le_refl _) (Nat.le_refl _) ?_
  have n0 := h.hw.1
  have n1 := h.hw.2.1
  have w0 := h.hw.2.2 row hv.1 hv.2
  refine aw_iconst dL_sum_0 ?_
  refine aw_istore (L2 := [some (rV K 0 0), some (iV (row)), some (iV (first)), some (iV (n)), some (iV 0), none]) dL_sum_1 (by decide) rfl ?_
  refine aw_iload_n dL_sum_3 rfl rfl ?_
  refine aw_istore (L2 := [some (rV K 0 0), some (iV (row)), some (iV (first)), some (iV (n)), some (iV 0), some (iV (first))]) dL_sum_4 (by decide) rfl ?_
  have lp6 : ∀ (n6 : Nat) (acc seat : Int), (first ≤ seat ∧ seat ≤ first + n) → (acc = vB (M 3 0 row) (M 2 0 row) first (seat - first)) → ((first + n - seat).toNat) < n6 → AW K l iL_sum (ZM K iL_sum (rI (vB (M 3 0 row) (M 2 0 row) first n) M)) 6 [some (rV K 0 0), some (iV (row)), some (iV (first)), some (iV (n)), some (iV (acc)), some (iV (seat))] [] (M) (0 + Int.toNat (seat - first)) (6 * (0 + Int.toNat (seat - first))) := by
    intro n6
    induction n6 with
    | zero =>
      intro acc seat e1 e2 hm6
      exact absurd hm6 (Nat.not_lt_zero _)
    | succ n6 ih6 =>
      intro acc seat e1 e2 hm6
      refine aw_iload dL_sum_6 rfl ?_
      refine aw_iload_n dL_sum_8 rfl rfl ?_
      refine aw_iload_n dL_sum_9 rfl rfl ?_
      refine aw_iadd dL_sum_10 ?_
      refine aw_icmp_ge (tgt := 32) dL_sum_11 (by decide) (by omega) (by omega) (fun h11 => ?_) (fun h11 => ?_)
      · refine aw_iload dL_sum_32 rfl ?_
        exact aw_iret dL_sum_34 rfl rfl (by show 0 + Int.toNat (seat - first) ≤ 20; omega) (by show 6 * (0 + Int.toNat (seat - first)) ≤ 120; omega) ⟨congrArg (fun z => Sum.inl (some z)) (by have q : seat - first = n := (by omega); rw [e2, q]), rfl⟩
      · refine aw_iload dL_sum_14 rfl ?_
        refine aw_aload_n dL_sum_16 rfl rfl ?_
        refine aw_iload_n dL_sum_17 rfl rfl ?_
        refine aw_iload dL_sum_18 rfl ?_
        refine lw_Vi (g := 0) (As := [iV (row), iV (seat)]) (rest := [iV (acc)]) (c2 := 0 + Int.toNat (seat - first) + 1) (s2 := 6 * (0 + Int.toNat (seat - first) + 1)) (k_value hst M h (row) (seat) (by omega)) cv_X4_value dL_sum_20 ml_L_131 rfl rfl rfl rfl rfl (Nat.le_of_ble_eq_true rfl) (by decide) (by show 0 + Int.toNat (seat - first) + 1 ≤ 0 + Int.toNat (seat - first) + 1; omega) (by show 6 * (0 + Int.toNat (seat - first)) + 6 ≤ 6 * (0 + Int.toNat (seat - first) + 1); omega) (by show 0 + Int.toNat (seat - first) + 1 ≤ 20 ∧ 6 * (0 + Int.toNat (seat - first) + 1) ≤ 120; omega) ?_
        refine aw_iadd dL_sum_23 ?_
        refine aw_istore (L2 := [some (rV K 0 0), some (iV (row)), some (iV (first)), some (iV (n)), some (iV (acc + (vS (M 3 0 row) (M 2 0 row) seat))), some (iV (seat))]) dL_sum_24 (by decide) rfl ?_
        refine aw_iinc (L2 := [some (rV K 0 0), some (iV (row)), some (iV (first)), some (iV (n)), some (iV (acc + (vS (M 3 0 row) (M 2 0 row) seat))), some (iV (seat + 1))]) dL_sum_26 rfl (by decide) rfl ?_
        refine aw_goto (tgt := 6) dL_sum_29 (by decide) ?_
        refine aw_wide (a := 0 + Int.toNat ((seat + 1) - first)) (b := 6 * (0 + Int.toNat ((seat + 1) - first))) (by omega) (by omega) ?_
        exact ih6 (acc + (vS (M 3 0 row) (M 2 0 row) seat)) (seat + 1) (by omega) (by rw [vB_s e1.1, e2]) (by omega)
  refine aw_wide (a := 0 + Int.toNat (first - first)) (b := 6 * (0 + Int.toNat (first - first))) (by omega) (by omega) ?_
  exact lp6 (((first + n - first).toNat) + 1) (0) (first) (by omega) (by rw [vB_0]) (Nat.lt_succ_self _)
