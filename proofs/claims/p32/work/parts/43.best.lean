/-! the best block, looked at -/
theorem ct_yes {K : WPar} {l : Launch} {μ : MInfo} {avs : List Value} {M M1 : Mem} {P : Prop} (h : CT K l μ avs M (rB P M1)) (p : P) : CT K l μ avs M (rI 1 M1) :=
  CT_mono h (fun o m _ q => by
    rcases q with ⟨⟨e, _⟩ | ⟨_, e⟩, q2⟩
    · exact ⟨e, q2⟩
    · exact absurd p e)
theorem bb_cases {M m : Mem} {c n z : Int} (h : INV M c) (hn : 1 ≤ n ∧ n ≤ 20) (q : WR (Q_bestBlock M n) z m) : (z = -99999 ∧ bestM M n (-1)) ∨ (bestM M n z ∧ z ≠ -1 ∧ 0 ≤ z ∧ z ≤ 1300 ∧ 0 ≤ z / 100 ∧ z / 100 < M 1 0 4 ∧ 0 ≤ z % 100 ∧ z % 100 + n ≤ M 2 0 (z / 100) ∧ allF (M 6 (z / 100)) (z % 100) n) := by
  obtain ⟨o, q, w⟩ := q
  rcases q with ⟨_, q1, _⟩ | ⟨rfl, q1, _⟩ | ⟨y, rfl, _, q2, _⟩
  · exact absurd hn q1
  · rcases w with ⟨a, e, _⟩ | ⟨_, e⟩
    · cases e
    · exact Or.inl ⟨e, q1.2⟩
  · rcases w with ⟨a, e, e2⟩ | ⟨⟨E, e⟩, _⟩
    · have : y = a := by simpa using e
      subst this
      subst e2
      have ba := bestG_at hn.1 (fun r r0 r1 => (h.hw.2.2 r r0 r1).2.1) q2.1 q2.2
      have n1 := h.hw.2.1
      have w1 := (h.hw.2.2 _ ba.1 ba.2.1).2.1
      exact Or.inr ⟨q2.1, q2.2, ba.2.2.2.2.2.2, by omega, ba.1, ba.2.1, ba.2.2.1, ba.2.2.2.1, ba.2.2.2.2.1⟩
    · cases e
theorem LNG_r {M : Mem} {z : Int} (hw : HW M) (h : LNG M z) : 0 ≤ z ∧ z ≤ 20 := by
  refine ⟨h.1, ?_⟩
  rcases h.2.2 with e | ⟨r, f, r0, r1, f0, f1, _⟩
  · omega
  · have := (hw.2.2 r r0 r1).2.1
    omega
theorem gr_cases {M m : Mem} {people z : Int} (hp : 2 ≤ people ∧ people ≤ 100) (q : WR (Q_rowsForGroup M people) z m) : (z = -99999 ∧ (∀ b v : Int, ¬ cM M 0 b people v) ∧ SF M m) ∨ (SF M m ∧ FOUND M m people ∧ z = m 16 0 7) := by
  obtain ⟨o, q, w⟩ := q
  rcases q with ⟨_, q1, _⟩ | ⟨rfl, q1, q2⟩ | ⟨y, rfl, _, q2, q3, q4⟩
  · exact absurd hp q1
  · rcases w with ⟨a, e, _⟩ | ⟨_, e⟩
    · cases e
    · exact Or.inl ⟨e, q1.2, q2⟩
  · rcases w with ⟨a, e, e2⟩ | ⟨⟨E, e⟩, _⟩
    · have : y = a := by simpa using e
      subst this
      exact Or.inr ⟨q2, q3, e2.trans q4⟩
    · cases e
theorem SF.lng {M m : Mem} {z : Int} (s : SF M m) (h : LNG m z) : LNG M z := by
  unfold LNG at h
  rw [s 1 (by decide), s 2 (by decide), s 6 (by decide)] at h
  exact h
set_option maxHeartbeats 4000000 in
set_option maxRecDepth 20000 in
theorem c_L_isBestSo {K : WPar} {l : Launch} (hst : l.stackTraces = false) {c : Int} (M : Mem) (n : Int) (h : INV M c) (hc : c ≤ 512) (hn : 1 ≤ n ∧ n ≤ 20) : CT K l iL_isBestSo [rV K 0 0, iV (n)] M (rI 1 M) := by
  refine aw_met [some (rV K 0 0), some (iV (n)), none, none, none, none] hst (by decide) rfl (Nat.le_of_ble_eq_true rfl) rfl rfl (lcat rfl) ?_
  refine aw_rng (fun hM => ?_)
  refine aw_wide (a := 0) (b := 6 * (0)) (Nat.le_refl _) (Nat.le_refl _) ?_
  have n0 := h.hw.1
  have n1 := h.hw.2.1
  refine aw_aload_n dL_isBestSo_0 rfl rfl ?_
  refine aw_iconst dL_isBestSo_1 ?_
  refine aw_iload_n dL_isBestSo_2 rfl rfl ?_
  refine aw_iconst dL_isBestSo_3 ?_
  refine aw_iconst dL_isBestSo_4 ?_
  refine aw_callW (As := [rV K 0 0, iV 3, iV (n), iV 0, iV 0]) (rest := []) (c2 := 0 + 4) (s2 := 6 * (0 + 4)) (c_L_asks3 hst M h hc n 0 0 (by omega)) cw_L_asks dL_isBestSo_5 ml_L_76 rfl rfl (Nat.le_of_ble_eq_true rfl) (by decide) (by show 0 + 4 ≤ 0 + 4; omega) (by show 6 * (0) + 24 ≤ 6 * (0 + 4); omega) (by show 0 + 4 ≤ 19965 ∧ 6 * (0 + 4) ≤ 119790; omega) (fun z5 m5 h5 => ?_)
  have b5 := bb_cases h hn h5
  rw [bb_mem h5]
  refine aw_istore_n (L2 := [some (rV K 0 0), some (iV (n)), some (iV (z5)), none, none, none]) dL_isBestSo_8 rfl (by decide) rfl ?_
  refine aw_iload_n dL_isBestSo_9 rfl rfl ?_
  refine aw_ldc (z := -99999) dL_isBestSo_10 cn_L_30 rfl ?_
  refine aw_icmp_ne (tgt := 29) dL_isBestSo_12 (by decide) (by rcases b5 with q | q; omega; (have q3 := q.2.2.1; have q4 := q.2.2.2.1; omega)) (by omega) (fun h12 => ?_) (fun h12 => ?_)
  · obtain ⟨x1, x2, x3, x4, x5, x6, x7, x8, x9⟩ := b5.resolve_left (fun q => h12 q.1)
    have wb := h.hw.2.2 _ x5 x6
    refine aw_aload_n dL_isBestSo_29 rfl rfl ?_
    refine aw_iload_n dL_isBestSo_30 rfl rfl ?_
    refine aw_bipush dL_isBestSo_31 rfl ?_
    refine aw_idiv dL_isBestSo_33 (by omega) (by omega) ?_
    refine aw_iload_n dL_isBestSo_34 rfl rfl ?_
    refine aw_bipush dL_isBestSo_35 rfl ?_
    refine aw_irem dL_isBestSo_37 (by omega) (by omega) ?_
    refine aw_iload_n dL_isBestSo_38 rfl rfl ?_
    refine lw_Si (As := [rV K 0 0, iV (z5 / 100), iV (z5 % 100), iV (n)]) (rest := []) (c2 := 0 + 4 + 41) (s2 := 6 * (0 + 4 + 41)) (ct_yes (c_L_isFree hst M (z5 / 100) (z5 % 100) n h hc ⟨x5, x6⟩ (by omega) hn) ⟨x8, x9⟩) cs_L_isFree dL_isBestSo_39 ml_L_134 rfl rfl (Nat.le_of_ble_eq_true rfl) (by decide) (by show 0 + 4 + 41 ≤ 0 + 4 + 41; omega) (by show 6 * (0 + 4) + 246 ≤ 6 * (0 + 4 + 41); omega) (by show 0 + 4 + 41 ≤ 19965 ∧ 6 * (0 + 4 + 41) ≤ 119790; omega) ?_
    refine aw_istore_n (L2 := [some (rV K 0 0), some (iV (n)), some (iV (z5)), some (iV 1), none, none]) dL_isBestSo_42 rfl (by decide) rfl ?_
    refine aw_iconst dL_isBestSo_43 ?_
    refine aw_istore (L2 := [some (rV K 0 0), some (iV (n)), some (iV (z5)), some (iV 1), some (iV 0), none]) dL_isBestSo_44 (by decide) rfl ?_
    have lp46 : ∀ (n46 : Nat) (row : Int), (0 ≤ row ∧ row ≤ M 1 0 4) → ((M 1 0 4 - row).toNat) < n46 → AW K l iL_isBestSo (ZM K iL_isBestSo (rI 1 M)) 46 [some (rV K 0 0), some (iV (n)), some (iV (z5)), some (iV 1), some (iV (row)), none] [] (M) (0 + 4 + 41 + 1660 * Int.toNat row) (6 * (0 + 4 + 41 + 1660 * Int.toNat row)) := by
      intro n46
      induction n46 with
      | zero =>
        intro row e1 hm46
        exact absurd hm46 (Nat.not_lt_zero _)
      | succ n46 ih46 =>
        intro row e1 hm46
        refine aw_iload dL_isBestSo_46 rfl ?_
        refine aw_aload_n dL_isBestSo_48 rfl rfl ?_
        refine lw_Vi (g := 0) (As := []) (rest := [iV (row)]) (c2 := 0 + 4 + 41 + 1660 * Int.toNat row) (s2 := 6 * (0 + 4 + 41 + 1660 * Int.toNat row)) (k_rows hst M h) cv_X4_rows dL_isBestSo_49 ml_L_73 rfl rfl rfl rfl rfl (Nat.le_of_ble_eq_true rfl) (by decide) (Nat.le_refl _) (Nat.le_refl _) (by show 0 + 4 + 41 + 1660 * Int.toNat row ≤ 19965 ∧ 6 * (0 + 4 + 41 + 1660 * Int.toNat row) ≤ 119790; omega) ?_
        refine aw_icmp_ge (tgt := 136) dL_isBestSo_52 (by decide) (by omega) (by omega) (fun h52 => ?_) (fun h52 => ?_)
        · refine aw_iload_n dL_isBestSo_136 rfl rfl ?_
          refine aw_if_eq (tgt := 152) dL_isBestSo_137 (by decide) (by decide) (fun h => absurd h (by decide)) (fun _ => ?_)
          refine aw_aload_n dL_isBestSo_140 rfl rfl ?_
          refine lw_Vr (R := fun z => LNG M z) (g := 0) (As := []) (rest := []) (c2 := 0 + 4 + 41 + 1660 * Int.toNat row) (s2 := 6 * (0 + 4 + 41 + 1660 * Int.toNat row)) (k_longestBlock hst M h) cv_X4_longestBlock dL_isBestSo_141 ml_L_99 rfl rfl rfl rfl rfl (Nat.le_of_ble_eq_true rfl) (by decide) (Nat.le_refl _) (Nat.le_refl _) (by show 0 + 4 + 41 + 1660 * Int.toNat row ≤ 19965 ∧ 6 * (0 + 4 + 41 + 1660 * Int.toNat row) ≤ 119790; omega) (fun z141 h141 => ?_)
          refine aw_iload_n dL_isBestSo_144 rfl rfl ?_
          refine aw_icmp_lt (tgt := 152) dL_isBestSo_145 (by decide) (by have q := LNG_r h.hw h141; omega) (by omega) (fun h145 => absurd h145 (by have q := long_some h hn.1 h141 x1 x2; omega)) (fun h145 => ?_)
          refine aw_iconst dL_isBestSo_148 ?_
          refine aw_goto (tgt := 153) dL_isBestSo_149 (by decide) ?_
          exact aw_iret dL_isBestSo_153 rfl rfl (by show 0 + 4 + 41 + 1660 * Int.toNat row ≤ 19965; omega) (by show 6 * (0 + 4 + 41 + 1660 * Int.toNat row) ≤ 119790; omega) ⟨rfl, rfl⟩
        · refine aw_iload_n dL_isBestSo_55 rfl rfl ?_
          refine aw_if_eq (tgt := 136) dL_isBestSo_56 (by decide) (by decide) (fun h => absurd h (by decide)) (fun _ => ?_)
          refine aw_iconst dL_isBestSo_59 ?_
          refine aw_istore (L2 := [some (rV K 0 0), some (iV (n)), some (iV (z5)), some (iV 1), some (iV (row)), some (iV 0)]) dL_isBestSo_60 (by decide) rfl ?_
          have lp62 : ∀ (n62 : Nat) (first : Int), (0 ≤ first ∧ first ≤ 20) → (((20 : Int) - first).toNat) < n62 → AW K l iL_isBestSo (ZM K iL_isBestSo (rI 1 M)) 62 [some (rV K 0 0), some (iV (n)), some (iV (z5)), some (iV 1), some (iV (row)), some (iV (first))] [] (M) (0 + 4 + 41 + 1660 * Int.toNat row + 83 * Int.toNat first) (6 * (0 + 4 + 41 + 1660 * Int.toNat row + 83 * Int.toNat first)) := by
            intro n62
            induction n62 with
            | zero =>
              intro first f1 hm62
              exact absurd hm62 (Nat.not_lt_zero _)
            | succ n62 ih62 =>
              intro first f1 hm62
              refine aw_iload dL_isBestSo_62 rfl ?_
              refine aw_bipush dL_isBestSo_64 rfl ?_
              refine aw_icmp_ge (tgt := 130) dL_isBestSo_66 (by decide) (by omega) (by omega) (fun h66 => ?_) (fun h66 => ?_)
              · refine aw_iinc (L2 := [some (rV K 0 0), some (iV (n)), some (iV (z5)), some (iV 1), some (iV (row + 1)), some (iV (first))]) dL_isBestSo_130 rfl (by decide) rfl ?_
                refine aw_goto (tgt := 46) dL_isBestSo_133 (by decide) ?_
                refine aw_weak (L' := [some (rV K 0 0), some (iV (n)), some (iV (z5)), some (iV 1), some (iV (row + 1)), none]) ⟨Or.inr rfl, Or.inr rfl, Or.inr rfl, Or.inr rfl, Or.inr rfl, Or.inl rfl, trivial⟩ ?_
                refine aw_wide (a := 0 + 4 + 41 + 1660 * Int.toNat (row + 1)) (b := 6 * (0 + 4 + 41 + 1660 * Int.toNat (row + 1))) (by omega) (by omega) ?_
                exact ih46 (row + 1) (by omega) (by omega)
              · refine aw_iload_n dL_isBestSo_69 rfl rfl ?_
                refine aw_if_eq (tgt := 130) dL_isBestSo_70 (by decide) (by decide) (fun h => absurd h (by decide)) (fun _ => ?_)
                refine aw_aload_n dL_isBestSo_73 rfl rfl ?_
                refine aw_iload_n dL_isBestSo_74 rfl rfl ?_
                refine lw_Vb (g := 0) (As := [iV (n)]) (rest := []) (c2 := 0 + 4 + 41 + 1660 * Int.toNat row + 83 * Int.toNat first + 2) (s2 := 6 * (0 + 4 + 41 + 1660 * Int.toNat row + 83 * Int.toNat first + 2)) (k_leavesOrphan hst M h n z5 hn x1 x2) cv_X4_leavesOrphan dL_isBestSo_75 ml_L_138 rfl rfl rfl rfl rfl (Nat.le_of_ble_eq_true rfl) (by decide) (by show 0 + 4 + 41 + 1660 * Int.toNat row + 83 * Int.toNat first + 2 ≤ 0 + 4 + 41 + 1660 * Int.toNat row + 83 * Int.toNat first + 2; omega) (by show 6 * (0 + 4 + 41 + 1660 * Int.toNat row + 83 * Int.toNat first) + 12 ≤ 6 * (0 + 4 + 41 + 1660 * Int.toNat row + 83 * Int.toNat first + 2); omega) (by show 0 + 4 + 41 + 1660 * Int.toNat row + 83 * Int.toNat first + 2 ≤ 19965 ∧ 6 * (0 + 4 + 41 + 1660 * Int.toNat row + 83 * Int.toNat first + 2) ≤ 119790; omega) (fun h75 => ?_) (fun h75 => ?_)
                · refine aw_if_eq (tgt := 118) dL_isBestSo_78 (by decide) (by decide) (fun h => absurd h (by decide)) (fun _ => ?_)
                  refine aw_aload_n dL_isBestSo_81 rfl rfl ?_
                  refine aw_iload dL_isBestSo_82 rfl ?_
                  refine aw_iload dL_isBestSo_84 rfl ?_
                  refine aw_iload_n dL_isBestSo_86 rfl rfl ?_
                  refine lw_Sb (As := [rV K 0 0, iV (row), iV (first), iV (n)]) (rest := []) (c2 := 0 + 4 + 41 + 1660 * Int.toNat row + 83 * Int.toNat first + 2 + 41) (s2 := 6 * (0 + 4 + 41 + 1660 * Int.toNat row + 83 * Int.toNat first + 2 + 41)) (c_L_isFree hst M row first n h hc (by omega) (by omega) hn) cs_L_isFree dL_isBestSo_87 ml_L_134 rfl rfl (Nat.le_of_ble_eq_true rfl) (by decide) (by show 0 + 4 + 41 + 1660 * Int.toNat row + 83 * Int.toNat first + 2 + 41 ≤ 0 + 4 + 41 + 1660 * Int.toNat row + 83 * Int.toNat first + 2 + 41; omega) (by show 6 * (0 + 4 + 41 + 1660 * Int.toNat row + 83 * Int.toNat first + 2) + 246 ≤ 6 * (0 + 4 + 41 + 1660 * Int.toNat row + 83 * Int.toNat first + 2 + 41); omega) (by show 0 + 4 + 41 + 1660 * Int.toNat row + 83 * Int.toNat first + 2 + 41 ≤ 19965 ∧ 6 * (0 + 4 + 41 + 1660 * Int.toNat row + 83 * Int.toNat first + 2 + 41) ≤ 119790; omega) (fun h87 => ?_) (fun h87 => ?_)
                  · refine aw_if_eq (tgt := 118) dL_isBestSo_90 (by decide) (by decide) (fun h => absurd h (by decide)) (fun _ => ?_)
                    refine aw_aload_n dL_isBestSo_93 rfl rfl ?_
                    refine aw_iload dL_isBestSo_94 rfl ?_
                    refine aw_iload dL_isBestSo_96 rfl ?_
                    refine aw_iload_n dL_isBestSo_98 rfl rfl ?_
                    refine lw_Si (As := [rV K 0 0, iV (row), iV (first), iV (n)]) (rest := []) (c2 := 0 + 4 + 41 + 1660 * Int.toNat row + 83 * Int.toNat first + 2 + 41 + 20) (s2 := 6 * (0 + 4 + 41 + 1660 * Int.toNat row + 83 * Int.toNat first + 2 + 41 + 20)) (c_L_sum hst M row first n h (by omega) (by omega)) cs_L_sum dL_isBestSo_99 ml_L_142 rfl rfl (Nat.le_of_ble_eq_true rfl) (by decide) (by show 0 + 4 + 41 + 1660 * Int.toNat row + 83 * Int.toNat first + 2 + 41 + 20 ≤ 0 + 4 + 41 + 1660 * Int.toNat row + 83 * Int.toNat first + 2 + 41 + 20; omega) (by show 6 * (0 + 4 + 41 + 1660 * Int.toNat row + 83 * Int.toNat first + 2 + 41) + 120 ≤ 6 * (0 + 4 + 41 + 1660 * Int.toNat row + 83 * Int.toNat first + 2 + 41 + 20); omega) (by show 0 + 4 + 41 + 1660 * Int.toNat row + 83 * Int.toNat first + 2 + 41 + 20 ≤ 19965 ∧ 6 * (0 + 4 + 41 + 1660 * Int.toNat row + 83 * Int.toNat first + 2 + 41 + 20) ≤ 119790; omega) ?_
                    refine aw_aload_n dL_isBestSo_102 rfl rfl ?_
                    refine aw_iload_n dL_isBestSo_103 rfl rfl ?_
                    refine aw_bipush dL_isBestSo_104 rfl ?_
                    refine aw_idiv dL_isBestSo_106 (by omega) (by omega) ?_
                    refine aw_iload_n dL_isBestSo_107 rfl rfl ?_
                    refine aw_bipush dL_isBestSo_108 rfl ?_
                    refine aw_irem dL_isBestSo_110 (by omega) (by omega) ?_
                    refine aw_iload_n dL_isBestSo_111 rfl rfl ?_
                    refine lw_Si (As := [rV K 0 0, iV (z5 / 100), iV (z5 % 100), iV (n)]) (rest := [iV (vB (M 3 0 row) (M 2 0 row) first n)]) (c2 := 0 + 4 + 41 + 1660 * Int.toNat row + 83 * Int.toNat first + 2 + 41 + 20 + 20) (s2 := 6 * (0 + 4 + 41 + 1660 * Int.toNat row + 83 * Int.toNat first + 2 + 41 + 20 + 20)) (c_L_sum hst M (z5 / 100) (z5 % 100) n h ⟨x5, x6⟩ (by omega)) cs_L_sum dL_isBestSo_112 ml_L_142 rfl rfl (Nat.le_of_ble_eq_true rfl) (by decide) (by show 0 + 4 + 41 + 1660 * Int.toNat row + 83 * Int.toNat first + 2 + 41 + 20 + 20 ≤ 0 + 4 + 41 + 1660 * Int.toNat row + 83 * Int.toNat first + 2 + 41 + 20 + 20; omega) (by show 6 * (0 + 4 + 41 + 1660 * Int.toNat row + 83 * Int.toNat first + 2 + 41 + 20) + 120 ≤ 6 * (0 + 4 + 41 + 1660 * Int.toNat row + 83 * Int.toNat first + 2 + 41 + 20 + 20); omega) (by show 0 + 4 + 41 + 1660 * Int.toNat row + 83 * Int.toNat first + 2 + 41 + 20 + 20 ≤ 19965 ∧ 6 * (0 + 4 + 41 + 1660 * Int.toNat row + 83 * Int.toNat first + 2 + 41 + 20 + 20) ≤ 119790; omega) ?_
                    refine aw_icmp_gt (tgt := 122) dL_isBestSo_115 (by decide) (by have ww := h.hw.2.2 row (by omega) (by omega); have q := vB_bd (sc := M 3 0 row) (w := M 2 0 row) (f := first) (k := n) (by omega) (by omega) (by omega) (by omega) (by omega) h87.1; omega) (by have q := vB_bd (sc := M 3 0 (z5 / 100)) (w := M 2 0 (z5 / 100)) (f := z5 % 100) (k := n) (by omega) (by omega) (by omega) x7 (by omega) x8; omega) (fun h115 => absurd h115 (by have q := best_val hn.1 h.hw x1 x2 h75 (show 0 ≤ row by omega) (by omega) (show 0 ≤ first by omega) h87.1 h87.2; omega)) (fun h115 => ?_)
                    refine aw_iconst dL_isBestSo_118 ?_
                    refine aw_goto (tgt := 123) dL_isBestSo_119 (by decide) ?_
                    refine aw_istore_n (L2 := [some (rV K 0 0), some (iV (n)), some (iV (z5)), some (iV 1), some (iV (row)), some (iV (first))]) dL_isBestSo_123 rfl (by decide) rfl ?_
                    refine aw_iinc (L2 := [some (rV K 0 0), some (iV (n)), some (iV (z5)), some (iV 1), some (iV (row)), some (iV (first + 1))]) dL_isBestSo_124 rfl (by decide) rfl ?_
                    refine aw_goto (tgt := 62) dL_isBestSo_127 (by decide) ?_
                    refine aw_wide (a := 0 + 4 + 41 + 1660 * Int.toNat row + 83 * Int.toNat (first + 1)) (b := 6 * (0 + 4 + 41 + 1660 * Int.toNat row + 83 * Int.toNat (first + 1))) (by omega) (by omega) ?_
                    exact ih62 (first + 1) (by omega) (by omega)
                  · refine aw_if_eq (tgt := 118) dL_isBestSo_90 (by decide) (by decide) (fun _ => ?_) (fun h => absurd (by decide) h)
                    refine aw_iconst dL_isBestSo_118 ?_
                    refine aw_goto (tgt := 123) dL_isBestSo_119 (by decide) ?_
                    refine aw_istore_n (L2 := [some (rV K 0 0), some (iV (n)), some (iV (z5)), some (iV 1), some (iV (row)), some (iV (first))]) dL_isBestSo_123 rfl (by decide) rfl ?_
                    refine aw_iinc (L2 := [some (rV K 0 0), some (iV (n)), some (iV (z5)), some (iV 1), some (iV (row)), some (iV (first + 1))]) dL_isBestSo_124 rfl (by decide) rfl ?_
                    refine aw_goto (tgt := 62) dL_isBestSo_127 (by decide) ?_
                    refine aw_wide (a := 0 + 4 + 41 + 1660 * Int.toNat row + 83 * Int.toNat (first + 1)) (b := 6 * (0 + 4 + 41 + 1660 * Int.toNat row + 83 * Int.toNat (first + 1))) (by omega) (by omega) ?_
                    exact ih62 (first + 1) (by omega) (by omega)
                · refine aw_if_eq (tgt := 118) dL_isBestSo_78 (by decide) (by decide) (fun _ => ?_) (fun h => absurd (by decide) h)
                  refine aw_iconst dL_isBestSo_118 ?_
                  refine aw_goto (tgt := 123) dL_isBestSo_119 (by decide) ?_
                  refine aw_istore_n (L2 := [some (rV K 0 0), some (iV (n)), some (iV (z5)), some (iV 1), some (iV (row)), some (iV (first))]) dL_isBestSo_123 rfl (by decide) rfl ?_
                  refine aw_iinc (L2 := [some (rV K 0 0), some (iV (n)), some (iV (z5)), some (iV 1), some (iV (row)), some (iV (first + 1))]) dL_isBestSo_124 rfl (by decide) rfl ?_
                  refine aw_goto (tgt := 62) dL_isBestSo_127 (by decide) ?_
                  refine aw_wide (a := 0 + 4 + 41 + 1660 * Int.toNat row + 83 * Int.toNat (first + 1)) (b := 6 * (0 + 4 + 41 + 1660 * Int.toNat row + 83 * Int.toNat (first + 1))) (by omega) (by omega) ?_
                  exact ih62 (first + 1) (by omega) (by omega)
          refine aw_wide (a := 0 + 4 + 41 + 1660 * Int.toNat row + 83 * Int.toNat 0) (b := 6 * (0 + 4 + 41 + 1660 * Int.toNat row + 83 * Int.toNat 0)) (by omega) (by omega) ?_
          exact lp62 ((((20 : Int) - 0).toNat) + 1) (0) (by omega) (Nat.lt_succ_self _)
    refine aw_wide (a := 0 + 4 + 41 + 1660 * Int.toNat 0) (b := 6 * (0 + 4 + 41 + 1660 * Int.toNat 0)) (by omega) (by omega) ?_
    exact lp46 (((M 1 0 4 - 0).toNat) + 1) (0) (by omega) (Nat.lt_succ_self _)
  · refine aw_aload_n dL_isBestSo_15 rfl rfl ?_
    refine lw_Vr (R := fun z => LNG M z) (g := 0) (As := []) (rest := []) (c2 := 0 + 4) (s2 := 6 * (0 + 4)) (k_longestBlock hst M h) cv_X4_longestBlock dL_isBestSo_16 ml_L_99 rfl rfl rfl rfl rfl (Nat.le_of_ble_eq_true rfl) (by decide) (Nat.le_refl _) (Nat.le_refl _) (by show 0 + 4 ≤ 19965 ∧ 6 * (0 + 4) ≤ 119790; omega) (fun z16 h16 => ?_)
    refine aw_iload_n dL_isBestSo_19 rfl rfl ?_
    refine aw_icmp_ge (tgt := 27) dL_isBestSo_20 (by decide) (by have q := LNG_r h.hw h16; omega) (by omega) (fun h20 => absurd h20 (by have q := long_none h hn.1 h16 (b5.resolve_right (fun q => by have q3 := q.2.2.1; omega)).2; omega)) (fun h20 => ?_)
    refine aw_iconst dL_isBestSo_23 ?_
    refine aw_goto (tgt := 28) dL_isBestSo_24 (by decide) ?_
    exact aw_iret dL_isBestSo_28 rfl rfl (by show 0 + 4 ≤ 19965; omega) (by show 6 * (0 + 4) ≤ 119790; omega) ⟨rfl, rfl⟩
