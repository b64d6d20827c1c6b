set_option maxHeartbeats 4000000 in
set_option maxRecDepth 20000 in
theorem c_X5_follows {K : WPar} {l : Launch} (hst : l.stackTraces = false) (M : Mem) (one : Int) (other : Int) (r_one : inR one) (r_other : inR other) (v_1 : 1 ≤ one ∧ one ≤ 100) (v_2 : 1 ≤ other ∧ other ≤ 100) : CT K l iX5_follows [rV K 30 0, iV (one), iV (other)] M (rB (0 ≤ M 44 0 other ∧ M 44 0 other / 20 = M 39 0 one) (M)) := by
  refine aw_met [some (rV K 30 0), some (iV (one)), some (iV (other))] hst (by decide) rfl (Nat.le_of_ble_eq_true rfl) rfl rfl (lcat rfl) ?_
  refine aw_rng (fun hM => ?_)
  refine aw_aload_n dX5_follows_0 rfl rfl ?_
  refine aw_getr (g := 30) rfl rfl ly_X5 rfl (k := 18) dX5_follows_1 (by decide) fl_X5_49 rfl ?_
  refine aw_iload_n dX5_follows_4 rfl rfl ?_
  refine aw_iald (g := 44) (n := 101) rfl (by decide) dX5_follows_5 (by decide) (by show 0 ≤ other ∧ other < (101 : Int); have x44 := hM 44 0 other; have x39 := hM 39 0 one; omega) (fun r5 => ?_)
  refine aw_if_lt (tgt := 31) dX5_follows_6 (by decide) (by have x44 := hM 44 0 other; have x39 := hM 39 0 one; omega) (fun h6 => ?_) (fun h6 => ?_)
  · refine aw_iconst dX5_follows_31 ?_
    exact aw_iret dX5_follows_32 rfl rfl (by decide) (by decide) ⟨Or.inr ⟨rfl, by have x44 := hM 44 0 other; have x39 := hM 39 0 one; omega⟩, (by rfl)⟩
  · refine aw_aload_n dX5_follows_9 rfl rfl ?_
    refine aw_getr (g := 30) rfl rfl ly_X5 rfl (k := 18) dX5_follows_10 (by decide) fl_X5_49 rfl ?_
    refine aw_iload_n dX5_follows_13 rfl rfl ?_
    refine aw_iald (g := 44) (n := 101) rfl (by decide) dX5_follows_14 (by decide) (by show 0 ≤ other ∧ other < (101 : Int); have x44 := hM 44 0 other; have x39 := hM 39 0 one; omega) (fun r14 => ?_)
    refine aw_bipush dX5_follows_15 rfl ?_
    refine aw_idiv dX5_follows_17 (by have x44 := hM 44 0 other; have x39 := hM 39 0 one; omega) (by have x44 := hM 44 0 other; have x39 := hM 39 0 one; omega) ?_
    refine aw_aload_n dX5_follows_18 rfl rfl ?_
    refine aw_getr (g := 30) rfl rfl ly_X5 rfl (k := 13) dX5_follows_19 (by decide) fl_X5_34 rfl ?_
    refine aw_iload_n dX5_follows_22 rfl rfl ?_
    refine aw_iald (g := 39) (n := 101) rfl (by decide) dX5_follows_23 (by decide) (by show 0 ≤ one ∧ one < (101 : Int); have x44 := hM 44 0 other; have x39 := hM 39 0 one; omega) (fun r23 => ?_)
    refine aw_icmp_ne (tgt := 31) dX5_follows_24 (by decide) (by have x44 := hM 44 0 other; have x39 := hM 39 0 one; omega) (by have x44 := hM 44 0 other; have x39 := hM 39 0 one; omega) (fun h24 => ?_) (fun h24 => ?_)
    · refine aw_iconst dX5_follows_31 ?_
      exact aw_iret dX5_follows_32 rfl rfl (by decide) (by decide) ⟨Or.inr ⟨rfl, by have x44 := hM 44 0 other; have x39 := hM 39 0 one; omega⟩, (by rfl)⟩
    · refine aw_iconst dX5_follows_27 ?_
      refine aw_goto (tgt := 32) dX5_follows_28 (by decide) ?_
      exact aw_iret dX5_follows_32 rfl rfl (by decide) (by decide) ⟨Or.inl ⟨rfl, by have x44 := hM 44 0 other; have x39 := hM 39 0 one; omega⟩, (by rfl)⟩
set_option maxHeartbeats 4000000 in
set_option maxRecDepth 20000 in
theorem c_X5_laysFar {K : WPar} {l : Launch} (hst : l.stackTraces = false) (M : Mem) (ticket : Int) (seats : Int) (r_ticket : inR ticket) (r_seats : inR seats) (hw : HWm M) (bw : BWm M) (hx : WIm M) (v_t : 1 ≤ ticket ∧ ticket ≤ M 30 0 8) (v_h : hsW M ticket) (v_se : 1 ≤ seats ∧ seats ≤ 20) : CT K l iX5_laysFar [rV K 30 0, iV (ticket), iV (seats)] M (rMm (fun m => FARd M m seats (fsM M ticket / 20))) := by
  refine aw_met [some (rV K 30 0), some (iV (ticket)), some (iV (seats)), none, none, none] hst (by decide) rfl (Nat.le_of_ble_eq_true rfl) rfl rfl (lcat rfl) ?_
  refine aw_rng (fun hM => ?_)
  have wt := hx ticket v_t.1 v_t.2 v_h
  refine aw_iconst dX5_laysFar_0 ?_
  refine aw_istore_n (L2 := [some (rV K 30 0), some (iV (ticket)), some (iV (seats)), some (iV 1), none, none]) dX5_laysFar_1 rfl (by decide) rfl ?_
  have lp2 : ∀ (n2 : Nat) (one : Int) (m1 : Mem), (1 ≤ one ∧ one ≤ M 30 0 8 + 1) → (FA0 M m1 seats (fsM M ticket / 20) one) → ((M 30 0 8 + 1 - one).toNat) < n2 → AW K l iX5_laysFar (ZM K iX5_laysFar (rMm (fun m => FARd M m seats (fsM M ticket / 20)))) 2 [some (rV K 30 0), some (iV (ticket)), some (iV (seats)), some (iV (one)), none, none] [] (m1) 0 0 := by
    intro n2
    induction n2 with
    | zero =>
      intro one m1 e1 e2 hm2
      exact absurd hm2 (Nat.not_lt_zero _)
    | succ n2 ih2 =>
      intro one m1 e1 e2 hm2
      have fm : ∀ g : Nat, g ≠ 42 → g ≠ 44 → m1 g = M g := e2.1; have k30 : m1 30 = M 30 := fm 30 (by decide) (by decide); have k31 : m1 31 = M 31 := fm 31 (by decide) (by decide); have k32 : m1 32 = M 32 := fm 32 (by decide) (by decide); have k33 : m1 33 = M 33 := fm 33 (by decide) (by decide); have k34 : m1 34 = M 34 := fm 34 (by decide) (by decide); have k35 : m1 35 = M 35 := fm 35 (by decide) (by decide); have k39 : m1 39 = M 39 := fm 39 (by decide) (by decide); have k8 : m1 30 0 8 = M 30 0 8 := (by rw [k30]); have hw1 : HWm m1 := HWm_g hw (by rw [k30]) k31 k32 k33; have hko : oMd m1 = oMd M := (by funext r s; unfold oMd; rw [k34])
      refine aw_iload_n dX5_laysFar_2 rfl rfl ?_
      refine aw_aload_n dX5_laysFar_3 rfl rfl ?_
      refine aw_geti (g := 30) rfl rfl ly_X5 rfl (k := 8) 8 rfl dX5_laysFar_4 (by decide) fl_X5_106 rfl (fun r4 => ?_)
      refine aw_icmp_gt (tgt := 120) dX5_laysFar_7 (by decide) (by have t1 := bw.1; have t2 := bw.2; omega) (by have t1 := bw.1; have t2 := bw.2; omega) (fun h7 => ?_) (fun h7 => ?_)
      · refine aw_iconst dX5_laysFar_120 ?_
        refine aw_istore_n (L2 := [some (rV K 30 0), some (iV (ticket)), some (iV (seats)), some (iV 1), none, none]) dX5_laysFar_121 rfl (by decide) rfl ?_
        have lp122 : ∀ (n122 : Nat) (step : Int) (m2 : Mem), (1 ≤ step ∧ (step ≤ M 30 0 8 ∨ step = 1)) → (FA1 M m2 seats (fsM M ticket / 20) step 1) → ((M 30 0 8 + 1 - step).toNat) < n122 → AW K l iX5_laysFar (ZM K iX5_laysFar (rMm (fun m => FARd M m seats (fsM M ticket / 20)))) 122 [some (rV K 30 0), some (iV (ticket)), some (iV (seats)), some (iV (step)), none, none] [] (m2) 0 0 := by
          intro n122
          induction n122 with
          | zero =>
            intro step m2 f1 f2 hm122
            exact absurd hm122 (Nat.not_lt_zero _)
          | succ n122 ih122 =>
            intro step m2 f1 f2 hm122
            have n8 : m2 30 0 8 = M 30 0 8 := (by rw [f2.1 30 (by decide) (by decide)])
            refine aw_iload_n dX5_laysFar_122 rfl rfl ?_
            refine aw_aload_n dX5_laysFar_123 rfl rfl ?_
            refine aw_geti (g := 30) rfl rfl ly_X5 rfl (k := 8) 8 rfl dX5_laysFar_124 (by decide) fl_X5_106 rfl (fun r124 => ?_)
            refine aw_icmp_ge (tgt := 228) dX5_laysFar_127 (by decide) (by have t1 := bw.1; have t2 := bw.2; omega) (by have t1 := bw.1; have t2 := bw.2; omega) (fun h127 => ?_) (fun h127 => ?_)
            · exact aw_vret dX5_laysFar_228 rfl (by decide) (by decide) ⟨rfl, (by exact FARd_mk hw hx (by omega) (by omega) f1.1 f2)⟩
            · refine aw_iconst dX5_laysFar_130 ?_
              refine aw_istore (L2 := [some (rV K 30 0), some (iV (ticket)), some (iV (seats)), some (iV (step)), some (iV 1), none]) dX5_laysFar_131 (by decide) rfl ?_
              have lp133 : ∀ (n133 : Nat) (one : Int) (m3 : Mem), (1 ≤ one ∧ one ≤ M 30 0 8 + 1) → (FA1 M m3 seats (fsM M ticket / 20) step one) → ((M 30 0 8 + 1 - one).toNat) < n133 → AW K l iX5_laysFar (ZM K iX5_laysFar (rMm (fun m => FARd M m seats (fsM M ticket / 20)))) 133 [some (rV K 30 0), some (iV (ticket)), some (iV (seats)), some (iV (step)), some (iV (one)), none] [] (m3) 0 0 := by
                intro n133
                induction n133 with
                | zero =>
                  intro one m3 g1 g2 hm133
                  exact absurd hm133 (Nat.not_lt_zero _)
                | succ n133 ih133 =>
                  intro one m3 g1 g2 hm133
                  have o8 : m3 30 0 8 = M 30 0 8 := (by rw [g2.1 30 (by decide) (by decide)])
                  refine aw_iload dX5_laysFar_133 rfl ?_
                  refine aw_aload_n dX5_laysFar_135 rfl rfl ?_
                  refine aw_geti (g := 30) rfl rfl ly_X5 rfl (k := 8) 8 rfl dX5_laysFar_136 (by decide) fl_X5_106 rfl (fun r136 => ?_)
                  refine aw_icmp_gt (tgt := 222) dX5_laysFar_139 (by decide) (by have t1 := bw.1; have t2 := bw.2; omega) (by have t1 := bw.1; have t2 := bw.2; omega) (fun h139 => ?_) (fun h139 => ?_)
                  · refine aw_iinc (L2 := [some (rV K 30 0), some (iV (ticket)), some (iV (seats)), some (iV (step + 1)), some (iV (one)), none]) dX5_laysFar_222 rfl (by decide) rfl ?_
                    refine aw_goto (tgt := 122) dX5_laysFar_225 (by decide) ?_
                    refine aw_weak (L' := [some (rV K 30 0), some (iV (ticket)), some (iV (seats)), some (iV (step + 1)), none, none]) ⟨Or.inr rfl, Or.inr rfl, Or.inr rfl, Or.inr rfl, Or.inl rfl, Or.inr rfl, trivial⟩ ?_
                    exact ih122 (step + 1) (m3) (by have t1 := bw.1; have t2 := bw.2; omega) (by exact FA1_up (by omega) g2) (by omega)
                  · refine aw_iconst dX5_laysFar_142 ?_
                    refine aw_istore (L2 := [some (rV K 30 0), some (iV (ticket)), some (iV (seats)), some (iV (step)), some (iV (one)), some (iV 1)]) dX5_laysFar_143 (by decide) rfl ?_
                    have lp145 : ∀ (n145 : Nat) (other : Int) (m4 : Mem), (1 ≤ other ∧ other ≤ M 30 0 8 + 1) → (FAi M m4 seats (fsM M ticket / 20) step one other) → ((M 30 0 8 + 1 - other).toNat) < n145 → AW K l iX5_laysFar (ZM K iX5_laysFar (rMm (fun m => FARd M m seats (fsM M ticket / 20)))) 145 [some (rV K 30 0), some (iV (ticket)), some (iV (seats)), some (iV (step)), some (iV (one)), some (iV (other))] [] (m4) 0 0 := by
                      intro n145
                      induction n145 with
                      | zero =>
                        intro other m4 j1 j2 hm145
                        exact absurd hm145 (Nat.not_lt_zero _)
                      | succ n145 ih145 =>
                        intro other m4 j1 j2 hm145
                        have p8 : m4 30 0 8 = M 30 0 8 := (by rcases j2 with a | a; rw [a.2.1 30 (by decide) (by decide)]; rw [a.2.2.1.1 30 (by decide) (by decide)]); have p39 : m4 39 = M 39 := (by rcases j2 with a | a; exact a.2.1 39 (by decide) (by decide); exact a.2.2.1.1 39 (by decide) (by decide))
                        refine aw_iload dX5_laysFar_145 rfl ?_
                        refine aw_aload_n dX5_laysFar_147 rfl rfl ?_
                        refine aw_geti (g := 30) rfl rfl ly_X5 rfl (k := 8) 8 rfl dX5_laysFar_148 (by decide) fl_X5_106 rfl (fun r148 => ?_)
                        refine aw_icmp_gt (tgt := 216) dX5_laysFar_151 (by decide) (by have t1 := bw.1; have t2 := bw.2; omega) (by have t1 := bw.1; have t2 := bw.2; omega) (fun h151 => ?_) (fun h151 => ?_)
                        · refine aw_iinc (L2 := [some (rV K 30 0), some (iV (ticket)), some (iV (seats)), some (iV (step)), some (iV (one + 1)), some (iV (other))]) dX5_laysFar_216 rfl (by decide) rfl ?_
                          refine aw_goto (tgt := 133) dX5_laysFar_219 (by decide) ?_
                          refine aw_weak (L' := [some (rV K 30 0), some (iV (ticket)), some (iV (seats)), some (iV (step)), some (iV (one + 1)), none]) ⟨Or.inr rfl, Or.inr rfl, Or.inr rfl, Or.inr rfl, Or.inr rfl, Or.inl rfl, trivial⟩ ?_
                          exact ih133 (one + 1) (m4) (by have t1 := bw.1; have t2 := bw.2; omega) (by exact FAi_all hx f1.1 g1.1 (by omega) j2 (by omega)) (by omega)
                        · refine aw_aload_n dX5_laysFar_154 rfl rfl ?_
                          refine aw_getr (g := 30) rfl rfl ly_X5 rfl (k := 18) dX5_laysFar_155 (by decide) fl_X5_49 rfl ?_
                          refine aw_iload dX5_laysFar_158 rfl ?_
                          refine aw_iald (g := 44) (n := 101) rfl (by decide) dX5_laysFar_160 (by decide) (by show 0 ≤ one ∧ one < (101 : Int); have t1 := bw.1; have t2 := bw.2; omega) (fun r160 => ?_)
                          refine aw_if_lt (tgt := 216) dX5_laysFar_161 (by decide) (by have t1 := bw.1; have t2 := bw.2; omega) (fun h161 => ?_) (fun h161 => ?_)
                          · refine aw_iinc (L2 := [some (rV K 30 0), some (iV (ticket)), some (iV (seats)), some (iV (step)), some (iV (one + 1)), some (iV (other))]) dX5_laysFar_216 rfl (by decide) rfl ?_
                            refine aw_goto (tgt := 133) dX5_laysFar_219 (by decide) ?_
                            refine aw_weak (L' := [some (rV K 30 0), some (iV (ticket)), some (iV (seats)), some (iV (step)), some (iV (one + 1)), none]) ⟨Or.inr rfl, Or.inr rfl, Or.inr rfl, Or.inr rfl, Or.inr rfl, Or.inl rfl, trivial⟩ ?_
                            exact ih133 (one + 1) (m4) (by have t1 := bw.1; have t2 := bw.2; omega) (by exact FAi_all hx f1.1 g1.1 (by omega) j2 (by omega)) (by omega)
                          · refine aw_aload_n dX5_laysFar_164 rfl rfl ?_
                            refine aw_getr (g := 30) rfl rfl ly_X5 rfl (k := 16) dX5_laysFar_165 (by decide) fl_X5_43 rfl ?_
                            refine aw_iload dX5_laysFar_168 rfl ?_
                            refine aw_iald (g := 42) (n := 101) rfl (by decide) dX5_laysFar_170 (by decide) (by show 0 ≤ one ∧ one < (101 : Int); have t1 := bw.1; have t2 := bw.2; omega) (fun r170 => ?_)
                            refine aw_if_ne (tgt := 216) dX5_laysFar_171 (by decide) (by have t1 := bw.1; have t2 := bw.2; omega) (fun h171 => ?_) (fun h171 => ?_)
                            · refine aw_iinc (L2 := [some (rV K 30 0), some (iV (ticket)), some (iV (seats)), some (iV (step)), some (iV (one + 1)), some (iV (other))]) dX5_laysFar_216 rfl (by decide) rfl ?_
                              refine aw_goto (tgt := 133) dX5_laysFar_219 (by decide) ?_
                              refine aw_weak (L' := [some (rV K 30 0), some (iV (ticket)), some (iV (seats)), some (iV (step)), some (iV (one + 1)), none]) ⟨Or.inr rfl, Or.inr rfl, Or.inr rfl, Or.inr rfl, Or.inr rfl, Or.inl rfl, trivial⟩ ?_
                              exact ih133 (one + 1) (m4) (by have t1 := bw.1; have t2 := bw.2; omega) (by exact FAi_all hx f1.1 g1.1 (by omega) j2 (by omega)) (by omega)
                            · refine aw_aload_n dX5_laysFar_174 rfl rfl ?_
                              refine aw_getr (g := 30) rfl rfl ly_X5 rfl (k := 16) dX5_laysFar_175 (by decide) fl_X5_43 rfl ?_
                              refine aw_iload dX5_laysFar_178 rfl ?_
                              refine aw_aload_n dX5_laysFar_180 rfl rfl ?_
                              refine aw_iload dX5_laysFar_181 rfl ?_
                              refine aw_iload dX5_laysFar_183 rfl ?_
                              refine aw_cVb (g := 30) (As := [iV (one), iV (other)]) (rest := [iV (one), rV K 42 0]) (c_X5_follows hst m4 (one) (other) (by have t1 := bw.1; have t2 := bw.2; omega) (by have t1 := bw.1; have t2 := bw.2; omega) (by have t1 := bw.1; have t2 := bw.2; omega) (by have t1 := bw.1; have t2 := bw.2; omega)) cv_X5_follows dX5_laysFar_185 ml_X5_170 rfl rfl rfl rfl rfl (Nat.le_of_ble_eq_true rfl) (by decide) rfl rfl (by decide) (fun h185 => ?_) (fun h185 => ?_)
                              · refine aw_if_eq (tgt := 208) dX5_laysFar_188 (by decide) (by decide) (fun h => absurd h (by decide)) (fun _ => ?_)
                                refine aw_aload_n dX5_laysFar_191 rfl rfl ?_
                                refine aw_getr (g := 30) rfl rfl ly_X5 rfl (k := 16) dX5_laysFar_192 (by decide) fl_X5_43 rfl ?_
                                refine aw_iload dX5_laysFar_195 rfl ?_
                                refine aw_iald (g := 42) (n := 101) rfl (by decide) dX5_laysFar_197 (by decide) (by show 0 ≤ other ∧ other < (101 : Int); have t1 := bw.1; have t2 := bw.2; omega) (fun r197 => ?_)
                                refine aw_iload_n dX5_laysFar_198 rfl rfl ?_
                                refine aw_icmp_ne (tgt := 208) dX5_laysFar_199 (by decide) (by have t1 := bw.1; have t2 := bw.2; omega) (by have t1 := bw.1; have t2 := bw.2; omega) (fun h199 => ?_) (fun h199 => ?_)
                                · refine aw_iconst dX5_laysFar_208 ?_
                                  refine aw_iast (g := 42) (n := 101) (M' := updM m4 42 0 one 0) rfl (by decide) dX5_laysFar_209 (by decide) (by show 0 ≤ one ∧ one < (101 : Int); have t1 := bw.1; have t2 := bw.2; omega) (by have t1 := bw.1; have t2 := bw.2; omega) rfl ?_
                                  refine aw_iinc (L2 := [some (rV K 30 0), some (iV (ticket)), some (iV (seats)), some (iV (step)), some (iV (one)), some (iV (other + 1))]) dX5_laysFar_210 rfl (by decide) rfl ?_
                                  refine aw_goto (tgt := 145) dX5_laysFar_213 (by decide) ?_
                                  exact ih145 (other + 1) (updM m4 42 0 one 0) (by have t1 := bw.1; have t2 := bw.2; omega) (by have g185 := h185; rw [p39] at g185; first | exact FAi_y hx f1.1 g1.1 (by omega) j1.1 (by omega) j2 (by omega) (by omega) g185.1 g185.2 (by omega) rfl | exact FAi_n hx f1.1 g1.1 (by omega) j1.1 (by omega) j2 (by omega) (by omega) (fun q => g185 q.1) | exact FAi_n hx f1.1 g1.1 (by omega) j1.1 (by omega) j2 (by omega) (by omega) (fun q => by have a := q.2; omega)) (by omega)
                                · refine aw_iload_n dX5_laysFar_202 rfl rfl ?_
                                  refine aw_iconst dX5_laysFar_203 ?_
                                  refine aw_iadd dX5_laysFar_204 ?_
                                  refine aw_goto (tgt := 209) dX5_laysFar_205 (by decide) ?_
                                  refine aw_iast (g := 42) (n := 101) (M' := updM m4 42 0 one (step + 1)) rfl (by decide) dX5_laysFar_209 (by decide) (by show 0 ≤ one ∧ one < (101 : Int); have t1 := bw.1; have t2 := bw.2; omega) (by have t1 := bw.1; have t2 := bw.2; omega) rfl ?_
                                  refine aw_iinc (L2 := [some (rV K 30 0), some (iV (ticket)), some (iV (seats)), some (iV (step)), some (iV (one)), some (iV (other + 1))]) dX5_laysFar_210 rfl (by decide) rfl ?_
                                  refine aw_goto (tgt := 145) dX5_laysFar_213 (by decide) ?_
                                  exact ih145 (other + 1) (updM m4 42 0 one (step + 1)) (by have t1 := bw.1; have t2 := bw.2; omega) (by have g185 := h185; rw [p39] at g185; first | exact FAi_y hx f1.1 g1.1 (by omega) j1.1 (by omega) j2 (by omega) (by omega) g185.1 g185.2 (by omega) rfl | exact FAi_n hx f1.1 g1.1 (by omega) j1.1 (by omega) j2 (by omega) (by omega) (fun q => g185 q.1) | exact FAi_n hx f1.1 g1.1 (by omega) j1.1 (by omega) j2 (by omega) (by omega) (fun q => by have a := q.2; omega)) (by omega)
                              · refine aw_if_eq (tgt := 208) dX5_laysFar_188 (by decide) (by decide) (fun _ => ?_) (fun h => absurd (by decide) h)
                                refine aw_iconst dX5_laysFar_208 ?_
                                refine aw_iast (g := 42) (n := 101) (M' := updM m4 42 0 one 0) rfl (by decide) dX5_laysFar_209 (by decide) (by show 0 ≤ one ∧ one < (101 : Int); have t1 := bw.1; have t2 := bw.2; omega) (by have t1 := bw.1; have t2 := bw.2; omega) rfl ?_
                                refine aw_iinc (L2 := [some (rV K 30 0), some (iV (ticket)), some (iV (seats)), some (iV (step)), some (iV (one)), some (iV (other + 1))]) dX5_laysFar_210 rfl (by decide) rfl ?_
                                refine aw_goto (tgt := 145) dX5_laysFar_213 (by decide) ?_
                                exact ih145 (other + 1) (updM m4 42 0 one 0) (by have t1 := bw.1; have t2 := bw.2; omega) (by have g185 := h185; rw [p39] at g185; first | exact FAi_y hx f1.1 g1.1 (by omega) j1.1 (by omega) j2 (by omega) (by omega) g185.1 g185.2 (by omega) rfl | exact FAi_n hx f1.1 g1.1 (by omega) j1.1 (by omega) j2 (by omega) (by omega) (fun q => g185 q.1) | exact FAi_n hx f1.1 g1.1 (by omega) j1.1 (by omega) j2 (by omega) (by omega) (fun q => by have a := q.2; omega)) (by omega)
                    exact lp145 (((M 30 0 8 + 1 - 1).toNat) + 1) (1) (m3) (by have t1 := bw.1; have t2 := bw.2; omega) (by exact FAi_0 g1.1 (by omega) g2) (Nat.lt_succ_self _)
              exact lp133 (((M 30 0 8 + 1 - 1).toNat) + 1) (1) (m2) (by have t1 := bw.1; have t2 := bw.2; omega) (by exact f2) (Nat.lt_succ_self _)
        exact lp122 (((M 30 0 8 + 1 - 1).toNat) + 1) (1) (m1) (by have t1 := bw.1; have t2 := bw.2; omega) (by exact FA1_0 (by omega) e2) (Nat.lt_succ_self _)
      · refine aw_aload_n dX5_laysFar_10 rfl rfl ?_
        refine aw_iload_n dX5_laysFar_11 rfl rfl ?_
        refine aw_cVb (g := 30) (As := [iV (one)]) (rest := []) (c_X5_hasWish hst m1 (one) (by have t1 := bw.1; have t2 := bw.2; omega) (by have t1 := bw.1; have t2 := bw.2; omega)) cv_X5_hasWish dX5_laysFar_12 ml_X5_167 rfl rfl rfl rfl rfl (Nat.le_of_ble_eq_true rfl) (by decide) rfl rfl (by decide) (fun h12 => ?_) (fun h12 => ?_)
        · have g12 := h12; rw [k35, k39] at g12
          refine aw_if_eq (tgt := 31) dX5_laysFar_15 (by decide) (by decide) (fun h => absurd h (by decide)) (fun _ => ?_)
          refine aw_aload_n dX5_laysFar_18 rfl rfl ?_
          refine aw_iload_n dX5_laysFar_19 rfl rfl ?_
          refine aw_cVi (g := 30) (As := [iV (one)]) (rest := []) (c_X5_many hst m1 (one) (by have t1 := bw.1; have t2 := bw.2; omega)) cv_X5_many dX5_laysFar_20 ml_X5_146 rfl rfl rfl rfl rfl (Nat.le_of_ble_eq_true rfl) (by decide) rfl rfl (by decide) ?_
          refine aw_st (st' := [iV (manyM M one)]) (by rw [show (manyM m1 one : Int) = manyM M one from by unfold manyM; rw [k34]]) ?_
          refine aw_iload_n dX5_laysFar_23 rfl rfl ?_
          refine aw_icmp_ne (tgt := 31) dX5_laysFar_24 (by decide) (by have q := manyM_bd M one; omega) (by have t1 := bw.1; have t2 := bw.2; omega) (fun h24 => ?_) (fun h24 => ?_)
          · refine aw_iconst dX5_laysFar_31 ?_
            refine aw_istore (L2 := [some (rV K 30 0), some (iV (ticket)), some (iV (seats)), some (iV (one)), some (iV 0), none]) dX5_laysFar_32 (by decide) rfl ?_
            refine aw_iload dX5_laysFar_34 rfl ?_
            refine aw_if_eq (tgt := 75) dX5_laysFar_36 (by decide) (by decide) (fun _ => ?_) (fun h => absurd (by decide) h)
            refine aw_iconst dX5_laysFar_75 ?_
            refine aw_istore (L2 := [some (rV K 30 0), some (iV (ticket)), some (iV (seats)), some (iV (one)), some (iV 0), some (iV 0)]) dX5_laysFar_76 (by decide) rfl ?_
            refine aw_aload_n dX5_laysFar_78 rfl rfl ?_
            refine aw_getr (g := 30) rfl rfl ly_X5 rfl (k := 16) dX5_laysFar_79 (by decide) fl_X5_43 rfl ?_
            refine aw_iload_n dX5_laysFar_82 rfl rfl ?_
            refine aw_iload dX5_laysFar_83 rfl ?_
            refine aw_if_eq (tgt := 92) dX5_laysFar_85 (by decide) (by decide) (fun _ => ?_) (fun h => absurd (by decide) h)
            refine aw_iconst dX5_laysFar_92 ?_
            refine aw_iast (g := 42) (n := 101) (M' := updM m1 42 0 one 0) rfl (by decide) dX5_laysFar_93 (by decide) (by show 0 ≤ one ∧ one < (101 : Int); have t1 := bw.1; have t2 := bw.2; omega) (by have t1 := bw.1; have t2 := bw.2; omega) rfl ?_
            refine aw_aload_n dX5_laysFar_94 rfl rfl ?_
            refine aw_getr (g := 30) rfl rfl ly_X5 rfl (k := 18) dX5_laysFar_95 (by decide) fl_X5_49 rfl ?_
            refine aw_iload_n dX5_laysFar_98 rfl rfl ?_
            refine aw_iload dX5_laysFar_99 rfl ?_
            refine aw_if_eq (tgt := 112) dX5_laysFar_101 (by decide) (by decide) (fun _ => ?_) (fun h => absurd (by decide) h)
            refine aw_iconst dX5_laysFar_112 ?_
            refine aw_iast (g := 44) (n := 101) (M' := updM (updM m1 42 0 one 0) 44 0 one (-1)) rfl (by decide) dX5_laysFar_113 (by decide) (by show 0 ≤ one ∧ one < (101 : Int); have t1 := bw.1; have t2 := bw.2; omega) (by have t1 := bw.1; have t2 := bw.2; omega) rfl ?_
            refine aw_iinc (L2 := [some (rV K 30 0), some (iV (ticket)), some (iV (seats)), some (iV (one + 1)), some (iV 0), some (iV 0)]) dX5_laysFar_114 rfl (by decide) rfl ?_
            refine aw_goto (tgt := 2) dX5_laysFar_117 (by decide) ?_
            refine aw_weak (L' := [some (rV K 30 0), some (iV (ticket)), some (iV (seats)), some (iV (one + 1)), none, none]) ⟨Or.inr rfl, Or.inr rfl, Or.inr rfl, Or.inr rfl, Or.inl rfl, Or.inl rfl, trivial⟩ ?_
            exact ih2 (one + 1) (updM (updM m1 42 0 one 0) 44 0 one (-1)) (by have t1 := bw.1; have t2 := bw.2; omega) (by first | (have hn : ¬ ptm M seats one := (fun q => by first | exact absurd q.1 g12 | (have := q.2; omega)); exact FA0_s e2 (LV1_p hn) (if_neg hn).symm) | (have q106 : fsM M one = z106 := fsM_eq (by have a := h106; rw [updM_g (by decide), k34] at a; exact a); first | exact FA0_s e2 (LV1_y hp ⟨⟨g12.2, wo.1⟩, Or.inr (oz.mpr h51)⟩) (by rw [if_pos hp]; exact q106.symm) | exact FA0_s e2 (LV1_y hp ⟨⟨g12.2, wo.1⟩, Or.inl (by rw [q62]; omega)⟩) (by rw [if_pos hp]; exact q106.symm) | exact FA0_s e2 (LV1_n (fun q => by rcases q.2 with a | a; (rw [q62] at a; omega); exact h51 (oz.mp a))) (by rw [if_pos hp]; exact q106.symm))) (by omega)
          · refine aw_iconst dX5_laysFar_27 ?_
            refine aw_goto (tgt := 32) dX5_laysFar_28 (by decide) ?_
            refine aw_istore (L2 := [some (rV K 30 0), some (iV (ticket)), some (iV (seats)), some (iV (one)), some (iV 1), none]) dX5_laysFar_32 (by decide) rfl ?_
            refine aw_iload dX5_laysFar_34 rfl ?_
            refine aw_if_eq (tgt := 75) dX5_laysFar_36 (by decide) (by decide) (fun h => absurd h (by decide)) (fun _ => ?_)
            have hp : ptm M seats one := ⟨g12, by omega⟩; have wo := hx one e1.1 (by omega) g12
            refine aw_aload_n dX5_laysFar_39 rfl rfl ?_
            refine aw_aload_n dX5_laysFar_40 rfl rfl ?_
            refine aw_getr (g := 30) rfl rfl ly_X5 rfl (k := 13) dX5_laysFar_41 (by decide) fl_X5_34 rfl ?_
            refine aw_iload_n dX5_laysFar_44 rfl rfl ?_
            refine aw_iald (g := 39) (n := 101) rfl (by decide) dX5_laysFar_45 (by decide) (by show 0 ≤ one ∧ one < (101 : Int); have t1 := bw.1; have t2 := bw.2; omega) (fun r45 => ?_)
            refine aw_st (st' := [iV (M 39 0 one), rV K 30 0]) (by rw [show (m1 39 0 one : Int) = M 39 0 one from by rw [k39]]) ?_
            refine aw_iload_n dX5_laysFar_46 rfl rfl ?_
            refine aw_iconst dX5_laysFar_47 ?_
            refine aw_cVr (g := 30) (As := [iV (M 39 0 one), iV (seats), iV 0]) (rest := []) (c_X5_firstIn hst m1 (M 39 0 one) (seats) (0) (by exact hM 39 0 one) (by have t1 := bw.1; have t2 := bw.2; omega) (by have t1 := bw.1; have t2 := bw.2; omega) (by exact hw1) (by have a := wo.1; have b := g12.2; rw [k30]; exact ⟨b, a⟩) (by have t1 := bw.1; have t2 := bw.2; omega)) cv_X5_firstIn dX5_laysFar_48 ml_X5_95 rfl rfl rfl rfl rfl (Nat.le_of_ble_eq_true rfl) (by decide) rfl rfl (by decide) (fun z48 (h48 : isBest (cB (m1 31 0) (oMd m1) seats (0 = 0) (M 39 0 one)) (vBR (m1 32 0) (m1 31 0) seats (M 39 0 one)) z48) => ?_)
            have oz := (okd_z h48).1; unfold okd at oz; rw [hko, k31, k32] at oz; have zb := isBest_in h48
            refine aw_if_ge (tgt := 71) dX5_laysFar_51 (by decide) (by rcases zb with a | a; omega; (have b := a.2.1; have c := hw.2.2 (M 39 0 one) g12.2 wo.1; rw [k31] at b; omega)) (fun h51 => ?_) (fun h51 => ?_)
            · refine aw_iconst dX5_laysFar_71 ?_
              refine aw_goto (tgt := 76) dX5_laysFar_72 (by decide) ?_
              refine aw_istore (L2 := [some (rV K 30 0), some (iV (ticket)), some (iV (seats)), some (iV (one)), some (iV 1), some (iV 1)]) dX5_laysFar_76 (by decide) rfl ?_
              refine aw_aload_n dX5_laysFar_78 rfl rfl ?_
              refine aw_getr (g := 30) rfl rfl ly_X5 rfl (k := 16) dX5_laysFar_79 (by decide) fl_X5_43 rfl ?_
              refine aw_iload_n dX5_laysFar_82 rfl rfl ?_
              refine aw_iload dX5_laysFar_83 rfl ?_
              refine aw_if_eq (tgt := 92) dX5_laysFar_85 (by decide) (by decide) (fun h => absurd h (by decide)) (fun _ => ?_)
              refine aw_iconst dX5_laysFar_88 ?_
              refine aw_goto (tgt := 93) dX5_laysFar_89 (by decide) ?_
              refine aw_iast (g := 42) (n := 101) (M' := updM m1 42 0 one 1) rfl (by decide) dX5_laysFar_93 (by decide) (by show 0 ≤ one ∧ one < (101 : Int); have t1 := bw.1; have t2 := bw.2; omega) (by have t1 := bw.1; have t2 := bw.2; omega) rfl ?_
              refine aw_aload_n dX5_laysFar_94 rfl rfl ?_
              refine aw_getr (g := 30) rfl rfl ly_X5 rfl (k := 18) dX5_laysFar_95 (by decide) fl_X5_49 rfl ?_
              refine aw_iload_n dX5_laysFar_98 rfl rfl ?_
              refine aw_iload dX5_laysFar_99 rfl ?_
              refine aw_if_eq (tgt := 112) dX5_laysFar_101 (by decide) (by decide) (fun h => absurd h (by decide)) (fun _ => ?_)
              refine aw_aload_n dX5_laysFar_104 rfl rfl ?_
              refine aw_iload_n dX5_laysFar_105 rfl rfl ?_
              refine aw_cVr (g := 30) (As := [iV (one)]) (rest := [iV (one), rV K 44 0]) (c_X5_firstOf hst (updM m1 42 0 one 1) (one) (by have t1 := bw.1; have t2 := bw.2; omega)) cv_X5_firstOf dX5_laysFar_106 ml_X5_158 rfl rfl rfl rfl rfl (Nat.le_of_ble_eq_true rfl) (by decide) rfl rfl (by decide) (fun z106 (h106 : isFst ((updM m1 42 0 one 1) 34 0) one 240 z106) => ?_)
              have fb := isFst_bd h106
              refine aw_goto (tgt := 113) dX5_laysFar_109 (by decide) ?_
              refine aw_iast (g := 44) (n := 101) (M' := updM ((updM m1 42 0 one 1)) 44 0 one z106) rfl (by decide) dX5_laysFar_113 (by decide) (by show 0 ≤ one ∧ one < (101 : Int); have t1 := bw.1; have t2 := bw.2; omega) (by have t1 := bw.1; have t2 := bw.2; omega) rfl ?_
              refine aw_iinc (L2 := [some (rV K 30 0), some (iV (ticket)), some (iV (seats)), some (iV (one + 1)), some (iV 1), some (iV 1)]) dX5_laysFar_114 rfl (by decide) rfl ?_
              refine aw_goto (tgt := 2) dX5_laysFar_117 (by decide) ?_
              refine aw_weak (L' := [some (rV K 30 0), some (iV (ticket)), some (iV (seats)), some (iV (one + 1)), none, none]) ⟨Or.inr rfl, Or.inr rfl, Or.inr rfl, Or.inr rfl, Or.inl rfl, Or.inl rfl, trivial⟩ ?_
              exact ih2 (one + 1) (updM ((updM m1 42 0 one 1)) 44 0 one z106) (by have t1 := bw.1; have t2 := bw.2; omega) (by first | (have hn : ¬ ptm M seats one := (fun q => by first | exact absurd q.1 g12 | (have := q.2; omega)); exact FA0_s e2 (LV1_p hn) (if_neg hn).symm) | (have q106 : fsM M one = z106 := fsM_eq (by have a := h106; rw [updM_g (by decide), k34] at a; exact a); first | exact FA0_s e2 (LV1_y hp ⟨⟨g12.2, wo.1⟩, Or.inr (oz.mpr h51)⟩) (by rw [if_pos hp]; exact q106.symm) | exact FA0_s e2 (LV1_y hp ⟨⟨g12.2, wo.1⟩, Or.inl (by rw [q62]; omega)⟩) (by rw [if_pos hp]; exact q106.symm) | exact FA0_s e2 (LV1_n (fun q => by rcases q.2 with a | a; (rw [q62] at a; omega); exact h51 (oz.mp a))) (by rw [if_pos hp]; exact q106.symm))) (by omega)
            · refine aw_aload_n dX5_laysFar_54 rfl rfl ?_
              refine aw_getr (g := 30) rfl rfl ly_X5 rfl (k := 13) dX5_laysFar_55 (by decide) fl_X5_34 rfl ?_
              refine aw_iload_n dX5_laysFar_58 rfl rfl ?_
              refine aw_iald (g := 39) (n := 101) rfl (by decide) dX5_laysFar_59 (by decide) (by show 0 ≤ one ∧ one < (101 : Int); have t1 := bw.1; have t2 := bw.2; omega) (fun r59 => ?_)
              refine aw_st (st' := [iV (M 39 0 one)]) (by rw [show (m1 39 0 one : Int) = M 39 0 one from by rw [k39]]) ?_
              refine aw_aload_n dX5_laysFar_60 rfl rfl ?_
              refine aw_iload_n dX5_laysFar_61 rfl rfl ?_
              refine aw_cVr (g := 30) (As := [iV (ticket)]) (rest := [iV (M 39 0 one)]) (c_X5_firstOf hst m1 (ticket) (by have t1 := bw.1; have t2 := bw.2; omega)) cv_X5_firstOf dX5_laysFar_62 ml_X5_158 rfl rfl rfl rfl rfl (Nat.le_of_ble_eq_true rfl) (by decide) rfl rfl (by decide) (fun z62 (h62 : isFst (m1 34 0) ticket 240 z62) => ?_)
              have q62 : fsM M ticket = z62 := fsM_eq (k34 ▸ h62)
              refine aw_bipush dX5_laysFar_65 rfl ?_
              refine aw_idiv dX5_laysFar_67 (by rw [q62] at wt; omega) (by rw [q62] at wt; omega) ?_
              refine aw_icmp_ne (tgt := 75) dX5_laysFar_68 (by decide) (by exact hM 39 0 one) (by have t1 := bw.1; have t2 := bw.2; omega) (fun h68 => ?_) (fun h68 => ?_)
              · refine aw_iconst dX5_laysFar_75 ?_
                refine aw_istore (L2 := [some (rV K 30 0), some (iV (ticket)), some (iV (seats)), some (iV (one)), some (iV 1), some (iV 0)]) dX5_laysFar_76 (by decide) rfl ?_
                refine aw_aload_n dX5_laysFar_78 rfl rfl ?_
                refine aw_getr (g := 30) rfl rfl ly_X5 rfl (k := 16) dX5_laysFar_79 (by decide) fl_X5_43 rfl ?_
                refine aw_iload_n dX5_laysFar_82 rfl rfl ?_
                refine aw_iload dX5_laysFar_83 rfl ?_
                refine aw_if_eq (tgt := 92) dX5_laysFar_85 (by decide) (by decide) (fun _ => ?_) (fun h => absurd (by decide) h)
                refine aw_iconst dX5_laysFar_92 ?_
                refine aw_iast (g := 42) (n := 101) (M' := updM m1 42 0 one 0) rfl (by decide) dX5_laysFar_93 (by decide) (by show 0 ≤ one ∧ one < (101 : Int); have t1 := bw.1; have t2 := bw.2; omega) (by have t1 := bw.1; have t2 := bw.2; omega) rfl ?_
                refine aw_aload_n dX5_laysFar_94 rfl rfl ?_
                refine aw_getr (g := 30) rfl rfl ly_X5 rfl (k := 18) dX5_laysFar_95 (by decide) fl_X5_49 rfl ?_
                refine aw_iload_n dX5_laysFar_98 rfl rfl ?_
                refine aw_iload dX5_laysFar_99 rfl ?_
                refine aw_if_eq (tgt := 112) dX5_laysFar_101 (by decide) (by decide) (fun h => absurd h (by decide)) (fun _ => ?_)
                refine aw_aload_n dX5_laysFar_104 rfl rfl ?_
                refine aw_iload_n dX5_laysFar_105 rfl rfl ?_
                refine aw_cVr (g := 30) (As := [iV (one)]) (rest := [iV (one), rV K 44 0]) (c_X5_firstOf hst (updM m1 42 0 one 0) (one) (by have t1 := bw.1; have t2 := bw.2; omega)) cv_X5_firstOf dX5_laysFar_106 ml_X5_158 rfl rfl rfl rfl rfl (Nat.le_of_ble_eq_true rfl) (by decide) rfl rfl (by decide) (fun z106 (h106 : isFst ((updM m1 42 0 one 0) 34 0) one 240 z106) => ?_)
                have fb := isFst_bd h106
                refine aw_goto (tgt := 113) dX5_laysFar_109 (by decide) ?_
                refine aw_iast (g := 44) (n := 101) (M' := updM ((updM m1 42 0 one 0)) 44 0 one z106) rfl (by decide) dX5_laysFar_113 (by decide) (by show 0 ≤ one ∧ one < (101 : Int); have t1 := bw.1; have t2 := bw.2; omega) (by have t1 := bw.1; have t2 := bw.2; omega) rfl ?_
                refine aw_iinc (L2 := [some (rV K 30 0), some (iV (ticket)), some (iV (seats)), some (iV (one + 1)), some (iV 1), some (iV 0)]) dX5_laysFar_114 rfl (by decide) rfl ?_
                refine aw_goto (tgt := 2) dX5_laysFar_117 (by decide) ?_
                refine aw_weak (L' := [some (rV K 30 0), some (iV (ticket)), some (iV (seats)), some (iV (one + 1)), none, none]) ⟨Or.inr rfl, Or.inr rfl, Or.inr rfl, Or.inr rfl, Or.inl rfl, Or.inl rfl, trivial⟩ ?_
                exact ih2 (one + 1) (updM ((updM m1 42 0 one 0)) 44 0 one z106) (by have t1 := bw.1; have t2 := bw.2; omega) (by first | (have hn : ¬ ptm M seats one := (fun q => by first | exact absurd q.1 g12 | (have := q.2; omega)); exact FA0_s e2 (LV1_p hn) (if_neg hn).symm) | (have q106 : fsM M one = z106 := fsM_eq (by have a := h106; rw [updM_g (by decide), k34] at a; exact a); first | exact FA0_s e2 (LV1_y hp ⟨⟨g12.2, wo.1⟩, Or.inr (oz.mpr h51)⟩) (by rw [if_pos hp]; exact q106.symm) | exact FA0_s e2 (LV1_y hp ⟨⟨g12.2, wo.1⟩, Or.inl (by rw [q62]; omega)⟩) (by rw [if_pos hp]; exact q106.symm) | exact FA0_s e2 (LV1_n (fun q => by rcases q.2 with a | a; (rw [q62] at a; omega); exact h51 (oz.mp a))) (by rw [if_pos hp]; exact q106.symm))) (by omega)
              · refine aw_iconst dX5_laysFar_71 ?_
                refine aw_goto (tgt := 76) dX5_laysFar_72 (by decide) ?_
                refine aw_istore (L2 := [some (rV K 30 0), some (iV (ticket)), some (iV (seats)), some (iV (one)), some (iV 1), some (iV 1)]) dX5_laysFar_76 (by decide) rfl ?_
                refine aw_aload_n dX5_laysFar_78 rfl rfl ?_
                refine aw_getr (g := 30) rfl rfl ly_X5 rfl (k := 16) dX5_laysFar_79 (by decide) fl_X5_43 rfl ?_
                refine aw_iload_n dX5_laysFar_82 rfl rfl ?_
                refine aw_iload dX5_laysFar_83 rfl ?_
                refine aw_if_eq (tgt := 92) dX5_laysFar_85 (by decide) (by decide) (fun h => absurd h (by decide)) (fun _ => ?_)
                refine aw_iconst dX5_laysFar_88 ?_
                refine aw_goto (tgt := 93) dX5_laysFar_89 (by decide) ?_
                refine aw_iast (g := 42) (n := 101) (M' := updM m1 42 0 one 1) rfl (by decide) dX5_laysFar_93 (by decide) (by show 0 ≤ one ∧ one < (101 : Int); have t1 := bw.1; have t2 := bw.2; omega) (by have t1 := bw.1; have t2 := bw.2; omega) rfl ?_
                refine aw_aload_n dX5_laysFar_94 rfl rfl ?_
                refine aw_getr (g := 30) rfl rfl ly_X5 rfl (k := 18) dX5_laysFar_95 (by decide) fl_X5_49 rfl ?_
                refine aw_iload_n dX5_laysFar_98 rfl rfl ?_
                refine aw_iload dX5_laysFar_99 rfl ?_
                refine aw_if_eq (tgt := 112) dX5_laysFar_101 (by decide) (by decide) (fun h => absurd h (by decide)) (fun _ => ?_)
                refine aw_aload_n dX5_laysFar_104 rfl rfl ?_
                refine aw_iload_n dX5_laysFar_105 rfl rfl ?_
                refine aw_cVr (g := 30) (As := [iV (one)]) (rest := [iV (one), rV K 44 0]) (c_X5_firstOf hst (updM m1 42 0 one 1) (one) (by have t1 := bw.1; have t2 := bw.2; omega)) cv_X5_firstOf dX5_laysFar_106 ml_X5_158 rfl rfl rfl rfl rfl (Nat.le_of_ble_eq_true rfl) (by decide) rfl rfl (by decide) (fun z106 (h106 : isFst ((updM m1 42 0 one 1) 34 0) one 240 z106) => ?_)
                have fb := isFst_bd h106
                refine aw_goto (tgt := 113) dX5_laysFar_109 (by decide) ?_
                refine aw_iast (g := 44) (n := 101) (M' := updM ((updM m1 42 0 one 1)) 44 0 one z106) rfl (by decide) dX5_laysFar_113 (by decide) (by show 0 ≤ one ∧ one < (101 : Int); have t1 := bw.1; have t2 := bw.2; omega) (by have t1 := bw.1; have t2 := bw.2; omega) rfl ?_
                refine aw_iinc (L2 := [some (rV K 30 0), some (iV (ticket)), some (iV (seats)), some (iV (one + 1)), some (iV 1), some (iV 1)]) dX5_laysFar_114 rfl (by decide) rfl ?_
                refine aw_goto (tgt := 2) dX5_laysFar_117 (by decide) ?_
                refine aw_weak (L' := [some (rV K 30 0), some (iV (ticket)), some (iV (seats)), some (iV (one + 1)), none, none]) ⟨Or.inr rfl, Or.inr rfl, Or.inr rfl, Or.inr rfl, Or.inl rfl, Or.inl rfl, trivial⟩ ?_
                exact ih2 (one + 1) (updM ((updM m1 42 0 one 1)) 44 0 one z106) (by have t1 := bw.1; have t2 := bw.2; omega) (by first | (have hn : ¬ ptm M seats one := (fun q => by first | exact absurd q.1 g12 | (have := q.2; omega)); exact FA0_s e2 (LV1_p hn) (if_neg hn).symm) | (have q106 : fsM M one = z106 := fsM_eq (by have a := h106; rw [updM_g (by decide), k34] at a; exact a); first | exact FA0_s e2 (LV1_y hp ⟨⟨g12.2, wo.1⟩, Or.inr (oz.mpr h51)⟩) (by rw [if_pos hp]; exact q106.symm) | exact FA0_s e2 (LV1_y hp ⟨⟨g12.2, wo.1⟩, Or.inl (by rw [q62]; omega)⟩) (by rw [if_pos hp]; exact q106.symm) | exact FA0_s e2 (LV1_n (fun q => by rcases q.2 with a | a; (rw [q62] at a; omega); exact h51 (oz.mp a))) (by rw [if_pos hp]; exact q106.symm))) (by omega)
        · have g12 := h12; rw [k35, k39] at g12
          refine aw_if_eq (tgt := 31) dX5_laysFar_15 (by decide) (by decide) (fun _ => ?_) (fun h => absurd (by decide) h)
          refine aw_iconst dX5_laysFar_31 ?_
          refine aw_istore (L2 := [some (rV K 30 0), some (iV (ticket)), some (iV (seats)), some (iV (one)), some (iV 0), none]) dX5_laysFar_32 (by decide) rfl ?_
          refine aw_iload dX5_laysFar_34 rfl ?_
          refine aw_if_eq (tgt := 75) dX5_laysFar_36 (by decide) (by decide) (fun _ => ?_) (fun h => absurd (by decide) h)
          refine aw_iconst dX5_laysFar_75 ?_
          refine aw_istore (L2 := [some (rV K 30 0), some (iV (ticket)), some (iV (seats)), some (iV (one)), some (iV 0), some (iV 0)]) dX5_laysFar_76 (by decide) rfl ?_
          refine aw_aload_n dX5_laysFar_78 rfl rfl ?_
          refine aw_getr (g := 30) rfl rfl ly_X5 rfl (k := 16) dX5_laysFar_79 (by decide) fl_X5_43 rfl ?_
          refine aw_iload_n dX5_laysFar_82 rfl rfl ?_
          refine aw_iload dX5_laysFar_83 rfl ?_
          refine aw_if_eq (tgt := 92) dX5_laysFar_85 (by decide) (by decide) (fun _ => ?_) (fun h => absurd (by decide) h)
          refine aw_iconst dX5_laysFar_92 ?_
          refine aw_iast (g := 42) (n := 101) (M' := updM m1 42 0 one 0) rfl (by decide) dX5_laysFar_93 (by decide) (by show 0 ≤ one ∧ one < (101 : Int); have t1 := bw.1; have t2 := bw.2; omega) (by have t1 := bw.1; have t2 := bw.2; omega) rfl ?_
          refine aw_aload_n dX5_laysFar_94 rfl rfl ?_
          refine aw_getr (g := 30) rfl rfl ly_X5 rfl (k := 18) dX5_laysFar_95 (by decide) fl_X5_49 rfl ?_
          refine aw_iload_n dX5_laysFar_98 rfl rfl ?_
          refine aw_iload dX5_laysFar_99 rfl ?_
          refine aw_if_eq (tgt := 112) dX5_laysFar_101 (by decide) (by decide) (fun _ => ?_) (fun h => absurd (by decide) h)
          refine aw_iconst dX5_laysFar_112 ?_
          refine aw_iast (g := 44) (n := 101) (M' := updM (updM m1 42 0 one 0) 44 0 one (-1)) rfl (by decide) dX5_laysFar_113 (by decide) (by show 0 ≤ one ∧ one < (101 : Int); have t1 := bw.1; have t2 := bw.2; omega) (by have t1 := bw.1; have t2 := bw.2; omega) rfl ?_
          refine aw_iinc (L2 := [some (rV K 30 0), some (iV (ticket)), some (iV (seats)), some (iV (one + 1)), some (iV 0), some (iV 0)]) dX5_laysFar_114 rfl (by decide) rfl ?_
          refine aw_goto (tgt := 2) dX5_laysFar_117 (by decide) ?_
          refine aw_weak (L' := [some (rV K 30 0), some (iV (ticket)), some (iV (seats)), some (iV (one + 1)), none, none]) ⟨Or.inr rfl, Or.inr rfl, Or.inr rfl, Or.inr rfl, Or.inl rfl, Or.inl rfl, trivial⟩ ?_
          exact ih2 (one + 1) (updM (updM m1 42 0 one 0) 44 0 one (-1)) (by have t1 := bw.1; have t2 := bw.2; omega) (by first | (have hn : ¬ ptm M seats one := (fun q => by first | exact absurd q.1 g12 | (have := q.2; omega)); exact FA0_s e2 (LV1_p hn) (if_neg hn).symm) | (have q106 : fsM M one = z106 := fsM_eq (by have a := h106; rw [updM_g (by decide), k34] at a; exact a); first | exact FA0_s e2 (LV1_y hp ⟨⟨g12.2, wo.1⟩, Or.inr (oz.mpr h51)⟩) (by rw [if_pos hp]; exact q106.symm) | exact FA0_s e2 (LV1_y hp ⟨⟨g12.2, wo.1⟩, Or.inl (by rw [q62]; omega)⟩) (by rw [if_pos hp]; exact q106.symm) | exact FA0_s e2 (LV1_n (fun q => by rcases q.2 with a | a; (rw [q62] at a; omega); exact h51 (oz.mp a))) (by rw [if_pos hp]; exact q106.symm))) (by omega)
  exact lp2 (((M 30 0 8 + 1 - 1).toNat) + 1) (1) (M) (by have t1 := bw.1; have t2 := bw.2; omega) (by exact ⟨fun _ _ _ => rfl, fun t t1 t2 => by omega⟩) (Nat.lt_succ_self _)
set_option maxHeartbeats 4000000 in
set_option maxRecDepth 20000 in
theorem c_X5_changes {K : WPar} {l : Launch} (hst : l.stackTraces = false) (M : Mem) (n : Int) (seats : Int) (r_n : inR n) (r_seats : inR seats) (hw : HWm M) (v_n : 1 ≤ n ∧ n ≤ 100) (v_se : 1 ≤ seats ∧ seats ≤ 20) (v_c : ∀ x : Int, 0 ≤ x → x ≤ n - 1 → (1 ≤ M 43 0 x ∧ M 43 0 x ≤ 100) ∧ (0 ≤ M 44 0 (M 43 0 x) ∧ M 44 0 (M 43 0 x) < 240 ∧ M 44 0 (M 43 0 x) % 20 + seats ≤ 20)) (v_l : 0 ≤ M 39 0 (M 43 0 (n - 1)) ∧ M 39 0 (M 43 0 (n - 1)) < M 30 0 3) : CT K l iX5_changes [rV K 30 0, iV (n), iV (seats)] M (rN (chgM M n seats)) := by
  refine aw_met [some (rV K 30 0), some (iV (n)), some (iV (seats)), none, none, none, none, none] hst (by decide) rfl (Nat.le_of_ble_eq_true rfl) rfl rfl (lcat rfl) ?_
  refine aw_rng (fun hM => ?_)
  have cl := v_c (n - 1) (by omega) (by omega); have c0 := v_c 0 (by omega) (by omega); have nl := hw.2.2 _ v_l.1 v_l.2; have n2 := hw.2.1; have ce : 0 ≤ chgE M n seats ∧ chgE M n seats < 240 ∧ chgE M n seats % 20 + seats ≤ 20 := (by have sp := bFst_sp (M 31 0) (oMd M) (M 32 0) seats (M 39 0 (M 43 0 (n - 1))); unfold chgE; rcases isBest_in sp with q | q; (rw [if_neg (by omega)]; omega); (have q2 := q.2.1; rw [if_pos q.1]; omega))
  refine aw_aload_n dX5_changes_0 rfl rfl ?_
  refine aw_getr (g := 30) rfl rfl ly_X5 rfl (k := 17) dX5_changes_1 (by decide) fl_X5_46 rfl ?_
  refine aw_iload_n dX5_changes_4 rfl rfl ?_
  refine aw_iconst dX5_changes_5 ?_
  refine aw_isub dX5_changes_6 ?_
  refine aw_iald (g := 43) (n := 101) rfl (by decide) dX5_changes_7 (by decide) (by show 0 ≤ (n - 1) ∧ (n - 1) < (101 : Int); omega) (fun r7 => ?_)
  refine aw_istore_n (L2 := [some (rV K 30 0), some (iV (n)), some (iV (seats)), some (iV (M 43 0 (n - 1))), none, none, none, none]) dX5_changes_8 rfl (by decide) rfl ?_
  refine aw_aload_n dX5_changes_9 rfl rfl ?_
  refine aw_aload_n dX5_changes_10 rfl rfl ?_
  refine aw_getr (g := 30) rfl rfl ly_X5 rfl (k := 13) dX5_changes_11 (by decide) fl_X5_34 rfl ?_
  refine aw_iload_n dX5_changes_14 rfl rfl ?_
  refine aw_iald (g := 39) (n := 101) rfl (by decide) dX5_changes_15 (by decide) (by show 0 ≤ (M 43 0 (n - 1)) ∧ (M 43 0 (n - 1)) < (101 : Int); omega) (fun r15 => ?_)
  refine aw_iload_n dX5_changes_16 rfl rfl ?_
  refine aw_iconst dX5_changes_17 ?_
  refine aw_cVr (g := 30) (As := [iV (M 39 0 (M 43 0 (n - 1))), iV (seats), iV 0]) (rest := []) (c_X5_firstIn hst M (M 39 0 (M 43 0 (n - 1))) (seats) (0) (by exact hM 39 0 _) (by omega) (by omega) (by omega) (by exact v_l) (by omega)) cv_X5_firstIn dX5_changes_18 ml_X5_95 rfl rfl rfl rfl rfl (Nat.le_of_ble_eq_true rfl) (by decide) rfl rfl (by decide) (fun z18 (h18 : isBest (cB (M 31 0) (oMd M) seats (0 = 0) (M 39 0 (M 43 0 (n - 1)))) (vBR (M 32 0) (M 31 0) seats (M 39 0 (M 43 0 (n - 1)))) z18) => ?_)
  have fz : bFst (M 31 0) (oMd M) (M 32 0) seats (M 39 0 (M 43 0 (n - 1))) = z18 := bFst_eq (isBest_al (Q := True) (by decide) h18); have zb := isBest_in h18
  refine aw_istore (L2 := [some (rV K 30 0), some (iV (n)), some (iV (seats)), some (iV (M 43 0 (n - 1))), some (iV (z18)), none, none, none]) dX5_changes_21 (by decide) rfl ?_
  refine aw_iload dX5_changes_23 rfl ?_
  refine aw_if_ge (tgt := 42) dX5_changes_25 (by decide) (by rcases zb with a | a; omega; (have b := a.2.1; omega)) (fun h25 => ?_) (fun h25 => ?_)
  · refine aw_bipush dX5_changes_42 rfl ?_
    refine aw_aload_n dX5_changes_44 rfl rfl ?_
    refine aw_getr (g := 30) rfl rfl ly_X5 rfl (k := 13) dX5_changes_45 (by decide) fl_X5_34 rfl ?_
    refine aw_iload_n dX5_changes_48 rfl rfl ?_
    refine aw_iald (g := 39) (n := 101) rfl (by decide) dX5_changes_49 (by decide) (by show 0 ≤ (M 43 0 (n - 1)) ∧ (M 43 0 (n - 1)) < (101 : Int); omega) (fun r49 => ?_)
    refine aw_imul dX5_changes_50 ?_
    refine aw_iload dX5_changes_51 rfl ?_
    refine aw_iadd dX5_changes_53 ?_
    refine aw_st (st' := [iV (chgE M n seats)]) (by rw [show ((20 * (M 39 0 (M 43 0 (n - 1)))) + z18 : Int) = chgE M n seats from by unfold chgE; rw [if_pos (by omega), fz]]) ?_
    refine aw_istore (L2 := [some (rV K 30 0), some (iV (n)), some (iV (seats)), some (iV (M 43 0 (n - 1))), some (iV (z18)), some (iV (chgE M n seats)), none, none]) dX5_changes_54 (by decide) rfl ?_
    refine aw_iload dX5_changes_56 rfl ?_
    refine aw_if_lt (tgt := 95) dX5_changes_58 (by decide) (by rcases zb with a | a; omega; (have b := a.2.1; omega)) (fun h58 => ?_) (fun h58 => ?_)
    · refine aw_iconst dX5_changes_95 ?_
      refine aw_istore (L2 := [some (rV K 30 0), some (iV (n)), some (iV (seats)), some (iV (M 43 0 (n - 1))), some (iV (z18)), some (iV (chgE M n seats)), some (iV 0), none]) dX5_changes_96 (by decide) rfl ?_
      have lp98 : ∀ (n98 : Nat) (k : Int), (0 ≤ k ∧ k ≤ n) → ((n - k).toNat) < n98 → AW K l iX5_changes (ZM K iX5_changes (rN (chgM M n seats))) 98 [some (rV K 30 0), some (iV (n)), some (iV (seats)), some (iV (M 43 0 (n - 1))), some (iV (z18)), some (iV (chgE M n seats)), some (iV (k)), none] [] (chgS M (chgA M n seats) n seats (chgE M n seats) (Int.toNat k)) 0 0 := by
        intro n98
        induction n98 with
        | zero =>
          intro k e1 hm98
          exact absurd hm98 (Nat.not_lt_zero _)
        | succ n98 ih98 =>
          intro k e1 hm98
          generalize hMc : chgS M (chgA M n seats) n seats (chgE M n seats) (Int.toNat k) = Mc
          have hc : ∀ g : Nat, g ≠ 34 → g ≠ 39 → Mc g = M g := (fun g g1 g2 => by rw [← hMc, chgS_g g1 g2]; exact chgA_g g1); have c43 : Mc 43 = M 43 := hc 43 (by decide) (by decide); have c44 : Mc 44 = M 44 := hc 44 (by decide) (by decide)
          refine aw_iload dX5_changes_98 rfl ?_
          refine aw_iload_n dX5_changes_100 rfl rfl ?_
          refine aw_icmp_ge (tgt := 174) dX5_changes_101 (by decide) (by omega) (by omega) (fun h101 => ?_) (fun h101 => ?_)
          · exact aw_vret dX5_changes_174 rfl (by decide) (by decide) ⟨rfl, (by have q : k = n := (by omega); rw [← hMc, q]; rfl)⟩
          · refine aw_iload dX5_changes_104 rfl ?_
            refine aw_iload_n dX5_changes_106 rfl rfl ?_
            refine aw_iconst dX5_changes_107 ?_
            refine aw_isub dX5_changes_108 ?_
            refine aw_icmp_ge (tgt := 129) dX5_changes_109 (by decide) (by omega) (by omega) (fun h109 => ?_) (fun h109 => ?_)
            · refine aw_iload dX5_changes_129 rfl ?_
              have ck0 := v_c k (by omega) (by omega)
              refine aw_istore (L2 := [some (rV K 30 0), some (iV (n)), some (iV (seats)), some (iV (M 43 0 (n - 1))), some (iV (z18)), some (iV (chgE M n seats)), some (iV (k)), some (iV (chgE M n seats))]) dX5_changes_131 (by decide) rfl ?_
              refine aw_aload_n dX5_changes_133 rfl rfl ?_
              refine aw_iload dX5_changes_134 rfl ?_
              refine aw_bipush dX5_changes_136 rfl ?_
              refine aw_idiv dX5_changes_138 (by omega) (by omega) ?_
              refine aw_iload dX5_changes_139 rfl ?_
              refine aw_bipush dX5_changes_141 rfl ?_
              refine aw_irem dX5_changes_143 (by omega) (by omega) ?_
              refine aw_iload_n dX5_changes_144 rfl rfl ?_
              refine aw_aload_n dX5_changes_145 rfl rfl ?_
              refine aw_getr (g := 30) rfl rfl ly_X5 rfl (k := 17) dX5_changes_146 (by decide) fl_X5_46 rfl ?_
              refine aw_iload dX5_changes_149 rfl ?_
              refine aw_iald (g := 43) (n := 101) rfl (by decide) dX5_changes_151 (by decide) (by show 0 ≤ k ∧ k < (101 : Int); omega) (fun r151 => ?_)
              refine aw_st (st' := [iV (M 43 0 k), iV (seats), iV ((chgE M n seats) % 20), iV ((chgE M n seats) / 20), rV K 30 0]) (by rw [show (Mc 43 0 k : Int) = M 43 0 k from by rw [c43]]) ?_
              refine aw_cVn (g := 30) (As := [iV ((chgE M n seats) / 20), iV ((chgE M n seats) % 20), iV (seats), iV (M 43 0 k)]) (rest := []) (c_X5_owns hst Mc ((chgE M n seats) / 20) ((chgE M n seats) % 20) (seats) (M 43 0 k) (by omega) (by omega) (by omega) (by omega) (by omega)) cv_X5_owns dX5_changes_152 ml_X5_118 rfl rfl rfl rfl rfl (Nat.le_of_ble_eq_true rfl) (by decide) rfl rfl (by decide) ?_
              refine aw_aload_n dX5_changes_155 rfl rfl ?_
              refine aw_getr (g := 30) rfl rfl ly_X5 rfl (k := 13) dX5_changes_156 (by decide) fl_X5_34 rfl ?_
              refine aw_aload_n dX5_changes_159 rfl rfl ?_
              refine aw_getr (g := 30) rfl rfl ly_X5 rfl (k := 17) dX5_changes_160 (by decide) fl_X5_46 rfl ?_
              refine aw_iload dX5_changes_163 rfl ?_
              refine aw_iald (g := 43) (n := 101) rfl (by decide) dX5_changes_165 (by decide) (by show 0 ≤ k ∧ k < (101 : Int); omega) (fun r165 => ?_)
              refine aw_st (st' := [iV (M 43 0 k), rV K 39 0]) (by rw [show ((ownM Mc ((chgE M n seats) / 20) ((chgE M n seats) % 20) seats (M 43 0 k)) 43 0 k : Int) = M 43 0 k from by rw [ownM_g (by decide), c43]]) ?_
              refine aw_iconst dX5_changes_166 ?_
              refine aw_iast (g := 39) (n := 101) (M' := updM (ownM Mc ((chgE M n seats) / 20) ((chgE M n seats) % 20) seats (M 43 0 k)) 39 0 (M 43 0 k) (-1)) rfl (by decide) dX5_changes_167 (by decide) (by show 0 ≤ (M 43 0 k) ∧ (M 43 0 k) < (101 : Int); omega) (by omega) rfl ?_
              refine aw_iinc (L2 := [some (rV K 30 0), some (iV (n)), some (iV (seats)), some (iV (M 43 0 (n - 1))), some (iV (z18)), some (iV (chgE M n seats)), some (iV (k + 1)), some (iV (chgE M n seats))]) dX5_changes_168 rfl (by decide) rfl ?_
              refine aw_goto (tgt := 98) dX5_changes_171 (by decide) ?_
              refine aw_weak (L' := [some (rV K 30 0), some (iV (n)), some (iV (seats)), some (iV (M 43 0 (n - 1))), some (iV (z18)), some (iV (chgE M n seats)), some (iV (k + 1)), none]) ⟨Or.inr rfl, Or.inr rfl, Or.inr rfl, Or.inr rfl, Or.inr rfl, Or.inr rfl, Or.inr rfl, Or.inl rfl, trivial⟩ ?_
              refine aw_mem (M' := chgS M (chgA M n seats) n seats (chgE M n seats) (Int.toNat (k + 1))) (by rw [chgS_s e1.1, hMc]; unfold chgT; first | (exfalso; omega) | rw [if_pos (by omega)] | rw [if_neg (by omega)]) ?_
              exact ih98 (k + 1) (by omega) (by omega)
            · have ck := v_c (k + 1) (by omega) (by omega)
              refine aw_aload_n dX5_changes_112 rfl rfl ?_
              refine aw_getr (g := 30) rfl rfl ly_X5 rfl (k := 18) dX5_changes_113 (by decide) fl_X5_49 rfl ?_
              refine aw_aload_n dX5_changes_116 rfl rfl ?_
              refine aw_getr (g := 30) rfl rfl ly_X5 rfl (k := 17) dX5_changes_117 (by decide) fl_X5_46 rfl ?_
              refine aw_iload dX5_changes_120 rfl ?_
              refine aw_iconst dX5_changes_122 ?_
              refine aw_iadd dX5_changes_123 ?_
              refine aw_iald (g := 43) (n := 101) rfl (by decide) dX5_changes_124 (by decide) (by show 0 ≤ (k + 1) ∧ (k + 1) < (101 : Int); omega) (fun r124 => ?_)
              refine aw_st (st' := [iV (M 43 0 (k + 1)), rV K 44 0]) (by rw [show (Mc 43 0 (k + 1) : Int) = M 43 0 (k + 1) from by rw [c43]]) ?_
              refine aw_iald (g := 44) (n := 101) rfl (by decide) dX5_changes_125 (by decide) (by show 0 ≤ (M 43 0 (k + 1)) ∧ (M 43 0 (k + 1)) < (101 : Int); omega) (fun r125 => ?_)
              refine aw_st (st' := [iV (M 44 0 (M 43 0 (k + 1)))]) (by rw [show (Mc 44 0 (M 43 0 (k + 1)) : Int) = M 44 0 (M 43 0 (k + 1)) from by rw [c44]]) ?_
              refine aw_goto (tgt := 131) dX5_changes_126 (by decide) ?_
              have ck0 := v_c k (by omega) (by omega)
              refine aw_istore (L2 := [some (rV K 30 0), some (iV (n)), some (iV (seats)), some (iV (M 43 0 (n - 1))), some (iV (z18)), some (iV (chgE M n seats)), some (iV (k)), some (iV (M 44 0 (M 43 0 (k + 1))))]) dX5_changes_131 (by decide) rfl ?_
              refine aw_aload_n dX5_changes_133 rfl rfl ?_
              refine aw_iload dX5_changes_134 rfl ?_
              refine aw_bipush dX5_changes_136 rfl ?_
              refine aw_idiv dX5_changes_138 (by omega) (by omega) ?_
              refine aw_iload dX5_changes_139 rfl ?_
              refine aw_bipush dX5_changes_141 rfl ?_
              refine aw_irem dX5_changes_143 (by omega) (by omega) ?_
              refine aw_iload_n dX5_changes_144 rfl rfl ?_
              refine aw_aload_n dX5_changes_145 rfl rfl ?_
              refine aw_getr (g := 30) rfl rfl ly_X5 rfl (k := 17) dX5_changes_146 (by decide) fl_X5_46 rfl ?_
              refine aw_iload dX5_changes_149 rfl ?_
              refine aw_iald (g := 43) (n := 101) rfl (by decide) dX5_changes_151 (by decide) (by show 0 ≤ k ∧ k < (101 : Int); omega) (fun r151 => ?_)
              refine aw_st (st' := [iV (M 43 0 k), iV (seats), iV ((M 44 0 (M 43 0 (k + 1))) % 20), iV ((M 44 0 (M 43 0 (k + 1))) / 20), rV K 30 0]) (by rw [show (Mc 43 0 k : Int) = M 43 0 k from by rw [c43]]) ?_
              refine aw_cVn (g := 30) (As := [iV ((M 44 0 (M 43 0 (k + 1))) / 20), iV ((M 44 0 (M 43 0 (k + 1))) % 20), iV (seats), iV (M 43 0 k)]) (rest := []) (c_X5_owns hst Mc ((M 44 0 (M 43 0 (k + 1))) / 20) ((M 44 0 (M 43 0 (k + 1))) % 20) (seats) (M 43 0 k) (by omega) (by omega) (by omega) (by omega) (by omega)) cv_X5_owns dX5_changes_152 ml_X5_118 rfl rfl rfl rfl rfl (Nat.le_of_ble_eq_true rfl) (by decide) rfl rfl (by decide) ?_
              refine aw_aload_n dX5_changes_155 rfl rfl ?_
              refine aw_getr (g := 30) rfl rfl ly_X5 rfl (k := 13) dX5_changes_156 (by decide) fl_X5_34 rfl ?_
              refine aw_aload_n dX5_changes_159 rfl rfl ?_
              refine aw_getr (g := 30) rfl rfl ly_X5 rfl (k := 17) dX5_changes_160 (by decide) fl_X5_46 rfl ?_
              refine aw_iload dX5_changes_163 rfl ?_
              refine aw_iald (g := 43) (n := 101) rfl (by decide) dX5_changes_165 (by decide) (by show 0 ≤ k ∧ k < (101 : Int); omega) (fun r165 => ?_)
              refine aw_st (st' := [iV (M 43 0 k), rV K 39 0]) (by rw [show ((ownM Mc ((M 44 0 (M 43 0 (k + 1))) / 20) ((M 44 0 (M 43 0 (k + 1))) % 20) seats (M 43 0 k)) 43 0 k : Int) = M 43 0 k from by rw [ownM_g (by decide), c43]]) ?_
              refine aw_iconst dX5_changes_166 ?_
              refine aw_iast (g := 39) (n := 101) (M' := updM (ownM Mc ((M 44 0 (M 43 0 (k + 1))) / 20) ((M 44 0 (M 43 0 (k + 1))) % 20) seats (M 43 0 k)) 39 0 (M 43 0 k) (-1)) rfl (by decide) dX5_changes_167 (by decide) (by show 0 ≤ (M 43 0 k) ∧ (M 43 0 k) < (101 : Int); omega) (by omega) rfl ?_
              refine aw_iinc (L2 := [some (rV K 30 0), some (iV (n)), some (iV (seats)), some (iV (M 43 0 (n - 1))), some (iV (z18)), some (iV (chgE M n seats)), some (iV (k + 1)), some (iV (M 44 0 (M 43 0 (k + 1))))]) dX5_changes_168 rfl (by decide) rfl ?_
              refine aw_goto (tgt := 98) dX5_changes_171 (by decide) ?_
              refine aw_weak (L' := [some (rV K 30 0), some (iV (n)), some (iV (seats)), some (iV (M 43 0 (n - 1))), some (iV (z18)), some (iV (chgE M n seats)), some (iV (k + 1)), none]) ⟨Or.inr rfl, Or.inr rfl, Or.inr rfl, Or.inr rfl, Or.inr rfl, Or.inr rfl, Or.inr rfl, Or.inl rfl, trivial⟩ ?_
              refine aw_mem (M' := chgS M (chgA M n seats) n seats (chgE M n seats) (Int.toNat (k + 1))) (by rw [chgS_s e1.1, hMc]; unfold chgT; first | (exfalso; omega) | rw [if_pos (by omega)] | rw [if_neg (by omega)]) ?_
              exact ih98 (k + 1) (by omega) (by omega)
      refine aw_mem (M' := chgS M (chgA M n seats) n seats (chgE M n seats) (Int.toNat 0)) (by first | (exfalso; omega) | (show _ = chgA M n seats; unfold chgA; rw [if_neg (by omega)]) | (show _ = chgA M n seats; unfold chgA; rw [if_pos (by omega)])) ?_
      exact lp98 (((n - 0).toNat) + 1) (0) (by omega) (Nat.lt_succ_self _)
    · refine aw_aload_n dX5_changes_61 rfl rfl ?_
      refine aw_aload_n dX5_changes_62 rfl rfl ?_
      refine aw_getr (g := 30) rfl rfl ly_X5 rfl (k := 18) dX5_changes_63 (by decide) fl_X5_49 rfl ?_
      refine aw_aload_n dX5_changes_66 rfl rfl ?_
      refine aw_getr (g := 30) rfl rfl ly_X5 rfl (k := 17) dX5_changes_67 (by decide) fl_X5_46 rfl ?_
      refine aw_iconst dX5_changes_70 ?_
      refine aw_iald (g := 43) (n := 101) rfl (by decide) dX5_changes_71 (by decide) (by show 0 ≤ 0 ∧ 0 < (101 : Int); omega) (fun r71 => ?_)
      refine aw_iald (g := 44) (n := 101) rfl (by decide) dX5_changes_72 (by decide) (by show 0 ≤ (M 43 0 0) ∧ (M 43 0 0) < (101 : Int); omega) (fun r72 => ?_)
      refine aw_bipush dX5_changes_73 rfl ?_
      refine aw_idiv dX5_changes_75 (by omega) (by omega) ?_
      refine aw_aload_n dX5_changes_76 rfl rfl ?_
      refine aw_getr (g := 30) rfl rfl ly_X5 rfl (k := 18) dX5_changes_77 (by decide) fl_X5_49 rfl ?_
      refine aw_aload_n dX5_changes_80 rfl rfl ?_
      refine aw_getr (g := 30) rfl rfl ly_X5 rfl (k := 17) dX5_changes_81 (by decide) fl_X5_46 rfl ?_
      refine aw_iconst dX5_changes_84 ?_
      refine aw_iald (g := 43) (n := 101) rfl (by decide) dX5_changes_85 (by decide) (by show 0 ≤ 0 ∧ 0 < (101 : Int); omega) (fun r85 => ?_)
      refine aw_iald (g := 44) (n := 101) rfl (by decide) dX5_changes_86 (by decide) (by show 0 ≤ (M 43 0 0) ∧ (M 43 0 0) < (101 : Int); omega) (fun r86 => ?_)
      refine aw_bipush dX5_changes_87 rfl ?_
      refine aw_irem dX5_changes_89 (by omega) (by omega) ?_
      refine aw_iload_n dX5_changes_90 rfl rfl ?_
      refine aw_iconst dX5_changes_91 ?_
      refine aw_cVn (g := 30) (As := [iV ((M 44 0 (M 43 0 0)) / 20), iV ((M 44 0 (M 43 0 0)) % 20), iV (seats), iV 0]) (rest := []) (c_X5_owns hst M ((M 44 0 (M 43 0 0)) / 20) ((M 44 0 (M 43 0 0)) % 20) (seats) (0) (by omega) (by omega) (by omega) (by omega) (by omega)) cv_X5_owns dX5_changes_92 ml_X5_118 rfl rfl rfl rfl rfl (Nat.le_of_ble_eq_true rfl) (by decide) rfl rfl (by decide) ?_
      refine aw_iconst dX5_changes_95 ?_
      refine aw_istore (L2 := [some (rV K 30 0), some (iV (n)), some (iV (seats)), some (iV (M 43 0 (n - 1))), some (iV (z18)), some (iV (chgE M n seats)), some (iV 0), none]) dX5_changes_96 (by decide) rfl ?_
      have lp98 : ∀ (n98 : Nat) (k : Int), (0 ≤ k ∧ k ≤ n) → ((n - k).toNat) < n98 → AW K l iX5_changes (ZM K iX5_changes (rN (chgM M n seats))) 98 [some (rV K 30 0), some (iV (n)), some (iV (seats)), some (iV (M 43 0 (n - 1))), some (iV (z18)), some (iV (chgE M n seats)), some (iV (k)), none] [] (chgS M (chgA M n seats) n seats (chgE M n seats) (Int.toNat k)) 0 0 := by
        intro n98
        induction n98 with
        | zero =>
          intro k e1 hm98
          exact absurd hm98 (Nat.not_lt_zero _)
        | succ n98 ih98 =>
          intro k e1 hm98
          generalize hMc : chgS M (chgA M n seats) n seats (chgE M n seats) (Int.toNat k) = Mc
          have hc : ∀ g : Nat, g ≠ 34 → g ≠ 39 → Mc g = M g := (fun g g1 g2 => by rw [← hMc, chgS_g g1 g2]; exact chgA_g g1); have c43 : Mc 43 = M 43 := hc 43 (by decide) (by decide); have c44 : Mc 44 = M 44 := hc 44 (by decide) (by decide)
          refine aw_iload dX5_changes_98 rfl ?_
          refine aw_iload_n dX5_changes_100 rfl rfl ?_
          refine aw_icmp_ge (tgt := 174) dX5_changes_101 (by decide) (by omega) (by omega) (fun h101 => ?_) (fun h101 => ?_)
          · exact aw_vret dX5_changes_174 rfl (by decide) (by decide) ⟨rfl, (by have q : k = n := (by omega); rw [← hMc, q]; rfl)⟩
          · refine aw_iload dX5_changes_104 rfl ?_
            refine aw_iload_n dX5_changes_106 rfl rfl ?_
            refine aw_iconst dX5_changes_107 ?_
            refine aw_isub dX5_changes_108 ?_
            refine aw_icmp_ge (tgt := 129) dX5_changes_109 (by decide) (by omega) (by omega) (fun h109 => ?_) (fun h109 => ?_)
            · refine aw_iload dX5_changes_129 rfl ?_
              have ck0 := v_c k (by omega) (by omega)
              refine aw_istore (L2 := [some (rV K 30 0), some (iV (n)), some (iV (seats)), some (iV (M 43 0 (n - 1))), some (iV (z18)), some (iV (chgE M n seats)), some (iV (k)), some (iV (chgE M n seats))]) dX5_changes_131 (by decide) rfl ?_
              refine aw_aload_n dX5_changes_133 rfl rfl ?_
              refine aw_iload dX5_changes_134 rfl ?_
              refine aw_bipush dX5_changes_136 rfl ?_
              refine aw_idiv dX5_changes_138 (by omega) (by omega) ?_
              refine aw_iload dX5_changes_139 rfl ?_
              refine aw_bipush dX5_changes_141 rfl ?_
              refine aw_irem dX5_changes_143 (by omega) (by omega) ?_
              refine aw_iload_n dX5_changes_144 rfl rfl ?_
              refine aw_aload_n dX5_changes_145 rfl rfl ?_
              refine aw_getr (g := 30) rfl rfl ly_X5 rfl (k := 17) dX5_changes_146 (by decide) fl_X5_46 rfl ?_
              refine aw_iload dX5_changes_149 rfl ?_
              refine aw_iald (g := 43) (n := 101) rfl (by decide) dX5_changes_151 (by decide) (by show 0 ≤ k ∧ k < (101 : Int); omega) (fun r151 => ?_)
              refine aw_st (st' := [iV (M 43 0 k), iV (seats), iV ((chgE M n seats) % 20), iV ((chgE M n seats) / 20), rV K 30 0]) (by rw [show (Mc 43 0 k : Int) = M 43 0 k from by rw [c43]]) ?_
              refine aw_cVn (g := 30) (As := [iV ((chgE M n seats) / 20), iV ((chgE M n seats) % 20), iV (seats), iV (M 43 0 k)]) (rest := []) (c_X5_owns hst Mc ((chgE M n seats) / 20) ((chgE M n seats) % 20) (seats) (M 43 0 k) (by omega) (by omega) (by omega) (by omega) (by omega)) cv_X5_owns dX5_changes_152 ml_X5_118 rfl rfl rfl rfl rfl (Nat.le_of_ble_eq_true rfl) (by decide) rfl rfl (by decide) ?_
              refine aw_aload_n dX5_changes_155 rfl rfl ?_
              refine aw_getr (g := 30) rfl rfl ly_X5 rfl (k := 13) dX5_changes_156 (by decide) fl_X5_34 rfl ?_
              refine aw_aload_n dX5_changes_159 rfl rfl ?_
              refine aw_getr (g := 30) rfl rfl ly_X5 rfl (k := 17) dX5_changes_160 (by decide) fl_X5_46 rfl ?_
              refine aw_iload dX5_changes_163 rfl ?_
              refine aw_iald (g := 43) (n := 101) rfl (by decide) dX5_changes_165 (by decide) (by show 0 ≤ k ∧ k < (101 : Int); omega) (fun r165 => ?_)
              refine aw_st (st' := [iV (M 43 0 k), rV K 39 0]) (by rw [show ((ownM Mc ((chgE M n seats) / 20) ((chgE M n seats) % 20) seats (M 43 0 k)) 43 0 k : Int) = M 43 0 k from by rw [ownM_g (by decide), c43]]) ?_
              refine aw_iconst dX5_changes_166 ?_
              refine aw_iast (g := 39) (n := 101) (M' := updM (ownM Mc ((chgE M n seats) / 20) ((chgE M n seats) % 20) seats (M 43 0 k)) 39 0 (M 43 0 k) (-1)) rfl (by decide) dX5_changes_167 (by decide) (by show 0 ≤ (M 43 0 k) ∧ (M 43 0 k) < (101 : Int); omega) (by omega) rfl ?_
              refine aw_iinc (L2 := [some (rV K 30 0), some (iV (n)), some (iV (seats)), some (iV (M 43 0 (n - 1))), some (iV (z18)), some (iV (chgE M n seats)), some (iV (k + 1)), some (iV (chgE M n seats))]) dX5_changes_168 rfl (by decide) rfl ?_
              refine aw_goto (tgt := 98) dX5_changes_171 (by decide) ?_
              refine aw_weak (L' := [some (rV K 30 0), some (iV (n)), some (iV (seats)), some (iV (M 43 0 (n - 1))), some (iV (z18)), some (iV (chgE M n seats)), some (iV (k + 1)), none]) ⟨Or.inr rfl, Or.inr rfl, Or.inr rfl, Or.inr rfl, Or.inr rfl, Or.inr rfl, Or.inr rfl, Or.inl rfl, trivial⟩ ?_
              refine aw_mem (M' := chgS M (chgA M n seats) n seats (chgE M n seats) (Int.toNat (k + 1))) (by rw [chgS_s e1.1, hMc]; unfold chgT; first | (exfalso; omega) | rw [if_pos (by omega)] | rw [if_neg (by omega)]) ?_
              exact ih98 (k + 1) (by omega) (by omega)
            · have ck := v_c (k + 1) (by omega) (by omega)
              refine aw_aload_n dX5_changes_112 rfl rfl ?_
              refine aw_getr (g := 30) rfl rfl ly_X5 rfl (k := 18) dX5_changes_113 (by decide) fl_X5_49 rfl ?_
              refine aw_aload_n dX5_changes_116 rfl rfl ?_
              refine aw_getr (g := 30) rfl rfl ly_X5 rfl (k := 17) dX5_changes_117 (by decide) fl_X5_46 rfl ?_
              refine aw_iload dX5_changes_120 rfl ?_
              refine aw_iconst dX5_changes_122 ?_
              refine aw_iadd dX5_changes_123 ?_
              refine aw_iald (g := 43) (n := 101) rfl (by decide) dX5_changes_124 (by decide) (by show 0 ≤ (k + 1) ∧ (k + 1) < (101 : Int); omega) (fun r124 => ?_)
              refine aw_st (st' := [iV (M 43 0 (k + 1)), rV K 44 0]) (by rw [show (Mc 43 0 (k + 1) : Int) = M 43 0 (k + 1) from by rw [c43]]) ?_
              refine aw_iald (g := 44) (n := 101) rfl (by decide) dX5_changes_125 (by decide) (by show 0 ≤ (M 43 0 (k + 1)) ∧ (M 43 0 (k + 1)) < (101 : Int); omega) (fun r125 => ?_)
              refine aw_st (st' := [iV (M 44 0 (M 43 0 (k + 1)))]) (by rw [show (Mc 44 0 (M 43 0 (k + 1)) : Int) = M 44 0 (M 43 0 (k + 1)) from by rw [c44]]) ?_
              refine aw_goto (tgt := 131) dX5_changes_126 (by decide) ?_
              have ck0 := v_c k (by omega) (by omega)
              refine aw_istore (L2 := [some (rV K 30 0), some (iV (n)), some (iV (seats)), some (iV (M 43 0 (n - 1))), some (iV (z18)), some (iV (chgE M n seats)), some (iV (k)), some (iV (M 44 0 (M 43 0 (k + 1))))]) dX5_changes_131 (by decide) rfl ?_
              refine aw_aload_n dX5_changes_133 rfl rfl ?_
              refine aw_iload dX5_changes_134 rfl ?_
              refine aw_bipush dX5_changes_136 rfl ?_
              refine aw_idiv dX5_changes_138 (by omega) (by omega) ?_
              refine aw_iload dX5_changes_139 rfl ?_
              refine aw_bipush dX5_changes_141 rfl ?_
              refine aw_irem dX5_changes_143 (by omega) (by omega) ?_
              refine aw_iload_n dX5_changes_144 rfl rfl ?_
              refine aw_aload_n dX5_changes_145 rfl rfl ?_
              refine aw_getr (g := 30) rfl rfl ly_X5 rfl (k := 17) dX5_changes_146 (by decide) fl_X5_46 rfl ?_
              refine aw_iload dX5_changes_149 rfl ?_
              refine aw_iald (g := 43) (n := 101) rfl (by decide) dX5_changes_151 (by decide) (by show 0 ≤ k ∧ k < (101 : Int); omega) (fun r151 => ?_)
              refine aw_st (st' := [iV (M 43 0 k), iV (seats), iV ((M 44 0 (M 43 0 (k + 1))) % 20), iV ((M 44 0 (M 43 0 (k + 1))) / 20), rV K 30 0]) (by rw [show (Mc 43 0 k : Int) = M 43 0 k from by rw [c43]]) ?_
              refine aw_cVn (g := 30) (As := [iV ((M 44 0 (M 43 0 (k + 1))) / 20), iV ((M 44 0 (M 43 0 (k + 1))) % 20), iV (seats), iV (M 43 0 k)]) (rest := []) (c_X5_owns hst Mc ((M 44 0 (M 43 0 (k + 1))) / 20) ((M 44 0 (M 43 0 (k + 1))) % 20) (seats) (M 43 0 k) (by omega) (by omega) (by omega) (by omega) (by omega)) cv_X5_owns dX5_changes_152 ml_X5_118 rfl rfl rfl rfl rfl (Nat.le_of_ble_eq_true rfl) (by decide) rfl rfl (by decide) ?_
              refine aw_aload_n dX5_changes_155 rfl rfl ?_
              refine aw_getr (g := 30) rfl rfl ly_X5 rfl (k := 13) dX5_changes_156 (by decide) fl_X5_34 rfl ?_
              refine aw_aload_n dX5_changes_159 rfl rfl ?_
              refine aw_getr (g := 30) rfl rfl ly_X5 rfl (k := 17) dX5_changes_160 (by decide) fl_X5_46 rfl ?_
              refine aw_iload dX5_changes_163 rfl ?_
              refine aw_iald (g := 43) (n := 101) rfl (by decide) dX5_changes_165 (by decide) (by show 0 ≤ k ∧ k < (101 : Int); omega) (fun r165 => ?_)
              refine aw_st (st' := [iV (M 43 0 k), rV K 39 0]) (by rw [show ((ownM Mc ((M 44 0 (M 43 0 (k + 1))) / 20) ((M 44 0 (M 43 0 (k + 1))) % 20) seats (M 43 0 k)) 43 0 k : Int) = M 43 0 k from by rw [ownM_g (by decide), c43]]) ?_
              refine aw_iconst dX5_changes_166 ?_
              refine aw_iast (g := 39) (n := 101) (M' := updM (ownM Mc ((M 44 0 (M 43 0 (k + 1))) / 20) ((M 44 0 (M 43 0 (k + 1))) % 20) seats (M 43 0 k)) 39 0 (M 43 0 k) (-1)) rfl (by decide) dX5_changes_167 (by decide) (by show 0 ≤ (M 43 0 k) ∧ (M 43 0 k) < (101 : Int); omega) (by omega) rfl ?_
              refine aw_iinc (L2 := [some (rV K 30 0), some (iV (n)), some (iV (seats)), some (iV (M 43 0 (n - 1))), some (iV (z18)), some (iV (chgE M n seats)), some (iV (k + 1)), some (iV (M 44 0 (M 43 0 (k + 1))))]) dX5_changes_168 rfl (by decide) rfl ?_
              refine aw_goto (tgt := 98) dX5_changes_171 (by decide) ?_
              refine aw_weak (L' := [some (rV K 30 0), some (iV (n)), some (iV (seats)), some (iV (M 43 0 (n - 1))), some (iV (z18)), some (iV (chgE M n seats)), some (iV (k + 1)), none]) ⟨Or.inr rfl, Or.inr rfl, Or.inr rfl, Or.inr rfl, Or.inr rfl, Or.inr rfl, Or.inr rfl, Or.inl rfl, trivial⟩ ?_
              refine aw_mem (M' := chgS M (chgA M n seats) n seats (chgE M n seats) (Int.toNat (k + 1))) (by rw [chgS_s e1.1, hMc]; unfold chgT; first | (exfalso; omega) | rw [if_pos (by omega)] | rw [if_neg (by omega)]) ?_
              exact ih98 (k + 1) (by omega) (by omega)
      refine aw_mem (M' := chgS M (chgA M n seats) n seats (chgE M n seats) (Int.toNat 0)) (by first | (exfalso; omega) | (show _ = chgA M n seats; unfold chgA; rw [if_neg (by omega)]) | (show _ = chgA M n seats; unfold chgA; rw [if_pos (by omega)])) ?_
      exact lp98 (((n - 0).toNat) + 1) (0) (by omega) (Nat.lt_succ_self _)
  · refine aw_aload_n dX5_changes_28 rfl rfl ?_
    refine aw_getr (g := 30) rfl rfl ly_X5 rfl (k := 18) dX5_changes_29 (by decide) fl_X5_49 rfl ?_
    refine aw_aload_n dX5_changes_32 rfl rfl ?_
    refine aw_getr (g := 30) rfl rfl ly_X5 rfl (k := 17) dX5_changes_33 (by decide) fl_X5_46 rfl ?_
    refine aw_iconst dX5_changes_36 ?_
    refine aw_iald (g := 43) (n := 101) rfl (by decide) dX5_changes_37 (by decide) (by show 0 ≤ 0 ∧ 0 < (101 : Int); omega) (fun r37 => ?_)
    refine aw_iald (g := 44) (n := 101) rfl (by decide) dX5_changes_38 (by decide) (by show 0 ≤ (M 43 0 0) ∧ (M 43 0 0) < (101 : Int); omega) (fun r38 => ?_)
    refine aw_st (st' := [iV (chgE M n seats)]) (by rw [show (M 44 0 (M 43 0 0) : Int) = chgE M n seats from by unfold chgE; rw [if_neg (by omega)]]) ?_
    refine aw_goto (tgt := 54) dX5_changes_39 (by decide) ?_
    refine aw_istore (L2 := [some (rV K 30 0), some (iV (n)), some (iV (seats)), some (iV (M 43 0 (n - 1))), some (iV (z18)), some (iV (chgE M n seats)), none, none]) dX5_changes_54 (by decide) rfl ?_
    refine aw_iload dX5_changes_56 rfl ?_
    refine aw_if_lt (tgt := 95) dX5_changes_58 (by decide) (by rcases zb with a | a; omega; (have b := a.2.1; omega)) (fun h58 => ?_) (fun h58 => ?_)
    · refine aw_iconst dX5_changes_95 ?_
      refine aw_istore (L2 := [some (rV K 30 0), some (iV (n)), some (iV (seats)), some (iV (M 43 0 (n - 1))), some (iV (z18)), some (iV (chgE M n seats)), some (iV 0), none]) dX5_changes_96 (by decide) rfl ?_
      have lp98 : ∀ (n98 : Nat) (k : Int), (0 ≤ k ∧ k ≤ n) → ((n - k).toNat) < n98 → AW K l iX5_changes (ZM K iX5_changes (rN (chgM M n seats))) 98 [some (rV K 30 0), some (iV (n)), some (iV (seats)), some (iV (M 43 0 (n - 1))), some (iV (z18)), some (iV (chgE M n seats)), some (iV (k)), none] [] (chgS M (chgA M n seats) n seats (chgE M n seats) (Int.toNat k)) 0 0 := by
        intro n98
        induction n98 with
        | zero =>
          intro k e1 hm98
          exact absurd hm98 (Nat.not_lt_zero _)
        | succ n98 ih98 =>
          intro k e1 hm98
          generalize hMc : chgS M (chgA M n seats) n seats (chgE M n seats) (Int.toNat k) = Mc
          have hc : ∀ g : Nat, g ≠ 34 → g ≠ 39 → Mc g = M g := (fun g g1 g2 => by rw [← hMc, chgS_g g1 g2]; exact chgA_g g1); have c43 : Mc 43 = M 43 := hc 43 (by decide) (by decide); have c44 : Mc 44 = M 44 := hc 44 (by decide) (by decide)
          refine aw_iload dX5_changes_98 rfl ?_
          refine aw_iload_n dX5_changes_100 rfl rfl ?_
          refine aw_icmp_ge (tgt := 174) dX5_changes_101 (by decide) (by omega) (by omega) (fun h101 => ?_) (fun h101 => ?_)
          · exact aw_vret dX5_changes_174 rfl (by decide) (by decide) ⟨rfl, (by have q : k = n := (by omega); rw [← hMc, q]; rfl)⟩
          · refine aw_iload dX5_changes_104 rfl ?_
            refine aw_iload_n dX5_changes_106 rfl rfl ?_
            refine aw_iconst dX5_changes_107 ?_
            refine aw_isub dX5_changes_108 ?_
            refine aw_icmp_ge (tgt := 129) dX5_changes_109 (by decide) (by omega) (by omega) (fun h109 => ?_) (fun h109 => ?_)
            · refine aw_iload dX5_changes_129 rfl ?_
              have ck0 := v_c k (by omega) (by omega)
              refine aw_istore (L2 := [some (rV K 30 0), some (iV (n)), some (iV (seats)), some (iV (M 43 0 (n - 1))), some (iV (z18)), some (iV (chgE M n seats)), some (iV (k)), some (iV (chgE M n seats))]) dX5_changes_131 (by decide) rfl ?_
              refine aw_aload_n dX5_changes_133 rfl rfl ?_
              refine aw_iload dX5_changes_134 rfl ?_
              refine aw_bipush dX5_changes_136 rfl ?_
              refine aw_idiv dX5_changes_138 (by omega) (by omega) ?_
              refine aw_iload dX5_changes_139 rfl ?_
              refine aw_bipush dX5_changes_141 rfl ?_
              refine aw_irem dX5_changes_143 (by omega) (by omega) ?_
              refine aw_iload_n dX5_changes_144 rfl rfl ?_
              refine aw_aload_n dX5_changes_145 rfl rfl ?_
              refine aw_getr (g := 30) rfl rfl ly_X5 rfl (k := 17) dX5_changes_146 (by decide) fl_X5_46 rfl ?_
              refine aw_iload dX5_changes_149 rfl ?_
              refine aw_iald (g := 43) (n := 101) rfl (by decide) dX5_changes_151 (by decide) (by show 0 ≤ k ∧ k < (101 : Int); omega) (fun r151 => ?_)
              refine aw_st (st' := [iV (M 43 0 k), iV (seats), iV ((chgE M n seats) % 20), iV ((chgE M n seats) / 20), rV K 30 0]) (by rw [show (Mc 43 0 k : Int) = M 43 0 k from by rw [c43]]) ?_
              refine aw_cVn (g := 30) (As := [iV ((chgE M n seats) / 20), iV ((chgE M n seats) % 20), iV (seats), iV (M 43 0 k)]) (rest := []) (c_X5_owns hst Mc ((chgE M n seats) / 20) ((chgE M n seats) % 20) (seats) (M 43 0 k) (by omega) (by omega) (by omega) (by omega) (by omega)) cv_X5_owns dX5_changes_152 ml_X5_118 rfl rfl rfl rfl rfl (Nat.le_of_ble_eq_true rfl) (by decide) rfl rfl (by decide) ?_
              refine aw_aload_n dX5_changes_155 rfl rfl ?_
              refine aw_getr (g := 30) rfl rfl ly_X5 rfl (k := 13) dX5_changes_156 (by decide) fl_X5_34 rfl ?_
              refine aw_aload_n dX5_changes_159 rfl rfl ?_
              refine aw_getr (g := 30) rfl rfl ly_X5 rfl (k := 17) dX5_changes_160 (by decide) fl_X5_46 rfl ?_
              refine aw_iload dX5_changes_163 rfl ?_
              refine aw_iald (g := 43) (n := 101) rfl (by decide) dX5_changes_165 (by decide) (by show 0 ≤ k ∧ k < (101 : Int); omega) (fun r165 => ?_)
              refine aw_st (st' := [iV (M 43 0 k), rV K 39 0]) (by rw [show ((ownM Mc ((chgE M n seats) / 20) ((chgE M n seats) % 20) seats (M 43 0 k)) 43 0 k : Int) = M 43 0 k from by rw [ownM_g (by decide), c43]]) ?_
              refine aw_iconst dX5_changes_166 ?_
              refine aw_iast (g := 39) (n := 101) (M' := updM (ownM Mc ((chgE M n seats) / 20) ((chgE M n seats) % 20) seats (M 43 0 k)) 39 0 (M 43 0 k) (-1)) rfl (by decide) dX5_changes_167 (by decide) (by show 0 ≤ (M 43 0 k) ∧ (M 43 0 k) < (101 : Int); omega) (by omega) rfl ?_
              refine aw_iinc (L2 := [some (rV K 30 0), some (iV (n)), some (iV (seats)), some (iV (M 43 0 (n - 1))), some (iV (z18)), some (iV (chgE M n seats)), some (iV (k + 1)), some (iV (chgE M n seats))]) dX5_changes_168 rfl (by decide) rfl ?_
              refine aw_goto (tgt := 98) dX5_changes_171 (by decide) ?_
              refine aw_weak (L' := [some (rV K 30 0), some (iV (n)), some (iV (seats)), some (iV (M 43 0 (n - 1))), some (iV (z18)), some (iV (chgE M n seats)), some (iV (k + 1)), none]) ⟨Or.inr rfl, Or.inr rfl, Or.inr rfl, Or.inr rfl, Or.inr rfl, Or.inr rfl, Or.inr rfl, Or.inl rfl, trivial⟩ ?_
              refine aw_mem (M' := chgS M (chgA M n seats) n seats (chgE M n seats) (Int.toNat (k + 1))) (by rw [chgS_s e1.1, hMc]; unfold chgT; first | (exfalso; omega) | rw [if_pos (by omega)] | rw [if_neg (by omega)]) ?_
              exact ih98 (k + 1) (by omega) (by omega)
            · have ck := v_c (k + 1) (by omega) (by omega)
              refine aw_aload_n dX5_changes_112 rfl rfl ?_
              refine aw_getr (g := 30) rfl rfl ly_X5 rfl (k := 18) dX5_changes_113 (by decide) fl_X5_49 rfl ?_
              refine aw_aload_n dX5_changes_116 rfl rfl ?_
              refine aw_getr (g := 30) rfl rfl ly_X5 rfl (k := 17) dX5_changes_117 (by decide) fl_X5_46 rfl ?_
              refine aw_iload dX5_changes_120 rfl ?_
              refine aw_iconst dX5_changes_122 ?_
              refine aw_iadd dX5_changes_123 ?_
              refine aw_iald (g := 43) (n := 101) rfl (by decide) dX5_changes_124 (by decide) (by show 0 ≤ (k + 1) ∧ (k + 1) < (101 : Int); omega) (fun r124 => ?_)
              refine aw_st (st' := [iV (M 43 0 (k + 1)), rV K 44 0]) (by rw [show (Mc 43 0 (k + 1) : Int) = M 43 0 (k + 1) from by rw [c43]]) ?_
              refine aw_iald (g := 44) (n := 101) rfl (by decide) dX5_changes_125 (by decide) (by show 0 ≤ (M 43 0 (k + 1)) ∧ (M 43 0 (k + 1)) < (101 : Int); omega) (fun r125 => ?_)
              refine aw_st (st' := [iV (M 44 0 (M 43 0 (k + 1)))]) (by rw [show (Mc 44 0 (M 43 0 (k + 1)) : Int) = M 44 0 (M 43 0 (k + 1)) from by rw [c44]]) ?_
              refine aw_goto (tgt := 131) dX5_changes_126 (by decide) ?_
              have ck0 := v_c k (by omega) (by omega)
              refine aw_istore (L2 := [some (rV K 30 0), some (iV (n)), some (iV (seats)), some (iV (M 43 0 (n - 1))), some (iV (z18)), some (iV (chgE M n seats)), some (iV (k)), some (iV (M 44 0 (M 43 0 (k + 1))))]) dX5_changes_131 (by decide) rfl ?_
              refine aw_aload_n dX5_changes_133 rfl rfl ?_
              refine aw_iload dX5_changes_134 rfl ?_
              refine aw_bipush dX5_changes_136 rfl ?_
              refine aw_idiv dX5_changes_138 (by omega) (by omega) ?_
              refine aw_iload dX5_changes_139 rfl ?_
              refine aw_bipush dX5_changes_141 rfl ?_
              refine aw_irem dX5_changes_143 (by omega) (by omega) ?_
              refine aw_iload_n dX5_changes_144 rfl rfl ?_
              refine aw_aload_n dX5_changes_145 rfl rfl ?_
              refine aw_getr (g := 30) rfl rfl ly_X5 rfl (k := 17) dX5_changes_146 (by decide) fl_X5_46 rfl ?_
              refine aw_iload dX5_changes_149 rfl ?_
              refine aw_iald (g := 43) (n := 101) rfl (by decide) dX5_changes_151 (by decide) (by show 0 ≤ k ∧ k < (101 : Int); omega) (fun r151 => ?_)
              refine aw_st (st' := [iV (M 43 0 k), iV (seats), iV ((M 44 0 (M 43 0 (k + 1))) % 20), iV ((M 44 0 (M 43 0 (k + 1))) / 20), rV K 30 0]) (by rw [show (Mc 43 0 k : Int) = M 43 0 k from by rw [c43]]) ?_
              refine aw_cVn (g := 30) (As := [iV ((M 44 0 (M 43 0 (k + 1))) / 20), iV ((M 44 0 (M 43 0 (k + 1))) % 20), iV (seats), iV (M 43 0 k)]) (rest := []) (c_X5_owns hst Mc ((M 44 0 (M 43 0 (k + 1))) / 20) ((M 44 0 (M 43 0 (k + 1))) % 20) (seats) (M 43 0 k) (by omega) (by omega) (by omega) (by omega) (by omega)) cv_X5_owns dX5_changes_152 ml_X5_118 rfl rfl rfl rfl rfl (Nat.le_of_ble_eq_true rfl) (by decide) rfl rfl (by decide) ?_
              refine aw_aload_n dX5_changes_155 rfl rfl ?_
              refine aw_getr (g := 30) rfl rfl ly_X5 rfl (k := 13) dX5_changes_156 (by decide) fl_X5_34 rfl ?_
              refine aw_aload_n dX5_changes_159 rfl rfl ?_
              refine aw_getr (g := 30) rfl rfl ly_X5 rfl (k := 17) dX5_changes_160 (by decide) fl_X5_46 rfl ?_
              refine aw_iload dX5_changes_163 rfl ?_
              refine aw_iald (g := 43) (n := 101) rfl (by decide) dX5_changes_165 (by decide) (by show 0 ≤ k ∧ k < (101 : Int); omega) (fun r165 => ?_)
              refine aw_st (st' := [iV (M 43 0 k), rV K 39 0]) (by rw [show ((ownM Mc ((M 44 0 (M 43 0 (k + 1))) / 20) ((M 44 0 (M 43 0 (k + 1))) % 20) seats (M 43 0 k)) 43 0 k : Int) = M 43 0 k from by rw [ownM_g (by decide), c43]]) ?_
              refine aw_iconst dX5_changes_166 ?_
              refine aw_iast (g := 39) (n := 101) (M' := updM (ownM Mc ((M 44 0 (M 43 0 (k + 1))) / 20) ((M 44 0 (M 43 0 (k + 1))) % 20) seats (M 43 0 k)) 39 0 (M 43 0 k) (-1)) rfl (by decide) dX5_changes_167 (by decide) (by show 0 ≤ (M 43 0 k) ∧ (M 43 0 k) < (101 : Int); omega) (by omega) rfl ?_
              refine aw_iinc (L2 := [some (rV K 30 0), some (iV (n)), some (iV (seats)), some (iV (M 43 0 (n - 1))), some (iV (z18)), some (iV (chgE M n seats)), some (iV (k + 1)), some (iV (M 44 0 (M 43 0 (k + 1))))]) dX5_changes_168 rfl (by decide) rfl ?_
              refine aw_goto (tgt := 98) dX5_changes_171 (by decide) ?_
              refine aw_weak (L' := [some (rV K 30 0), some (iV (n)), some (iV (seats)), some (iV (M 43 0 (n - 1))), some (iV (z18)), some (iV (chgE M n seats)), some (iV (k + 1)), none]) ⟨Or.inr rfl, Or.inr rfl, Or.inr rfl, Or.inr rfl, Or.inr rfl, Or.inr rfl, Or.inr rfl, Or.inl rfl, trivial⟩ ?_
              refine aw_mem (M' := chgS M (chgA M n seats) n seats (chgE M n seats) (Int.toNat (k + 1))) (by rw [chgS_s e1.1, hMc]; unfold chgT; first | (exfalso; omega) | rw [if_pos (by omega)] | rw [if_neg (by omega)]) ?_
              exact ih98 (k + 1) (by omega) (by omega)
      refine aw_mem (M' := chgS M (chgA M n seats) n seats (chgE M n seats) (Int.toNat 0)) (by first | (exfalso; omega) | (show _ = chgA M n seats; unfold chgA; rw [if_neg (by omega)]) | (show _ = chgA M n seats; unfold chgA; rw [if_pos (by omega)])) ?_
      exact lp98 (((n - 0).toNat) + 1) (0) (by omega) (Nat.lt_succ_self _)
    · refine aw_aload_n dX5_changes_61 rfl rfl ?_
      refine aw_aload_n dX5_changes_62 rfl rfl ?_
      refine aw_getr (g := 30) rfl rfl ly_X5 rfl (k := 18) dX5_changes_63 (by decide) fl_X5_49 rfl ?_
      refine aw_aload_n dX5_changes_66 rfl rfl ?_
      refine aw_getr (g := 30) rfl rfl ly_X5 rfl (k := 17) dX5_changes_67 (by decide) fl_X5_46 rfl ?_
      refine aw_iconst dX5_changes_70 ?_
      refine aw_iald (g := 43) (n := 101) rfl (by decide) dX5_changes_71 (by decide) (by show 0 ≤ 0 ∧ 0 < (101 : Int); omega) (fun r71 => ?_)
      refine aw_iald (g := 44) (n := 101) rfl (by decide) dX5_changes_72 (by decide) (by show 0 ≤ (M 43 0 0) ∧ (M 43 0 0) < (101 : Int); omega) (fun r72 => ?_)
      refine aw_bipush dX5_changes_73 rfl ?_
      refine aw_idiv dX5_changes_75 (by omega) (by omega) ?_
      refine aw_aload_n dX5_changes_76 rfl rfl ?_
      refine aw_getr (g := 30) rfl rfl ly_X5 rfl (k := 18) dX5_changes_77 (by decide) fl_X5_49 rfl ?_
      refine aw_aload_n dX5_changes_80 rfl rfl ?_
      refine aw_getr (g := 30) rfl rfl ly_X5 rfl (k := 17) dX5_changes_81 (by decide) fl_X5_46 rfl ?_
      refine aw_iconst dX5_changes_84 ?_
      refine aw_iald (g := 43) (n := 101) rfl (by decide) dX5_changes_85 (by decide) (by show 0 ≤ 0 ∧ 0 < (101 : Int); omega) (fun r85 => ?_)
      refine aw_iald (g := 44) (n := 101) rfl (by decide) dX5_changes_86 (by decide) (by show 0 ≤ (M 43 0 0) ∧ (M 43 0 0) < (101 : Int); omega) (fun r86 => ?_)
      refine aw_bipush dX5_changes_87 rfl ?_
      refine aw_irem dX5_changes_89 (by omega) (by omega) ?_
      refine aw_iload_n dX5_changes_90 rfl rfl ?_
      refine aw_iconst dX5_changes_91 ?_
      refine aw_cVn (g := 30) (As := [iV ((M 44 0 (M 43 0 0)) / 20), iV ((M 44 0 (M 43 0 0)) % 20), iV (seats), iV 0]) (rest := []) (c_X5_owns hst M ((M 44 0 (M 43 0 0)) / 20) ((M 44 0 (M 43 0 0)) % 20) (seats) (0) (by omega) (by omega) (by omega) (by omega) (by omega)) cv_X5_owns dX5_changes_92 ml_X5_118 rfl rfl rfl rfl rfl (Nat.le_of_ble_eq_true rfl) (by decide) rfl rfl (by decide) ?_
      refine aw_iconst dX5_changes_95 ?_
      refine aw_istore (L2 := [some (rV K 30 0), some (iV (n)), some (iV (seats)), some (iV (M 43 0 (n - 1))), some (iV (z18)), some (iV (chgE M n seats)), some (iV 0), none]) dX5_changes_96 (by decide) rfl ?_
      have lp98 : ∀ (n98 : Nat) (k : Int), (0 ≤ k ∧ k ≤ n) → ((n - k).toNat) < n98 → AW K l iX5_changes (ZM K iX5_changes (rN (chgM M n seats))) 98 [some (rV K 30 0), some (iV (n)), some (iV (seats)), some (iV (M 43 0 (n - 1))), some (iV (z18)), some (iV (chgE M n seats)), some (iV (k)), none] [] (chgS M (chgA M n seats) n seats (chgE M n seats) (Int.toNat k)) 0 0 := by
        intro n98
        induction n98 with
        | zero =>
          intro k e1 hm98
          exact absurd hm98 (Nat.not_lt_zero _)
        | succ n98 ih98 =>
          intro k e1 hm98
          generalize hMc : chgS M (chgA M n seats) n seats (chgE M n seats) (Int.toNat k) = Mc
          have hc : ∀ g : Nat, g ≠ 34 → g ≠ 39 → Mc g = M g := (fun g g1 g2 => by rw [← hMc, chgS_g g1 g2]; exact chgA_g g1); have c43 : Mc 43 = M 43 := hc 43 (by decide) (by decide); have c44 : Mc 44 = M 44 := hc 44 (by decide) (by decide)
          refine aw_iload dX5_changes_98 rfl ?_
          refine aw_iload_n dX5_changes_100 rfl rfl ?_
          refine aw_icmp_ge (tgt := 174) dX5_changes_101 (by decide) (by omega) (by omega) (fun h101 => ?_) (fun h101 => ?_)
          · exact aw_vret dX5_changes_174 rfl (by decide) (by decide) ⟨rfl, (by have q : k = n := (by omega); rw [← hMc, q]; rfl)⟩
          · refine aw_iload dX5_changes_104 rfl ?_
            refine aw_iload_n dX5_changes_106 rfl rfl ?_
            refine aw_iconst dX5_changes_107 ?_
            refine aw_isub dX5_changes_108 ?_
            refine aw_icmp_ge (tgt := 129) dX5_changes_109 (by decide) (by omega) (by omega) (fun h109 => ?_) (fun h109 => ?_)
            · refine aw_iload dX5_changes_129 rfl ?_
              have ck0 := v_c k (by omega) (by omega)
              refine aw_istore (L2 := [some (rV K 30 0), some (iV (n)), some (iV (seats)), some (iV (M 43 0 (n - 1))), some (iV (z18)), some (iV (chgE M n seats)), some (iV (k)), some (iV (chgE M n seats))]) dX5_changes_131 (by decide) rfl ?_
              refine aw_aload_n dX5_changes_133 rfl rfl ?_
              refine aw_iload dX5_changes_134 rfl ?_
              refine aw_bipush dX5_changes_136 rfl ?_
              refine aw_idiv dX5_changes_138 (by omega) (by omega) ?_
              refine aw_iload dX5_changes_139 rfl ?_
              refine aw_bipush dX5_changes_141 rfl ?_
              refine aw_irem dX5_changes_143 (by omega) (by omega) ?_
              refine aw_iload_n dX5_changes_144 rfl rfl ?_
              refine aw_aload_n dX5_changes_145 rfl rfl ?_
              refine aw_getr (g := 30) rfl rfl ly_X5 rfl (k := 17) dX5_changes_146 (by decide) fl_X5_46 rfl ?_
              refine aw_iload dX5_changes_149 rfl ?_
              refine aw_iald (g := 43) (n := 101) rfl (by decide) dX5_changes_151 (by decide) (by show 0 ≤ k ∧ k < (101 : Int); omega) (fun r151 => ?_)
              refine aw_st (st' := [iV (M 43 0 k), iV (seats), iV ((chgE M n seats) % 20), iV ((chgE M n seats) / 20), rV K 30 0]) (by rw [show (Mc 43 0 k : Int) = M 43 0 k from by rw [c43]]) ?_
              refine aw_cVn (g := 30) (As := [iV ((chgE M n seats) / 20), iV ((chgE M n seats) % 20), iV (seats), iV (M 43 0 k)]) (rest := []) (c_X5_owns hst Mc ((chgE M n seats) / 20) ((chgE M n seats) % 20) (seats) (M 43 0 k) (by omega) (by omega) (by omega) (by omega) (by omega)) cv_X5_owns dX5_changes_152 ml_X5_118 rfl rfl rfl rfl rfl (Nat.le_of_ble_eq_true rfl) (by decide) rfl rfl (by decide) ?_
              refine aw_aload_n dX5_changes_155 rfl rfl ?_
              refine aw_getr (g := 30) rfl rfl ly_X5 rfl (k := 13) dX5_changes_156 (by decide) fl_X5_34 rfl ?_
              refine aw_aload_n dX5_changes_159 rfl rfl ?_
              refine aw_getr (g := 30) rfl rfl ly_X5 rfl (k := 17) dX5_changes_160 (by decide) fl_X5_46 rfl ?_
              refine aw_iload dX5_changes_163 rfl ?_
              refine aw_iald (g := 43) (n := 101) rfl (by decide) dX5_changes_165 (by decide) (by show 0 ≤ k ∧ k < (101 : Int); omega) (fun r165 => ?_)
              refine aw_st (st' := [iV (M 43 0 k), rV K 39 0]) (by rw [show ((ownM Mc ((chgE M n seats) / 20) ((chgE M n seats) % 20) seats (M 43 0 k)) 43 0 k : Int) = M 43 0 k from by rw [ownM_g (by decide), c43]]) ?_
              refine aw_iconst dX5_changes_166 ?_
              refine aw_iast (g := 39) (n := 101) (M' := updM (ownM Mc ((chgE M n seats) / 20) ((chgE M n seats) % 20) seats (M 43 0 k)) 39 0 (M 43 0 k) (-1)) rfl (by decide) dX5_changes_167 (by decide) (by show 0 ≤ (M 43 0 k) ∧ (M 43 0 k) < (101 : Int); omega) (by omega) rfl ?_
              refine aw_iinc (L2 := [some (rV K 30 0), some (iV (n)), some (iV (seats)), some (iV (M 43 0 (n - 1))), some (iV (z18)), some (iV (chgE M n seats)), some (iV (k + 1)), some (iV (chgE M n seats))]) dX5_changes_168 rfl (by decide) rfl ?_
              refine aw_goto (tgt := 98) dX5_changes_171 (by decide) ?_
              refine aw_weak (L' := [some (rV K 30 0), some (iV (n)), some (iV (seats)), some (iV (M 43 0 (n - 1))), some (iV (z18)), some (iV (chgE M n seats)), some (iV (k + 1)), none]) ⟨Or.inr rfl, Or.inr rfl, Or.inr rfl, Or.inr rfl, Or.inr rfl, Or.inr rfl, Or.inr rfl, Or.inl rfl, trivial⟩ ?_
              refine aw_mem (M' := chgS M (chgA M n seats) n seats (chgE M n seats) (Int.toNat (k + 1))) (by rw [chgS_s e1.1, hMc]; unfold chgT; first | (exfalso; omega) | rw [if_pos (by omega)] | rw [if_neg (by omega)]) ?_
              exact ih98 (k + 1) (by omega) (by omega)
            · have ck := v_c (k + 1) (by omega) (by omega)
              refine aw_aload_n dX5_changes_112 rfl rfl ?_
              refine aw_getr (g := 30) rfl rfl ly_X5 rfl (k := 18) dX5_changes_113 (by decide) fl_X5_49 rfl ?_
              refine aw_aload_n dX5_changes_116 rfl rfl ?_
              refine aw_getr (g := 30) rfl rfl ly_X5 rfl (k := 17) dX5_changes_117 (by decide) fl_X5_46 rfl ?_
              refine aw_iload dX5_changes_120 rfl ?_
              refine aw_iconst dX5_changes_122 ?_
              refine aw_iadd dX5_changes_123 ?_
              refine aw_iald (g := 43) (n := 101) rfl (by decide) dX5_changes_124 (by decide) (by show 0 ≤ (k + 1) ∧ (k + 1) < (101 : Int); omega) (fun r124 => ?_)
              refine aw_st (st' := [iV (M 43 0 (k + 1)), rV K 44 0]) (by rw [show (Mc 43 0 (k + 1) : Int) = M 43 0 (k + 1) from by rw [c43]]) ?_
              refine aw_iald (g := 44) (n := 101) rfl (by decide) dX5_changes_125 (by decide) (by show 0 ≤ (M 43 0 (k + 1)) ∧ (M 43 0 (k + 1)) < (101 : Int); omega) (fun r125 => ?_)
              refine aw_st (st' := [iV (M 44 0 (M 43 0 (k + 1)))]) (by rw [show (Mc 44 0 (M 43 0 (k + 1)) : Int) = M 44 0 (M 43 0 (k + 1)) from by rw [c44]]) ?_
              refine aw_goto (tgt := 131) dX5_changes_126 (by decide) ?_
              have ck0 := v_c k (by omega) (by omega)
              refine aw_istore (L2 := [some (rV K 30 0), some (iV (n)), some (iV (seats)), some (iV (M 43 0 (n - 1))), some (iV (z18)), some (iV (chgE M n seats)), some (iV (k)), some (iV (M 44 0 (M 43 0 (k + 1))))]) dX5_changes_131 (by decide) rfl ?_
              refine aw_aload_n dX5_changes_133 rfl rfl ?_
              refine aw_iload dX5_changes_134 rfl ?_
              refine aw_bipush dX5_changes_136 rfl ?_
              refine aw_idiv dX5_changes_138 (by omega) (by omega) ?_
              refine aw_iload dX5_changes_139 rfl ?_
              refine aw_bipush dX5_changes_141 rfl ?_
              refine aw_irem dX5_changes_143 (by omega) (by omega) ?_
              refine aw_iload_n dX5_changes_144 rfl rfl ?_
              refine aw_aload_n dX5_changes_145 rfl rfl ?_
              refine aw_getr (g := 30) rfl rfl ly_X5 rfl (k := 17) dX5_changes_146 (by decide) fl_X5_46 rfl ?_
              refine aw_iload dX5_changes_149 rfl ?_
              refine aw_iald (g := 43) (n := 101) rfl (by decide) dX5_changes_151 (by decide) (by show 0 ≤ k ∧ k < (101 : Int); omega) (fun r151 => ?_)
              refine aw_st (st' := [iV (M 43 0 k), iV (seats), iV ((M 44 0 (M 43 0 (k + 1))) % 20), iV ((M 44 0 (M 43 0 (k + 1))) / 20), rV K 30 0]) (by rw [show (Mc 43 0 k : Int) = M 43 0 k from by rw [c43]]) ?_
              refine aw_cVn (g := 30) (As := [iV ((M 44 0 (M 43 0 (k + 1))) / 20), iV ((M 44 0 (M 43 0 (k + 1))) % 20), iV (seats), iV (M 43 0 k)]) (rest := []) (c_X5_owns hst Mc ((M 44 0 (M 43 0 (k + 1))) / 20) ((M 44 0 (M 43 0 (k + 1))) % 20) (seats) (M 43 0 k) (by omega) (by omega) (by omega) (by omega) (by omega)) cv_X5_owns dX5_changes_152 ml_X5_118 rfl rfl rfl rfl rfl (Nat.le_of_ble_eq_true rfl) (by decide) rfl rfl (by decide) ?_
              refine aw_aload_n dX5_changes_155 rfl rfl ?_
              refine aw_getr (g := 30) rfl rfl ly_X5 rfl (k := 13) dX5_changes_156 (by decide) fl_X5_34 rfl ?_
              refine aw_aload_n dX5_changes_159 rfl rfl ?_
              refine aw_getr (g := 30) rfl rfl ly_X5 rfl (k := 17) dX5_changes_160 (by decide) fl_X5_46 rfl ?_
              refine aw_iload dX5_changes_163 rfl ?_
              refine aw_iald (g := 43) (n := 101) rfl (by decide) dX5_changes_165 (by decide) (by show 0 ≤ k ∧ k < (101 : Int); omega) (fun r165 => ?_)
              refine aw_st (st' := [iV (M 43 0 k), rV K 39 0]) (by rw [show ((ownM Mc ((M 44 0 (M 43 0 (k + 1))) / 20) ((M 44 0 (M 43 0 (k + 1))) % 20) seats (M 43 0 k)) 43 0 k : Int) = M 43 0 k from by rw [ownM_g (by decide), c43]]) ?_
              refine aw_iconst dX5_changes_166 ?_
              refine aw_iast (g := 39) (n := 101) (M' := updM (ownM Mc ((M 44 0 (M 43 0 (k + 1))) / 20) ((M 44 0 (M 43 0 (k + 1))) % 20) seats (M 43 0 k)) 39 0 (M 43 0 k) (-1)) rfl (by decide) dX5_changes_167 (by decide) (by show 0 ≤ (M 43 0 k) ∧ (M 43 0 k) < (101 : Int); omega) (by omega) rfl ?_
              refine aw_iinc (L2 := [some (rV K 30 0), some (iV (n)), some (iV (seats)), some (iV (M 43 0 (n - 1))), some (iV (z18)), some (iV (chgE M n seats)), some (iV (k + 1)), some (iV (M 44 0 (M 43 0 (k + 1))))]) dX5_changes_168 rfl (by decide) rfl ?_
              refine aw_goto (tgt := 98) dX5_changes_171 (by decide) ?_
              refine aw_weak (L' := [some (rV K 30 0), some (iV (n)), some (iV (seats)), some (iV (M 43 0 (n - 1))), some (iV (z18)), some (iV (chgE M n seats)), some (iV (k + 1)), none]) ⟨Or.inr rfl, Or.inr rfl, Or.inr rfl, Or.inr rfl, Or.inr rfl, Or.inr rfl, Or.inr rfl, Or.inl rfl, trivial⟩ ?_
              refine aw_mem (M' := chgS M (chgA M n seats) n seats (chgE M n seats) (Int.toNat (k + 1))) (by rw [chgS_s e1.1, hMc]; unfold chgT; first | (exfalso; omega) | rw [if_pos (by omega)] | rw [if_neg (by omega)]) ?_
              exact ih98 (k + 1) (by omega) (by omega)
      refine aw_mem (M' := chgS M (chgA M n seats) n seats (chgE M n seats) (Int.toNat 0)) (by first | (exfalso; omega) | (show _ = chgA M n seats; unfold chgA; rw [if_neg (by omega)]) | (show _ = chgA M n seats; unfold chgA; rw [if_pos (by omega)])) ?_
      exact lp98 (((n - 0).toNat) + 1) (0) (by omega) (Nat.lt_succ_self _)
set_option maxHeartbeats 4000000 in
set_option maxRecDepth 20000 in
theorem c_X5_exchange {K : WPar} {l : Launch} (hst : l.stackTraces = false) (M : Mem) (ticket : Int) (r_ticket : inR ticket) (hw : HWm M) (bw : BWm M) (hx : WIm M) (mz : ∀ t : Int, 1 ≤ t → t ≤ M 30 0 8 → hsW M t → 1 ≤ manyM M t ∧ manyM M t ≤ 20 ∧ fsM M t % 20 + manyM M t ≤ 20) : CT K l iX5_exchange [rV K 30 0, iV (ticket)] M (rZm (fun z m => ((¬ (1 ≤ ticket ∧ ticket ≤ M 30 0 8)) ∧ z = 0 ∧ m = thr M 1) ∨ (((1 ≤ ticket ∧ ticket ≤ M 30 0 8) ∧ ¬ hsW M ticket) ∧ z = 0 ∧ m = thr M 2) ∨ ((((1 ≤ ticket ∧ ticket ≤ M 30 0 8) ∧ hsW M ticket) ∧ ∀ k : Nat, ¬ Rm M (manyM M ticket) (fsM M ticket / 20) k (M 39 0 ticket)) ∧ z = 0 ∧ ∃ m1 : Mem, (∀ g : Nat, g ≠ 42 → g ≠ 43 → g ≠ 44 → m1 g = M g) ∧ m = thr m1 2) ∨ (((1 ≤ ticket ∧ ticket ≤ M 30 0 8) ∧ hsW M ticket) ∧ ∃ (m1 : Mem) (d : Int), (0 ≤ d ∧ d ≤ 11) ∧ (∀ g : Nat, g ≠ 42 → g ≠ 43 → g ≠ 44 → m1 g = thr M 0 g) ∧ isD (Rm M (manyM M ticket) (fsM M ticket / 20)) (M 39 0 ticket) d ∧ isChain (M 30 0 8) (Rm M (manyM M ticket) (fsM M ticket / 20)) (ptm M (manyM M ticket)) (rwm M) (M 39 0) ticket d (m1 43 0) ∧ (∀ t : Int, 1 ≤ t → t ≤ M 30 0 8 → ptm M (manyM M ticket) t → m1 44 0 t = fsM M t) ∧ z = d + 1 ∧ m = chgM m1 (d + 1) (manyM M ticket)))) := by
  refine aw_met [some (rV K 30 0), some (iV (ticket)), none, none, none, none, none] hst (by decide) rfl (Nat.le_of_ble_eq_true rfl) rfl rfl (lcat rfl) ?_
  refine aw_rng (fun hM => ?_)
  refine aw_aload_n dX5_exchange_0 rfl rfl ?_
  refine aw_iload_n dX5_exchange_1 rfl rfl ?_
  refine aw_cVb (g := 30) (As := [iV (ticket)]) (rest := []) (c_X5_isTicket hst M (ticket) (by have t1 := bw.1; have t2 := bw.2; omega) (by have t1 := bw.1; have t2 := bw.2; omega)) cv_X5_isTicket dX5_exchange_2 ml_X5_143 rfl rfl rfl rfl rfl (Nat.le_of_ble_eq_true rfl) (by decide) rfl rfl (by decide) (fun h2 => ?_) (fun h2 => ?_)
  · refine aw_if_eq (tgt := 20) dX5_exchange_5 (by decide) (by decide) (fun h => absurd h (by decide)) (fun _ => ?_)
    refine aw_aload_n dX5_exchange_8 rfl rfl ?_
    refine aw_iload_n dX5_exchange_9 rfl rfl ?_
    refine aw_cVb (g := 30) (As := [iV (ticket)]) (rest := []) (c_X5_hasWish hst M (ticket) (by have t1 := bw.1; have t2 := bw.2; omega) (by have t2 := bw.2; omega)) cv_X5_hasWish dX5_exchange_10 ml_X5_167 rfl rfl rfl rfl rfl (Nat.le_of_ble_eq_true rfl) (by decide) rfl rfl (by decide) (fun h10 => ?_) (fun h10 => ?_)
    · refine aw_if_eq (tgt := 20) dX5_exchange_13 (by decide) (by decide) (fun h => absurd h (by decide)) (fun _ => ?_)
      refine aw_iconst dX5_exchange_16 ?_
      refine aw_goto (tgt := 21) dX5_exchange_17 (by decide) ?_
      refine aw_istore_n (L2 := [some (rV K 30 0), some (iV (ticket)), some (iV 1), none, none, none, none]) dX5_exchange_21 rfl (by decide) rfl ?_
      refine aw_iload_n dX5_exchange_22 rfl rfl ?_
      refine aw_if_eq (tgt := 34) dX5_exchange_23 (by decide) (by decide) (fun h => absurd h (by decide)) (fun _ => ?_)
      refine aw_aload_n dX5_exchange_26 rfl rfl ?_
      refine aw_iload_n dX5_exchange_27 rfl rfl ?_
      refine aw_cVi (g := 30) (As := [iV (ticket)]) (rest := []) (c_X5_many hst M (ticket) (by have t1 := bw.1; have t2 := bw.2; omega)) cv_X5_many dX5_exchange_28 ml_X5_146 rfl rfl rfl rfl rfl (Nat.le_of_ble_eq_true rfl) (by decide) rfl rfl (by decide) ?_
      refine aw_goto (tgt := 35) dX5_exchange_31 (by decide) ?_
      refine aw_istore_n (L2 := [some (rV K 30 0), some (iV (ticket)), some (iV 1), some (iV (manyM M ticket)), none, none, none]) dX5_exchange_35 rfl (by decide) rfl ?_
      refine aw_iload_n dX5_exchange_36 rfl rfl ?_
      refine aw_if_eq (tgt := 46) dX5_exchange_37 (by decide) (by decide) (fun h => absurd h (by decide)) (fun _ => ?_)
      refine aw_aload_n dX5_exchange_40 rfl rfl ?_
      refine aw_iload_n dX5_exchange_41 rfl rfl ?_
      refine aw_iload_n dX5_exchange_42 rfl rfl ?_
      refine aw_cVm (g := 30) (As := [iV (ticket), iV (manyM M ticket)]) (rest := []) (c_X5_laysFar hst M (ticket) (manyM M ticket) (by have t1 := bw.1; have t2 := bw.2; omega) (by have q := mz ticket h2.1 h2.2 h10; omega) (by have t1 := bw.1; have t2 := bw.2; omega) (by have t1 := bw.1; have t2 := bw.2; omega) (by have t1 := bw.1; have t2 := bw.2; omega) (by exact h2) (by exact h10) (by have q := mz ticket h2.1 h2.2 h10; omega)) cv_X5_laysFar dX5_exchange_43 ml_X5_173 rfl rfl rfl rfl rfl (Nat.le_of_ble_eq_true rfl) (by decide) rfl rfl (by decide) (fun M43 (h43 : FARd M M43 (manyM M ticket) (fsM M ticket / 20)) => ?_)
      refine aw_aload_n dX5_exchange_46 rfl rfl ?_
      refine aw_aload_n dX5_exchange_47 rfl rfl ?_
      refine aw_iload_n dX5_exchange_48 rfl rfl ?_
      refine aw_cVb (g := 30) (As := [iV (ticket)]) (rest := [rV K 30 0]) (c_X5_isTicket hst M43 (ticket) (by have t1 := bw.1; have t2 := bw.2; omega) (by first | exact BWm_g bw (by rw [h43.1 30 (by decide) (by decide)]) | exact bw)) cv_X5_isTicket dX5_exchange_49 ml_X5_143 rfl rfl rfl rfl rfl (Nat.le_of_ble_eq_true rfl) (by decide) rfl rfl (by decide) (fun h49 => ?_) (fun h49 => ?_)
      · try have k8 : M43 30 0 8 = M 30 0 8 := (by rw [h43.1 30 (by decide) (by decide)])
        refine aw_if_ne (tgt := 59) dX5_exchange_52 (by decide) (by decide) (fun _ => ?_) (fun h => absurd h (by decide))
        skip
        refine aw_iload_n dX5_exchange_59 rfl rfl ?_
        refine aw_if_eq (tgt := 72) dX5_exchange_60 (by decide) (by decide) (fun h => absurd h (by decide)) (fun _ => ?_)
        have ff : (M43 42 0 ticket = 0 ∧ ∀ k : Nat, ¬ Rm M (manyM M ticket) (fsM M ticket / 20) k (M 39 0 ticket)) ∨ (1 ≤ M43 42 0 ticket ∧ M43 42 0 ticket ≤ 12 ∧ isD (Rm M (manyM M ticket) (fsM M ticket / 20)) (M 39 0 ticket) (M43 42 0 ticket - 1)) := (h43.2 ticket h2.1 h2.2).2.2 ⟨h10, rfl⟩
        refine aw_aload_n dX5_exchange_63 rfl rfl ?_
        refine aw_getr (g := 30) rfl rfl ly_X5 rfl (k := 16) dX5_exchange_64 (by decide) fl_X5_43 rfl ?_
        refine aw_iload_n dX5_exchange_67 rfl rfl ?_
        refine aw_iald (g := 42) (n := 101) rfl (by decide) dX5_exchange_68 (by decide) (by show 0 ≤ ticket ∧ ticket < (101 : Int); have t1 := bw.1; have t2 := bw.2; omega) (fun r68 => ?_)
        refine aw_if_ne (tgt := 76) dX5_exchange_69 (by decide) (by rcases ff with a | a; (have a1 := a.1; omega); (have a1 := a.1; have a2 := a.2.1; omega)) (fun h69 => ?_) (fun h69 => ?_)
        · refine aw_iconst dX5_exchange_76 ?_
          refine aw_cVi (g := 30) (As := [iV 0]) (rest := []) (c_X5_holds hst M43 (0) (by have t1 := bw.1; have t2 := bw.2; omega)) cv_X5_holds dX5_exchange_77 ml_X5_63 rfl rfl rfl rfl rfl (Nat.le_of_ble_eq_true rfl) (by decide) rfl rfl (by decide) ?_
          refine aw_st (st' := [iV 1]) (by rw [if_pos (by decide)]) ?_
          refine aw_if_ne (tgt := 85) dX5_exchange_80 (by decide) (by decide) (fun _ => ?_) (fun h => absurd h (by decide))
          generalize hMb : thr M43 0 = Mb
          have fd : isD (Rm M (manyM M ticket) (fsM M ticket / 20)) (M 39 0 ticket) (M43 42 0 ticket - 1) := (by rcases ff with a | a; exact absurd a.1 (by omega); exact a.2.2); have fb : 1 ≤ M43 42 0 ticket ∧ M43 42 0 ticket ≤ 12 := (by rcases ff with a | a; exact absurd a.1 (by omega); exact ⟨a.1, a.2.1⟩); have gb : ∀ g : Nat, g ≠ 30 → Mb g = M43 g := (fun g hg => by rw [← hMb]; exact thr_g hg); have gj : ∀ g : Nat, g ≠ 42 → g ≠ 44 → Mb g = thr M 0 g := (fun g g1 g2 => by rw [← hMb]; by_cases e : g = 30; (subst e; unfold thr; funext i j; unfold updM; rw [h43.1 30 (by decide) (by decide)]); rw [thr_g e, thr_g e]; exact h43.1 g g1 g2)
          refine aw_aload_n dX5_exchange_85 rfl rfl ?_
          refine aw_getr (g := 30) rfl rfl ly_X5 rfl (k := 16) dX5_exchange_86 (by decide) fl_X5_43 rfl ?_
          refine aw_iload_n dX5_exchange_89 rfl rfl ?_
          refine aw_iald (g := 42) (n := 101) rfl (by decide) dX5_exchange_90 (by decide) (by show 0 ≤ ticket ∧ ticket < (101 : Int); have t1 := bw.1; have t2 := bw.2; omega) (fun r90 => ?_)
          refine aw_st (st' := [iV (M43 42 0 ticket)]) (by rw [show (Mb 42 0 ticket : Int) = M43 42 0 ticket from by rw [gb 42 (by decide)]]) ?_
          refine aw_istore (L2 := [some (rV K 30 0), some (iV (ticket)), some (iV 1), some (iV (manyM M ticket)), some (iV (M43 42 0 ticket)), none, none]) dX5_exchange_91 (by decide) rfl ?_
          refine aw_aload_n dX5_exchange_93 rfl rfl ?_
          refine aw_getr (g := 30) rfl rfl ly_X5 rfl (k := 17) dX5_exchange_94 (by decide) fl_X5_46 rfl ?_
          refine aw_iconst dX5_exchange_97 ?_
          refine aw_iload_n dX5_exchange_98 rfl rfl ?_
          refine aw_iast (g := 43) (n := 101) (M' := updM Mb 43 0 0 ticket) rfl (by decide) dX5_exchange_99 (by decide) (by show 0 ≤ 0 ∧ 0 < (101 : Int); have t1 := bw.1; have t2 := bw.2; omega) (by have t1 := bw.1; have t2 := bw.2; omega) rfl ?_
          refine aw_iconst dX5_exchange_100 ?_
          refine aw_istore (L2 := [some (rV K 30 0), some (iV (ticket)), some (iV 1), some (iV (manyM M ticket)), some (iV (M43 42 0 ticket)), some (iV 1), none]) dX5_exchange_101 (by decide) rfl ?_
          have lp103 : ∀ (n103 : Nat) (k : Int) (m3 : Mem), (1 ≤ k ∧ k ≤ M43 42 0 ticket) → (∀ g : Nat, g ≠ 43 → m3 g = Mb g) → (m3 43 0 0 = ticket) → (∀ j : Int, 1 ≤ j → j < k → isLow (M 30 0 8) (fun x => nxP M (manyM M ticket) (fsM M ticket / 20) (m3 43 0 (j - 1)) ((M43 42 0 ticket - 1) - j) x) (m3 43 0 j)) → ((M43 42 0 ticket - k).toNat) < n103 → AW K l iX5_exchange (ZM K iX5_exchange (rZm (fun z m => ((¬ (1 ≤ ticket ∧ ticket ≤ M 30 0 8)) ∧ z = 0 ∧ m = thr M 1) ∨ (((1 ≤ ticket ∧ ticket ≤ M 30 0 8) ∧ ¬ hsW M ticket) ∧ z = 0 ∧ m = thr M 2) ∨ ((((1 ≤ ticket ∧ ticket ≤ M 30 0 8) ∧ hsW M ticket) ∧ ∀ k : Nat, ¬ Rm M (manyM M ticket) (fsM M ticket / 20) k (M 39 0 ticket)) ∧ z = 0 ∧ ∃ m1 : Mem, (∀ g : Nat, g ≠ 42 → g ≠ 43 → g ≠ 44 → m1 g = M g) ∧ m = thr m1 2) ∨ (((1 ≤ ticket ∧ ticket ≤ M 30 0 8) ∧ hsW M ticket) ∧ ∃ (m1 : Mem) (d : Int), (0 ≤ d ∧ d ≤ 11) ∧ (∀ g : Nat, g ≠ 42 → g ≠ 43 → g ≠ 44 → m1 g = thr M 0 g) ∧ isD (Rm M (manyM M ticket) (fsM M ticket / 20)) (M 39 0 ticket) d ∧ isChain (M 30 0 8) (Rm M (manyM M ticket) (fsM M ticket / 20)) (ptm M (manyM M ticket)) (rwm M) (M 39 0) ticket d (m1 43 0) ∧ (∀ t : Int, 1 ≤ t → t ≤ M 30 0 8 → ptm M (manyM M ticket) t → m1 44 0 t = fsM M t) ∧ z = d + 1 ∧ m = chgM m1 (d + 1) (manyM M ticket))))) 103 [some (rV K 30 0), some (iV (ticket)), some (iV 1), some (iV (manyM M ticket)), some (iV (M43 42 0 ticket)), some (iV (k)), none] [] (m3) 0 0 := by
            intro n103
            induction n103 with
            | zero =>
              intro k m3 e1 e2 e3 e4 hm103
              exact absurd hm103 (Nat.not_lt_zero _)
            | succ n103 ih103 =>
              intro k m3 e1 e2 e3 e4 hm103
              have q44 : m3 44 = M43 44 := (by rw [e2 44 (by decide)]; exact gb 44 (by decide)); have q42 : m3 42 = M43 42 := (by rw [e2 42 (by decide)]; exact gb 42 (by decide)); have q39 : m3 39 = M 39 := (by rw [e2 39 (by decide), gb 39 (by decide)]; exact h43.1 39 (by decide) (by decide)); have q8 : m3 30 0 8 = M 30 0 8 := (by rw [e2 30 (by decide), gj 30 (by decide) (by decide)]; rfl); refine aw_rng (fun hM_3 => ?_)
              have x0 := (hx ticket h2.1 h2.2 h10)
              refine aw_iload dX5_exchange_103 rfl ?_
              refine aw_iload dX5_exchange_105 rfl ?_
              refine aw_icmp_ge (tgt := 167) dX5_exchange_107 (by decide) (by have t1 := bw.1; have t2 := bw.2; omega) (by have t1 := bw.1; have t2 := bw.2; omega) (fun h107 => ?_) (fun h107 => ?_)
              · have fm3 : ∀ g : Nat, g ≠ 42 → g ≠ 43 → g ≠ 44 → m3 g = thr M 0 g := (fun g g1 g2 g3 => (e2 g g2).trans (gj g g1 g3)); have f44 : ∀ t : Int, 1 ≤ t → t ≤ M 30 0 8 → ptm M (manyM M ticket) t → m3 44 0 t = fsM M t := (fun t t1 t2 tp => by rw [e2 44 (by decide), gb 44 (by decide), (h43.2 t t1 t2).1, if_pos tp]); have e4m : ∀ j : Int, 1 ≤ j → j ≤ (M43 42 0 ticket - 1) → isLow (M 30 0 8) (fun x => ptm M (manyM M ticket) x ∧ rwm M x = M 39 0 (m3 43 0 (j - 1)) ∧ isD (Rm M (manyM M ticket) (fsM M ticket / 20)) (M 39 0 x) ((M43 42 0 ticket - 1) - j)) (m3 43 0 j) := (fun j j1 j2 => e4 j j1 (by omega)); have m31 : m3 31 = M 31 := fm3 31 (by decide) (by decide) (by decide); have m32 : m3 32 = M 32 := fm3 32 (by decide) (by decide) (by decide); have m33 : m3 33 = M 33 := fm3 33 (by decide) (by decide) (by decide); have m39 : m3 39 = M 39 := fm3 39 (by decide) (by decide) (by decide); have m303 : m3 30 0 3 = M 30 0 3 := (by rw [fm3 30 (by decide) (by decide) (by decide)]; rfl); have hc : ∀ x : Int, 0 ≤ x → x ≤ M43 42 0 ticket - 1 → (1 ≤ m3 43 0 x ∧ m3 43 0 x ≤ M 30 0 8) ∧ ptm M (manyM M ticket) (m3 43 0 x) := (fun x x0 x1 => by by_cases e : x = 0; (subst e; rw [e3]; exact ⟨h2, h10, rfl⟩); (have q := e4 x (by omega) (by omega); exact ⟨⟨q.1, q.2.1⟩, q.2.2.1.1⟩))
                refine aw_aload_n dX5_exchange_167 rfl rfl ?_
                refine aw_iload dX5_exchange_168 rfl ?_
                refine aw_iload_n dX5_exchange_170 rfl rfl ?_
                refine aw_cVn (g := 30) (As := [iV (M43 42 0 ticket), iV (manyM M ticket)]) (rest := []) (c_X5_changes hst m3 (M43 42 0 ticket) (manyM M ticket) (by omega) (by have q := mz ticket h2.1 h2.2 h10; omega) (by exact HWm_g hw m303 m31 m32 m33) (by omega) (by have q := mz ticket h2.1 h2.2 h10; omega) (by intro x x0 x1; have q := hc x x0 x1; have w := hx _ q.1.1 q.1.2 q.2.1; have z := mz _ q.1.1 q.1.2 q.2.1; have e := f44 _ q.1.1 q.1.2 q.2; have e2 := q.2.2; rw [e]; have t2 := bw.2; omega) (by have q := hc (M43 42 0 ticket - 1) (by omega) (Int.le_refl _); have w := hx _ q.1.1 q.1.2 q.2.1; have u := q.2.1.2; rw [m39, m303]; exact ⟨u, w.1⟩)) cv_X5_changes dX5_exchange_171 ml_X5_176 rfl rfl rfl rfl rfl (Nat.le_of_ble_eq_true rfl) (by decide) rfl rfl (by decide) ?_
                refine aw_iload dX5_exchange_174 rfl ?_
                exact aw_iret dX5_exchange_176 rfl rfl (by decide) (by decide) ⟨M43 42 0 ticket, rfl, (by first | (exfalso; have n1 := hw.1; have n2 := hw.2.1; have t1 := bw.1; have t2 := bw.2; omega) | exact (Or.inl ⟨by have n1 := hw.1; have n2 := hw.2.1; have t1 := bw.1; have t2 := bw.2; omega, by first | rfl | (have n1 := hw.1; have n2 := hw.2.1; have t1 := bw.1; have t2 := bw.2; omega), by rfl⟩) | exact (Or.inr (Or.inl ⟨by exact ⟨by omega, by assumption⟩, by first | rfl | (have n1 := hw.1; have n2 := hw.2.1; have t1 := bw.1; have t2 := bw.2; omega), by rfl⟩)) | exact (Or.inr (Or.inr (Or.inl (by exact ⟨⟨⟨h2, h10⟩, by rcases ff with a | a; exact a.2; (have a1 := a.1; omega)⟩, rfl, M43, fun g g1 _ g3 => h43.1 g g1 g3, rfl⟩)))) | exact (Or.inr (Or.inr (Or.inr (by exact ⟨⟨h2, h10⟩, m3, (M43 42 0 ticket - 1), by omega, fm3, fd, ⟨e3, e4m⟩, f44, by omega, by rw [show (M43 42 0 ticket - 1) + 1 = M43 42 0 ticket by omega]⟩)))))⟩
              · have ckk : 1 ≤ m3 43 0 (k - 1) ∧ m3 43 0 (k - 1) ≤ M 30 0 8 ∧ isD (Rm M (manyM M ticket) (fsM M ticket / 20)) (M 39 0 (m3 43 0 (k - 1))) ((M43 42 0 ticket - 1) - k + 1) := (by by_cases e : k = 1; (subst e; rw [show (1 : Int) - 1 = 0 by omega, e3]; exact ⟨h2.1, h2.2, by rw [show (M43 42 0 ticket - 1) - 1 + 1 = (M43 42 0 ticket - 1) by omega]; exact fd⟩); (have q := e4 (k - 1) (by omega) (by omega); exact ⟨q.1, q.2.1, by have q3 := q.2.2.1.2.2; rw [show (M43 42 0 ticket - 1) - (k - 1) = (M43 42 0 ticket - 1) - k + 1 by omega] at q3; exact q3⟩)); have cex := nx_ex (by omega) (by omega) ckk.2.2
                refine aw_iconst dX5_exchange_110 ?_
                refine aw_istore (L2 := [some (rV K 30 0), some (iV (ticket)), some (iV 1), some (iV (manyM M ticket)), some (iV (M43 42 0 ticket)), some (iV (k)), some (iV 1)]) dX5_exchange_111 (by decide) rfl ?_
                have lp113 : ∀ (n113 : Nat) (nxt : Int), (1 ≤ nxt ∧ nxt ≤ M 30 0 8 ∧ (1 ≤ m3 43 0 (k - 1) ∧ m3 43 0 (k - 1) ≤ M 30 0 8)) → (∀ x : Int, 1 ≤ x → x < nxt → ¬ nxP M (manyM M ticket) (fsM M ticket / 20) (m3 43 0 (k - 1)) ((M43 42 0 ticket - 1) - k) x) → ((M 30 0 8 + 1 - nxt).toNat) < n113 → AW K l iX5_exchange (ZM K iX5_exchange (rZm (fun z m => ((¬ (1 ≤ ticket ∧ ticket ≤ M 30 0 8)) ∧ z = 0 ∧ m = thr M 1) ∨ (((1 ≤ ticket ∧ ticket ≤ M 30 0 8) ∧ ¬ hsW M ticket) ∧ z = 0 ∧ m = thr M 2) ∨ ((((1 ≤ ticket ∧ ticket ≤ M 30 0 8) ∧ hsW M ticket) ∧ ∀ k : Nat, ¬ Rm M (manyM M ticket) (fsM M ticket / 20) k (M 39 0 ticket)) ∧ z = 0 ∧ ∃ m1 : Mem, (∀ g : Nat, g ≠ 42 → g ≠ 43 → g ≠ 44 → m1 g = M g) ∧ m = thr m1 2) ∨ (((1 ≤ ticket ∧ ticket ≤ M 30 0 8) ∧ hsW M ticket) ∧ ∃ (m1 : Mem) (d : Int), (0 ≤ d ∧ d ≤ 11) ∧ (∀ g : Nat, g ≠ 42 → g ≠ 43 → g ≠ 44 → m1 g = thr M 0 g) ∧ isD (Rm M (manyM M ticket) (fsM M ticket / 20)) (M 39 0 ticket) d ∧ isChain (M 30 0 8) (Rm M (manyM M ticket) (fsM M ticket / 20)) (ptm M (manyM M ticket)) (rwm M) (M 39 0) ticket d (m1 43 0) ∧ (∀ t : Int, 1 ≤ t → t ≤ M 30 0 8 → ptm M (manyM M ticket) t → m1 44 0 t = fsM M t) ∧ z = d + 1 ∧ m = chgM m1 (d + 1) (manyM M ticket))))) 113 [some (rV K 30 0), some (iV (ticket)), some (iV 1), some (iV (manyM M ticket)), some (iV (M43 42 0 ticket)), some (iV (k)), some (iV (nxt))] [] (m3) 0 0 := by
                  intro n113
                  induction n113 with
                  | zero =>
                    intro nxt f1 f2 hm113
                    exact absurd hm113 (Nat.not_lt_zero _)
                  | succ n113 ih113 =>
                    intro nxt f1 f2 hm113
                    have fi : ((0 ≤ m3 44 0 nxt ∧ m3 44 0 nxt / 20 = m3 39 0 (m3 43 0 (k - 1))) ∧ m3 42 0 nxt = ((M43 42 0 ticket - 1) - k) + 1) ↔ nxP M (manyM M ticket) (fsM M ticket / 20) (m3 43 0 (k - 1)) ((M43 42 0 ticket - 1) - k) nxt := (by rw [q44, q42, q39]; exact nx_iff hx f1.1 f1.2.1 (by omega) (by omega) h43)
                    refine aw_aload_n dX5_exchange_113 rfl rfl ?_
                    refine aw_aload_n dX5_exchange_114 rfl rfl ?_
                    refine aw_getr (g := 30) rfl rfl ly_X5 rfl (k := 17) dX5_exchange_115 (by decide) fl_X5_46 rfl ?_
                    refine aw_iload dX5_exchange_118 rfl ?_
                    refine aw_iconst dX5_exchange_120 ?_
                    refine aw_isub dX5_exchange_121 ?_
                    refine aw_iald (g := 43) (n := 101) rfl (by decide) dX5_exchange_122 (by decide) (by show 0 ≤ (k - 1) ∧ (k - 1) < (101 : Int); have t1 := bw.1; have t2 := bw.2; omega) (fun r122 => ?_)
                    refine aw_iload dX5_exchange_123 rfl ?_
                    refine aw_cVb (g := 30) (As := [iV (m3 43 0 (k - 1)), iV (nxt)]) (rest := []) (c_X5_follows hst m3 (m3 43 0 (k - 1)) (nxt) (by have t1 := bw.1; have t2 := bw.2; omega) (by have t1 := bw.1; have t2 := bw.2; omega) (by have t1 := bw.1; have t2 := bw.2; omega) (by have t1 := bw.1; have t2 := bw.2; omega)) cv_X5_follows dX5_exchange_125 ml_X5_170 rfl rfl rfl rfl rfl (Nat.le_of_ble_eq_true rfl) (by decide) rfl rfl (by decide) (fun h125 => ?_) (fun h125 => ?_)
                    · refine aw_if_eq (tgt := 146) dX5_exchange_128 (by decide) (by decide) (fun h => absurd h (by decide)) (fun _ => ?_)
                      refine aw_aload_n dX5_exchange_131 rfl rfl ?_
                      refine aw_getr (g := 30) rfl rfl ly_X5 rfl (k := 16) dX5_exchange_132 (by decide) fl_X5_43 rfl ?_
                      refine aw_iload dX5_exchange_135 rfl ?_
                      refine aw_iald (g := 42) (n := 101) rfl (by decide) dX5_exchange_137 (by decide) (by show 0 ≤ nxt ∧ nxt < (101 : Int); have t1 := bw.1; have t2 := bw.2; omega) (fun r137 => ?_)
                      refine aw_iload dX5_exchange_138 rfl ?_
                      refine aw_iload dX5_exchange_140 rfl ?_
                      refine aw_isub dX5_exchange_142 ?_
                      refine aw_icmp_eq (tgt := 152) dX5_exchange_143 (by decide) (by exact hM_3 42 0 nxt) (by have t1 := bw.1; have t2 := bw.2; omega) (fun h143 => ?_) (fun h143 => ?_)
                      · refine aw_aload_n dX5_exchange_152 rfl rfl ?_
                        refine aw_getr (g := 30) rfl rfl ly_X5 rfl (k := 17) dX5_exchange_153 (by decide) fl_X5_46 rfl ?_
                        refine aw_iload dX5_exchange_156 rfl ?_
                        refine aw_iload dX5_exchange_158 rfl ?_
                        refine aw_iast (g := 43) (n := 101) (M' := updM m3 43 0 k nxt) rfl (by decide) dX5_exchange_160 (by decide) (by show 0 ≤ k ∧ k < (101 : Int); have t1 := bw.1; have t2 := bw.2; omega) (by have t1 := bw.1; have t2 := bw.2; omega) rfl ?_
                        refine aw_iinc (L2 := [some (rV K 30 0), some (iV (ticket)), some (iV 1), some (iV (manyM M ticket)), some (iV (M43 42 0 ticket)), some (iV (k + 1)), some (iV (nxt))]) dX5_exchange_161 rfl (by decide) rfl ?_
                        refine aw_goto (tgt := 103) dX5_exchange_164 (by decide) ?_
                        refine aw_weak (L' := [some (rV K 30 0), some (iV (ticket)), some (iV 1), some (iV (manyM M ticket)), some (iV (M43 42 0 ticket)), some (iV (k + 1)), none]) ⟨Or.inr rfl, Or.inr rfl, Or.inr rfl, Or.inr rfl, Or.inr rfl, Or.inr rfl, Or.inl rfl, trivial⟩ ?_
                        exact ih103 (k + 1) (updM m3 43 0 k nxt) (by have t1 := bw.1; have t2 := bw.2; omega) (by exact fun g hg => (updM_g hg).trans (e2 g hg)) (by rw [updM_j (by omega)]; exact e3) (by intro j j1 j2; rw [updM_j (show j - 1 ≠ k by omega)]; by_cases e : j = k; (subst e; rw [updM_same]; exact ⟨f1.1, f1.2.1, fi.mp ⟨h125, by omega⟩, f2⟩); (rw [updM_j e]; exact e4 j j1 (by omega))) (by omega)
                      · refine aw_iinc (L2 := [some (rV K 30 0), some (iV (ticket)), some (iV 1), some (iV (manyM M ticket)), some (iV (M43 42 0 ticket)), some (iV (k)), some (iV (nxt + 1))]) dX5_exchange_146 rfl (by decide) rfl ?_
                        refine aw_goto (tgt := 113) dX5_exchange_149 (by decide) ?_
                        exact ih113 (nxt + 1) (by refine ⟨by omega, ?_, f1.2.2⟩; obtain ⟨y, y1, y2, y3⟩ := cex; by_cases e : y ≤ nxt; (exfalso; by_cases e5 : y = nxt; (subst e5; have z := fi.mpr y3; first | exact h125 z.1 | (have z2 := z.2; omega)); exact f2 y y1 (by omega) y3); omega) (by intro x x1 x2 x3; by_cases e5 : x = nxt; (subst e5; have z := fi.mpr x3; first | exact h125 z.1 | (have z2 := z.2; omega)); exact f2 x x1 (by omega) x3) (by omega)
                    · refine aw_if_eq (tgt := 146) dX5_exchange_128 (by decide) (by decide) (fun _ => ?_) (fun h => absurd (by decide) h)
                      refine aw_iinc (L2 := [some (rV K 30 0), some (iV (ticket)), some (iV 1), some (iV (manyM M ticket)), some (iV (M43 42 0 ticket)), some (iV (k)), some (iV (nxt + 1))]) dX5_exchange_146 rfl (by decide) rfl ?_
                      refine aw_goto (tgt := 113) dX5_exchange_149 (by decide) ?_
                      exact ih113 (nxt + 1) (by refine ⟨by omega, ?_, f1.2.2⟩; obtain ⟨y, y1, y2, y3⟩ := cex; by_cases e : y ≤ nxt; (exfalso; by_cases e5 : y = nxt; (subst e5; have z := fi.mpr y3; first | exact h125 z.1 | (have z2 := z.2; omega)); exact f2 y y1 (by omega) y3); omega) (by intro x x1 x2 x3; by_cases e5 : x = nxt; (subst e5; have z := fi.mpr x3; first | exact h125 z.1 | (have z2 := z.2; omega)); exact f2 x x1 (by omega) x3) (by omega)
                exact lp113 (((M 30 0 8 + 1 - 1).toNat) + 1) (1) (by refine ⟨by omega, by have q := bw.1; omega, ?_⟩; exact ⟨ckk.1, ckk.2.1⟩) (by intro x x1 x2; omega) (Nat.lt_succ_self _)
          exact lp103 (((M43 42 0 ticket - 1).toNat) + 1) (1) (updM Mb 43 0 0 ticket) (by have t1 := bw.1; have t2 := bw.2; omega) (by exact fun g hg => updM_g hg) (by exact updM_same) (by intro j j1 j2; omega) (Nat.lt_succ_self _)
        · refine aw_iconst dX5_exchange_72 ?_
          refine aw_goto (tgt := 77) dX5_exchange_73 (by decide) ?_
          refine aw_cVi (g := 30) (As := [iV 2]) (rest := []) (c_X5_holds hst M43 (2) (by have t1 := bw.1; have t2 := bw.2; omega)) cv_X5_holds dX5_exchange_77 ml_X5_63 rfl rfl rfl rfl rfl (Nat.le_of_ble_eq_true rfl) (by decide) rfl rfl (by decide) ?_
          refine aw_st (st' := [iV 0]) (by rw [if_neg (by decide)]) ?_
          refine aw_if_ne (tgt := 85) dX5_exchange_80 (by decide) (by decide) (fun h => absurd h (by decide)) (fun _ => ?_)
          refine aw_iconst dX5_exchange_83 ?_
          exact aw_iret dX5_exchange_84 rfl rfl (by decide) (by decide) ⟨0, rfl, (by first | (exfalso; have n1 := hw.1; have n2 := hw.2.1; have t1 := bw.1; have t2 := bw.2; omega) | exact (Or.inl ⟨by have n1 := hw.1; have n2 := hw.2.1; have t1 := bw.1; have t2 := bw.2; omega, by first | rfl | (have n1 := hw.1; have n2 := hw.2.1; have t1 := bw.1; have t2 := bw.2; omega), by rfl⟩) | exact (Or.inr (Or.inl ⟨by exact ⟨by omega, by assumption⟩, by first | rfl | (have n1 := hw.1; have n2 := hw.2.1; have t1 := bw.1; have t2 := bw.2; omega), by rfl⟩)) | exact (Or.inr (Or.inr (Or.inl (by exact ⟨⟨⟨h2, h10⟩, by rcases ff with a | a; exact a.2; (have a1 := a.1; omega)⟩, rfl, M43, fun g g1 _ g3 => h43.1 g g1 g3, rfl⟩)))) | exact (Or.inr (Or.inr (Or.inr (by exact ⟨⟨h2, h10⟩, m3, (M43 42 0 ticket - 1), by omega, fm3, fd, ⟨e3, e4m⟩, f44, by omega, by rw [show (M43 42 0 ticket - 1) + 1 = M43 42 0 ticket by omega]⟩)))))⟩
      · try have k8 : M43 30 0 8 = M 30 0 8 := (by rw [h43.1 30 (by decide) (by decide)])
        refine aw_if_ne (tgt := 59) dX5_exchange_52 (by decide) (by decide) (fun h => absurd h (by decide)) (fun _ => ?_)
        refine aw_iconst dX5_exchange_55 ?_
        refine aw_goto (tgt := 77) dX5_exchange_56 (by decide) ?_
        refine aw_cVi (g := 30) (As := [iV 1]) (rest := []) (c_X5_holds hst M43 (1) (by have t1 := bw.1; have t2 := bw.2; omega)) cv_X5_holds dX5_exchange_77 ml_X5_63 rfl rfl rfl rfl rfl (Nat.le_of_ble_eq_true rfl) (by decide) rfl rfl (by decide) ?_
        refine aw_st (st' := [iV 0]) (by rw [if_neg (by decide)]) ?_
        refine aw_if_ne (tgt := 85) dX5_exchange_80 (by decide) (by decide) (fun h => absurd h (by decide)) (fun _ => ?_)
        refine aw_iconst dX5_exchange_83 ?_
        exact aw_iret dX5_exchange_84 rfl rfl (by decide) (by decide) ⟨0, rfl, (by first | (exfalso; have n1 := hw.1; have n2 := hw.2.1; have t1 := bw.1; have t2 := bw.2; omega) | exact (Or.inl ⟨by have n1 := hw.1; have n2 := hw.2.1; have t1 := bw.1; have t2 := bw.2; omega, by first | rfl | (have n1 := hw.1; have n2 := hw.2.1; have t1 := bw.1; have t2 := bw.2; omega), by rfl⟩) | exact (Or.inr (Or.inl ⟨by exact ⟨by omega, by assumption⟩, by first | rfl | (have n1 := hw.1; have n2 := hw.2.1; have t1 := bw.1; have t2 := bw.2; omega), by rfl⟩)) | exact (Or.inr (Or.inr (Or.inl (by exact ⟨⟨⟨h2, h10⟩, by rcases ff with a | a; exact a.2; (have a1 := a.1; omega)⟩, rfl, M43, fun g g1 _ g3 => h43.1 g g1 g3, rfl⟩)))) | exact (Or.inr (Or.inr (Or.inr (by exact ⟨⟨h2, h10⟩, m3, (M43 42 0 ticket - 1), by omega, fm3, fd, ⟨e3, e4m⟩, f44, by omega, by rw [show (M43 42 0 ticket - 1) + 1 = M43 42 0 ticket by omega]⟩)))))⟩
    · refine aw_if_eq (tgt := 20) dX5_exchange_13 (by decide) (by decide) (fun _ => ?_) (fun h => absurd (by decide) h)
      refine aw_iconst dX5_exchange_20 ?_
      refine aw_istore_n (L2 := [some (rV K 30 0), some (iV (ticket)), some (iV 0), none, none, none, none]) dX5_exchange_21 rfl (by decide) rfl ?_
      refine aw_iload_n dX5_exchange_22 rfl rfl ?_
      refine aw_if_eq (tgt := 34) dX5_exchange_23 (by decide) (by decide) (fun _ => ?_) (fun h => absurd (by decide) h)
      refine aw_iconst dX5_exchange_34 ?_
      refine aw_istore_n (L2 := [some (rV K 30 0), some (iV (ticket)), some (iV 0), some (iV 0), none, none, none]) dX5_exchange_35 rfl (by decide) rfl ?_
      refine aw_iload_n dX5_exchange_36 rfl rfl ?_
      refine aw_if_eq (tgt := 46) dX5_exchange_37 (by decide) (by decide) (fun _ => ?_) (fun h => absurd (by decide) h)
      refine aw_aload_n dX5_exchange_46 rfl rfl ?_
      refine aw_aload_n dX5_exchange_47 rfl rfl ?_
      refine aw_iload_n dX5_exchange_48 rfl rfl ?_
      refine aw_cVb (g := 30) (As := [iV (ticket)]) (rest := [rV K 30 0]) (c_X5_isTicket hst M (ticket) (by have t1 := bw.1; have t2 := bw.2; omega) (by first | exact BWm_g bw (by rw [h43.1 30 (by decide) (by decide)]) | exact bw)) cv_X5_isTicket dX5_exchange_49 ml_X5_143 rfl rfl rfl rfl rfl (Nat.le_of_ble_eq_true rfl) (by decide) rfl rfl (by decide) (fun h49 => ?_) (fun h49 => ?_)
      · try have k8 : M43 30 0 8 = M 30 0 8 := (by rw [h43.1 30 (by decide) (by decide)])
        refine aw_if_ne (tgt := 59) dX5_exchange_52 (by decide) (by decide) (fun _ => ?_) (fun h => absurd h (by decide))
        skip
        refine aw_iload_n dX5_exchange_59 rfl rfl ?_
        refine aw_if_eq (tgt := 72) dX5_exchange_60 (by decide) (by decide) (fun _ => ?_) (fun h => absurd (by decide) h)
        refine aw_iconst dX5_exchange_72 ?_
        refine aw_goto (tgt := 77) dX5_exchange_73 (by decide) ?_
        refine aw_cVi (g := 30) (As := [iV 2]) (rest := []) (c_X5_holds hst M (2) (by have t1 := bw.1; have t2 := bw.2; omega)) cv_X5_holds dX5_exchange_77 ml_X5_63 rfl rfl rfl rfl rfl (Nat.le_of_ble_eq_true rfl) (by decide) rfl rfl (by decide) ?_
        refine aw_st (st' := [iV 0]) (by rw [if_neg (by decide)]) ?_
        refine aw_if_ne (tgt := 85) dX5_exchange_80 (by decide) (by decide) (fun h => absurd h (by decide)) (fun _ => ?_)
        refine aw_iconst dX5_exchange_83 ?_
        exact aw_iret dX5_exchange_84 rfl rfl (by decide) (by decide) ⟨0, rfl, (by first | (exfalso; have n1 := hw.1; have n2 := hw.2.1; have t1 := bw.1; have t2 := bw.2; omega) | exact (Or.inl ⟨by have n1 := hw.1; have n2 := hw.2.1; have t1 := bw.1; have t2 := bw.2; omega, by first | rfl | (have n1 := hw.1; have n2 := hw.2.1; have t1 := bw.1; have t2 := bw.2; omega), by rfl⟩) | exact (Or.inr (Or.inl ⟨by exact ⟨by omega, by assumption⟩, by first | rfl | (have n1 := hw.1; have n2 := hw.2.1; have t1 := bw.1; have t2 := bw.2; omega), by rfl⟩)) | exact (Or.inr (Or.inr (Or.inl (by exact ⟨⟨⟨h2, h10⟩, by rcases ff with a | a; exact a.2; (have a1 := a.1; omega)⟩, rfl, M43, fun g g1 _ g3 => h43.1 g g1 g3, rfl⟩)))) | exact (Or.inr (Or.inr (Or.inr (by exact ⟨⟨h2, h10⟩, m3, (M43 42 0 ticket - 1), by omega, fm3, fd, ⟨e3, e4m⟩, f44, by omega, by rw [show (M43 42 0 ticket - 1) + 1 = M43 42 0 ticket by omega]⟩)))))⟩
      · try have k8 : M43 30 0 8 = M 30 0 8 := (by rw [h43.1 30 (by decide) (by decide)])
        refine aw_if_ne (tgt := 59) dX5_exchange_52 (by decide) (by decide) (fun h => absurd h (by decide)) (fun _ => ?_)
        refine aw_iconst dX5_exchange_55 ?_
        refine aw_goto (tgt := 77) dX5_exchange_56 (by decide) ?_
        refine aw_cVi (g := 30) (As := [iV 1]) (rest := []) (c_X5_holds hst M (1) (by have t1 := bw.1; have t2 := bw.2; omega)) cv_X5_holds dX5_exchange_77 ml_X5_63 rfl rfl rfl rfl rfl (Nat.le_of_ble_eq_true rfl) (by decide) rfl rfl (by decide) ?_
        refine aw_st (st' := [iV 0]) (by rw [if_neg (by decide)]) ?_
        refine aw_if_ne (tgt := 85) dX5_exchange_80 (by decide) (by decide) (fun h => absurd h (by decide)) (fun _ => ?_)
        refine aw_iconst dX5_exchange_83 ?_
        exact aw_iret dX5_exchange_84 rfl rfl (by decide) (by decide) ⟨0, rfl, (by first | (exfalso; have n1 := hw.1; have n2 := hw.2.1; have t1 := bw.1; have t2 := bw.2; omega) | exact (Or.inl ⟨by have n1 := hw.1; have n2 := hw.2.1; have t1 := bw.1; have t2 := bw.2; omega, by first | rfl | (have n1 := hw.1; have n2 := hw.2.1; have t1 := bw.1; have t2 := bw.2; omega), by rfl⟩) | exact (Or.inr (Or.inl ⟨by exact ⟨by omega, by assumption⟩, by first | rfl | (have n1 := hw.1; have n2 := hw.2.1; have t1 := bw.1; have t2 := bw.2; omega), by rfl⟩)) | exact (Or.inr (Or.inr (Or.inl (by exact ⟨⟨⟨h2, h10⟩, by rcases ff with a | a; exact a.2; (have a1 := a.1; omega)⟩, rfl, M43, fun g g1 _ g3 => h43.1 g g1 g3, rfl⟩)))) | exact (Or.inr (Or.inr (Or.inr (by exact ⟨⟨h2, h10⟩, m3, (M43 42 0 ticket - 1), by omega, fm3, fd, ⟨e3, e4m⟩, f44, by omega, by rw [show (M43 42 0 ticket - 1) + 1 = M43 42 0 ticket by omega]⟩)))))⟩
  · refine aw_if_eq (tgt := 20) dX5_exchange_5 (by decide) (by decide) (fun _ => ?_) (fun h => absurd (by decide) h)
    refine aw_iconst dX5_exchange_20 ?_
    refine aw_istore_n (L2 := [some (rV K 30 0), some (iV (ticket)), some (iV 0), none, none, none, none]) dX5_exchange_21 rfl (by decide) rfl ?_
    refine aw_iload_n dX5_exchange_22 rfl rfl ?_
    refine aw_if_eq (tgt := 34) dX5_exchange_23 (by decide) (by decide) (fun _ => ?_) (fun h => absurd (by decide) h)
    refine aw_iconst dX5_exchange_34 ?_
    refine aw_istore_n (L2 := [some (rV K 30 0), some (iV (ticket)), some (iV 0), some (iV 0), none, none, none]) dX5_exchange_35 rfl (by decide) rfl ?_
    refine aw_iload_n dX5_exchange_36 rfl rfl ?_
    refine aw_if_eq (tgt := 46) dX5_exchange_37 (by decide) (by decide) (fun _ => ?_) (fun h => absurd (by decide) h)
    refine aw_aload_n dX5_exchange_46 rfl rfl ?_
    refine aw_aload_n dX5_exchange_47 rfl rfl ?_
    refine aw_iload_n dX5_exchange_48 rfl rfl ?_
    refine aw_cVb (g := 30) (As := [iV (ticket)]) (rest := [rV K 30 0]) (c_X5_isTicket hst M (ticket) (by have t1 := bw.1; have t2 := bw.2; omega) (by first | exact BWm_g bw (by rw [h43.1 30 (by decide) (by decide)]) | exact bw)) cv_X5_isTicket dX5_exchange_49 ml_X5_143 rfl rfl rfl rfl rfl (Nat.le_of_ble_eq_true rfl) (by decide) rfl rfl (by decide) (fun h49 => ?_) (fun h49 => ?_)
    · try have k8 : M43 30 0 8 = M 30 0 8 := (by rw [h43.1 30 (by decide) (by decide)])
      refine aw_if_ne (tgt := 59) dX5_exchange_52 (by decide) (by decide) (fun _ => ?_) (fun h => absurd h (by decide))
      skip
      refine aw_iload_n dX5_exchange_59 rfl rfl ?_
      refine aw_if_eq (tgt := 72) dX5_exchange_60 (by decide) (by decide) (fun _ => ?_) (fun h => absurd (by decide) h)
      refine aw_iconst dX5_exchange_72 ?_
      refine aw_goto (tgt := 77) dX5_exchange_73 (by decide) ?_
      refine aw_cVi (g := 30) (As := [iV 2]) (rest := []) (c_X5_holds hst M (2) (by have t1 := bw.1; have t2 := bw.2; omega)) cv_X5_holds dX5_exchange_77 ml_X5_63 rfl rfl rfl rfl rfl (Nat.le_of_ble_eq_true rfl) (by decide) rfl rfl (by decide) ?_
      refine aw_st (st' := [iV 0]) (by rw [if_neg (by decide)]) ?_
      refine aw_if_ne (tgt := 85) dX5_exchange_80 (by decide) (by decide) (fun h => absurd h (by decide)) (fun _ => ?_)
      refine aw_iconst dX5_exchange_83 ?_
      exact aw_iret dX5_exchange_84 rfl rfl (by decide) (by decide) ⟨0, rfl, (by first | (exfalso; have n1 := hw.1; have n2 := hw.2.1; have t1 := bw.1; have t2 := bw.2; omega) | exact (Or.inl ⟨by have n1 := hw.1; have n2 := hw.2.1; have t1 := bw.1; have t2 := bw.2; omega, by first | rfl | (have n1 := hw.1; have n2 := hw.2.1; have t1 := bw.1; have t2 := bw.2; omega), by rfl⟩) | exact (Or.inr (Or.inl ⟨by exact ⟨by omega, by assumption⟩, by first | rfl | (have n1 := hw.1; have n2 := hw.2.1; have t1 := bw.1; have t2 := bw.2; omega), by rfl⟩)) | exact (Or.inr (Or.inr (Or.inl (by exact ⟨⟨⟨h2, h10⟩, by rcases ff with a | a; exact a.2; (have a1 := a.1; omega)⟩, rfl, M43, fun g g1 _ g3 => h43.1 g g1 g3, rfl⟩)))) | exact (Or.inr (Or.inr (Or.inr (by exact ⟨⟨h2, h10⟩, m3, (M43 42 0 ticket - 1), by omega, fm3, fd, ⟨e3, e4m⟩, f44, by omega, by rw [show (M43 42 0 ticket - 1) + 1 = M43 42 0 ticket by omega]⟩)))))⟩
    · try have k8 : M43 30 0 8 = M 30 0 8 := (by rw [h43.1 30 (by decide) (by decide)])
      refine aw_if_ne (tgt := 59) dX5_exchange_52 (by decide) (by decide) (fun h => absurd h (by decide)) (fun _ => ?_)
      refine aw_iconst dX5_exchange_55 ?_
      refine aw_goto (tgt := 77) dX5_exchange_56 (by decide) ?_
      refine aw_cVi (g := 30) (As := [iV 1]) (rest := []) (c_X5_holds hst M (1) (by have t1 := bw.1; have t2 := bw.2; omega)) cv_X5_holds dX5_exchange_77 ml_X5_63 rfl rfl rfl rfl rfl (Nat.le_of_ble_eq_true rfl) (by decide) rfl rfl (by decide) ?_
      refine aw_st (st' := [iV 0]) (by rw [if_neg (by decide)]) ?_
      refine aw_if_ne (tgt := 85) dX5_exchange_80 (by decide) (by decide) (fun h => absurd h (by decide)) (fun _ => ?_)
      refine aw_iconst dX5_exchange_83 ?_
      exact aw_iret dX5_exchange_84 rfl rfl (by decide) (by decide) ⟨0, rfl, (by first | (exfalso; have n1 := hw.1; have n2 := hw.2.1; have t1 := bw.1; have t2 := bw.2; omega) | exact (Or.inl ⟨by have n1 := hw.1; have n2 := hw.2.1; have t1 := bw.1; have t2 := bw.2; omega, by first | rfl | (have n1 := hw.1; have n2 := hw.2.1; have t1 := bw.1; have t2 := bw.2; omega), by rfl⟩) | exact (Or.inr (Or.inl ⟨by exact ⟨by omega, by assumption⟩, by first | rfl | (have n1 := hw.1; have n2 := hw.2.1; have t1 := bw.1; have t2 := bw.2; omega), by rfl⟩)) | exact (Or.inr (Or.inr (Or.inl (by exact ⟨⟨⟨h2, h10⟩, by rcases ff with a | a; exact a.2; (have a1 := a.1; omega)⟩, rfl, M43, fun g g1 _ g3 => h43.1 g g1 g3, rfl⟩)))) | exact (Or.inr (Or.inr (Or.inr (by exact ⟨⟨h2, h10⟩, m3, (M43 42 0 ticket - 1), by omega, fm3, fd, ⟨e3, e4m⟩, f44, by omega, by rw [show (M43 42 0 ticket - 1) + 1 = M43 42 0 ticket by omega]⟩)))))⟩
