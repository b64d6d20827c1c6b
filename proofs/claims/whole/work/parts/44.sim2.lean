set_option maxHeartbeats 2000000 in
theorem sm_extend {M m m2 : Mem} {c ticket minutes z ans : Int} (h : INV M c) (w : (z = 1 ∧ ¬ (1 ≤ ticket ∧ ticket ≤ M 7 0 8) ∧ m = M) ∨ (z = 2 ∧ ((1 ≤ ticket ∧ ticket ≤ M 7 0 8) ∧ ¬ (1 ≤ minutes ∧ minutes ≤ 200)) ∧ m = M) ∨ (z = 3 ∧ (((1 ≤ ticket ∧ ticket ≤ M 7 0 8) ∧ (1 ≤ minutes ∧ minutes ≤ 200)) ∧ ¬ (M 8 0 ticket = 0 ∧ M 11 0 ticket < 2)) ∧ m = M) ∨ (z = 0 ∧ (((1 ≤ ticket ∧ ticket ≤ M 7 0 8) ∧ (1 ≤ minutes ∧ minutes ≤ 200)) ∧ (M 8 0 ticket = 0 ∧ M 11 0 ticket < 2)) ∧ m = updM (updM (updM M 10 0 ticket (M 0 0 4 + minutes)) 11 0 ticket (M 11 0 ticket + 1)) 45 0 0 (M 0 0 4 + minutes))) (q : ((¬ (1 ≤ ticket ∧ ticket ≤ m 30 0 8)) ∧ ans = 0 ∧ m2 = thr m 1) ∨ (((1 ≤ ticket ∧ ticket ≤ m 30 0 8) ∧ ¬ (1 ≤ minutes ∧ minutes ≤ 200)) ∧ ans = 0 ∧ m2 = thr m 2) ∨ ((((1 ≤ ticket ∧ ticket ≤ m 30 0 8) ∧ (1 ≤ minutes ∧ minutes ≤ 200)) ∧ ¬ (m 35 0 ticket = 0 ∧ m 37 0 ticket ≠ 2)) ∧ ans = 0 ∧ m2 = thr m 3) ∨ ((((1 ≤ ticket ∧ ticket ≤ m 30 0 8) ∧ (1 ≤ minutes ∧ minutes ≤ 200)) ∧ (m 35 0 ticket = 0 ∧ m 37 0 ticket ≠ 2)) ∧ ans = m 30 0 1 + minutes ∧ m2 = updM (updM (thr m 0) 37 0 ticket (m 37 0 ticket + 1)) 36 0 ticket (m 30 0 1 + minutes))) : m2 30 0 0 = z ∧ (z = 0 → m2 45 0 0 = ans) ∧ INV m2 (c + 1) := by
  have e8 := h.2.1.2.1
  rcases w with ⟨w1, w2, rfl⟩ | ⟨w1, w2, rfl⟩ | ⟨w1, w2, rfl⟩ | ⟨w1, w2, hm⟩
  iterate 3
    · rcases q with ⟨q1, q2, q3⟩ | ⟨q1, q2, q3⟩ | ⟨q1, q2, q3⟩ | ⟨q1, q2, q3⟩
      all_goals first
      | exact fin_t h q3 (by omega) (fun _ => by omega)
      | (exfalso; omega)
      | (exfalso; have ti := (h.2.1.2.2.1 ticket (by omega) (by omega)); have t1 := ti.1.1; have t2 := ti.1.2.2.1; have t3 := ti.2.2.2.1; omega)
  · have ti := h.2.1.2.2.1 ticket w2.1.1.1 w2.1.1.2
    have now := h.2.2.2.2
    have e30 : m 30 = M 30 := by subst hm; funext i j; simp [updM]
    have e31 : m 31 = M 31 := by subst hm; funext i j; simp [updM]
    have e32 : m 32 = M 32 := by subst hm; funext i j; simp [updM]
    have e33 : m 33 = M 33 := by subst hm; funext i j; simp [updM]
    have e34 : m 34 = M 34 := by subst hm; funext i j; simp [updM]
    have e35 : m 35 = M 35 := by subst hm; funext i j; simp [updM]
    have e36 : m 36 = M 36 := by subst hm; funext i j; simp [updM]
    have e37 : m 37 = M 37 := by subst hm; funext i j; simp [updM]
    have e38 : m 38 = M 38 := by subst hm; funext i j; simp [updM]
    have e39 : m 39 = M 39 := by subst hm; funext i j; simp [updM]
    rw [e30, e35, e37] at q
    rcases q with ⟨q1, q2, q3⟩ | ⟨q1, q2, q3⟩ | ⟨q1, q2, q3⟩ | ⟨q1, q2, q3⟩
    iterate 3 (exfalso; have t1 := ti.1.1; have t2 := ti.1.2.2.1; omega)
    · have d4 := h.2.2.2.1 ticket w2.1.1.1 w2.1.1.2
      have f1 : m2 1 = M 1 := by subst q3 hm; funext i j; simp [thr, updM]
      have f8 : m2 8 = M 8 := by subst q3 hm; funext i j; simp [thr, updM]
      have f9 : m2 9 = M 9 := by subst q3 hm; funext i j; simp [thr, updM]
      have f12 : m2 12 = M 12 := by subst q3 hm; funext i j; simp [thr, updM]
      have f13 : m2 13 = M 13 := by subst q3 hm; funext i j; simp [thr, updM]
      have f14 : m2 14 = M 14 := by subst q3 hm; funext i j; simp [thr, updM]
      have f15 : m2 15 = M 15 := by subst q3 hm; funext i j; simp [thr, updM]
      have f35 : m2 35 = M 35 := by subst q3 hm; funext i j; simp [thr, updM]
      have f38 : m2 38 = M 38 := by subst q3 hm; funext i j; simp [thr, updM]
      have f39 : m2 39 = M 39 := by subst q3 hm; funext i j; simp [thr, updM]
      have v10 : m2 10 0 ticket = M 0 0 4 + minutes := by subst q3 hm; simp [thr, updM]
      have v11 : m2 11 0 ticket = M 11 0 ticket + 1 := by subst q3 hm; simp [thr, updM]
      have v36 : m2 36 0 ticket = M 0 0 4 + minutes := by subst q3; simp [thr, updM]; exact now.1.symm
      have v37 : m2 37 0 ticket = M 37 0 ticket + 1 := by subst q3; simp [thr, updM]
      have kt : ∀ t : Int, t ≠ ticket → keepT M m2 t := fun t ht => keepT_o ht (fun g hg x hx => by
        have g0 : g ≠ 0 := by omega
        have g1 : g ≠ 30 := by omega
        have g2 : g ≠ 45 := by omega
        subst q3 hm
        simp [thr, updM, hx, g0, g1, g2])
      refine ⟨by rw [w1]; subst q3 hm; simp [thr, updM], fun _ => by subst q3 hm; simp [thr, updM, q2]; exact now.1, INV_up (INV_tk (n := ticket) h w2.1.1 (fun g hg => ?_) ?_ ?_ ?_ ?_ kt ?_ ?_ ?_ ?_ ?_ ?_ ?_)⟩
      · have g0 : g ≠ 30 := by omega
        have g1 : g ≠ 36 := by omega
        have g2 : g ≠ 37 := by omega
        have g3 : g ≠ 10 := by omega
        have g4 : g ≠ 11 := by omega
        have g5 : g ≠ 45 := by omega
        subst q3 hm; funext i j; simp [thr, updM, g0, g1, g2, g3, g4, g5]
      · subst q3 hm; simp [thr, updM]
      · subst q3 hm; simp [thr, updM]
      · subst q3 hm; simp [thr, updM]
      · subst q3 hm; simp [thr, updM]
      · rw [f8]; omega
      · omega
      · rw [f9]
      · rw [f13]
      · rw [f14]
      · unfold TI at ti ⊢
        rw [f35, f8, v36, v10, v37, v11, f38, f12, f39, f15]
        refine ⟨⟨ti.1.1, rfl, by have := ti.1.2.2.1; omega, ti.1.2.2.2⟩, ti.2.1, by have := now.2.1.1; omega, by have := ti.2.2.2.1; omega, ti.2.2.2.2.1, ti.2.2.2.2.2.1, ti.2.2.2.2.2.2⟩
      · have ws := d4.2
        unfold WS at ws ⊢
        rw [f15, f8, f13, f1]
        exact ws
set_option maxHeartbeats 2000000 in
theorem sm_pay {M m m2 : Mem} {c ticket z ans : Int} (h : INV M c) (w : (z = 1 ∧ ¬ (1 ≤ ticket ∧ ticket ≤ M 7 0 8) ∧ m = M) ∨ (z = 2 ∧ ((1 ≤ ticket ∧ ticket ≤ M 7 0 8) ∧ ¬ M 8 0 ticket = 0) ∧ m = M) ∨ (z = 0 ∧ ((1 ≤ ticket ∧ ticket ≤ M 7 0 8) ∧ M 8 0 ticket = 0) ∧ m = updM (updM (updM (updM M 8 0 ticket 1) 12 0 ticket (priceM M ticket)) 0 0 5 (M 0 0 5 + priceM M ticket)) 45 0 0 (priceM M ticket))) (q : ((¬ (1 ≤ ticket ∧ ticket ≤ m 30 0 8)) ∧ ans = 0 ∧ m2 = thr m 1) ∨ (((1 ≤ ticket ∧ ticket ≤ m 30 0 8) ∧ ¬ m 35 0 ticket = 0) ∧ ans = 0 ∧ m2 = thr m 2) ∨ (((1 ≤ ticket ∧ ticket ≤ m 30 0 8) ∧ m 35 0 ticket = 0) ∧ ans = pricM m ticket ∧ m2 = updM (updM (updM (thr m 0) 35 0 ticket 1) 38 0 ticket (pricM m ticket)) 30 0 2 (m 30 0 2 + pricM m ticket))) : m2 30 0 0 = z ∧ (z = 0 → m2 45 0 0 = ans) ∧ INV m2 (c + 1) := by
  have e8 := h.2.1.2.1
  rcases w with ⟨w1, w2, rfl⟩ | ⟨w1, w2, rfl⟩ | ⟨w1, w2, hm⟩
  iterate 2
    · rcases q with ⟨q1, q2, q3⟩ | ⟨q1, q2, q3⟩ | ⟨q1, q2, q3⟩
      all_goals first
      | exact fin_t h q3 (by omega) (fun _ => by omega)
      | (exfalso; omega)
      | (exfalso; have ti := (h.2.1.2.2.1 ticket (by omega) (by omega)); have t1 := ti.1.1; have t2 := ti.1.2.2.1; have t3 := ti.2.2.2.1; omega)
  · have ti := h.2.1.2.2.1 ticket w2.1.1 w2.1.2
    have pe := h.price w2.1.1
    have pb : 0 ≤ priceM M ticket ∧ priceM M ticket ≤ 2400000 := price_bd h.hw ticket
    have e30 : m 30 = M 30 := by subst hm; funext i j; simp [updM]
    have e31 : m 31 = M 31 := by subst hm; funext i j; simp [updM]
    have e32 : m 32 = M 32 := by subst hm; funext i j; simp [updM]
    have e33 : m 33 = M 33 := by subst hm; funext i j; simp [updM]
    have e34 : m 34 = M 34 := by subst hm; funext i j; simp [updM]
    have e35 : m 35 = M 35 := by subst hm; funext i j; simp [updM]
    have e36 : m 36 = M 36 := by subst hm; funext i j; simp [updM]
    have e37 : m 37 = M 37 := by subst hm; funext i j; simp [updM]
    have e38 : m 38 = M 38 := by subst hm; funext i j; simp [updM]
    have e39 : m 39 = M 39 := by subst hm; funext i j; simp [updM]
    have em : pricM m ticket = pricM M ticket := by unfold pricM; rw [e33, e34]
    rw [e30, e35, em, ← pe] at q
    rcases q with ⟨q1, q2, q3⟩ | ⟨q1, q2, q3⟩ | ⟨q1, q2, q3⟩
    iterate 2 (exfalso; have t1 := ti.1.1; omega)
    · have d4 := h.2.2.2.1 ticket w2.1.1 w2.1.2
      refine ⟨by rw [w1]; subst q3 hm; simp [thr, updM], fun _ => by subst q3 hm; simp [thr, updM, q2], ?_⟩
      have hX : INV (fun g => if g = 0 then M 0 else if g = 30 then M 30 else m2 g) c := by
        generalize hXe : (fun g => if g = 0 then M 0 else if g = 30 then M 30 else m2 g : Mem) = X
        have X0 : X 0 = M 0 := by rw [← hXe]; rfl
        have X30 : X 30 = M 30 := by rw [← hXe]; rfl
        have Xg : ∀ g : Nat, g ≠ 0 → g ≠ 30 → X g = m2 g := fun g a b => by rw [← hXe]; show (if g = 0 then M 0 else if g = 30 then M 30 else m2 g) = m2 g; rw [if_neg a, if_neg b]
        have f1 : X 1 = M 1 := by rw [Xg 1 (by decide) (by decide)]; subst q3 hm; funext i j; simp [thr, updM]
        have f9 : X 9 = M 9 := by rw [Xg 9 (by decide) (by decide)]; subst q3 hm; funext i j; simp [thr, updM]
        have f10 : X 10 = M 10 := by rw [Xg 10 (by decide) (by decide)]; subst q3 hm; funext i j; simp [thr, updM]
        have f11 : X 11 = M 11 := by rw [Xg 11 (by decide) (by decide)]; subst q3 hm; funext i j; simp [thr, updM]
        have f13 : X 13 = M 13 := by rw [Xg 13 (by decide) (by decide)]; subst q3 hm; funext i j; simp [thr, updM]
        have f14 : X 14 = M 14 := by rw [Xg 14 (by decide) (by decide)]; subst q3 hm; funext i j; simp [thr, updM]
        have f15 : X 15 = M 15 := by rw [Xg 15 (by decide) (by decide)]; subst q3 hm; funext i j; simp [thr, updM]
        have f36 : X 36 = M 36 := by rw [Xg 36 (by decide) (by decide)]; subst q3 hm; funext i j; simp [thr, updM]
        have f37 : X 37 = M 37 := by rw [Xg 37 (by decide) (by decide)]; subst q3 hm; funext i j; simp [thr, updM]
        have f39 : X 39 = M 39 := by rw [Xg 39 (by decide) (by decide)]; subst q3 hm; funext i j; simp [thr, updM]
        have v8 : X 8 0 ticket = 1 := by rw [Xg 8 (by decide) (by decide)]; subst q3 hm; simp [thr, updM]
        have v12 : X 12 0 ticket = priceM M ticket := by rw [Xg 12 (by decide) (by decide)]; subst q3 hm; simp [thr, updM]
        have v35 : X 35 0 ticket = 1 := by rw [Xg 35 (by decide) (by decide)]; subst q3 hm; simp [thr, updM]
        have v38 : X 38 0 ticket = priceM M ticket := by rw [Xg 38 (by decide) (by decide)]; subst q3 hm; simp [thr, updM]
        refine INV_tk (n := ticket) h w2.1 (fun g hg => ?_) (by rw [X30]) (by rw [X30]) (by rw [X30]) (by rw [X30]) (fun t ht => keepT_o ht (fun g hg x hx => ?_)) (by omega) (by omega) (by rw [f9]) (by rw [f13]) (by rw [f14]) ?_ ?_
        · by_cases g0 : g = 0
          · rw [g0, X0]
          · have g1 : g ≠ 30 := by omega
            have g2 : g ≠ 35 := by omega
            have g3 : g ≠ 38 := by omega
            have g4 : g ≠ 8 := by omega
            have g5 : g ≠ 12 := by omega
            have g6 : g ≠ 45 := by omega
            rw [Xg g g0 g1]
            subst q3 hm; funext i j; simp [thr, updM, g0, g1, g2, g3, g4, g5, g6]
        · have g0 : g ≠ 0 := by omega
          have g1 : g ≠ 30 := by omega
          have g2 : g ≠ 45 := by omega
          rw [Xg g g0 g1]
          subst q3 hm
          simp [thr, updM, hx, g0, g1, g2]
        · unfold TI at ti ⊢
          rw [v35, v8, f36, f10, f37, f11, v38, v12, f39, f15]
          exact ⟨⟨rfl, ti.1.2.1, ti.1.2.2.1, rfl⟩, by omega, ti.2.2.1, ti.2.2.2.1, pb, fun _ => ti.2.2.2.2.2.1 (by omega), fun q => absurd rfl q⟩
        · have ws := d4.2
          unfold WS at ws ⊢
          rw [f15, v8, f13, f1]
          exact fun q => by have := ws q; omega
      exact INV_bal (d := priceM M ticket) hX (fun g g0 g1 => (by show m2 g = (if g = 0 then M 0 else if g = 30 then M 30 else m2 g); rw [if_neg g0, if_neg (by omega)])) (by show m2 0 0 4 = M 0 0 4; subst q3 hm; simp [thr, updM]) (by show m2 0 0 5 = M 0 0 5 + _; subst q3 hm; simp [thr, updM]) (by show m2 30 0 1 = M 30 0 1; subst q3 hm; simp [thr, updM]) (by show m2 30 0 2 = M 30 0 2 + _; subst q3 hm; simp [thr, updM]) (by show m2 30 0 3 = M 30 0 3; subst q3 hm; simp [thr, updM]) (by show m2 30 0 8 = M 30 0 8; subst q3 hm; simp [thr, updM]) (by omega)
set_option maxHeartbeats 2000000 in
theorem sm_wish {M m m2 : Mem} {c ticket row z ans : Int} (h : INV M c) (w : (z = 1 ∧ ¬ ((1 ≤ ticket ∧ ticket ≤ M 7 0 8) ∧ (0 ≤ row ∧ row < M 1 0 4)) ∧ m = M) ∨ (z = 2 ∧ (((1 ≤ ticket ∧ ticket ≤ M 7 0 8) ∧ (0 ≤ row ∧ row < M 1 0 4)) ∧ ¬ (M 8 0 ticket = 1 ∧ M 13 0 ticket ≠ -1 ∧ M 13 0 ticket ≠ row)) ∧ m = M) ∨ (z = 0 ∧ (((1 ≤ ticket ∧ ticket ≤ M 7 0 8) ∧ (0 ≤ row ∧ row < M 1 0 4)) ∧ (M 8 0 ticket = 1 ∧ M 13 0 ticket ≠ -1 ∧ M 13 0 ticket ≠ row)) ∧ m = updM (updM M 15 0 ticket row) 45 0 0 (M 15 0 ticket))) (q : ((¬ ((1 ≤ ticket ∧ ticket ≤ m 30 0 8) ∧ (0 ≤ row ∧ row < m 30 0 3))) ∧ ans = 0 ∧ m2 = thr m 1) ∨ ((((1 ≤ ticket ∧ ticket ≤ m 30 0 8) ∧ (0 ≤ row ∧ row < m 30 0 3)) ∧ ¬ (m 35 0 ticket = 1 ∧ ∃ f g : Int, isFst (m 34 0) ticket 240 f ∧ isLst (m 34 0) ticket 240 g ∧ f / 20 = g / 20 ∧ f / 20 ≠ row)) ∧ ans = 0 ∧ m2 = thr m 2) ∨ ((((1 ≤ ticket ∧ ticket ≤ m 30 0 8) ∧ (0 ≤ row ∧ row < m 30 0 3)) ∧ (m 35 0 ticket = 1 ∧ ∃ f g : Int, isFst (m 34 0) ticket 240 f ∧ isLst (m 34 0) ticket 240 g ∧ f / 20 = g / 20 ∧ f / 20 ≠ row)) ∧ ans = m 39 0 ticket ∧ m2 = updM (thr m 0) 39 0 ticket row)) : m2 30 0 0 = z ∧ (z = 0 → m2 45 0 0 = ans) ∧ INV m2 (c + 1) := by
  have e8 := h.2.1.2.1
  have e3 := h.row.1
  have WE : 1 ≤ ticket → ticket ≤ M 7 0 8 → ((M 35 0 ticket = 1 ∧ ∃ f g : Int, isFst (M 34 0) ticket 240 f ∧ isLst (M 34 0) ticket 240 g ∧ f / 20 = g / 20 ∧ f / 20 ≠ row) ↔ (M 8 0 ticket = 1 ∧ M 13 0 ticket ≠ -1 ∧ M 13 0 ticket ≠ row)) := fun t1 t2 => h.mayW t1 t2
  rcases w with ⟨w1, w2, rfl⟩ | ⟨w1, w2, rfl⟩ | ⟨w1, w2, hm⟩
  · rcases q with ⟨q1, q2, q3⟩ | ⟨q1, q2, q3⟩ | ⟨q1, q2, q3⟩
    all_goals first
      | exact fin_t h q3 (by omega) (fun _ => by omega)
      | (exfalso; omega)
      | (exfalso; have ti := (h.2.1.2.2.1 ticket (by omega) (by omega)); have t1 := ti.1.1; have t2 := ti.1.2.2.1; have t3 := ti.2.2.2.1; omega)
  · have we := WE w2.1.1.1 w2.1.1.2
    rcases q with ⟨q1, q2, q3⟩ | ⟨q1, q2, q3⟩ | ⟨q1, q2, q3⟩
    · exfalso; omega
    · exact fin_t h q3 (by omega) (fun _ => by omega)
    · exact absurd (we.mp q1.2) w2.2
  · have we := WE w2.1.1.1 w2.1.1.2
    have ti := h.2.1.2.2.1 ticket w2.1.1.1 w2.1.1.2
    have e30 : m 30 = M 30 := by subst hm; funext i j; simp [updM]
    have e31 : m 31 = M 31 := by subst hm; funext i j; simp [updM]
    have e34 : m 34 = M 34 := by subst hm; funext i j; simp [updM]
    have e35 : m 35 = M 35 := by subst hm; funext i j; simp [updM]
    have e39 : m 39 = M 39 := by subst hm; funext i j; simp [updM]
    rw [e30, e34, e35] at q
    rcases q with ⟨q1, q2, q3⟩ | ⟨q1, q2, q3⟩ | ⟨q1, q2, q3⟩
    · exfalso; omega
    · exact absurd (we.mpr w2.2) q1.2
    · have d4 := h.2.2.2.1 ticket w2.1.1.1 w2.1.1.2
      have f1 : m2 1 = M 1 := by subst q3 hm; funext i j; simp [thr, updM]
      have f8 : m2 8 = M 8 := by subst q3 hm; funext i j; simp [thr, updM]
      have f9 : m2 9 = M 9 := by subst q3 hm; funext i j; simp [thr, updM]
      have f10 : m2 10 = M 10 := by subst q3 hm; funext i j; simp [thr, updM]
      have f11 : m2 11 = M 11 := by subst q3 hm; funext i j; simp [thr, updM]
      have f12 : m2 12 = M 12 := by subst q3 hm; funext i j; simp [thr, updM]
      have f13 : m2 13 = M 13 := by subst q3 hm; funext i j; simp [thr, updM]
      have f14 : m2 14 = M 14 := by subst q3 hm; funext i j; simp [thr, updM]
      have f35 : m2 35 = M 35 := by subst q3 hm; funext i j; simp [thr, updM]
      have f36 : m2 36 = M 36 := by subst q3 hm; funext i j; simp [thr, updM]
      have f37 : m2 37 = M 37 := by subst q3 hm; funext i j; simp [thr, updM]
      have f38 : m2 38 = M 38 := by subst q3 hm; funext i j; simp [thr, updM]
      have v15 : m2 15 0 ticket = row := by subst q3 hm; simp [thr, updM]
      have v39 : m2 39 0 ticket = row := by subst q3; simp [thr, updM]
      have kt : ∀ t : Int, t ≠ ticket → keepT M m2 t := fun t ht => keepT_o ht (fun g hg x hx => by
        have g0 : g ≠ 0 := by omega
        have g1 : g ≠ 30 := by omega
        have g2 : g ≠ 45 := by omega
        subst q3 hm
        simp [thr, updM, hx, g0, g1, g2])
      have e39' : ans = M 15 0 ticket := by rw [q2, e39]; exact ti.2.2.2.2.2.1 (by omega)
      refine ⟨by rw [w1]; subst q3 hm; simp [thr, updM], fun _ => by rw [e39']; subst q3 hm; simp [thr, updM], INV_up (INV_tk (n := ticket) h w2.1.1 (fun g hg => ?_) ?_ ?_ ?_ ?_ kt ?_ ?_ ?_ ?_ ?_ ?_ ?_)⟩
      · have g0 : g ≠ 30 := by omega
        have g1 : g ≠ 15 := by omega
        have g2 : g ≠ 39 := by omega
        have g5 : g ≠ 45 := by omega
        subst q3 hm; funext i j; simp [thr, updM, g0, g1, g2, g5]
      · subst q3 hm; simp [thr, updM]
      · subst q3 hm; simp [thr, updM]
      · subst q3 hm; simp [thr, updM]
      · subst q3 hm; simp [thr, updM]
      · rw [f8]; omega
      · omega
      · rw [f9]
      · rw [f13]
      · rw [f14]
      · unfold TI at ti ⊢
        rw [f35, f8, f36, f10, f37, f11, f38, f12, v39, v15]
        exact ⟨ti.1, ti.2.1, ti.2.2.1, ti.2.2.2.1, ti.2.2.2.2.1, fun _ => rfl, fun q => absurd w2.2.1 q⟩
      · unfold WS
        rw [v15, f8, f13, f1]
        exact fun _ => by omega
set_option maxHeartbeats 2000000 in
theorem sm_hold {M m m2 : Mem} {c seats minutes z ans : Int} (h : INV M c) (w : (z = 1 ∧ ¬ ((1 ≤ seats ∧ seats ≤ 20) ∧ (1 ≤ minutes ∧ minutes ≤ 200)) ∧ m = M) ∨ (z = 2 ∧ (((1 ≤ seats ∧ seats ≤ 20) ∧ (1 ≤ minutes ∧ minutes ≤ 200)) ∧ (bestM M seats (-1) ∨ ¬ M 7 0 8 < 100)) ∧ m = M) ∨ (z = 0 ∧ ((1 ≤ seats ∧ seats ≤ 20) ∧ (1 ≤ minutes ∧ minutes ≤ 200)) ∧ M 7 0 8 < 100 ∧ ∃ y, (bestM M seats y ∧ y ≠ -1) ∧ m = updM (grM M (y / 100) (y % 100) seats minutes) 45 0 0 (M 7 0 8 + 1))) (q : ((¬ ((1 ≤ seats ∧ seats ≤ 20) ∧ (1 ≤ minutes ∧ minutes ≤ 200))) ∧ ans = 0 ∧ m2 = thr m 1) ∨ ((((1 ≤ seats ∧ seats ≤ 20) ∧ (1 ≤ minutes ∧ minutes ≤ 200)) ∧ (bestG (m 30 0 3) (m 31 0) (oMd m) (m 32 0) seats (-1) ∨ ¬ m 30 0 8 < 100)) ∧ ans = 0 ∧ m2 = thr m 2) ∨ ((((1 ≤ seats ∧ seats ≤ 20) ∧ (1 ≤ minutes ∧ minutes ≤ 200)) ∧ m 30 0 8 < 100 ∧ ∃ b, (bestG (m 30 0 3) (m 31 0) (oMd m) (m 32 0) seats b ∧ b ≠ -1) ∧ m2 = ownM (grtM (thr m 0) minutes) (b / 100) (b % 100) seats (m 30 0 8 + 1)) ∧ ans = m 30 0 8 + 1)) : m2 30 0 0 = z ∧ (z = 0 → m2 45 0 0 = ans) ∧ INV m2 (c + 1) := by
  have e8 := h.2.1.2.1
  have B : ∀ {y : Int}, 1 ≤ seats → (bestM M seats y ↔ bestG (M 30 0 3) (M 31 0) (oMd M) (M 32 0) seats y) := fun {y} s1 => h.best (by omega)
  rcases w with ⟨w1, w2, rfl⟩ | ⟨w1, w2, rfl⟩ | ⟨w1, w2, w3, y, ⟨w4, w5⟩, hm⟩
  · rcases q with ⟨q1, q2, q3⟩ | ⟨q1, q2, q3⟩ | ⟨⟨q1, q4, x, ⟨q5, q6⟩, q3⟩, q2⟩
    · exact fin_t h q3 (by omega) (fun _ => by omega)
    · exact absurd q1.1 w2
    · exact absurd q1 w2
  · rcases q with ⟨q1, q2, q3⟩ | ⟨q1, q2, q3⟩ | ⟨⟨q1, q4, x, ⟨q5, q6⟩, q3⟩, q2⟩
    · exact absurd w2.1 q1
    · exact fin_t h q3 (by omega) (fun _ => by omega)
    · rcases w2.2 with a | a
      · exact absurd (bestG_u q5 ((B q1.1.1).mp a)) q6
      · omega
  · have ba := bestG_at w2.1.1 (fun r r0 r1 => (h.hw.2.2 r r0 r1).2.1) w4 w5
    have e30 : m 30 = M 30 := by rw [hm, updM_g (by decide), grM_g (by decide)]
    have e31 : m 31 = M 31 := by rw [hm, updM_g (by decide), grM_g (by decide)]
    have e32 : m 32 = M 32 := by rw [hm, updM_g (by decide), grM_g (by decide)]
    have e34 : m 34 = M 34 := by rw [hm, updM_g (by decide), grM_g (by decide)]
    have eo : oMd m = oMd M := by funext r s; unfold oMd; rw [e34]
    rw [e30, e31, e32, eo] at q
    rcases q with ⟨q1, q2, q3⟩ | ⟨q1, q2, q3⟩ | ⟨⟨q1, q4, x, ⟨q5, q6⟩, q3⟩, q2⟩
    · exact absurd w2 q1
    · rcases q1.2 with a | a
      · exact absurd (bestG_u ((B w2.1.1).mp w4) a) w5
      · omega
    · have e := bestG_u ((B w2.1.1).mp w4) q5
      subst e
      have N := new_blk (m2 := m2) h w3 ⟨ba.1, ba.2.1⟩ ⟨ba.2.2.1, w2.1.1, ba.2.2.2.1⟩ ba.2.2.2.2.1 w2.2.1 hm (by rw [e30]; exact q3)
      exact ⟨by rw [w1]; exact N.2.1, fun _ => by rw [N.2.2, q2]; omega, INV_up N.1⟩
set_option maxHeartbeats 2000000 in
theorem sm_holdAt {M m m2 : Mem} {c row first seats minutes z ans : Int} (h : INV M c) (w : (z = 1 ∧ ¬ (0 ≤ row ∧ row < M 1 0 4 ∧ 0 ≤ first ∧ first < M 2 0 row) ∧ m = M) ∨ (z = 2 ∧ ((0 ≤ row ∧ row < M 1 0 4 ∧ 0 ≤ first ∧ first < M 2 0 row) ∧ ¬ ((1 ≤ seats ∧ seats ≤ 20) ∧ (1 ≤ minutes ∧ minutes ≤ 200))) ∧ m = M) ∨ (z = 3 ∧ (((0 ≤ row ∧ row < M 1 0 4 ∧ 0 ≤ first ∧ first < M 2 0 row) ∧ ((1 ≤ seats ∧ seats ≤ 20) ∧ (1 ≤ minutes ∧ minutes ≤ 200))) ∧ (¬ (1 ≤ seats ∧ 0 ≤ first ∧ first + seats ≤ M 2 0 row ∧ allF (M 6 row) first seats) ∨ ¬ M 7 0 8 < 100)) ∧ m = M) ∨ (z = 0 ∧ (((0 ≤ row ∧ row < M 1 0 4 ∧ 0 ≤ first ∧ first < M 2 0 row) ∧ ((1 ≤ seats ∧ seats ≤ 20) ∧ (1 ≤ minutes ∧ minutes ≤ 200))) ∧ (1 ≤ seats ∧ 0 ≤ first ∧ first + seats ≤ M 2 0 row ∧ allF (M 6 row) first seats) ∧ M 7 0 8 < 100) ∧ m = updM (grM M row first seats minutes) 45 0 0 (M 7 0 8 + 1))) (q : ((¬ (0 ≤ row ∧ row < m 30 0 3 ∧ 0 ≤ first ∧ first < m 31 0 row)) ∧ ans = 0 ∧ m2 = thr m 1) ∨ (((0 ≤ row ∧ row < m 30 0 3 ∧ 0 ≤ first ∧ first < m 31 0 row) ∧ ¬ ((1 ≤ seats ∧ seats ≤ 20) ∧ (1 ≤ minutes ∧ minutes ≤ 200))) ∧ ans = 0 ∧ m2 = thr m 2) ∨ ((((0 ≤ row ∧ row < m 30 0 3 ∧ 0 ≤ first ∧ first < m 31 0 row) ∧ ((1 ≤ seats ∧ seats ≤ 20) ∧ (1 ≤ minutes ∧ minutes ≤ 200))) ∧ (¬ (1 ≤ seats ∧ 0 ≤ first ∧ first + seats ≤ m 31 0 row ∧ allF (oMd m row) first seats) ∨ ¬ m 30 0 8 < 100)) ∧ ans = 0 ∧ m2 = thr m 3) ∨ ((((0 ≤ row ∧ row < m 30 0 3 ∧ 0 ≤ first ∧ first < m 31 0 row) ∧ ((1 ≤ seats ∧ seats ≤ 20) ∧ (1 ≤ minutes ∧ minutes ≤ 200))) ∧ (1 ≤ seats ∧ 0 ≤ first ∧ first + seats ≤ m 31 0 row ∧ allF (oMd m row) first seats) ∧ m 30 0 8 < 100) ∧ ans = m 30 0 8 + 1 ∧ m2 = ownM (grtM (thr m 0) minutes) row first seats (m 30 0 8 + 1))) : m2 30 0 0 = z ∧ (z = 0 → m2 45 0 0 = ans) ∧ INV m2 (c + 1) := by
  have e8 := h.2.1.2.1
  have e3 := h.row.1
  have A : 0 ≤ row → row < M 1 0 4 → M 31 0 row = M 2 0 row ∧ (0 ≤ first → first + seats ≤ M 2 0 row → (allF (M 6 row) first seats ↔ allF (oMd M row) first seats)) := fun r0 r1 => ⟨(h.row.2 row r0 r1).1, fun f0 f1 => ⟨fun a s s0 s1 => by rw [h.own r0 r1 (by omega) (by omega)]; exact a s s0 s1, fun a s s0 s1 => by rw [← h.own r0 r1 (by omega) (by omega)]; exact a s s0 s1⟩⟩
  rcases w with ⟨w1, w2, rfl⟩ | ⟨w1, w2, rfl⟩ | ⟨w1, w2, rfl⟩ | ⟨w1, w2, hm⟩
  · rcases q with ⟨q1, q2, q3⟩ | ⟨q1, q2, q3⟩ | ⟨q1, q2, q3⟩ | ⟨q1, q2, q3⟩
    · exact fin_t h q3 (by omega) (fun _ => by omega)
    all_goals (exfalso; have a := (A (by omega) (by omega)).1; omega)
  · have a := A w2.1.1 w2.1.2.1
    rcases q with ⟨q1, q2, q3⟩ | ⟨q1, q2, q3⟩ | ⟨q1, q2, q3⟩ | ⟨q1, q2, q3⟩
    · exfalso; have a1 := a.1; omega
    · exact fin_t h q3 (by omega) (fun _ => by omega)
    · exact absurd q1.1.2 w2.2
    · exact absurd q1.1.2 w2.2
  · have a := A w2.1.1.1 w2.1.1.2.1
    rcases q with ⟨q1, q2, q3⟩ | ⟨q1, q2, q3⟩ | ⟨q1, q2, q3⟩ | ⟨q1, q2, q3⟩
    · exfalso; have a1 := a.1; omega
    · exact absurd w2.1.2 q1.2
    · exact fin_t h q3 (by omega) (fun _ => by omega)
    · exfalso
      have a1 := a.1
      rcases w2.2 with b | b
      · exact b ⟨by omega, by omega, by omega, (a.2 (by omega) (by omega)).mpr q1.2.1.2.2.2⟩
      · omega
  · have a := A w2.1.1.1 w2.1.1.2.1
    have e30 : m 30 = M 30 := by rw [hm, updM_g (by decide), grM_g (by decide)]
    have e31 : m 31 = M 31 := by rw [hm, updM_g (by decide), grM_g (by decide)]
    have e32 : m 32 = M 32 := by rw [hm, updM_g (by decide), grM_g (by decide)]
    have e34 : m 34 = M 34 := by rw [hm, updM_g (by decide), grM_g (by decide)]
    have eo : oMd m = oMd M := by funext r s; unfold oMd; rw [e34]
    rw [e30, e31, eo] at q
    rcases q with ⟨q1, q2, q3⟩ | ⟨q1, q2, q3⟩ | ⟨q1, q2, q3⟩ | ⟨q1, q2, q3⟩
    · exfalso; have a1 := a.1; omega
    · exact absurd w2.1.2 q1.2
    · exfalso
      have a1 := a.1
      rcases q1.2 with b | b
      · exact b ⟨by omega, by omega, by omega, (a.2 (by omega) (by omega)).mp w2.2.1.2.2.2⟩
      · omega
    · have N := new_blk (m2 := m2) h w2.2.2 ⟨w2.1.1.1, w2.1.1.2.1⟩ ⟨w2.2.1.2.1, w2.2.1.1, w2.2.1.2.2.1⟩ w2.2.1.2.2.2 w2.1.2.2.1 hm (by rw [e30]; exact q3)
      exact ⟨by rw [w1]; exact N.2.1, fun _ => by rw [N.2.2, q2]; omega, INV_up N.1⟩
set_option maxHeartbeats 2000000 in
theorem sm_cancel {M m m2 : Mem} {c ticket z ans : Int} (h : INV M c) (w : (z = 1 ∧ ¬ (1 ≤ ticket ∧ ticket ≤ M 7 0 8) ∧ m = M) ∨ (z = 2 ∧ ((1 ≤ ticket ∧ ticket ≤ M 7 0 8) ∧ ¬ (M 8 0 ticket = 0 ∨ M 8 0 ticket = 1)) ∧ m = M) ∨ (z = 0 ∧ ((1 ≤ ticket ∧ ticket ≤ M 7 0 8) ∧ (M 8 0 ticket = 0 ∨ M 8 0 ticket = 1)) ∧ m = updM (updM (clM M ticket 3) 0 0 5 (M 0 0 5 - M 12 0 ticket)) 45 0 0 (M 12 0 ticket))) (q : ((¬ (1 ≤ ticket ∧ ticket ≤ m 30 0 8)) ∧ ans = 0 ∧ m2 = thr m 1) ∨ (((1 ≤ ticket ∧ ticket ≤ m 30 0 8) ∧ 1 < m 35 0 ticket) ∧ ans = 0 ∧ m2 = thr m 2) ∨ (((1 ≤ ticket ∧ ticket ≤ m 30 0 8) ∧ ¬ 1 < m 35 0 ticket) ∧ ans = m 38 0 ticket ∧ m2 = updM (cloM (thr m 0) ticket 3 240) 30 0 2 (m 30 0 2 - m 38 0 ticket))) : m2 30 0 0 = z ∧ (z = 0 → m2 45 0 0 = ans) ∧ INV m2 (c + 1) := by
  have e8 := h.2.1.2.1
  rcases w with ⟨w1, w2, rfl⟩ | ⟨w1, w2, rfl⟩ | ⟨w1, w2, hm⟩
  · rcases q with ⟨q1, q2, q3⟩ | ⟨q1, q2, q3⟩ | ⟨q1, q2, q3⟩
    all_goals first
      | exact fin_t h q3 (by omega) (fun _ => by omega)
      | (exfalso; omega)
      | (exfalso; have ti := (h.2.1.2.2.1 ticket (by omega) (by omega)); have t1 := ti.1.1; have t2 := ti.1.2.2.1; have t3 := ti.2.2.2.1; omega)
  · have ti := h.2.1.2.2.1 ticket w2.1.1 w2.1.2
    have t1 := ti.1.1
    have t2 := ti.2.1
    rcases q with ⟨q1, q2, q3⟩ | ⟨q1, q2, q3⟩ | ⟨q1, q2, q3⟩
    · exfalso; omega
    · exact fin_t h q3 (by omega) (fun _ => by omega)
    · exfalso; omega
  · have ti := h.2.1.2.2.1 ticket w2.1.1 w2.1.2
    have t1 := ti.1.1
    have M45 : m 45 0 0 = M 12 0 ticket := by rw [hm, updM_same]
    have hi : ∀ g : Nat, 30 ≤ g → g ≠ 45 → m g = M g := fun g g1 g2 => by rw [hm, updM_g g2, updM_g (by omega), clM_g (by omega) (by omega) (by omega)]
    have lo : ∀ g : Nat, g < 16 → g ≠ 0 → m g = clM M ticket 3 g := fun g g1 g2 => by rw [hm, updM_g (by omega), updM_g g2]
    have e30 : m 30 = M 30 := hi 30 (by decide) (by decide)
    have e35 : m 35 = M 35 := hi 35 (by decide) (by decide)
    have e38 : m 38 = M 38 := hi 38 (by decide) (by decide)
    rw [e30, e35, e38] at q
    rcases q with ⟨q1, q2, q3⟩ | ⟨q1, q2, q3⟩ | ⟨q1, q2, q3⟩
    · exfalso; omega
    · exfalso; omega
    · have T : ∀ g : Nat, g ≠ 34 → g ≠ 35 → g ≠ 30 → m2 g = m g := fun g g1 g2 g3 => by rw [q3, updM_g g3, cloM_g g1 g2, thr_g g3]
      have hX : INV (fun g => if g = 0 then M 0 else if g = 30 then M 30 else m2 g) c := by
        refine clo_both (t := ticket) (how := 3) h w2.1 (Or.inr rfl) (fun g g1 => ?_) (fun g g1 g2 => ?_)
        · show (if g = 0 then M 0 else if g = 30 then M 30 else m2 g) = _
          by_cases g0 : g = 0
          · rw [if_pos g0, g0, clM_g (by decide) (by decide) (by decide)]
          · rw [if_neg g0, if_neg (by omega), T g (by omega) (by omega) (by omega), lo g g1 g0]
        · show (if g = 0 then M 0 else if g = 30 then M 30 else m2 g) = _
          rw [if_neg (by omega)]
          by_cases g0 : g = 30
          · rw [if_pos g0, g0, cloM_g (by decide) (by decide)]
          · rw [if_neg g0, q3, updM_g g0]
            funext i j
            unfold cloM
            rw [thr_g g0, thr_g (show (34 : Nat) ≠ 30 by decide), hi g g1 (by omega), hi 34 (by decide) (by decide)]
      have pd := ti.2.2.2.2.1
      have p30 : ∀ j : Int, j ≠ 0 → j ≠ 2 → m2 30 0 j = M 30 0 j := fun j j0 j2 => by rw [q3, updM_j j2, cloM_g (by decide) (by decide), thr_j j0, e30]
      refine ⟨?_, fun _ => ?_, INV_bal (d := -(M 12 0 ticket)) hX (fun g g0 g1 => (by show m2 g = (if g = 0 then M 0 else if g = 30 then M 30 else m2 g); rw [if_neg g0, if_neg (by omega)])) ?_ ?_ ?_ ?_ ?_ ?_ (by omega)⟩
      · rw [w1, q3, updM_j (by decide), cloM_g (by decide) (by decide)]; exact updM_same
      · rw [T 45 (by decide) (by decide) (by decide), M45, q2]; exact ti.1.2.2.2.symm
      · show m2 0 0 4 = M 0 0 4
        rw [T 0 (by decide) (by decide) (by decide), hm, updM_g (by decide), updM_j (by decide), clM_g (by decide) (by decide) (by decide)]
      · show m2 0 0 5 = M 0 0 5 + _
        rw [T 0 (by decide) (by decide) (by decide), hm, updM_g (by decide), updM_same]
        omega
      · exact p30 1 (by decide) (by decide)
      · show m2 30 0 2 = M 30 0 2 + _
        rw [q3, updM_same]
        have := ti.1.2.2.2
        omega
      · exact p30 3 (by decide) (by decide)
      · exact p30 8 (by decide) (by decide)
set_option maxHeartbeats 2000000 in
theorem sm_pass {M m m2 : Mem} {c minutes z ans : Int} (h : INV M c) (w : (z = 1 ∧ ¬ (1 ≤ minutes ∧ minutes ≤ 1000) ∧ m = M) ∨ (z = 0 ∧ (1 ≤ minutes ∧ minutes ≤ 1000) ∧ m = updM (passM M minutes) 45 0 0 (passC M minutes))) (q : ((¬ (1 ≤ minutes ∧ minutes ≤ 1000)) ∧ ans = 0 ∧ m2 = thr m 1) ∨ (((1 ≤ minutes ∧ minutes ≤ 1000) ∧ ans = pdaC m minutes) ∧ m2 = pdaM m minutes)) : m2 30 0 0 = z ∧ (z = 0 → m2 45 0 0 = ans) ∧ INV m2 (c + 1) := by
  rcases w with ⟨w1, w2, rfl⟩ | ⟨w1, w2, hm⟩
  · rcases q with ⟨q1, q2, q3⟩ | ⟨⟨q1, q2⟩, q3⟩
    · exact fin_t h q3 (by omega) (fun _ => by omega)
    · exact absurd q1 w2
  · rcases q with ⟨q1, q2, q3⟩ | ⟨⟨q1, q2⟩, q3⟩
    · exact absurd w2 q1
    · have e8 := h.2.1.2.1
      have bw := h.bw
      have now := h.2.2.2.2.1
      have hi : ∀ g : Nat, 15 < g → g ≠ 45 → m g = M g := fun g g1 g2 => by rw [hm, updM_g g2]; unfold passM; rw [psS_g (by omega) (by omega) (by omega), updM_g (by omega)]
      have e30 : m 30 = M 30 := hi 30 (by decide) (by decide)
      have hA : ∀ g : Nat, g < 30 → updM M 0 0 4 (M 0 0 4 + minutes) g = (fun g => if g < 30 then updM M 0 0 4 (M 0 0 4 + minutes) g else updM (thr m 0) 30 0 1 (m 30 0 1 + minutes) g : Mem) g := fun g hg => by
        show _ = (if g < 30 then updM M 0 0 4 (M 0 0 4 + minutes) g else updM (thr m 0) 30 0 1 (m 30 0 1 + minutes) g)
        rw [if_pos hg]
      have hB : ∀ g : Nat, 30 ≤ g → updM (thr m 0) 30 0 1 (m 30 0 1 + minutes) g = (fun g => if g < 30 then updM M 0 0 4 (M 0 0 4 + minutes) g else updM (thr m 0) 30 0 1 (m 30 0 1 + minutes) g : Mem) g := fun g hg => by
        show _ = (if g < 30 then updM M 0 0 4 (M 0 0 4 + minutes) g else updM (thr m 0) 30 0 1 (m 30 0 1 + minutes) g)
        rw [if_neg (by omega)]
      have hX : INV (fun g => if g < 30 then updM M 0 0 4 (M 0 0 4 + minutes) g else updM (thr m 0) 30 0 1 (m 30 0 1 + minutes) g : Mem) (c + 1) := by
        refine INV_now (d := minutes) h (fun g g0 g1 => ?_) ?_ ?_ ?_ ?_ ?_ ?_ (by omega)
        · show (if g < 30 then updM M 0 0 4 (M 0 0 4 + minutes) g else updM (thr m 0) 30 0 1 (m 30 0 1 + minutes) g) = M g
          by_cases q : g < 30
          · rw [if_pos q, updM_g g0]
          · rw [if_neg q, updM_g (by omega), thr_g (by omega), hi g (by omega) (by omega)]
        · show updM M 0 0 4 (M 0 0 4 + minutes) 0 0 4 = _
          exact updM_same
        · show updM M 0 0 4 (M 0 0 4 + minutes) 0 0 5 = _
          exact updM_j (by decide)
        · show updM (thr m 0) 30 0 1 (m 30 0 1 + minutes) 30 0 1 = _
          rw [updM_same, e30]
        · show updM (thr m 0) 30 0 1 (m 30 0 1 + minutes) 30 0 2 = _
          rw [updM_j (by decide), thr_j (by decide), e30]
        · show updM (thr m 0) 30 0 1 (m 30 0 1 + minutes) 30 0 3 = _
          rw [updM_j (by decide), thr_j (by decide), e30]
        · show updM (thr m 0) 30 0 1 (m 30 0 1 + minutes) 30 0 8 = _
          rw [updM_j (by decide), thr_j (by decide), e30]
      generalize hXe : (fun g => if g < 30 then updM M 0 0 4 (M 0 0 4 + minutes) g else updM (thr m 0) 30 0 1 (m 30 0 1 + minutes) g : Mem) = X at hA hB hX
      have X7 : X 7 0 8 = M 7 0 8 := by rw [← hA 7 (by decide), updM_g (by decide)]
      obtain ⟨j1, j2, j3, j4, j5, j6, j7⟩ := jn_all hX hA hB (M 7 0 8).toNat (by rw [X7]; have := bw.1; omega)
      have m8 : (m 30 0 8).toNat = (M 7 0 8).toNat := by rw [e30, e8]
      unfold pdaM at q3
      unfold pdaC at q2
      rw [m8] at q2 q3
      unfold passM passC at hm
      have R : SAME (jn X (M 7 0 8).toNat) m2 := SAME_g (fun g hg => by
        by_cases q : 30 ≤ g
        · rw [q3]; exact j3 g q
        · rw [q3, pdS_g (by omega) (by omega), updM_g (by omega), thr_g (by omega), hm, updM_g (by omega)]
          exact j2 g (by omega))
      refine ⟨?_, fun _ => ?_, INV_same R j1⟩
      · rw [w1, q3, pdS_g (by decide) (by decide), updM_j (by decide)]; exact updM_same
      · rw [q3, pdS_g (by decide) (by decide), updM_g (by decide), thr_g (by decide), q2, ← j4, hm, updM_same]
set_option maxHeartbeats 2000000 in
theorem sm_addRow {M m m2 : Mem} {c seats score price z ans : Int} (h : INV M c) (w : (z = 1 ∧ ¬ ((1 ≤ seats ∧ seats ≤ 20) ∧ (0 ≤ score ∧ score ≤ 1000) ∧ (0 ≤ price ∧ price ≤ 10000)) ∧ m = M) ∨ (z = 2 ∧ (((1 ≤ seats ∧ seats ≤ 20) ∧ (0 ≤ score ∧ score ≤ 1000) ∧ (0 ≤ price ∧ price ≤ 10000)) ∧ ¬ M 1 0 4 < 12) ∧ m = M) ∨ (z = 0 ∧ (((1 ≤ seats ∧ seats ≤ 20) ∧ (0 ≤ score ∧ score ≤ 1000) ∧ (0 ≤ price ∧ price ≤ 10000)) ∧ M 1 0 4 < 12) ∧ m = updM (updM (updM (updM (updM M 2 0 (M 1 0 4) seats) 3 0 (M 1 0 4) score) 4 0 (M 1 0 4) price) 1 0 4 (M 1 0 4 + 1)) 45 0 0 (M 1 0 4))) (q : ((¬ ((1 ≤ seats ∧ seats ≤ 20) ∧ (0 ≤ score ∧ score ≤ 1000) ∧ (0 ≤ price ∧ price ≤ 10000))) ∧ ans = 0 ∧ m2 = thr m 1) ∨ ((((1 ≤ seats ∧ seats ≤ 20) ∧ (0 ≤ score ∧ score ≤ 1000) ∧ (0 ≤ price ∧ price ≤ 10000)) ∧ ¬ m 30 0 3 < 12) ∧ ans = 0 ∧ m2 = thr m 2) ∨ ((((1 ≤ seats ∧ seats ≤ 20) ∧ (0 ≤ score ∧ score ≤ 1000) ∧ (0 ≤ price ∧ price ≤ 10000)) ∧ m 30 0 3 < 12) ∧ ans = m 30 0 3 ∧ m2 = updM (updM (updM (updM (thr m 0) 31 0 (m 30 0 3) seats) 32 0 (m 30 0 3) score) 33 0 (m 30 0 3) price) 30 0 3 (m 30 0 3 + 1))) : m2 30 0 0 = z ∧ (z = 0 → m2 45 0 0 = ans) ∧ INV m2 (c + 1) := by
  have e3 := h.row.1
  have n0 := h.hw.1
  rcases w with ⟨w1, w2, rfl⟩ | ⟨w1, w2, rfl⟩ | ⟨w1, w2, hm⟩
  iterate 2
    · rcases q with ⟨q1, q2, q3⟩ | ⟨q1, q2, q3⟩ | ⟨q1, q2, q3⟩
      all_goals first
        | exact fin_t h q3 (by omega) (fun _ => by omega)
        | (exfalso; omega)
  · have hi : ∀ g : Nat, 4 < g → g ≠ 45 → m g = M g := fun g g1 g2 => by rw [hm, updM_g g2, updM_g (by omega), updM_g (by omega), updM_g (by omega), updM_g (by omega)]
    have e30 : m 30 = M 30 := hi 30 (by decide) (by decide)
    rw [e30, e3] at q
    rcases q with ⟨q1, q2, q3⟩ | ⟨q1, q2, q3⟩ | ⟨q1, q2, q3⟩
    · exact absurd w2.1 q1
    · exact absurd w2.2 q1.2
    · have hh : ∀ g : Nat, 4 < g → g ≠ 45 → g ≠ 30 → g ≠ 31 → g ≠ 32 → g ≠ 33 → m2 g = M g := fun g g1 g2 g3 g4 g5 g6 => by rw [q3, updM_g g3, updM_g g6, updM_g g5, updM_g g4, thr_g g3, hi g g1 g2]
      have lo : ∀ g : Nat, g ≤ 4 → m2 g = m g := fun g g1 => by rw [q3, updM_g (by omega), updM_g (by omega), updM_g (by omega), updM_g (by omega), thr_g (by omega)]
      have n1 : m2 1 0 4 = M 1 0 4 + 1 := by rw [lo 1 (by decide), hm, updM_g (by decide), updM_same]
      have m30 : m2 30 0 3 = M 1 0 4 + 1 := by rw [q3, updM_same]
      have m30j : ∀ j : Int, j ≠ 3 → j ≠ 0 → m2 30 0 j = M 30 0 j := fun j j3 j0 => by rw [q3, updM_j j3, updM_g (by decide), updM_g (by decide), updM_g (by decide), thr_j j0, e30]
      have r2 : ∀ r : Int, m2 2 0 r = if r = M 1 0 4 then seats else M 2 0 r := fun r => by
        rw [lo 2 (by decide), hm, updM_g (by decide), updM_g (by decide), updM_g (by decide), updM_g (by decide)]
        by_cases e : r = M 1 0 4
        · rw [if_pos e, e, updM_same]
        · rw [if_neg e, updM_j e]
      have r3 : ∀ r : Int, m2 3 0 r = if r = M 1 0 4 then score else M 3 0 r := fun r => by
        rw [lo 3 (by decide), hm, updM_g (by decide), updM_g (by decide), updM_g (by decide)]
        by_cases e : r = M 1 0 4
        · rw [if_pos e, e, updM_same]
        · rw [if_neg e, updM_j e, updM_g (by decide)]
      have r4 : ∀ r : Int, m2 4 0 r = if r = M 1 0 4 then price else M 4 0 r := fun r => by
        rw [lo 4 (by decide), hm, updM_g (by decide), updM_g (by decide)]
        by_cases e : r = M 1 0 4
        · rw [if_pos e, e, updM_same]
        · rw [if_neg e, updM_j e, updM_g (by decide), updM_g (by decide)]
      have r31 : ∀ r : Int, m2 31 0 r = if r = M 1 0 4 then seats else M 31 0 r := fun r => by
        rw [q3, updM_g (by decide), updM_g (by decide), updM_g (by decide)]
        by_cases e : r = M 1 0 4
        · rw [if_pos e, e, updM_same]
        · rw [if_neg e, updM_j e, thr_g (by decide), hi 31 (by decide) (by decide)]
      have r32 : ∀ r : Int, m2 32 0 r = if r = M 1 0 4 then score else M 32 0 r := fun r => by
        rw [q3, updM_g (by decide), updM_g (by decide)]
        by_cases e : r = M 1 0 4
        · rw [if_pos e, e, updM_same]
        · rw [if_neg e, updM_j e, updM_g (by decide), thr_g (by decide), hi 32 (by decide) (by decide)]
      have r33 : ∀ r : Int, m2 33 0 r = if r = M 1 0 4 then price else M 33 0 r := fun r => by
        rw [q3, updM_g (by decide)]
        by_cases e : r = M 1 0 4
        · rw [if_pos e, e, updM_same]
        · rw [if_neg e, updM_j e, updM_g (by decide), updM_g (by decide), thr_g (by decide), hi 33 (by decide) (by decide)]
      have z0 : m2 30 0 0 = 0 := by rw [q3, updM_j (by decide), updM_g (by decide), updM_g (by decide), updM_g (by decide)]; exact updM_same
      have z45 : m2 45 0 0 = M 1 0 4 := by rw [q3, updM_g (by decide), updM_g (by decide), updM_g (by decide), updM_g (by decide), thr_g (by decide), hm, updM_same]
      have m0 : m2 0 = M 0 := by rw [lo 0 (by decide), hm, updM_g (by decide), updM_g (by decide), updM_g (by decide), updM_g (by decide), updM_g (by decide)]
      have G : ∀ g : Nat, ((5 ≤ g ∧ g ≤ 15) ∨ (34 ≤ g ∧ g ≤ 39)) → m2 g = M g := fun g hg => hh g (by omega) (by omega) (by omega) (by omega) (by omega) (by omega)
      refine ⟨by rw [w1]; exact z0, fun _ => by rw [z45, q2], INV_up ?_⟩
      obtain ⟨⟨a1, a2, a3, a4⟩, ⟨b1, b2, b3, b4⟩, c3, d4, i5⟩ := h
      have w20 : ∀ r : Int, 0 ≤ r → r < M 1 0 4 → m2 2 0 r = M 2 0 r := fun r r0 r1 => by rw [r2, if_neg (by omega)]
      refine ⟨⟨⟨by omega, by omega, fun r r0 r1 => ?_⟩, by rw [m30, n1], fun r r0 r1 => ?_, fun r r0 r1 => ?_⟩, ⟨by unfold BW at b1 ⊢; rw [G 7 (by decide)]; exact b1, by rw [m30j 8 (by decide) (by decide), G 7 (by decide)]; exact b2, fun t t1 t2 => ?_, fun t t1 t2 => ?_⟩, fun a x0 x1 => ?_, fun t t1 t2 => ?_, ?_⟩
      · rw [r2, r3, r4]
        by_cases e : r = M 1 0 4
        · rw [if_pos e, if_pos e, if_pos e]; omega
        · rw [if_neg e, if_neg e, if_neg e]; exact a1.2.2 r r0 (by omega)
      · rw [r31, r32, r33, r2, r3, r4]
        by_cases e : r = M 1 0 4
        · rw [if_pos e, if_pos e, if_pos e, if_pos e, if_pos e, if_pos e]; exact ⟨rfl, rfl, rfl⟩
        · rw [if_neg e, if_neg e, if_neg e, if_neg e, if_neg e, if_neg e]; exact a3 r r0 (by omega)
      · rw [r33]
        by_cases e : r = M 1 0 4
        · rw [if_pos e]; omega
        · rw [if_neg e]; exact a4 r r0 r1
      · rw [G 7 (by decide)] at t2
        have k := b3 t t1 t2
        unfold TI at k ⊢
        rw [G 8 (by decide), G 10 (by decide), G 11 (by decide), G 12 (by decide), G 15 (by decide), G 35 (by decide), G 36 (by decide), G 37 (by decide), G 38 (by decide), G 39 (by decide)]
        exact k
      · rw [G 7 (by decide)] at t1
        rw [G 37 (by decide), G 38 (by decide)]
        exact b4 t t1 t2
      · obtain ⟨k1, k2, k3⟩ := c3 a x0 x1
        unfold CI
        rw [G 34 (by decide), G 6 (by decide), G 7 (by decide), G 8 (by decide)]
        refine ⟨k1, fun v => k2 (fun v2 => v ?_), k3⟩
        unfold vld at v2 ⊢
        rw [n1, w20 (a / 20) (by omega) v2.1]
        exact ⟨by omega, v2.2⟩
      · rw [G 7 (by decide)] at t2
        have k := d4 t t1 t2
        rw [G 8 (by decide)]
        refine ⟨fun o => ?_, ?_⟩
        · rcases k.1 o with ⟨x, y, u⟩ | x
          · refine Or.inl ⟨?_, ?_, ?_⟩
            · rw [G 13 (by decide), n1]; exact ⟨x.1, by omega⟩
            · rw [G 13 (by decide), G 14 (by decide), G 9 (by decide), w20 _ x.1 x.2]; exact y
            · rw [G 13 (by decide), G 14 (by decide), G 9 (by decide), G 34 (by decide)]; exact u
          · refine Or.inr ?_
            unfold spl manyM at x ⊢
            rw [G 13 (by decide), G 9 (by decide), G 34 (by decide)]
            exact x
        · have ws := k.2
          unfold WS at ws ⊢
          rw [G 15 (by decide), G 8 (by decide), G 13 (by decide), n1]
          exact fun o => by have := ws o; omega
      · unfold I5 at i5 ⊢
        rw [m0, m30j 1 (by decide) (by decide), m30j 2 (by decide) (by decide)]
        exact i5
set_option maxHeartbeats 2000000 in
theorem sm_toggleBlocked {M m m2 : Mem} {c row seat z ans : Int} (h : INV M c) (w : (z = 1 ∧ ¬ (0 ≤ row ∧ row < M 1 0 4 ∧ 0 ≤ seat ∧ seat < M 2 0 row) ∧ m = M) ∨ (z = 2 ∧ ((0 ≤ row ∧ row < M 1 0 4 ∧ 0 ≤ seat ∧ seat < M 2 0 row) ∧ 0 < M 6 row seat) ∧ m = M) ∨ (z = 0 ∧ ((0 ≤ row ∧ row < M 1 0 4 ∧ 0 ≤ seat ∧ seat < M 2 0 row) ∧ M 6 row seat ≤ 0) ∧ m = updM (giveM M row seat 1 (if M 6 row seat = 0 then -1 else 0)) 45 0 0 (if M 6 row seat = 0 then 1 else 0))) (q : ((¬ (0 ≤ row ∧ row < m 30 0 3 ∧ 0 ≤ seat ∧ seat < m 31 0 row)) ∧ ans = 0 ∧ m2 = thr m 1) ∨ (((0 ≤ row ∧ row < m 30 0 3 ∧ 0 ≤ seat ∧ seat < m 31 0 row) ∧ 0 < oMd m row seat) ∧ ans = 0 ∧ m2 = thr m 2) ∨ (((0 ≤ row ∧ row < m 30 0 3 ∧ 0 ≤ seat ∧ seat < m 31 0 row) ∧ oMd m row seat = 0) ∧ ans = 1 ∧ m2 = updM (thr m 0) 34 0 (20 * row + seat) (-1)) ∨ (((0 ≤ row ∧ row < m 30 0 3 ∧ 0 ≤ seat ∧ seat < m 31 0 row) ∧ oMd m row seat ≠ 0 ∧ oMd m row seat ≤ 0) ∧ ans = 0 ∧ m2 = updM (thr m 0) 34 0 (20 * row + seat) 0)) : m2 30 0 0 = z ∧ (z = 0 → m2 45 0 0 = ans) ∧ INV m2 (c + 1) := by
  have e3 := h.row.1
  have A : 0 ≤ row → row < M 1 0 4 → M 31 0 row = M 2 0 row ∧ (0 ≤ seat → seat < M 2 0 row → oMd M row seat = M 6 row seat) := fun r0 r1 => ⟨(h.row.2 row r0 r1).1, fun s0 s1 => h.own r0 r1 s0 s1⟩
  rcases w with ⟨w1, w2, rfl⟩ | ⟨w1, w2, rfl⟩ | ⟨w1, w2, hm⟩
  · rcases q with ⟨q1, q2, q3⟩ | ⟨q1, q2, q3⟩ | ⟨q1, q2, q3⟩ | ⟨q1, q2, q3⟩
    · exact fin_t h q3 (by omega) (fun _ => by omega)
    all_goals (exfalso; have a := (A (by omega) (by omega)).1; omega)
  · have a := A w2.1.1 w2.1.2.1
    have a1 := a.1
    have a2 := a.2 w2.1.2.2.1 w2.1.2.2.2
    rcases q with ⟨q1, q2, q3⟩ | ⟨q1, q2, q3⟩ | ⟨q1, q2, q3⟩ | ⟨q1, q2, q3⟩
    · exfalso; omega
    · exact fin_t h q3 (by omega) (fun _ => by omega)
    · exfalso; omega
    · exfalso; omega
  · have a := A w2.1.1 w2.1.2.1
    have a1 := a.1
    have a2 := a.2 w2.1.2.2.1 w2.1.2.2.2
    have wr := h.hw.2.2 row w2.1.1 w2.1.2.1
    have n1 := h.hw.2.1
    have hi : ∀ g : Nat, g ≠ 6 → g ≠ 45 → m g = M g := fun g g1 g2 => by rw [hm, updM_g g2, giveM_g g1]
    have e30 : m 30 = M 30 := hi 30 (by decide) (by decide)
    have e31 : m 31 = M 31 := hi 31 (by decide) (by decide)
    have eo : oMd m = oMd M := by funext r s; unfold oMd; rw [hi 34 (by decide) (by decide)]
    rw [e30, e31, eo, a2] at q
    have fin : ∀ {v x : Int}, (v = 0 ∨ v = -1) → M 6 row seat ≤ 0 → m = updM (giveM M row seat 1 v) 45 0 0 x → m2 = updM (thr m 0) 34 0 (20 * row + seat) v → m2 30 0 0 = 0 ∧ m2 45 0 0 = x ∧ INV m2 c := fun {v x} hv o hm q3 => by
      have G : ∀ g : Nat, g ≠ 6 → g ≠ 45 → g ≠ 34 → g ≠ 30 → m2 g = M g := fun g g1 g2 g3 g4 => by rw [q3, updM_g g3, thr_g g4, hi g g1 g2]
      have m30 : ∀ j : Int, j ≠ 0 → m2 30 0 j = M 30 0 j := fun j j0 => by rw [q3, updM_g (by decide), thr_j j0, e30]
      have cell : ∀ a : Int, m2 34 0 a = if a = 20 * row + seat then v else M 34 0 a := fun a => by
        rw [q3]
        by_cases e : a = 20 * row + seat
        · rw [if_pos e, e, updM_same]
        · rw [if_neg e, updM_j e, thr_g (by decide), hi 34 (by decide) (by decide)]
      have old : M 34 0 (20 * row + seat) ≤ 0 := by unfold oMd at a2; omega
      refine ⟨by rw [q3, updM_g (by decide)]; exact updM_same, by rw [q3, updM_g (by decide), thr_g (by decide), hm, updM_same], ?_⟩
      obtain ⟨h1, ⟨b1, b2, b3, b4⟩, c3, d4, i5⟩ := h
      have kh : keepH M m2 := ⟨G 1 (by decide) (by decide) (by decide) (by decide), G 2 (by decide) (by decide) (by decide) (by decide), G 3 (by decide) (by decide) (by decide) (by decide), G 4 (by decide) (by decide) (by decide) (by decide), G 31 (by decide) (by decide) (by decide) (by decide), G 32 (by decide) (by decide) (by decide) (by decide), G 33 (by decide) (by decide) (by decide) (by decide), m30 3 (by decide)⟩
      have k7 := G 7 (by decide) (by decide) (by decide) (by decide)
      have kt : ∀ t : Int, keepT M m2 t := fun t => by
        refine ⟨⟨?_, ?_, ?_, ?_, ?_, ?_, ?_, ?_⟩, ?_, ?_, ?_, ?_, ?_⟩
        · rw [G 8 (by decide) (by decide) (by decide) (by decide)]
        · rw [G 9 (by decide) (by decide) (by decide) (by decide)]
        · rw [G 10 (by decide) (by decide) (by decide) (by decide)]
        · rw [G 11 (by decide) (by decide) (by decide) (by decide)]
        · rw [G 12 (by decide) (by decide) (by decide) (by decide)]
        · rw [G 13 (by decide) (by decide) (by decide) (by decide)]
        · rw [G 14 (by decide) (by decide) (by decide) (by decide)]
        · rw [G 15 (by decide) (by decide) (by decide) (by decide)]
        · rw [G 35 (by decide) (by decide) (by decide) (by decide)]
        · rw [G 36 (by decide) (by decide) (by decide) (by decide)]
        · rw [G 37 (by decide) (by decide) (by decide) (by decide)]
        · rw [G 38 (by decide) (by decide) (by decide) (by decide)]
        · rw [G 39 (by decide) (by decide) (by decide) (by decide)]
      refine ⟨kh.i1 h1, ⟨by unfold BW at b1 ⊢; rw [k7]; exact b1, by rw [m30 8 (by decide), k7]; exact b2, fun t t1 t2 => (kt t).ti (b3 t t1 (by rw [← k7]; exact t2)), fun t t1 t2 => ?_⟩, fun a x0 x1 => ?_, fun t t1 t2 => ?_, ?_⟩
      · rw [k7] at t1
        have k := (kt t).2
        rw [k.2.2.1, k.2.2.2.1]
        exact b4 t t1 t2
      · obtain ⟨k1, k2, k3⟩ := c3 a x0 x1
        unfold CI vld
        rw [cell, kh.1, kh.2.1, k7, (kt _).1.1]
        have m6 : m2 6 (a / 20) (a % 20) = if a = 20 * row + seat then v else M 6 (a / 20) (a % 20) := by
          rw [q3, updM_g (by decide), thr_g (by decide), hm, updM_g (by decide)]
          unfold giveM
          by_cases e : a = 20 * row + seat
          · rw [if_pos e, if_pos ⟨rfl, by omega, by omega, by omega⟩]
          · rw [if_neg e, if_neg (fun x => e (by omega))]
        rw [m6]
        by_cases e : a = 20 * row + seat
        · rw [if_pos e, if_pos e]
          refine ⟨rfl, fun x => absurd ⟨?_, ?_⟩ x, by omega⟩
          · rw [show a / 20 = row by omega]; exact w2.1.2.1
          · rw [show a / 20 = row by omega]; omega
        · rw [if_neg e, if_neg e]
          exact ⟨k1, k2, k3⟩
      · rw [k7] at t2
        have k := d4 t t1 t2
        refine ⟨fun o2 => (kt t).bs kh.1 kh.2.1 (fun a x0 x1 => ?_) (k.1 (by rw [← (kt t).1.1]; exact o2)), (kt t).ws kh.1 k.2⟩
        rw [cell]
        by_cases e : a = 20 * row + seat
        · rw [if_pos e, e]; omega
        · rw [if_neg e]
      · unfold I5 at i5 ⊢
        rw [G 0 (by decide) (by decide) (by decide) (by decide), m30 1 (by decide), m30 2 (by decide)]
        exact i5
    rcases q with ⟨q1, q2, q3⟩ | ⟨q1, q2, q3⟩ | ⟨q1, q2, q3⟩ | ⟨q1, q2, q3⟩
    · exfalso; omega
    · exfalso; omega
    · rw [if_pos q1.2, if_pos q1.2] at hm
      have f := fin (Or.inr rfl) w2.2 hm q3
      exact ⟨by rw [w1]; exact f.1, fun _ => by rw [f.2.1, q2], INV_up f.2.2⟩
    · rw [if_neg q1.2.1, if_neg q1.2.1] at hm
      have f := fin (Or.inl rfl) w2.2 hm q3
      exact ⟨by rw [w1]; exact f.1, fun _ => by rw [f.2.1, q2], INV_up f.2.2⟩
