set_option maxHeartbeats 2000000 in
theorem sm_holdGroup {M m m2 : Mem} {c people minutes z ans : Int} (h : INV M c) (w : (z = 1 ∧ ¬ ((2 ≤ people ∧ people ≤ 100) ∧ (1 ≤ minutes ∧ minutes ≤ 200)) ∧ m = M) ∨ (z = 2 ∧ (((2 ≤ people ∧ people ≤ 100) ∧ (1 ≤ minutes ∧ minutes ≤ 200)) ∧ ((∀ x v : Int, ¬ cM M 0 x people v) ∨ ((∃ x v : Int, cM M 0 x people v) ∧ ¬ M 7 0 8 < 100))) ∧ SF M m) ∨ (z = 0 ∧ ((2 ≤ people ∧ people ≤ 100) ∧ (1 ≤ minutes ∧ minutes ≤ 200)) ∧ M 7 0 8 < 100 ∧ ∃ m1, SF M m1 ∧ FOUND M m1 people ∧ m = updM (gsM m1 people minutes) 45 0 0 (M 7 0 8 + 1))) (q : ((¬ ((2 ≤ people ∧ people ≤ 100) ∧ (1 ≤ minutes ∧ minutes ≤ 200))) ∧ ans = 0 ∧ m2 = thr m 1) ∨ ((((2 ≤ people ∧ people ≤ 100) ∧ (1 ≤ minutes ∧ minutes ≤ 200)) ∧ ((∀ b v : Int, ¬ cD m 0 b people v) ∨ ¬ m 30 0 8 < 100)) ∧ ans = 0 ∧ ∃ m1, SFd m m1 ∧ m2 = thr m1 2) ∨ ((((2 ≤ people ∧ people ≤ 100) ∧ (1 ≤ minutes ∧ minutes ≤ 200)) ∧ m 30 0 8 < 100) ∧ ans = m 30 0 8 + 1 ∧ ∃ m1 n, SFd m m1 ∧ SPLd m m1 people n ∧ m2 = hgS m1 (grtM (thr m1 0) minutes) (m 30 0 8 + 1) (m 30 0 3).toNat)) : m2 30 0 0 = z ∧ (z = 0 → m2 45 0 0 = ans) ∧ INV m2 (c + 1) := by
  have e8 := h.2.1.2.1
  have CE : ∀ x v : Int, cM M 0 x people v ↔ cD M 0 x people v := fun x v => h.cM
  have hq : (∀ g : Nat, 30 ≤ g → g < 40 → m g = M g) → (30 : Nat) = 30 → m 30 0 3 = M 30 0 3 ∧ m 30 0 8 = M 30 0 8 ∧ cD m = cD M := fun a _ => by
    have eo : oMd m = oMd M := by funext r s; unfold oMd; rw [a 34 (by decide) (by decide)]
    refine ⟨by rw [a 30 (by decide) (by decide)], by rw [a 30 (by decide) (by decide)], ?_⟩
    unfold cD okd Vd
    rw [eo, a 30 (by decide) (by decide), a 31 (by decide) (by decide), a 32 (by decide) (by decide)]
  rcases w with ⟨w1, w2, rfl⟩ | ⟨w1, w2, w3⟩ | ⟨w1, w2, w3, m1, w4, w5, hm⟩
  · rcases q with ⟨q1, q2, q3⟩ | ⟨⟨q1, q2⟩, q4, x, q5, q3⟩ | ⟨⟨q1, q2⟩, q4, x, n', q5, q6, q3⟩
    · exact fin_t h q3 (by omega) (fun _ => by omega)
    · exact absurd q1 w2
    · exact absurd q1 w2
  · have hmM : INV m c := INV_same (SAME_g (fun g hg => w3 g (by omega))) h
    obtain ⟨k3, k8, kc⟩ := hq (fun g g1 g2 => w3 g (by omega)) rfl
    rcases q with ⟨q1, q2, q3⟩ | ⟨⟨q1, q2⟩, q4, x, q5, q3⟩ | ⟨⟨q1, q2⟩, q4, x, n', q5, q6, q3⟩
    · exact absurd w2.1 q1
    · exact fin_s hmM q5 q3 (by omega) (fun _ => by omega)
    · exfalso
      obtain ⟨x1, v1, a⟩ := SPLd_can q6
      rw [kc] at a
      rcases w2.2 with b | b
      · exact b x1 v1 ((CE x1 v1).mpr a)
      · omega
  · have hi : ∀ g : Nat, 30 ≤ g → g < 40 → m g = M g := fun g g1 g2 => by
      rw [hm, updM_g (by omega)]
      unfold gsM
      rw [gsS_g (by omega) (by omega) (by omega), openM_g (by omega), w4 g (by omega)]
    obtain ⟨k3, k8, kc⟩ := hq hi rfl
    rcases q with ⟨q1, q2, q3⟩ | ⟨⟨q1, q2⟩, q4, x, q5, q3⟩ | ⟨⟨q1, q2⟩, q4, x, n', q5, q6, q3⟩
    · exact absurd w2 q1
    · exfalso
      rcases q2 with b | b
      · obtain ⟨x1, v1, a⟩ := FOUND_can w5
        rw [kc] at b
        exact b x1 v1 ((CE x1 v1).mp a)
      · omega
    · have N := new_grp h w3 w2.1.1 w2.2.1 w4 w5 hm q5 q6 q3
      exact ⟨by rw [w1]; exact N.2.1, fun _ => by rw [N.2.2, q4]; omega, INV_up N.1⟩
