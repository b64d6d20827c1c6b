/-! what the searches found, for those who use it -/
theorem FOUND_can {M m : Mem} {people : Int} (h : FOUND M m people) : ∃ b v : Int, cM M 0 b people v := by
  obtain ⟨f, g, hf, hF, _⟩ := h
  rcases hF with ⟨a, _⟩ | ⟨_, _, c, _⟩
  · exact absurd a hf
  · exact ⟨f, g, c⟩
theorem FOUND_tk {M m : Mem} {people : Int} (hw : HW M) (hsf : SF M m) (h : FOUND M m people) : ∀ r : Int, 0 ≤ r → r < m 1 0 4 → (0 ≤ m 26 0 r ∧ m 26 0 r ≤ 20) ∧ (0 < m 26 0 r → 0 ≤ m 19 r (m 26 0 r) ∧ m 19 r (m 26 0 r) + m 26 0 r ≤ m 2 0 r) := by
  obtain ⟨f, g, hf, hF, h7, hT, hr⟩ := h
  intro r r0 r1
  rw [hsf 1 (by decide)] at r1
  obtain ⟨a, b⟩ := hr r r0 r1
  refine ⟨a, fun q => ?_⟩
  have t := TK_ok _ _ _ _ hT r (by omega) r1
  have q2 : 2 ≤ m 26 0 r := by
    rcases t with t | t
    · omega
    · exact t.1
  obtain ⟨b1, b2⟩ := b q2
  rw [b1, hsf 2 (by decide)]
  have sp := bFst_sp (M 2 0) (M 6) (M 3 0) (m 26 0 r) r
  have b3 : 0 ≤ bFst (M 2 0) (M 6) (M 3 0) (m 26 0 r) r := b2
  rcases isBest_in sp with c | c
  · omega
  · exact ⟨b3, c.2.1⟩
/-- what carrying out wants -/
theorem xf_pre {M m : Mem} {ticket : Int} (hw : HW M) (bw : BW M) (xw : XW M) (v_pl : ∀ t : Int, 1 ≤ t → t ≤ M 7 0 8 → M 15 0 t ≠ -1 → vpl M (M 9 0 t) (M 13 0 t) (M 14 0 t) ∧ 1 ≤ M 9 0 t ∧ M 9 0 t ≤ 20) (ht : 1 ≤ ticket ∧ ticket ≤ M 7 0 8) (hwi : M 15 0 ticket ≠ -1) (hx : XF M m) (hf : XFOUND M m ticket (M 9 0 ticket) (M 13 0 ticket)) :
    HW m ∧ BW m ∧ (1 ≤ m 27 0 4 ∧ m 27 0 4 ≤ 13) ∧ (1 ≤ m 27 0 5 ∧ m 27 0 5 ≤ 20) ∧ (∀ x : Int, 0 ≤ x → x ≤ m 27 0 4 - 1 → (1 ≤ m 29 0 x ∧ m 29 0 x ≤ m 7 0 8) ∧ vpl m (m 27 0 5) (m 13 0 (m 29 0 x)) (m 14 0 (m 29 0 x))) ∧ (0 ≤ m 15 0 (m 29 0 (m 27 0 4 - 1)) ∧ m 15 0 (m 29 0 (m 27 0 4 - 1)) < m 1 0 4) := by
  obtain ⟨d, d0, d1, d2, l4, l5, c0, ck⟩ := hf
  have lo := hx.lo
  have vt := v_pl ticket ht.1 ht.2 hwi
  have key : ∀ x : Int, 0 ≤ x → x ≤ d → (1 ≤ m 29 0 x ∧ m 29 0 x ≤ M 7 0 8) ∧ M 15 0 (m 29 0 x) ≠ -1 ∧ M 9 0 (m 29 0 x) = M 9 0 ticket := by
    intro x x0 x1
    by_cases e : x = 0
    · subst e; rw [c0]; exact ⟨ht, hwi, rfl⟩
    · have q := ck x (by omega) x1
      exact ⟨⟨q.1, q.2.1⟩, q.2.2.1.1⟩
  have e1 : m 27 0 4 - 1 = d := by omega
  refine ⟨HW_g hw (lo 1 (by decide)) (lo 2 (by decide)) (lo 3 (by decide)) (lo 4 (by decide)), BW_g bw (lo 7 (by decide)), by omega, by omega, fun x x0 x1 => ?_, ?_⟩
  · obtain ⟨k1, k2, k3⟩ := key x x0 (by omega)
    have q := (v_pl _ k1.1 k1.2 k2).1
    rw [lo 7 (by decide), lo 13 (by decide), lo 14 (by decide), l5, ← k3]
    refine ⟨k1, ?_⟩
    unfold vpl
    rw [lo 1 (by decide), lo 2 (by decide)]
    exact q
  · rw [e1, lo 15 (by decide), lo 1 (by decide)]
    obtain ⟨k1, k2, k3⟩ := key d (by omega) (by omega)
    rcases xw _ k1.1 k1.2 with q | q
    · exact absurd q k2
    · exact ⟨q.1, q.2.1⟩
