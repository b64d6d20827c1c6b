/-! a group's hold -/
theorem cnt_0 {u : Int → Int} (hu : ∀ r, u r = 0 ∨ u r = 1) : ∀ n : Nat, 0 ≤ sumTo u n ∧ (sumTo u n = 0 → ∀ x : Int, 0 ≤ x → x < (n : Int) → u x = 0)
  | 0 => ⟨Int.le_refl 0, fun _ x x0 x1 => by omega⟩
  | n + 1 => by
    have ih := cnt_0 hu n
    have e : sumTo u (n + 1) = sumTo u n + u (n : Int) := rfl
    have k := hu (n : Int)
    refine ⟨by omega, fun q x x0 x1 => ?_⟩
    by_cases c : x = (n : Int)
    · rw [c]; omega
    · exact ih.2 (by omega) x x0 (by omega)
theorem cnt_1 {u : Int → Int} (hu : ∀ r, u r = 0 ∨ u r = 1) : ∀ n : Nat, sumTo u n = 1 → ∃ r : Int, 0 ≤ r ∧ r < (n : Int) ∧ u r = 1 ∧ ∀ x : Int, 0 ≤ x → x < (n : Int) → x ≠ r → u x = 0
  | 0, h => by simp [sumTo] at h
  | n + 1, h => by
    have e : sumTo u (n + 1) = sumTo u n + u (n : Int) := rfl
    rcases hu (n : Int) with k | k
    · obtain ⟨r, r0, r1, r2, r3⟩ := cnt_1 hu n (by omega)
      refine ⟨r, r0, by omega, r2, fun x x0 x1 x2 => ?_⟩
      by_cases c : x = (n : Int)
      · rw [c]; exact k
      · exact r3 x x0 (by omega) x2
    · exact ⟨(n : Int), by omega, by omega, k, fun x x0 x1 x2 => (cnt_0 hu n).2 (by omega) x x0 (by omega)⟩
theorem cnt_2 {u : Int → Int} (hu : ∀ r, u r = 0 ∨ u r = 1) : ∀ n : Nat, 2 ≤ sumTo u n → ∃ r q : Int, (0 ≤ r ∧ r < (n : Int) ∧ u r = 1) ∧ (0 ≤ q ∧ q < (n : Int) ∧ u q = 1) ∧ r ≠ q
  | 0, h => by simp [sumTo] at h
  | n + 1, h => by
    have e : sumTo u (n + 1) = sumTo u n + u (n : Int) := rfl
    by_cases c : 2 ≤ sumTo u n
    · obtain ⟨r, q, ⟨r0, r1, r2⟩, ⟨q0, q1, q2⟩, ne⟩ := cnt_2 hu n c
      exact ⟨r, q, ⟨r0, by omega, r2⟩, ⟨q0, by omega, q2⟩, ne⟩
    · have k := hu (n : Int)
      obtain ⟨r, r0, r1, r2, _⟩ := cnt_1 hu n (by omega)
      exact ⟨r, (n : Int), ⟨r0, by omega, r2⟩, ⟨by omega, by omega, by omega⟩, by omega⟩
theorem TK_tot {n : Int} {ok : Int → Int → Prop} {V : Int → Int → Int} {tk : Int → Int} : ∀ (j : Nat) (p f g : Int), (j : Int) ≤ n → can n ok V j f p g → TK n ok V j p f g tk → sumI tk n = sumI tk (n - (j : Int)) + p ∧ sumI (fun r => if tk r = 0 then 0 else 1) n = sumI (fun r => if tk r = 0 then 0 else 1) (n - (j : Int)) + f
  | 0, p, f, g, _, hc, _ => by
    obtain ⟨a, b, _⟩ := hc
    rw [show n - ((0 : Nat) : Int) = n by omega]
    omega
  | j + 1, p, f, g, hj, hc, h => by
    have s1 : sumI tk (n - (j : Int)) = sumI tk (n - ((j + 1 : Nat) : Int)) + tk (n - 1 - (j : Int)) := by
      rw [show n - (j : Int) = (n - ((j + 1 : Nat) : Int)) + 1 by omega, sumI_s (by omega), show n - ((j + 1 : Nat) : Int) = n - 1 - (j : Int) by omega]
    have s2 : sumI (fun r => if tk r = 0 then 0 else 1) (n - (j : Int)) = sumI (fun r => if tk r = 0 then 0 else 1) (n - ((j + 1 : Nat) : Int)) + (if tk (n - 1 - (j : Int)) = 0 then 0 else 1) := by
      rw [show n - (j : Int) = (n - ((j + 1 : Nat) : Int)) + 1 by omega, sumI_s (by omega), show n - ((j + 1 : Nat) : Int) = n - 1 - (j : Int) by omega]
    have wk : ∀ s, works n ok V (n - 1 - (j : Int)) p f g s ↔ ok (n - 1 - (j : Int)) s ∧ can n ok V j (f - 1) (p - s) (g - V (n - 1 - (j : Int)) s) := fun s => by
      unfold works canI
      rw [show (n - (n - 1 - (j : Int) + 1)).toNat = j by omega]
    rcases h with ⟨⟨a1, a2⟩, a3⟩ | ⟨⟨a1, a2, a4⟩, a3⟩
    · have hc2 : can n ok V j f p g := by
        rcases hc with hc | ⟨s, x1, x2, x3⟩
        · exact hc
        · exact absurd ((wk s).mpr ⟨x2, x3⟩) (a2 s x1)
      have ih := TK_tot j p f g (by omega) hc2 a3
      rw [if_pos a1] at s2
      omega
    · have ih := TK_tot j _ _ _ (by omega) ((wk _).mp a2).2 a3
      rw [if_neg (by omega)] at s2
      omega
theorem gsS_6 {M B : Mem} {t : Int} : ∀ (j : Nat) (r s : Int), gsS M B t j 6 r s = if 0 ≤ r ∧ r < (j : Int) ∧ 0 < M 26 0 r ∧ M 19 r (M 26 0 r) ≤ s ∧ s < M 19 r (M 26 0 r) + M 26 0 r then t else B 6 r s
  | 0, r, s => by rw [if_neg (by omega)]; rfl
  | j + 1, r, s => by
    have ih := gsS_6 (M := M) (B := B) (t := t) j r s
    have gv : giveM (gsS M B t j) (j : Int) (M 19 (j : Int) (M 26 0 (j : Int))) (M 26 0 (j : Int)) t 6 r s = if r = (j : Int) ∧ M 19 (j : Int) (M 26 0 (j : Int)) ≤ s ∧ s < M 19 (j : Int) (M 26 0 (j : Int)) + M 26 0 (j : Int) then t else gsS M B t j 6 r s := by
      unfold giveM
      by_cases q : r = (j : Int) ∧ M 19 (j : Int) (M 26 0 (j : Int)) ≤ s ∧ s < M 19 (j : Int) (M 26 0 (j : Int)) + M 26 0 (j : Int)
      · rw [if_pos q, if_pos ⟨rfl, q⟩]
      · rw [if_neg q, if_neg (fun x => q x.2)]
    have e : gsS M B t (j + 1) 6 r s = if 0 < M 26 0 (j : Int) then giveM (gsS M B t j) (j : Int) (M 19 (j : Int) (M 26 0 (j : Int))) (M 26 0 (j : Int)) t 6 r s else gsS M B t j 6 r s := by
      simp only [gsS]
      split
      · split
        · rw [updM_g (by decide), updM_g (by decide)]
        · rfl
      · rfl
    rw [e, gv, ih]
    by_cases er : r = (j : Int)
    · subst er
      by_cases p : 0 < M 26 0 (j : Int)
      · rw [if_pos p]
        by_cases q : M 19 (j : Int) (M 26 0 (j : Int)) ≤ s ∧ s < M 19 (j : Int) (M 26 0 (j : Int)) + M 26 0 (j : Int)
        · rw [if_pos ⟨rfl, q⟩, if_pos ⟨by omega, by omega, p, q⟩]
        · rw [if_neg (fun x => q x.2), if_neg (by omega), if_neg (fun x => q x.2.2.2)]
      · rw [if_neg p, if_neg (by omega), if_neg (by omega)]
    · rw [if_neg (show ¬ (r = (j : Int) ∧ M 19 (j : Int) (M 26 0 (j : Int)) ≤ s ∧ s < M 19 (j : Int) (M 26 0 (j : Int)) + M 26 0 (j : Int)) from fun x => er x.1), ite_self]
      by_cases q : 0 ≤ r ∧ r < (j : Int) ∧ 0 < M 26 0 r ∧ M 19 r (M 26 0 r) ≤ s ∧ s < M 19 r (M 26 0 r) + M 26 0 r
      · rw [if_pos q, if_pos ⟨q.1, by omega, q.2.2⟩]
      · rw [if_neg q, if_neg (fun x => q ⟨x.1, by omega, x.2.2⟩)]
theorem gsS_o {M B : Mem} {t : Int} {g : Nat} (h6 : g ≠ 6) {x : Int} (hx : x ≠ t) : ∀ j : Nat, gsS M B t j g 0 x = B g 0 x
  | 0 => rfl
  | j + 1 => by
    have ih := gsS_o (M := M) (B := B) (t := t) h6 hx j
    simp only [gsS]
    split
    · split
      · rw [updM_x hx, updM_x hx, giveM_g h6]; exact ih
      · rw [giveM_g h6]; exact ih
    · exact ih
theorem gsS_n {M B : Mem} {t : Int} (h : M 16 0 7 ≠ 1) {g : Nat} (h6 : g ≠ 6) : ∀ j : Nat, gsS M B t j g = B g
  | 0 => rfl
  | j + 1 => by
    have ih := gsS_n (M := M) (B := B) (t := t) h h6 j
    simp only [gsS]
    split
    · first | (rw [giveM_g h6]; exact ih) | (rw [if_neg h, giveM_g h6]; exact ih)
    · exact ih
theorem gsS_1 {M B : Mem} {t r : Int} (h : M 16 0 7 = 1) (r0 : 0 ≤ r) (hr : 0 < M 26 0 r) : ∀ j : Nat, (∀ x : Int, 0 ≤ x → x < (j : Int) → x ≠ r → M 26 0 x = 0) → r < (j : Int) → gsS M B t j 13 0 t = r ∧ gsS M B t j 14 0 t = M 19 r (M 26 0 r)
  | 0, _, q => by omega
  | j + 1, hz, q => by
    by_cases e : r = (j : Int)
    · subst e
      simp only [gsS]
      rw [if_pos hr, if_pos h]
      exact ⟨by rw [updM_g (by decide), updM_same], updM_same⟩
    · have ih := gsS_1 (B := B) (t := t) h r0 hr j (fun x x0 x1 => hz x x0 (by omega)) (by omega)
      have z := hz (j : Int) (by omega) (by omega) (Ne.symm e)
      simp only [gsS]
      rw [if_neg (by omega)]
      exact ih
/-- the seats of a group, counted -/
theorem many_grp {M : Mem} {t n : Int} {tk b : Int → Int} (hn : 0 ≤ n ∧ n ≤ 12) (hb : ∀ r : Int, 0 ≤ r → r < n → 0 < tk r → 0 ≤ b r ∧ b r + tk r ≤ 20) (h0 : ∀ r : Int, 0 ≤ r → r < n → 0 ≤ tk r) (hc : ∀ a : Int, 0 ≤ a → a < 240 → (fo M a = t ↔ a / 20 < n ∧ 0 < tk (a / 20) ∧ b (a / 20) ≤ a % 20 ∧ a % 20 < b (a / 20) + tk (a / 20))) : many M t = sumI tk n := by
  have e := sumI_240 (fun a => if fo M a = t then 1 else 0) 12
  rw [show (20 * ((12 : Nat) : Int)) = 240 by decide] at e
  unfold many
  rw [e]
  have hc2 : ∀ r s : Int, 0 ≤ r → r < 12 → 0 ≤ s → s < 20 → (fo M (20 * r + s) = t ↔ r < n ∧ 0 < tk r ∧ b r ≤ s ∧ s < b r + tk r) := fun r s r0 r1 s0 s1 => by
    have q := hc (20 * r + s) (by omega) (by omega)
    rw [show (20 * r + s) / 20 = r by omega, show (20 * r + s) % 20 = s by omega] at q
    exact q
  have e2 : sumI (fun r => sumI (fun s => if fo M (20 * r + s) = t then 1 else 0) 20) ((12 : Nat) : Int) = sumI (fun r => sumI (fun s => if fo M (20 * (0 + r) + s) = t then 1 else 0) 20) n :=
    sumI_part (lo := 0) (k := n) (Int.le_refl 0) hn.1 (by show 0 + n ≤ 12; omega) (fun r r0 r1 q => sumI_zero (fun s s0 s1 => if_neg (fun x => by have := ((hc2 r s r0 r1 s0 s1).mp x).1; omega)))
  rw [e2]
  refine sumI_cg (fun r r0 r1 => ?_)
  rw [show (0 : Int) + r = r by omega]
  by_cases p : 0 < tk r
  · have k := hb r r0 r1 p
    rw [sumI_part (f := fun s => if fo M (20 * r + s) = t then 1 else 0) (lo := b r) (k := tk r) (n := 20) k.1 (by omega) k.2 (fun s s0 s1 q => if_neg (fun x => q ((hc2 r s r0 (by omega) s0 s1).mp x).2.2))]
    rw [sumI_cg (g := fun _ => 1) (fun s s0 s1 => if_pos ((hc2 r (b r + s) r0 (by omega) (by omega) (by omega)).mpr ⟨r1, p, by omega, by omega⟩)), sumI_one (by omega)]
  · have z := h0 r r0 r1
    rw [sumI_zero (fun s s0 s1 => if_neg (fun x => p ((hc2 r s r0 (by omega) s0 s1).mp x).2.1))]
    omega
/-- what the split takes of a row -/
theorem FOUND_row {M m : Mem} {people : Int} (h : FOUND M m people) {r : Int} (r0 : 0 ≤ r) (r1 : r < M 1 0 4) : (0 ≤ m 26 0 r ∧ m 26 0 r ≤ 20) ∧ (m 26 0 r = 0 ∨ (2 ≤ m 26 0 r ∧ m 19 r (m 26 0 r) = bM M (m 26 0 r) r ∧ 0 ≤ bM M (m 26 0 r) r ∧ bM M (m 26 0 r) r + m 26 0 r ≤ M 2 0 r ∧ allF (M 6 r) (bM M (m 26 0 r) r) (m 26 0 r))) := by
  obtain ⟨f, g, f13, hF, h7, hT, hr⟩ := h
  have k := hr r r0 r1
  refine ⟨k.1, ?_⟩
  rcases TK_ok _ _ _ _ hT r (by omega) r1 with t | ⟨t1, t2⟩
  · exact Or.inl t
  · have k2 := k.2 t1
    refine Or.inr ⟨t1, k2.1, k2.2, ?_⟩
    have sp := bFst_sp (M 2 0) (M 6) (M 3 0) (m 26 0 r) r
    have b0 : 0 ≤ bFst (M 2 0) (M 6) (M 3 0) (m 26 0 r) r := k2.2
    rcases isBest_in sp with c | c
    · omega
    · exact ⟨c.2.1, c.2.2.1⟩
theorem FOUND_tot {M m : Mem} {people : Int} (hw : HW M) (h : FOUND M m people) : sumI (m 26 0) (M 1 0 4) = people ∧ sumI (fun r => if m 26 0 r = 0 then 0 else 1) (M 1 0 4) = m 16 0 7 := by
  have n0 := hw.1
  obtain ⟨f, g, f13, hF, h7, hT2, _⟩ := h
  rcases hF with ⟨a, _⟩ | ⟨_, _, hc, _⟩
  · exact absurd a f13
  · have q := TK_tot _ _ _ _ (by omega) hc hT2
    rw [show M 1 0 4 - (((M 1 0 4 - 0).toNat : Nat) : Int) = 0 by omega, sumI_0, sumI_0] at q
    rw [h7]
    omega
theorem new_grp {M m1 : Mem} {c people minutes z : Int} (h : INV M c) (he : ENDS M) (hT : M 7 0 8 < 100) (hp : 2 ≤ people) (hmi : 1 ≤ minutes ∧ minutes ≤ 200) (sf : SF M m1) (hf : FOUND M m1 people) (hz : z = M 7 0 8 + 1) : GOOD M c (.inl (some z)) (gsM m1 people minutes) := by
  have n0 := h.hw.1
  have n1 := h.hw.2.1
  have b0 := h.bw.1
  have i5 := h.2.2.2.2.1
  have s7 : m1 7 0 8 = M 7 0 8 := by rw [sf 7 (by decide)]
  have s1 : m1 1 0 4 = M 1 0 4 := by rw [sf 1 (by decide)]
  have s0 : m1 0 0 4 = M 0 0 4 := by rw [sf 0 (by decide)]
  have gsm : gsM m1 people minutes = gsS m1 (openM m1 people (M 0 0 4 + minutes)) (M 7 0 8 + 1) (M 1 0 4).toNat := by
    unfold gsM
    rw [s7, s1, s0]
  rw [gsm]
  have nt : (((M 1 0 4).toNat : Nat) : Int) = M 1 0 4 := by omega
  have hi : ∀ g : Nat, 30 ≤ g → gsS m1 (openM m1 people (M 0 0 4 + minutes)) (M 7 0 8 + 1) (M 1 0 4).toNat g = M g := fun g hg => by rw [gsS_g (by omega) (by omega) (by omega), openM_g (by omega), sf g (by omega)]
  have lg : ∀ g : Nat, g < 6 → gsS m1 (openM m1 people (M 0 0 4 + minutes)) (M 7 0 8 + 1) (M 1 0 4).toNat g = M g := fun g hg => by rw [gsS_g (by omega) (by omega) (by omega), openM_g (by omega), sf g (by omega)]
  have lt : ∀ (g : Nat) (t : Int), 8 ≤ g → g ≤ 15 → t ≠ M 7 0 8 + 1 → gsS m1 (openM m1 people (M 0 0 4 + minutes)) (M 7 0 8 + 1) (M 1 0 4).toNat g 0 t = M g 0 t := fun g t g1 g2 ht => by
    rw [gsS_o (by omega) ht, openM_t (by rw [s7]; exact ht) (by omega), sf g (by omega)]
  have O := openM_n (M := m1) (a := people) (b := M 0 0 4 + minutes)
  rw [s7] at O
  have ln : ∀ g : Nat, g ≠ 6 → g ≠ 13 → g ≠ 14 → gsS m1 (openM m1 people (M 0 0 4 + minutes)) (M 7 0 8 + 1) (M 1 0 4).toNat g 0 (M 7 0 8 + 1) = openM m1 people (M 0 0 4 + minutes) g 0 (M 7 0 8 + 1) := fun g g2 g3 g4 => by rw [gsS_g g2 g3 g4]
  have l7 : gsS m1 (openM m1 people (M 0 0 4 + minutes)) (M 7 0 8 + 1) (M 1 0 4).toNat 7 0 8 = M 7 0 8 + 1 := by rw [gsS_g (by decide) (by decide) (by decide), openM_T, s7]
  have w20 : ∀ r : Int, 0 ≤ r → r < M 1 0 4 → M 2 0 r ≤ 20 := fun r r0 r1 => (h.hw.2.2 r r0 r1).2.1
  have bF : ∀ r : Int, 0 ≤ r → r < M 1 0 4 → 0 < m1 26 0 r → m1 19 r (m1 26 0 r) = bM M (m1 26 0 r) r ∧ 0 ≤ bM M (m1 26 0 r) r ∧ bM M (m1 26 0 r) r + m1 26 0 r ≤ M 2 0 r ∧ allF (M 6 r) (bM M (m1 26 0 r) r) (m1 26 0 r) := fun r r0 r1 p => by
    rcases (FOUND_row hf r0 r1).2 with q | q
    · omega
    · exact q.2
  have tk0 : ∀ r : Int, 0 ≤ r → r < M 1 0 4 → 0 ≤ m1 26 0 r ∧ m1 26 0 r ≤ 20 := fun r r0 r1 => (FOUND_row hf r0 r1).1
  have cell : ∀ a : Int, 0 ≤ a → a < 240 → fo (gsS m1 (openM m1 people (M 0 0 4 + minutes)) (M 7 0 8 + 1) (M 1 0 4).toNat) a = if a / 20 < M 1 0 4 ∧ 0 < m1 26 0 (a / 20) ∧ bM M (m1 26 0 (a / 20)) (a / 20) ≤ a % 20 ∧ a % 20 < bM M (m1 26 0 (a / 20)) (a / 20) + m1 26 0 (a / 20) then M 7 0 8 + 1 else fo M a := fun a a0 a1 => by
    unfold fo
    rw [gsS_6, nt, openM_g (by decide), sf 6 (by decide)]
    by_cases q : a / 20 < M 1 0 4 ∧ 0 < m1 26 0 (a / 20) ∧ bM M (m1 26 0 (a / 20)) (a / 20) ≤ a % 20 ∧ a % 20 < bM M (m1 26 0 (a / 20)) (a / 20) + m1 26 0 (a / 20)
    · have k := (bF (a / 20) (by omega) q.1 q.2.1).1
      rw [if_pos q, if_pos (by rw [k]; exact ⟨by omega, q.1, q.2⟩)]
    · rw [if_neg q, if_neg (fun x => by
        have k := (bF (a / 20) x.1 x.2.1 x.2.2.1).1
        rw [k] at x
        exact q x.2)]
  have own : ∀ a : Int, 0 ≤ a → a < 240 → (fo (gsS m1 (openM m1 people (M 0 0 4 + minutes)) (M 7 0 8 + 1) (M 1 0 4).toNat) a = M 7 0 8 + 1 ↔ a / 20 < M 1 0 4 ∧ 0 < m1 26 0 (a / 20) ∧ bM M (m1 26 0 (a / 20)) (a / 20) ≤ a % 20 ∧ a % 20 < bM M (m1 26 0 (a / 20)) (a / 20) + m1 26 0 (a / 20)) := fun a a0 a1 => by
    rw [cell a a0 a1]
    by_cases q : a / 20 < M 1 0 4 ∧ 0 < m1 26 0 (a / 20) ∧ bM M (m1 26 0 (a / 20)) (a / 20) ≤ a % 20 ∧ a % 20 < bM M (m1 26 0 (a / 20)) (a / 20) + m1 26 0 (a / 20)
    · rw [if_pos q]; exact ⟨fun _ => q, fun _ => rfl⟩
    · rw [if_neg q]
      have := (h.2.2.1 a a0 a1).2
      exact ⟨fun x => by omega, fun x => absurd x q⟩
  have mg := many_grp (M := gsS m1 (openM m1 people (M 0 0 4 + minutes)) (M 7 0 8 + 1) (M 1 0 4).toNat) (t := M 7 0 8 + 1) (n := M 1 0 4) (tk := m1 26 0) (b := fun r => bM M (m1 26 0 r) r) ⟨n0, n1⟩ (fun r r0 r1 p => by
    have q := bF r r0 r1 p
    have := w20 r r0 r1
    exact ⟨q.2.1, by show bM M (m1 26 0 r) r + m1 26 0 r ≤ 20; omega⟩) (fun r r0 r1 => (tk0 r r0 r1).1) own
  have tot := FOUND_tot h.hw hf
  have hu : ∀ r : Int, (fun r => if m1 26 0 r = 0 then (0 : Int) else 1) r = 0 ∨ (fun r => if m1 26 0 r = 0 then (0 : Int) else 1) r = 1 := fun r => by
    show (if m1 26 0 r = 0 then (0 : Int) else 1) = 0 ∨ (if m1 26 0 r = 0 then (0 : Int) else 1) = 1
    split
    · exact Or.inl rfl
    · exact Or.inr rfl
  have pos : ∀ r : Int, 0 ≤ r → r < M 1 0 4 → (if m1 26 0 r = 0 then (0 : Int) else 1) = 1 → 0 < m1 26 0 r := fun r r0 r1 q => by
    have := (tk0 r r0 r1).1
    by_cases e0 : m1 26 0 r = 0
    · rw [if_pos e0] at q; omega
    · omega
  have cnt : sumTo (fun r => if m1 26 0 r = 0 then (0 : Int) else 1) (M 1 0 4).toNat = m1 16 0 7 := tot.2
  have nb : blk (gsS m1 (openM m1 people (M 0 0 4 + minutes)) (M 7 0 8 + 1) (M 1 0 4).toNat) (M 7 0 8 + 1) ∨ spl (gsS m1 (openM m1 people (M 0 0 4 + minutes)) (M 7 0 8 + 1) (M 1 0 4).toNat) (M 7 0 8 + 1) := by
    by_cases f1 : m1 16 0 7 = 1
    · obtain ⟨r, r0, r1, r2, r3⟩ := cnt_1 hu _ (cnt.trans f1)
      rw [nt] at r1 r3
      have p := pos r r0 r1 r2
      have zr : ∀ x : Int, 0 ≤ x → x < M 1 0 4 → x ≠ r → m1 26 0 x = 0 := fun x x0 x1 x2 => by
        have q := r3 x x0 x1 x2
        by_cases e0 : m1 26 0 x = 0
        · exact e0
        · have q2 : (if m1 26 0 x = 0 then (0 : Int) else 1) = 0 := q
          rw [if_neg e0] at q2; omega
      have g1 := gsS_1 (B := openM m1 people (M 0 0 4 + minutes)) (t := M 7 0 8 + 1) f1 r0 p (M 1 0 4).toNat (fun x x0 x1 x2 => zr x x0 (by omega) x2) (by omega)
      have tp : m1 26 0 r = people := by
        have q := sumI_part (f := m1 26 0) (lo := r) (k := 1) (n := M 1 0 4) r0 (by decide) (by omega) (fun i i0 i1 i2 => zr i i0 i1 (by omega))
        have q2 : sumI (fun i => m1 26 0 (r + i)) 1 = m1 26 0 r := by
          rw [show (1 : Int) = 0 + 1 by rfl, sumI_s (Int.le_refl 0), sumI_0, show r + 0 = r by omega]
          omega
        have q3 := tot.1
        omega
      have k := bF r r0 r1 p
      have v9 := (ln 9 (by decide) (by decide) (by decide)).trans O.2.1
      have w := w20 r r0 r1
      refine Or.inl ⟨by rw [g1.1, lg 1 (by decide)]; exact ⟨r0, r1⟩, by rw [g1.1, g1.2, v9, lg 2 (by decide), k.1, ← tp]; exact ⟨k.2.1, by omega, k.2.2.1⟩, fun a a0 a1 => ?_⟩
      rw [own a a0 a1, g1.1, g1.2, v9, k.1, ← tp]
      constructor
      · intro q
        by_cases er : a / 20 = r
        · rw [er] at q; omega
        · have := zr (a / 20) (by omega) q.1 er
          omega
      · intro q
        have er : a / 20 = r := by omega
        rw [er]
        exact ⟨r1, p, by omega, by omega⟩
    · refine Or.inr ⟨?_, ?_, ?_⟩
      · rw [gsS_n f1 (by decide)]; exact O.2.2.2.2.2.1
      · rw [mg, tot.1, ln 9 (by decide) (by decide) (by decide)]; exact O.2.1.symm
      · rw [ln 9 (by decide) (by decide) (by decide), O.2.1]; omega
  refine ⟨INV_up (INV_new (n := M 7 0 8 + 1) h hT rfl ⟨lg 1 (by decide), lg 2 (by decide), lg 3 (by decide), lg 4 (by decide)⟩ (lg 0 (by decide)) l7 (fun t ht => keepT_o (fun g g1 g2 => lt g t g1 g2 ht)) ?_ ?_ ?_ ?_ ?_ (fun a a0 a1 => ?_) nb), ?_, hi, Or.inr ⟨z, rfl, by omega⟩⟩
  · rw [ln 8 (by decide) (by decide) (by decide)]; exact O.1
  · rw [ln 10 (by decide) (by decide) (by decide), O.2.2.1]; omega
  · rw [ln 11 (by decide) (by decide) (by decide)]; exact O.2.2.2.1
  · rw [ln 12 (by decide) (by decide) (by decide)]; exact O.2.2.2.2.1
  · rw [ln 15 (by decide) (by decide) (by decide)]; exact O.2.2.2.2.2.2.2
  · rw [cell a a0 a1]
    by_cases q : a / 20 < M 1 0 4 ∧ 0 < m1 26 0 (a / 20) ∧ bM M (m1 26 0 (a / 20)) (a / 20) ≤ a % 20 ∧ a % 20 < bM M (m1 26 0 (a / 20)) (a / 20) + m1 26 0 (a / 20)
    · rw [if_pos q]
      have k := bF (a / 20) (by omega) q.1 q.2.1
      exact Or.inr ⟨k.2.2.2 (a % 20) q.2.2.1 q.2.2.2, ⟨q.1, by omega⟩, rfl⟩
    · rw [if_neg q]; exact Or.inl rfl
  · refine ENDS_one (n := M 7 0 8 + 1) he (by rw [lg 0 (by decide)]) (fun t t1 t2 t3 => ?_) (fun t t1 ht => Or.inl ⟨lt 8 t (by decide) (by decide) ht, lt 10 t (by decide) (by decide) ht⟩) (fun _ => ?_)
    · rw [l7] at t2; omega
    · rw [ln 10 (by decide) (by decide) (by decide), O.2.2.1]; omega
theorem SF.s16 {M m : Mem} (h : SF M m) : S16 M m := fun g hg => h g (Or.inl hg)
theorem SF.fr {M m : Mem} (h : SF M m) : FR M m := fun g hg => h g (Or.inr (by omega))
theorem k_holdGroup {M m : Mem} {c people minutes : Int} {o : OutT} (h : INV M c) (he : ENDS M) (q : Q_holdGroup M people minutes o m) : GOOD M c o m := by
  rcases q with ⟨rfl, q1, q2⟩ | ⟨rfl, q1, q2⟩ | ⟨z, rfl, q1, q2, m1, q3, q4, q5, rfl⟩
  · exact good_xM h he q2
  · exact good_x h he q2.s16 q2.fr
  · exact new_grp h he q2 q1.1.1 q1.2 q3 q4 q5
