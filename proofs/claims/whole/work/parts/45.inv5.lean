/-! a group's hold, by both -/
theorem cnt_0 {u : Int → Int} (hu : ∀ r, u r = 0 ∨ u r = 1) : ∀ n : Nat, 0 ≤ sumTo u n ∧ (sumTo u n = 0 → ∀ x : Int, 0 ≤ x → x < (n : Int) → u x = 0)
  | 0 => ⟨Int.le_refl 0, fun _ x x0 x1 => by omega⟩
  | n + 1 => by
    have ih := cnt_0 hu n
    have e : sumTo u (n + 1) = sumTo u n + u (n : Int) := rfl
    have k := hu (n : Int)
    refine ⟨by omega, fun q x x0 x1 => ?_⟩
    by_cases c : x = (n : Int)
    · rw [c]; omega
    · exact ih.2 (by omega) x x0 (by omega)
theorem cnt_1 {u : Int → Int} (hu : ∀ r, u r = 0 ∨ u r = 1) : ∀ n : Nat, sumTo u n = 1 → ∃ r : Int, 0 ≤ r ∧ r < (n : Int) ∧ u r = 1 ∧ ∀ x : Int, 0 ≤ x → x < (n : Int) → x ≠ r → u x = 0
  | 0, h => by simp [sumTo] at h
  | n + 1, h => by
    have e : sumTo u (n + 1) = sumTo u n + u (n : Int) := rfl
    rcases hu (n : Int) with k | k
    · obtain ⟨r, r0, r1, r2, r3⟩ := cnt_1 hu n (by omega)
      refine ⟨r, r0, by omega, r2, fun x x0 x1 x2 => ?_⟩
      by_cases c : x = (n : Int)
      · rw [c]; exact k
      · exact r3 x x0 (by omega) x2
    · exact ⟨(n : Int), by omega, by omega, k, fun x x0 x1 x2 => (cnt_0 hu n).2 (by omega) x x0 (by omega)⟩
theorem cnt_2 {u : Int → Int} (hu : ∀ r, u r = 0 ∨ u r = 1) : ∀ n : Nat, 2 ≤ sumTo u n → ∃ r q : Int, (0 ≤ r ∧ r < (n : Int) ∧ u r = 1) ∧ (0 ≤ q ∧ q < (n : Int) ∧ u q = 1) ∧ r ≠ q
  | 0, h => by simp [sumTo] at h
  | n + 1, h => by
    have e : sumTo u (n + 1) = sumTo u n + u (n : Int) := rfl
    by_cases c : 2 ≤ sumTo u n
    · obtain ⟨r, q, ⟨r0, r1, r2⟩, ⟨q0, q1, q2⟩, ne⟩ := cnt_2 hu n c
      exact ⟨r, q, ⟨r0, by omega, r2⟩, ⟨q0, by omega, q2⟩, ne⟩
    · have k := hu (n : Int)
      obtain ⟨r, r0, r1, r2, _⟩ := cnt_1 hu n (by omega)
      exact ⟨r, (n : Int), ⟨r0, by omega, r2⟩, ⟨by omega, by omega, by omega⟩, by omega⟩
theorem TK_tot {n : Int} {ok : Int → Int → Prop} {V : Int → Int → Int} {tk : Int → Int} : ∀ (j : Nat) (p f g : Int), (j : Int) ≤ n → can n ok V j f p g → TK n ok V j p f g tk → sumI tk n = sumI tk (n - (j : Int)) + p ∧ sumI (fun r => if tk r = 0 then 0 else 1) n = sumI (fun r => if tk r = 0 then 0 else 1) (n - (j : Int)) + f
  | 0, p, f, g, _, hc, _ => by
    obtain ⟨a, b, _⟩ := hc
    rw [show n - ((0 : Nat) : Int) = n by omega]
    omega
  | j + 1, p, f, g, hj, hc, h => by
    have s1 : sumI tk (n - (j : Int)) = sumI tk (n - ((j + 1 : Nat) : Int)) + tk (n - 1 - (j : Int)) := by
      rw [show n - (j : Int) = (n - ((j + 1 : Nat) : Int)) + 1 by omega, sumI_s (by omega), show n - ((j + 1 : Nat) : Int) = n - 1 - (j : Int) by omega]
    have s2 : sumI (fun r => if tk r = 0 then 0 else 1) (n - (j : Int)) = sumI (fun r => if tk r = 0 then 0 else 1) (n - ((j + 1 : Nat) : Int)) + (if tk (n - 1 - (j : Int)) = 0 then 0 else 1) := by
      rw [show n - (j : Int) = (n - ((j + 1 : Nat) : Int)) + 1 by omega, sumI_s (by omega), show n - ((j + 1 : Nat) : Int) = n - 1 - (j : Int) by omega]
    have wk : ∀ s, works n ok V (n - 1 - (j : Int)) p f g s ↔ ok (n - 1 - (j : Int)) s ∧ can n ok V j (f - 1) (p - s) (g - V (n - 1 - (j : Int)) s) := fun s => by
      unfold works canI
      rw [show (n - (n - 1 - (j : Int) + 1)).toNat = j by omega]
    rcases h with ⟨⟨a1, a2⟩, a3⟩ | ⟨⟨a1, a2, a4⟩, a3⟩
    · have hc2 : can n ok V j f p g := by
        rcases hc with hc | ⟨s, x1, x2, x3⟩
        · exact hc
        · exact absurd ((wk s).mpr ⟨x2, x3⟩) (a2 s x1)
      have ih := TK_tot j p f g (by omega) hc2 a3
      rw [if_pos a1] at s2
      omega
    · have ih := TK_tot j _ _ _ (by omega) ((wk _).mp a2).2 a3
      rw [if_neg (by omega)] at s2
      omega
theorem gsS_6 {M B : Mem} {t : Int} : ∀ (j : Nat) (r s : Int), gsS M B t j 6 r s = if 0 ≤ r ∧ r < (j : Int) ∧ 0 < M 26 0 r ∧ M 19 r (M 26 0 r) ≤ s ∧ s < M 19 r (M 26 0 r) + M 26 0 r then t else B 6 r s
  | 0, r, s => by rw [if_neg (by omega)]; rfl
  | j + 1, r, s => by
    have ih := gsS_6 (M := M) (B := B) (t := t) j r s
    have gv : giveM (gsS M B t j) (j : Int) (M 19 (j : Int) (M 26 0 (j : Int))) (M 26 0 (j : Int)) t 6 r s = if r = (j : Int) ∧ M 19 (j : Int) (M 26 0 (j : Int)) ≤ s ∧ s < M 19 (j : Int) (M 26 0 (j : Int)) + M 26 0 (j : Int) then t else gsS M B t j 6 r s := by
      unfold giveM
      by_cases q : r = (j : Int) ∧ M 19 (j : Int) (M 26 0 (j : Int)) ≤ s ∧ s < M 19 (j : Int) (M 26 0 (j : Int)) + M 26 0 (j : Int)
      · rw [if_pos q, if_pos ⟨rfl, q⟩]
      · rw [if_neg q, if_neg (fun x => q x.2)]
    have e : gsS M B t (j + 1) 6 r s = if 0 < M 26 0 (j : Int) then giveM (gsS M B t j) (j : Int) (M 19 (j : Int) (M 26 0 (j : Int))) (M 26 0 (j : Int)) t 6 r s else gsS M B t j 6 r s := by
      simp only [gsS]
      split
      · split
        · rw [updM_g (by decide), updM_g (by decide)]
        · rfl
      · rfl
    rw [e, gv, ih]
    by_cases er : r = (j : Int)
    · subst er
      by_cases p : 0 < M 26 0 (j : Int)
      · rw [if_pos p]
        by_cases q : M 19 (j : Int) (M 26 0 (j : Int)) ≤ s ∧ s < M 19 (j : Int) (M 26 0 (j : Int)) + M 26 0 (j : Int)
        · rw [if_pos ⟨rfl, q⟩, if_pos ⟨by omega, by omega, p, q⟩]
        · rw [if_neg (fun x => q x.2), if_neg (by omega), if_neg (fun x => q x.2.2.2)]
      · rw [if_neg p, if_neg (by omega), if_neg (by omega)]
    · rw [if_neg (show ¬ (r = (j : Int) ∧ M 19 (j : Int) (M 26 0 (j : Int)) ≤ s ∧ s < M 19 (j : Int) (M 26 0 (j : Int)) + M 26 0 (j : Int)) from fun x => er x.1), ite_self]
      by_cases q : 0 ≤ r ∧ r < (j : Int) ∧ 0 < M 26 0 r ∧ M 19 r (M 26 0 r) ≤ s ∧ s < M 19 r (M 26 0 r) + M 26 0 r
      · rw [if_pos q, if_pos ⟨q.1, by omega, q.2.2⟩]
      · rw [if_neg q, if_neg (fun x => q ⟨x.1, by omega, x.2.2⟩)]
theorem gsS_o {M B : Mem} {t : Int} {g : Nat} (h6 : g ≠ 6) {x : Int} (hx : x ≠ t) : ∀ j : Nat, gsS M B t j g 0 x = B g 0 x
  | 0 => rfl
  | j + 1 => by
    have ih := gsS_o (M := M) (B := B) (t := t) h6 hx j
    simp only [gsS]
    split
    · split
      · rw [updM_x hx, updM_x hx, giveM_g h6]; exact ih
      · rw [giveM_g h6]; exact ih
    · exact ih
theorem gsS_n {M B : Mem} {t : Int} (h : M 16 0 7 ≠ 1) {g : Nat} (h6 : g ≠ 6) : ∀ j : Nat, gsS M B t j g = B g
  | 0 => rfl
  | j + 1 => by
    have ih := gsS_n (M := M) (B := B) (t := t) h h6 j
    simp only [gsS]
    split
    · first | (rw [giveM_g h6]; exact ih) | (rw [if_neg h, giveM_g h6]; exact ih)
    · exact ih
theorem gsS_1 {M B : Mem} {t r : Int} (h : M 16 0 7 = 1) (r0 : 0 ≤ r) (hr : 0 < M 26 0 r) : ∀ j : Nat, (∀ x : Int, 0 ≤ x → x < (j : Int) → x ≠ r → M 26 0 x = 0) → r < (j : Int) → gsS M B t j 13 0 t = r ∧ gsS M B t j 14 0 t = M 19 r (M 26 0 r)
  | 0, _, q => by omega
  | j + 1, hz, q => by
    by_cases e : r = (j : Int)
    · subst e
      simp only [gsS]
      rw [if_pos hr, if_pos h]
      exact ⟨by rw [updM_g (by decide), updM_same], updM_same⟩
    · have ih := gsS_1 (B := B) (t := t) h r0 hr j (fun x x0 x1 => hz x x0 (by omega)) (by omega)
      have z := hz (j : Int) (by omega) (by omega) (Ne.symm e)
      simp only [gsS]
      rw [if_neg (by omega)]
      exact ih
theorem hgS_34 {M B : Mem} {t : Int} : ∀ (j : Nat) (_ : ∀ r : Int, 0 ≤ r → r < (j : Int) → 0 < M 41 0 r → 0 ≤ bFst (M 31 0) (oMd M) (M 32 0) (M 41 0 r) r ∧ bFst (M 31 0) (oMd M) (M 32 0) (M 41 0 r) r + M 41 0 r ≤ 20) (a : Int), 0 ≤ a → hgS M B t j 34 0 a = if a / 20 < (j : Int) ∧ 0 < M 41 0 (a / 20) ∧ bFst (M 31 0) (oMd M) (M 32 0) (M 41 0 (a / 20)) (a / 20) ≤ a % 20 ∧ a % 20 < bFst (M 31 0) (oMd M) (M 32 0) (M 41 0 (a / 20)) (a / 20) + M 41 0 (a / 20) then t else B 34 0 a
  | 0, _, a, a0 => by rw [if_neg (by omega)]; rfl
  | j + 1, h, a, a0 => by
    have ih := hgS_34 (M := M) (B := B) (t := t) j (fun r r0 r1 r2 => h r r0 (by omega) r2) a a0
    have gv : 0 < M 41 0 (j : Int) → ownM (hgS M B t j) (j : Int) (bFst (M 31 0) (oMd M) (M 32 0) (M 41 0 (j : Int)) (j : Int)) (M 41 0 (j : Int)) t 34 0 a = if a / 20 = (j : Int) ∧ bFst (M 31 0) (oMd M) (M 32 0) (M 41 0 (j : Int)) (j : Int) ≤ a % 20 ∧ a % 20 < bFst (M 31 0) (oMd M) (M 32 0) (M 41 0 (j : Int)) (j : Int) + M 41 0 (j : Int) then t else hgS M B t j 34 0 a := fun p => by
      have k := h (j : Int) (by omega) (by omega) p
      unfold ownM
      by_cases q : a / 20 = (j : Int) ∧ bFst (M 31 0) (oMd M) (M 32 0) (M 41 0 (j : Int)) (j : Int) ≤ a % 20 ∧ a % 20 < bFst (M 31 0) (oMd M) (M 32 0) (M 41 0 (j : Int)) (j : Int) + M 41 0 (j : Int)
      · rw [if_pos q, if_pos ⟨rfl, rfl, by omega, by omega⟩]
      · rw [if_neg q, if_neg (fun x => q ⟨by omega, by omega, by omega⟩)]
    have e : hgS M B t (j + 1) 34 0 a = if 0 < M 41 0 (j : Int) then ownM (hgS M B t j) (j : Int) (bFst (M 31 0) (oMd M) (M 32 0) (M 41 0 (j : Int)) (j : Int)) (M 41 0 (j : Int)) t 34 0 a else hgS M B t j 34 0 a := by
      simp only [hgS]
      split <;> rfl
    rw [e]
    by_cases er : a / 20 = (j : Int)
    · rw [er] at ih ⊢
      by_cases p : 0 < M 41 0 (j : Int)
      · rw [if_pos p, gv p, er]
        by_cases q : bFst (M 31 0) (oMd M) (M 32 0) (M 41 0 (j : Int)) (j : Int) ≤ a % 20 ∧ a % 20 < bFst (M 31 0) (oMd M) (M 32 0) (M 41 0 (j : Int)) (j : Int) + M 41 0 (j : Int)
        · rw [if_pos ⟨rfl, q⟩, if_pos ⟨by omega, p, q⟩]
        · rw [if_neg (fun x => q x.2), if_neg (fun x => q x.2.2), ih, if_neg (by omega)]
      · rw [if_neg p, if_neg (fun x => p x.2.1), ih, if_neg (by omega)]
    · have k : (if 0 < M 41 0 (j : Int) then ownM (hgS M B t j) (j : Int) (bFst (M 31 0) (oMd M) (M 32 0) (M 41 0 (j : Int)) (j : Int)) (M 41 0 (j : Int)) t 34 0 a else hgS M B t j 34 0 a) = hgS M B t j 34 0 a := by
        by_cases p : 0 < M 41 0 (j : Int)
        · rw [if_pos p, gv p, if_neg (fun x => er x.1)]
        · rw [if_neg p]
      rw [k, ih]
      by_cases q : a / 20 < (j : Int) ∧ 0 < M 41 0 (a / 20) ∧ bFst (M 31 0) (oMd M) (M 32 0) (M 41 0 (a / 20)) (a / 20) ≤ a % 20 ∧ a % 20 < bFst (M 31 0) (oMd M) (M 32 0) (M 41 0 (a / 20)) (a / 20) + M 41 0 (a / 20)
      · rw [if_pos q, if_pos ⟨by omega, q.2⟩]
      · rw [if_neg q, if_neg (fun x => q ⟨by omega, x.2⟩)]
/-- the seats of a group, counted -/
theorem many_grp {M : Mem} {t n : Int} {tk b : Int → Int} (hn : 0 ≤ n ∧ n ≤ 12) (hb : ∀ r : Int, 0 ≤ r → r < n → 0 < tk r → 0 ≤ b r ∧ b r + tk r ≤ 20) (h0 : ∀ r : Int, 0 ≤ r → r < n → 0 ≤ tk r) (hc : ∀ a : Int, 0 ≤ a → a < 240 → (M 34 0 a = t ↔ a / 20 < n ∧ 0 < tk (a / 20) ∧ b (a / 20) ≤ a % 20 ∧ a % 20 < b (a / 20) + tk (a / 20))) : manyM M t = sumI tk n := by
  have e := sumI_240 (fun a => if M 34 0 a = t then 1 else 0) 12
  rw [show (20 * ((12 : Nat) : Int)) = 240 by decide] at e
  unfold manyM
  rw [e]
  have hc2 : ∀ r s : Int, 0 ≤ r → r < 12 → 0 ≤ s → s < 20 → (M 34 0 (20 * r + s) = t ↔ r < n ∧ 0 < tk r ∧ b r ≤ s ∧ s < b r + tk r) := fun r s r0 r1 s0 s1 => by
    have q := hc (20 * r + s) (by omega) (by omega)
    rw [show (20 * r + s) / 20 = r by omega, show (20 * r + s) % 20 = s by omega] at q
    exact q
  have e2 : sumI (fun r => sumI (fun s => if M 34 0 (20 * r + s) = t then 1 else 0) 20) ((12 : Nat) : Int) = sumI (fun r => sumI (fun s => if M 34 0 (20 * (0 + r) + s) = t then 1 else 0) 20) n :=
    sumI_part (lo := 0) (k := n) (Int.le_refl 0) hn.1 (by show 0 + n ≤ 12; omega) (fun r r0 r1 q => sumI_zero (fun s s0 s1 => if_neg (fun x => by have := ((hc2 r s r0 r1 s0 s1).mp x).1; omega)))
  rw [e2]
  refine sumI_cg (fun r r0 r1 => ?_)
  rw [show (0 : Int) + r = r by omega]
  by_cases p : 0 < tk r
  · have k := hb r r0 r1 p
    rw [sumI_part (f := fun s => if M 34 0 (20 * r + s) = t then 1 else 0) (lo := b r) (k := tk r) (n := 20) k.1 (by omega) k.2 (fun s s0 s1 q => if_neg (fun x => q ((hc2 r s r0 (by omega) s0 s1).mp x).2.2))]
    rw [sumI_cg (g := fun _ => 1) (fun s s0 s1 => if_pos ((hc2 r (b r + s) r0 (by omega) (by omega) (by omega)).mpr ⟨r1, p, by omega, by omega⟩)), sumI_one (by omega)]
  · have z := h0 r r0 r1
    rw [sumI_zero (fun s s0 s1 => if_neg (fun x => p ((hc2 r s r0 (by omega) s0 s1).mp x).2.1))]
    omega
