/-! plain facts for the exchange: how far a row is from a way out -/
/-- as many numbers below n, no two alike -/
theorem pigeon : ∀ (n : Nat) (m : Nat) (g : Nat → Int), (∀ k, k < m → 0 ≤ g k ∧ g k < (n : Int)) → (∀ i j, i < m → j < m → g i = g j → i = j) → m ≤ n
  | 0, 0, _, _, _ => Nat.le_refl 0
  | 0, m + 1, g, h, _ => by have := h 0 (by omega); omega
  | n + 1, m, g, h, hi => by
    by_cases hx : ∃ k, k < m ∧ g k = (n : Int)
    · obtain ⟨k, hk, hg⟩ := hx
      -- drop the place k
      have h2 := pigeon n (m - 1) (fun i => if i < k then g i else g (i + 1)) (fun i hi2 => by
        by_cases e : i < k
        · rw [if_pos e]
          have a := h i (by omega)
          have b : g i ≠ (n : Int) := fun q => by have := hi i k (by omega) hk (q.trans hg.symm); omega
          omega
        · rw [if_neg e]
          have a := h (i + 1) (by omega)
          have b : g (i + 1) ≠ (n : Int) := fun q => by have := hi (i + 1) k (by omega) hk (q.trans hg.symm); omega
          omega) (fun i j h1 h2 h3 => by
        by_cases e : i < k <;> by_cases e2 : j < k
        · rw [if_pos e, if_pos e2] at h3; exact hi i j (by omega) (by omega) h3
        · rw [if_pos e, if_neg e2] at h3; have := hi i (j + 1) (by omega) (by omega) h3; omega
        · rw [if_neg e, if_pos e2] at h3; have := hi (i + 1) j (by omega) (by omega) h3; omega
        · rw [if_neg e, if_neg e2] at h3; have := hi (i + 1) (j + 1) (by omega) (by omega) h3; omega)
      omega
    · have h2 := pigeon n m g (fun k hk => by
        have a := h k hk
        have b : g k ≠ (n : Int) := fun q => hx ⟨k, hk, q⟩
        omega) hi
      omega
/-- by k bookings more a way out is reached from the row r -/
def reach (T : Int) (pt : Int → Prop) (rw_ ws : Int → Int) (en : Int → Prop) : Nat → Int → Prop
  | 0, r => en r
  | k + 1, r => ∃ t : Int, 1 ≤ t ∧ t ≤ T ∧ pt t ∧ rw_ t = r ∧ reach T pt rw_ ws en k (ws t)
/-- the least such number; 13 if there is none -/
def isD (R : Nat → Int → Prop) (r d : Int) : Prop := (d = 13 ∧ ∀ k : Nat, ¬ R k r) ∨ (0 ≤ d ∧ d ≤ 12 ∧ R d.toNat r ∧ ∀ k : Nat, R k r → d ≤ (k : Int))
theorem isD_u {R R' : Nat → Int → Prop} {r d d' : Int} (hR : ∀ k, R k r ↔ R' k r) (h : isD R r d) (h' : isD R' r d') : d = d' := by
  rcases h with ⟨a, b⟩ | ⟨a, b, c, e⟩ <;> rcases h' with ⟨a', b'⟩ | ⟨a', b', c', e'⟩
  · omega
  · exact absurd ((hR _).mpr c') (b _)
  · exact absurd ((hR _).mp c) (b' _)
  · have x := e _ ((hR _).mpr c')
    have y := e' _ ((hR _).mp c)
    omega
theorem leastN {P : Nat → Prop} : ∀ (n k : Nat), k ≤ n → P k → ∃ m, P m ∧ ∀ j, P j → m ≤ j
  | 0, k, h, hp => ⟨k, hp, fun j _ => by omega⟩
  | n + 1, k, h, hp => by
    by_cases hx : ∃ j, j ≤ n ∧ P j
    · obtain ⟨j, h1, h2⟩ := hx
      exact leastN n j h1 h2
    · refine ⟨k, hp, fun j hj => ?_⟩
      have : ¬ j ≤ n := fun q => hx ⟨j, q, hj⟩
      omega
/-- a row that is exactly d + 1 away has a booking whose wish is exactly d away -/
theorem reach_step {T : Int} {pt : Int → Prop} {rw_ ws : Int → Int} {en : Int → Prop} {r : Int} {d : Nat} (h : reach T pt rw_ ws en (d + 1) r) (hm : ∀ k, reach T pt rw_ ws en k r → d + 1 ≤ k) : ∃ t : Int, 1 ≤ t ∧ t ≤ T ∧ pt t ∧ rw_ t = r ∧ reach T pt rw_ ws en d (ws t) ∧ ∀ k, reach T pt rw_ ws en k (ws t) → d ≤ k := by
  obtain ⟨t, h1, h2, h3, h4, h5⟩ := h
  refine ⟨t, h1, h2, h3, h4, h5, fun k hk => ?_⟩
  have := hm (k + 1) ⟨t, h1, h2, h3, h4, hk⟩
  omega
/-- along a shortest way all lesser distances are met -/
theorem reach_all {T : Int} {pt : Int → Prop} {rw_ ws : Int → Int} {en : Int → Prop} {n : Int} (hen : ∀ r, en r → 0 ≤ r ∧ r < n) (hpt : ∀ t, 1 ≤ t → t ≤ T → pt t → 0 ≤ rw_ t ∧ rw_ t < n) : ∀ (d : Nat) (r : Int), reach T pt rw_ ws en d r → (∀ k, reach T pt rw_ ws en k r → d ≤ k) → ∀ e, e ≤ d → ∃ x : Int, (0 ≤ x ∧ x < n) ∧ reach T pt rw_ ws en e x ∧ ∀ k, reach T pt rw_ ws en k x → e ≤ k
  | 0, r, h, hm, e, he => ⟨r, hen r h, by rw [show e = 0 by omega]; exact h, fun k hk => by omega⟩
  | d + 1, r, h, hm, e, he => by
    by_cases q : e = d + 1
    · subst q
      obtain ⟨t, h1, h2, h3, h4, _⟩ := id h
      exact ⟨r, h4 ▸ hpt t h1 h2 h3, h, hm⟩
    · obtain ⟨t, h1, h2, h3, h4, h5, h6⟩ := reach_step h hm
      exact reach_all hen hpt d (ws t) h5 h6 e (by omega)
/-- so the least distance is below the number of rows -/
theorem reach_lt {T : Int} {pt : Int → Prop} {rw_ ws : Int → Int} {en : Int → Prop} {n : Int} (hen : ∀ r, en r → 0 ≤ r ∧ r < n) (hpt : ∀ t, 1 ≤ t → t ≤ T → pt t → 0 ≤ rw_ t ∧ rw_ t < n) {d : Nat} {r : Int} (h : reach T pt rw_ ws en d r) (hm : ∀ k, reach T pt rw_ ws en k r → d ≤ k) : (d : Int) < n := by
  have A := reach_all hen hpt d r h hm
  have hn : 0 ≤ n := by
    obtain ⟨x, h1, _⟩ := A 0 (by omega)
    omega
  have := pigeon n.toNat (d + 1) (fun e => if he : e ≤ d then Classical.choose (A e he) else 0) (fun k hk => by
    rw [dif_pos (show k ≤ d by omega)]
    have := (Classical.choose_spec (A k (by omega))).1
    omega) (fun i j hi hj q => by
    rw [dif_pos (show i ≤ d by omega), dif_pos (show j ≤ d by omega)] at q
    have a := Classical.choose_spec (A i (by omega))
    have b := Classical.choose_spec (A j (by omega))
    rw [q] at a
    have x := a.2.2 _ b.2.1
    have y := b.2.2 _ a.2.1
    omega)
  omega
/-- the numbers laid so far: none too small -/
def sndS (n : Int) (R : Nat → Int → Prop) (S : Int → Int) : Prop := ∀ r : Int, 0 ≤ r → r < n → S r = 13 ∨ (0 ≤ S r ∧ S r ≤ 12 ∧ R (S r).toNat r)
/-- .. and none too great, up to the distance k -/
def cplS (n : Int) (R : Nat → Int → Prop) (S : Int → Int) (k : Int) : Prop := ∀ (d : Nat) (r : Int), (d : Int) ≤ k → 0 ≤ r → r < n → R d r → S r ≤ (d : Int)
/-- a row of a way out is a row -/
theorem exactS {T : Int} {pt : Int → Prop} {rw_ ws : Int → Int} {en : Int → Prop} {n : Int} {S : Int → Int} (hn : n ≤ 12) (hen : ∀ r, en r → 0 ≤ r ∧ r < n) (hpt : ∀ t, 1 ≤ t → t ≤ T → pt t → 0 ≤ rw_ t ∧ rw_ t < n) (h1 : sndS n (reach T pt rw_ ws en) S) (h2 : cplS n (reach T pt rw_ ws en) S n) : ∀ r : Int, 0 ≤ r → r < n → isD (reach T pt rw_ ws en) r (S r) := by
  intro r r0 r1
  by_cases hx : ∃ k, reach T pt rw_ ws en k r
  · obtain ⟨k, hk⟩ := hx
    obtain ⟨d, hd, hm⟩ := leastN (P := fun j => reach T pt rw_ ws en j r) k k (Nat.le_refl k) hk
    have hl := reach_lt hen hpt hd hm
    have hle := h2 d r (by omega) r0 r1 hd
    rcases h1 r r0 r1 with q | ⟨q1, q2, q3⟩
    · omega
    · refine Or.inr ⟨q1, q2, q3, fun j hj => ?_⟩
      have a := hm j hj
      omega
  · refine Or.inl ⟨?_, fun k hk => hx ⟨k, hk⟩⟩
    rcases h1 r r0 r1 with q | ⟨q1, q2, q3⟩
    · exact q
    · exact absurd ⟨_, q3⟩ hx
/-- a round more -/
theorem cplS_s {T : Int} {pt : Int → Prop} {rw_ ws : Int → Int} {en : Int → Prop} {n k : Int} {S S' : Int → Int} (hk : 0 ≤ k) (hws : ∀ t, 1 ≤ t → t ≤ T → pt t → 0 ≤ ws t ∧ ws t < n) (h : cplS n (reach T pt rw_ ws en) S k) (hle : ∀ r, 0 ≤ r → r < n → S' r ≤ S r) (hst : ∀ t, 1 ≤ t → t ≤ T → pt t → S' (rw_ t) ≤ S (ws t) + 1) : cplS n (reach T pt rw_ ws en) S' (k + 1) := by
  intro d r hd r0 r1 hr
  match d, hr with
  | 0, hr =>
    have := h 0 r (by omega) r0 r1 hr
    have := hle r r0 r1
    omega
  | d + 1, hr =>
    obtain ⟨t, t1, t2, t3, t4, t5⟩ := hr
    have a := h d (ws t) (by omega) (hws t t1 t2 t3).1 (hws t t1 t2 t3).2 t5
    have b := hst t t1 t2 t3
    rw [t4] at b
    omega
/-- the least ticket of a kind -/
def isLow (T : Int) (p : Int → Prop) (z : Int) : Prop := 1 ≤ z ∧ z ≤ T ∧ p z ∧ ∀ t : Int, 1 ≤ t → t < z → ¬ p t
theorem isLow_u {T : Int} {p p' : Int → Prop} {y z : Int} (hp : ∀ t, 1 ≤ t → t ≤ T → (p t ↔ p' t)) (h : isLow T p y) (h' : isLow T p' z) : y = z := by
  obtain ⟨a1, a2, a3, a4⟩ := h
  obtain ⟨b1, b2, b3, b4⟩ := h'
  by_cases q : y < z
  · exact absurd ((hp y a1 a2).mp a3) (b4 y a1 q)
  · by_cases q2 : z < y
    · exact absurd ((hp z b1 b2).mpr b3) (a4 z b1 q2)
    · omega
/-- a chain of d + 1 bookings: each one the least that goes on -/
def isChain (T : Int) (R : Nat → Int → Prop) (pt : Int → Prop) (rw_ ws : Int → Int) (t d : Int) (c : Int → Int) : Prop := c 0 = t ∧ ∀ k : Int, 1 ≤ k → k ≤ d → isLow T (fun x => pt x ∧ rw_ x = ws (c (k - 1)) ∧ isD R (ws x) (d - k)) (c k)
