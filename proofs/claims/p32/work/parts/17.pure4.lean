/-! plain facts for the split of a group -/
/-- from the last j of n rows b blocks with p seats and the value v can be taken -/
def can (n : Int) (ok : Int → Int → Prop) (V : Int → Int → Int) : Nat → Int → Int → Int → Prop
  | 0, b, p, v => b = 0 ∧ p = 0 ∧ v = 0
  | j + 1, b, p, v => can n ok V j b p v ∨ ∃ s : Int, 2 ≤ s ∧ ok (n - 1 - (j : Int)) s ∧ can n ok V j (b - 1) (p - s) (v - V (n - 1 - (j : Int)) s)
def canI (n : Int) (ok : Int → Int → Prop) (V : Int → Int → Int) (r b p v : Int) : Prop := can n ok V (n - r).toNat b p v
theorem canI_n {n : Int} {ok : Int → Int → Prop} {V : Int → Int → Int} {b p v : Int} : canI n ok V n b p v ↔ b = 0 ∧ p = 0 ∧ v = 0 := by
  unfold canI
  rw [show (n - n).toNat = 0 by omega]
  exact Iff.rfl
theorem canI_s {n : Int} {ok : Int → Int → Prop} {V : Int → Int → Int} {r b p v : Int} (h : r < n) : canI n ok V r b p v ↔ canI n ok V (r + 1) b p v ∨ ∃ s : Int, 2 ≤ s ∧ ok r s ∧ canI n ok V (r + 1) (b - 1) (p - s) (v - V r s) := by
  unfold canI
  rw [show (n - r).toNat = (n - (r + 1)).toNat + 1 by omega]
  show (can n ok V _ b p v ∨ ∃ s : Int, 2 ≤ s ∧ ok (n - 1 - ((n - (r + 1)).toNat : Int)) s ∧ can n ok V _ (b - 1) (p - s) (v - V (n - 1 - ((n - (r + 1)).toNat : Int)) s)) ↔ _
  rw [show n - 1 - ((n - (r + 1)).toNat : Int) = r by omega]
theorem can_bd {n : Int} {ok : Int → Int → Prop} {V : Int → Int → Int} (hV : ∀ r s : Int, 0 ≤ r → r < n → 2 ≤ s → ok r s → -400 ≤ V r s ∧ V r s ≤ 20000) : ∀ (j : Nat) (b p v : Int), (j : Int) ≤ n → can n ok V j b p v → 0 ≤ b ∧ b ≤ (j : Int) ∧ 2 * b ≤ p ∧ -400 * (j : Int) ≤ v ∧ v ≤ 20000 * (j : Int)
  | 0, b, p, v, _, h => by
    obtain ⟨h1, h2, h3⟩ := h
    omega
  | j + 1, b, p, v, hj, h => by
    rcases h with h | ⟨s, h1, h2, h3⟩
    · have := can_bd hV j b p v (by omega) h
      omega
    · have q := can_bd hV j _ _ _ (by omega) h3
      have q2 := hV (n - 1 - (j : Int)) s (by omega) (by omega) h1 h2
      omega
theorem canI_bd {n : Int} {ok : Int → Int → Prop} {V : Int → Int → Int} (hV : ∀ r s : Int, 0 ≤ r → r < n → 2 ≤ s → ok r s → -400 ≤ V r s ∧ V r s ≤ 20000) {r b p v : Int} (h0 : 0 ≤ r) (hr : r ≤ n) (hn : n ≤ 12) (h : canI n ok V r b p v) : 0 ≤ b ∧ b ≤ n - r ∧ 2 * b ≤ p ∧ -4800 ≤ v ∧ v ≤ 240000 := by
  have := can_bd hV _ b p v (by omega) h
  omega
/-- the best of some pairs (rows, value): the fewest rows, then the greatest value; 13 if there is none -/
def isFG (S : Int → Int → Prop) (f g : Int) : Prop := (f = 13 ∧ ∀ b v : Int, ¬ S b v) ∨ (0 ≤ f ∧ f ≤ 12 ∧ S f g ∧ ∀ b v : Int, S b v → f < b ∨ (f = b ∧ v ≤ g))
theorem isFG_iff {S S' : Int → Int → Prop} {f g : Int} (h : isFG S f g) (hS : ∀ b v, S b v ↔ S' b v) : isFG S' f g := by
  rcases h with ⟨a, b⟩ | ⟨a, b, c, d⟩
  · exact Or.inl ⟨a, fun x y q => b x y ((hS x y).mpr q)⟩
  · exact Or.inr ⟨a, b, (hS _ _).mp c, fun x y q => d x y ((hS x y).mpr q)⟩
/-- one block more, of the value w, beside what S2 has -/
def withB (S S2 : Int → Int → Prop) (w : Int) : Int → Int → Prop := fun b v => S b v ∨ S2 (b - 1) (v - w)
theorem isFG_no {S S2 : Int → Int → Prop} {f g f2 g2 w : Int} (h : isFG S f g) (h2 : isFG S2 f2 g2) (hf : 13 ≤ f2) : isFG (withB S S2 w) f g := by
  have hn : ∀ b v, ¬ S2 b v := by
    rcases h2 with ⟨_, q⟩ | ⟨_, q, _⟩
    · exact q
    · omega
  exact isFG_iff h (fun b v => ⟨Or.inl, fun q => q.elim id (fun z => absurd z (hn _ _))⟩)
theorem isFG_take {S S2 : Int → Int → Prop} {f g f2 g2 w : Int} (h : isFG S f g) (h2 : isFG S2 f2 g2) (hf : f2 < 12) (hb : f2 + 1 < f ∨ (f2 + 1 = f ∧ g < g2 + w)) : isFG (withB S S2 w) (f2 + 1) (g2 + w) := by
  rcases h2 with ⟨q, _⟩ | ⟨a, b, c, d⟩
  · omega
  refine Or.inr ⟨by omega, by omega, Or.inr (by rw [show f2 + 1 - 1 = f2 by omega, show g2 + w - w = g2 by omega]; exact c), fun x y q => ?_⟩
  rcases q with q | q
  · rcases h with ⟨_, h⟩ | ⟨h3, h4, h5, h6⟩
    · exact absurd q (h x y)
    · have := h6 x y q; omega
  · have := d _ _ q; omega
theorem isFG_keep {S S2 : Int → Int → Prop} {f g f2 g2 w : Int} (h : isFG S f g) (h2 : isFG S2 f2 g2) (hf : f2 < 12) (hb : ¬ (f2 + 1 < f ∨ (f2 + 1 = f ∧ g < g2 + w))) : isFG (withB S S2 w) f g := by
  rcases h2 with ⟨q, _⟩ | ⟨a, b, c, d⟩
  · omega
  rcases h with ⟨h1, _⟩ | ⟨h3, h4, h5, h6⟩
  · omega
  refine Or.inr ⟨h3, h4, Or.inl h5, fun x y q => ?_⟩
  rcases q with q | q
  · exact h6 x y q
  · have := d _ _ q; omega
theorem isFG_u {S S' : Int → Int → Prop} {f g f' g' : Int} (hS : ∀ b v, S b v ↔ S' b v) (h : isFG S f g) (h' : isFG S' f' g') : f = f' ∧ (f ≠ 13 → g = g') := by
  rcases h with ⟨a, b⟩ | ⟨a, b, c, d⟩ <;> rcases h' with ⟨a', b'⟩ | ⟨a', b', c', d'⟩
  · exact ⟨by omega, fun q => by omega⟩
  · exact absurd ((hS _ _).mpr c') (b _ _)
  · exact absurd ((hS _ _).mp c) (b' _ _)
  · have p := d _ _ ((hS _ _).mpr c')
    have q := d' _ _ ((hS _ _).mp c)
    omega
/-- the pairs of a row with blocks below s seats -/
def rowS (n : Int) (ok : Int → Int → Prop) (V : Int → Int → Int) (r p s : Int) : Int → Int → Prop := fun b v => canI n ok V (r + 1) b p v ∨ ∃ x : Int, 2 ≤ x ∧ x < s ∧ ok r x ∧ canI n ok V (r + 1) (b - 1) (p - x) (v - V r x)
theorem rowS_0 {n : Int} {ok : Int → Int → Prop} {V : Int → Int → Int} {r p f g : Int} (h : isFG (fun b v => canI n ok V (r + 1) b p v) f g) : isFG (rowS n ok V r p 2) f g :=
  isFG_iff h (fun b v => ⟨Or.inl, fun q => q.elim id (fun ⟨x, h1, h2, _⟩ => by omega)⟩)
theorem rowS_s {n : Int} {ok : Int → Int → Prop} {V : Int → Int → Int} {r p s f g : Int} (hs : 2 ≤ s) (hok : ok r s) (h : isFG (withB (rowS n ok V r p s) (fun b v => canI n ok V (r + 1) b (p - s) v) (V r s)) f g) : isFG (rowS n ok V r p (s + 1)) f g := by
  refine isFG_iff h (fun b v => ⟨fun q => ?_, fun q => ?_⟩)
  · rcases q with (q | ⟨x, h1, h2, h3, h4⟩) | q
    · exact Or.inl q
    · exact Or.inr ⟨x, h1, by omega, h3, h4⟩
    · exact Or.inr ⟨s, hs, by omega, hok, q⟩
  · rcases q with q | ⟨x, h1, h2, h3, h4⟩
    · exact Or.inl (Or.inl q)
    · by_cases e : x = s
      · subst e; exact Or.inr h4
      · exact Or.inl (Or.inr ⟨x, h1, by omega, h3, h4⟩)
theorem rowS_all {n : Int} {ok : Int → Int → Prop} {V : Int → Int → Int} (hV : ∀ r s : Int, 0 ≤ r → r < n → 2 ≤ s → ok r s → -400 ≤ V r s ∧ V r s ≤ 20000) {r p s f g : Int} (h0 : 0 ≤ r) (hr : r < n) (hn : n ≤ 12) (hs : ∀ x, 2 ≤ x → ok r x → x ≤ p → x < s) (h : isFG (rowS n ok V r p s) f g) : isFG (fun b v => canI n ok V r b p v) f g := by
  refine isFG_iff h (fun b v => ⟨fun q => ?_, fun q => ?_⟩)
  · rw [canI_s hr]
    rcases q with q | ⟨x, h1, h2, h3, h4⟩
    · exact Or.inl q
    · exact Or.inr ⟨x, h1, h3, h4⟩
  · rw [canI_s hr] at q
    rcases q with q | ⟨x, h1, h3, h4⟩
    · exact Or.inl q
    · have hb := canI_bd hV (by omega) (by omega) hn h4
      exact Or.inr ⟨x, h1, hs x h1 h3 (by omega), h3, h4⟩
/-- a block of s seats of the row r keeps the best (f, g) for p people -/
def works (n : Int) (ok : Int → Int → Prop) (V : Int → Int → Int) (r p f g s : Int) : Prop := ok r s ∧ canI n ok V (r + 1) (f - 1) (p - s) (g - V r s)
/-- what the rows from the last j on take -/
def TK (n : Int) (ok : Int → Int → Prop) (V : Int → Int → Int) : Nat → Int → Int → Int → (Int → Int) → Prop
  | 0, _, _, _, _ => True
  | j + 1, p, f, g, tk => ((tk (n - 1 - (j : Int)) = 0 ∧ ∀ s : Int, 2 ≤ s → ¬ works n ok V (n - 1 - (j : Int)) p f g s) ∧ TK n ok V j p f g tk) ∨ ((2 ≤ tk (n - 1 - (j : Int)) ∧ works n ok V (n - 1 - (j : Int)) p f g (tk (n - 1 - (j : Int))) ∧ ∀ s : Int, 2 ≤ s → works n ok V (n - 1 - (j : Int)) p f g s → s ≤ tk (n - 1 - (j : Int))) ∧ TK n ok V j (p - tk (n - 1 - (j : Int))) (f - 1) (g - V (n - 1 - (j : Int)) (tk (n - 1 - (j : Int)))) tk)
def TKI (n : Int) (ok : Int → Int → Prop) (V : Int → Int → Int) (r p f g : Int) (tk : Int → Int) : Prop := TK n ok V (n - r).toNat p f g tk
theorem TKI_n {n : Int} {ok : Int → Int → Prop} {V : Int → Int → Int} {p f g : Int} {tk : Int → Int} : TKI n ok V n p f g tk := by
  unfold TKI
  rw [show (n - n).toNat = 0 by omega]
  trivial
theorem TKI_s {n : Int} {ok : Int → Int → Prop} {V : Int → Int → Int} {r p f g : Int} {tk : Int → Int} (h : r < n) : TKI n ok V r p f g tk ↔ ((tk r = 0 ∧ ∀ s : Int, 2 ≤ s → ¬ works n ok V r p f g s) ∧ TKI n ok V (r + 1) p f g tk) ∨ ((2 ≤ tk r ∧ works n ok V r p f g (tk r) ∧ ∀ s : Int, 2 ≤ s → works n ok V r p f g s → s ≤ tk r) ∧ TKI n ok V (r + 1) (p - tk r) (f - 1) (g - V r (tk r)) tk) := by
  unfold TKI
  rw [show (n - r).toNat = (n - (r + 1)).toNat + 1 by omega]
  have e : n - 1 - ((n - (r + 1)).toNat : Int) = r := by omega
  show (_ ∨ _) ↔ _
  simp only [TK, e]
theorem TK_u {n : Int} {ok : Int → Int → Prop} {V : Int → Int → Int} {tk tk' : Int → Int} : ∀ (j : Nat) (p f g : Int), TK n ok V j p f g tk → TK n ok V j p f g tk' → ∀ r : Int, n - (j : Int) ≤ r → r < n → tk r = tk' r
  | 0, _, _, _, _, _, r, h1, h2 => by omega
  | j + 1, p, f, g, h, h', r, h1, h2 => by
    rcases h with ⟨⟨a1, a2⟩, a3⟩ | ⟨⟨a1, a2, a4⟩, a3⟩ <;> rcases h' with ⟨⟨b1, b2⟩, b3⟩ | ⟨⟨b1, b2, b4⟩, b3⟩
    · by_cases e : r = n - 1 - (j : Int)
      · rw [e, a1, b1]
      · exact TK_u j _ _ _ a3 b3 r (by omega) h2
    · exact absurd b2 (a2 _ b1)
    · exact absurd a2 (b2 _ a1)
    · have q : tk (n - 1 - (j : Int)) = tk' (n - 1 - (j : Int)) := by
        have x := a4 _ b1 b2
        have y := b4 _ a1 a2
        omega
      by_cases e : r = n - 1 - (j : Int)
      · rw [e, q]
      · rw [← q] at b3
        exact TK_u j _ _ _ a3 b3 r (by omega) h2
theorem TK_ok {n : Int} {ok : Int → Int → Prop} {V : Int → Int → Int} {tk : Int → Int} : ∀ (j : Nat) (p f g : Int), TK n ok V j p f g tk → ∀ r : Int, n - (j : Int) ≤ r → r < n → tk r = 0 ∨ (2 ≤ tk r ∧ ok r (tk r))
  | 0, _, _, _, _, r, h1, h2 => by omega
  | j + 1, p, f, g, h, r, h1, h2 => by
    rcases h with ⟨⟨a1, a2⟩, a3⟩ | ⟨⟨a1, a2, a4⟩, a3⟩
    · by_cases e : r = n - 1 - (j : Int)
      · rw [e]; exact Or.inl a1
      · exact TK_ok j _ _ _ a3 r (by omega) h2
    · by_cases e : r = n - 1 - (j : Int)
      · rw [e]; exact Or.inr ⟨a1, a2.1⟩
      · exact TK_ok j _ _ _ a3 r (by omega) h2
/-- what a block must be to keep the best: by the best behind it -/
theorem works_iff {n : Int} {ok : Int → Int → Prop} {V : Int → Int → Int} {r p f g s f2 g2 : Int} (hr : r < n) (h : isFG (fun b v => canI n ok V r b p v) f g) (hf : f ≠ 13) (h2 : isFG (fun b v => canI n ok V (r + 1) b (p - s) v) f2 g2) (hs : 2 ≤ s) (hok : ok r s) : works n ok V r p f g s ↔ f2 + 1 = f ∧ g2 + V r s = g := by
  rcases h with ⟨a, _⟩ | ⟨a, b, c, d⟩
  · exact absurd a hf
  rcases h2 with ⟨a', b'⟩ | ⟨a', b', c', d'⟩
  · exact ⟨fun q => absurd q.2 (b' _ _), fun q => by omega⟩
  · constructor
    · intro q
      have x := d' _ _ q.2
      have y := d (f2 + 1) (g2 + V r s) ((canI_s hr).mpr (Or.inr ⟨s, hs, hok, by
        rw [show f2 + 1 - 1 = f2 by omega, show g2 + V r s - V r s = g2 by omega]; exact c'⟩))
      omega
    · intro q
      refine ⟨hok, ?_⟩
      rw [show f - 1 = f2 by omega, show g - V r s = g2 by omega]
      exact c'
/-- the best block of a row, by choice -/
noncomputable def bFst (w : Int → Int) (o : Int → Int → Int) (sc : Int → Int) (s r : Int) : Int := Classical.epsilon (isBest (cB w o s True r) (vBR sc w s r))
theorem cB_al {w : Int → Int} {o : Int → Int → Int} {k r f : Int} {P Q : Prop} (h : P ↔ Q) : cB w o k P r f ↔ cB w o k Q r f := by
  unfold cB
  rw [h]
theorem isBest_al {w : Int → Int} {o : Int → Int → Int} {v : Int → Int} {k r z : Int} {P Q : Prop} (h : P ↔ Q) (hb : isBest (cB w o k P r) v z) : isBest (cB w o k Q r) v z := by
  rw [show cB w o k Q r = cB w o k P r from funext fun f => propext (cB_al h.symm)]
  exact hb
theorem bFst_eq {w : Int → Int} {o : Int → Int → Int} {sc : Int → Int} {s r z : Int} (h : isBest (cB w o s True r) (vBR sc w s r) z) : bFst w o sc s r = z :=
  isBest_u (fun _ _ => Iff.rfl) (fun _ _ _ => rfl) (Classical.epsilon_spec (p := isBest (cB w o s True r) (vBR sc w s r)) ⟨z, h⟩) h
def okH (w : Int → Int) (o : Int → Int → Int) (sc : Int → Int) (r s : Int) : Prop := 0 ≤ bFst w o sc s r
noncomputable def VH (w : Int → Int) (o : Int → Int → Int) (sc : Int → Int) (r s : Int) : Int := vBR sc w s r (bFst w o sc s r)
/-- the longest run tells which blocks there are -/
theorem long_ok {w : Int → Int} {o : Int → Int → Int} {sc : Int → Int} {r s L z : Int} (hs : 1 ≤ s) (hL : isLong (o r) (w r) L) (h : isBest (cB w o s True r) (vBR sc w s r) z) : okH w o sc r s ↔ s ≤ L := by
  unfold okH
  rw [bFst_eq h]
  obtain ⟨a0, a1, f, a2, a3, a4⟩ := hL
  rcases h with ⟨e, q⟩ | ⟨q0, q1, q2⟩
  · refine ⟨fun x => by omega, fun x => absurd ⟨by omega, fun y h1 h2 => a4 y h1 (by omega), Or.inl trivial⟩ (q f a2)⟩
  · exact ⟨fun _ => a1 z s q0 (by omega) q1.1 q1.2.1, fun _ => q0⟩
