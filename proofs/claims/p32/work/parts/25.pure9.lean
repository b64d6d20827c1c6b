/-! the class's own calls: their ends -/
def rXm (A B : Mem → Prop) (E : String) : OutT → Mem → Prop := fun o m => (o = .inl none ∧ A m) ∨ (o = .inr E ∧ B m)
def rXr (A : Int → Prop) (B : Prop) (E : String) (M : Mem) : OutT → Mem → Prop := fun o m => (∃ z, o = .inl (some z) ∧ A z ∧ m = M) ∨ (o = .inr E ∧ B ∧ m = M)
section AWG
variable {K : WPar} {l : Launch} {μ : MInfo} {Z : ZT} {pc : Nat} {L : List (Option Value)} {st : List Value} {M : Mem} {cells slots : Nat}
theorem aw_cVy {ν : MInfo} {n g ci x N idx c2 s2 : Nat} {T : u_T} {fs : List (Option Nat)} {As rest : List Value} {A B : Mem → Prop} {E : String} (hCT : CT K l ν (rV K g 0 :: As) M (rXm A B E)) (hcal : CALV ν n) (hd : decode μ.2.1 pc = .ok (.invokevirtual idx, 3)) (hli : Cond.methodLink μ.1.cls idx ν.1 ∈ AL) (hk : gk g = (0, ci, x, fs)) (hc : vwCl[ci]? = some (ν.1.cls, T, N)) (hcnt : gcnt g = 1) (hn : As.length = n) (hst : st = As.reverse ++ rV K g 0 :: rest) (hre : (rest.map fun v => v.category).sum ≤ 8) (hR : (mRm ν).frames + 1 ≤ (mRm μ).frames ∧ 8 + (ν.2.2.1 + 11) + (mRm ν).locals ≤ (mRm μ).locals) (hc2 : cells + (mRm ν).cells = c2) (hl2 : slots + (mRm ν).slots = s2) (hf : c2 ≤ (mRm μ).cells ∧ s2 ≤ (mRm μ).slots)
    (kt : ∀ m, A m → AW K l μ Z (pc + 3) L rest m c2 s2) (kf : ∀ m, B m → AX K l μ Z pc L rest m c2 s2 E) : AW K l μ Z pc L st M cells slots := by
  subst hc2 hl2
  refine aw_callV hCT hcal hd hli hk hc hcnt hn hst hre hR hf (fun r M2 h => ?_) (fun E2 M2 h => ?_)
  · rcases h with ⟨e1, e2⟩ | ⟨e1, e2⟩
    · cases e1
      exact kt M2 e2
    · cases e1
  · rcases h with ⟨e1, e2⟩ | ⟨e1, e2⟩
    · cases e1
    · cases e1
      exact kf M2 e2
theorem aw_cVz {ν : MInfo} {n g ci x N idx c2 s2 : Nat} {T : u_T} {fs : List (Option Nat)} {As rest : List Value} {A : Int → Prop} {B : Prop} {E : String} (hCT : CT K l ν (rV K g 0 :: As) M (rXr A B E M)) (hcal : CALV ν n) (hd : decode μ.2.1 pc = .ok (.invokevirtual idx, 3)) (hli : Cond.methodLink μ.1.cls idx ν.1 ∈ AL) (hk : gk g = (0, ci, x, fs)) (hc : vwCl[ci]? = some (ν.1.cls, T, N)) (hcnt : gcnt g = 1) (hn : As.length = n) (hst : st = As.reverse ++ rV K g 0 :: rest) (hre : (rest.map fun v => v.category).sum ≤ 8) (hR : (mRm ν).frames + 1 ≤ (mRm μ).frames ∧ 8 + (ν.2.2.1 + 11) + (mRm ν).locals ≤ (mRm μ).locals) (hc2 : cells + (mRm ν).cells = c2) (hl2 : slots + (mRm ν).slots = s2) (hf : c2 ≤ (mRm μ).cells ∧ s2 ≤ (mRm μ).slots)
    (kt : ∀ z, A z → AW K l μ Z (pc + 3) L (iV z :: rest) M c2 s2) (kf : B → AX K l μ Z pc L rest M c2 s2 E) : AW K l μ Z pc L st M cells slots := by
  subst hc2 hl2
  refine aw_callV hCT hcal hd hli hk hc hcnt hn hst hre hR hf (fun r M2 h => ?_) (fun E2 M2 h => ?_)
  · rcases h with ⟨z, e1, e2, e3⟩ | ⟨e1, e2, e3⟩
    · cases e1
      rw [e3]
      exact kt z e2
    · cases e1
  · rcases h with ⟨z, e1, e2, e3⟩ | ⟨e1, e2, e3⟩
    · cases e1
    · cases e1
      rw [e3]
      exact kf e2
end AWG
abbrev eISE : String := "java/lang/IllegalStateException"
abbrev eIAE : String := "java/lang/IllegalArgumentException"
abbrev eIOB : String := "java/lang/IndexOutOfBoundsException"
/-- the hall's best block of some seats: 100 times the row and the first seat, -1 without one -/
def bestG (n : Int) (w : Int → Int) (o : Int → Int → Int) (sc : Int → Int) (k z : Int) : Prop := (z ≠ -1 ∧ ∃ bv, isBestRV n (cB w o k False) (vBR sc w k) z bv) ∨ ((∃ bv, isBestRV n (cB w o k False) (vBR sc w k) (-1) bv) ∧ ∃ bv, isBestRV n (cB w o k True) (vBR sc w k) z bv)
abbrev bestM (M : Mem) (k z : Int) : Prop := bestG (M 1 0 4) (M 2 0) (M 6) (M 3 0) k z
theorem isBestRV_al {n : Int} {w : Int → Int} {o : Int → Int → Int} {v : Int → Int → Int} {k z bv : Int} {P Q : Prop} (h : P ↔ Q) (hb : isBestRV n (cB w o k P) v z bv) : isBestRV n (cB w o k Q) v z bv := by
  rw [show cB w o k Q = cB w o k P from funext fun r => funext fun f => propext (cB_al h.symm)]
  exact hb
theorem bestG_at {n : Int} {w : Int → Int} {o : Int → Int → Int} {sc : Int → Int} {k z : Int} (hk : 1 ≤ k) (hw : ∀ r : Int, 0 ≤ r → r < n → w r ≤ 20) (h : bestG n w o sc k z) (hz : z ≠ -1) : 0 ≤ z / 100 ∧ z / 100 < n ∧ 0 ≤ z % 100 ∧ z % 100 + k ≤ w (z / 100) ∧ allF (o (z / 100)) (z % 100) k ∧ z = 100 * (z / 100) + z % 100 ∧ 0 ≤ z := by
  have key : ∀ {P : Prop} {bv : Int}, isBestRV n (cB w o k P) (vBR sc w k) z bv → 0 ≤ z / 100 ∧ z / 100 < n ∧ 0 ≤ z % 100 ∧ z % 100 + k ≤ w (z / 100) ∧ allF (o (z / 100)) (z % 100) k ∧ z = 100 * (z / 100) + z % 100 ∧ 0 ≤ z := by
    intro P bv hb
    rcases hb with ⟨a, _⟩ | ⟨r, f, b1, b2, b3, b4, b5, b6, b7⟩
    · exact absurd a hz
    · have c1 := b6.1
      have c2 := hw r b3 b4
      have e1 : z / 100 = r := by omega
      have e2 : z % 100 = f := by omega
      rw [e1, e2]
      exact ⟨b3, b4, b5, c1, b6.2.1, b1, by omega⟩
  rcases h with ⟨_, bv, hb⟩ | ⟨_, bv, hb⟩
  · exact key hb
  · exact key hb
theorem price_bd {M : Mem} (hw : HW M) (t : Int) : 0 ≤ sumI (fun r => sumI (fun s => if M 6 r s = t then M 4 0 r else 0) (M 2 0 r)) (M 1 0 4) ∧ sumI (fun r => sumI (fun s => if M 6 r s = t then M 4 0 r else 0) (M 2 0 r)) (M 1 0 4) ≤ 2400000 := by
  have h := sumI_bd (f := fun r => sumI (fun s => if M 6 r s = t then M 4 0 r else 0) (M 2 0 r)) 0 200000 hw.1 (fun r r0 r1 => by
    have w := hw.2.2 r r0 r1
    have q := sumI_bd (f := fun s => if M 6 r s = t then M 4 0 r else 0) (z := M 2 0 r) 0 10000 (by omega) (fun s s0 s1 => by
      by_cases e : M 6 r s = t
      · rw [if_pos e]; omega
      · rw [if_neg e]; omega)
    omega)
  have := hw.2.1
  omega
abbrev priceM (M : Mem) (t : Int) : Int := sumI (fun r => sumI (fun s => if M 6 r s = t then M 4 0 r else 0) (M 2 0 r)) (M 1 0 4)
/-- a ticket for a block -/
def grM (M : Mem) (row first seats minutes : Int) : Mem := giveM (updM (updM (openM M seats (M 0 0 4 + minutes)) 13 0 (M 7 0 8 + 1) row) 14 0 (M 7 0 8 + 1) first) row first seats (M 7 0 8 + 1)
theorem openM_g {M : Mem} {a b : Int} {g : Nat} (h : g < 7 ∨ 15 < g) : openM M a b g = M g := by
  unfold openM
  rw [updM_g (by omega), updM_g (by omega), updM_g (by omega), updM_g (by omega), updM_g (by omega), updM_g (by omega), updM_g (by omega), updM_g (by omega), updM_g (by omega)]
theorem openM_T {M : Mem} {a b : Int} : openM M a b 7 0 8 = M 7 0 8 + 1 := by
  unfold openM
  rw [updM_g (by decide), updM_g (by decide), updM_g (by decide), updM_g (by decide), updM_g (by decide), updM_g (by decide), updM_g (by decide), updM_g (by decide), updM_same]
/-- a split's blocks get their ticket, row by row -/
def gsS (M B : Mem) (t : Int) : Nat → Mem
  | 0 => B
  | j + 1 => if 0 < M 26 0 (j : Int) then (if M 16 0 7 = 1 then updM (updM (giveM (gsS M B t j) (j : Int) (M 19 (j : Int) (M 26 0 (j : Int))) (M 26 0 (j : Int)) t) 13 0 t (j : Int)) 14 0 t (M 19 (j : Int) (M 26 0 (j : Int))) else giveM (gsS M B t j) (j : Int) (M 19 (j : Int) (M 26 0 (j : Int))) (M 26 0 (j : Int)) t) else gsS M B t j
def gsM (M : Mem) (people minutes : Int) : Mem := gsS M (openM M people (M 0 0 4 + minutes)) (M 7 0 8 + 1) (M 1 0 4).toNat
theorem gsS_s {M B : Mem} {t r : Int} (h : 0 ≤ r) : gsS M B t (r + 1).toNat = if 0 < M 26 0 r then (if M 16 0 7 = 1 then updM (updM (giveM (gsS M B t r.toNat) r (M 19 r (M 26 0 r)) (M 26 0 r) t) 13 0 t r) 14 0 t (M 19 r (M 26 0 r)) else giveM (gsS M B t r.toNat) r (M 19 r (M 26 0 r)) (M 26 0 r) t) else gsS M B t r.toNat := by
  rw [show (r + 1).toNat = r.toNat + 1 by omega]
  simp only [gsS, Int.toNat_of_nonneg h]
theorem gsS_g {M B : Mem} {t : Int} {g : Nat} (h6 : g ≠ 6) (h13 : g ≠ 13) (h14 : g ≠ 14) : ∀ j : Nat, gsS M B t j g = B g
  | 0 => rfl
  | j + 1 => by
    have ih := gsS_g (M := M) (B := B) (t := t) h6 h13 h14 j
    simp only [gsS]
    split
    · split
      · rw [updM_g h14, updM_g h13, giveM_g h6]; exact ih
      · rw [giveM_g h6]; exact ih
    · exact ih
/-- a ticket is closed -/
def clM (M : Mem) (t how : Int) : Mem := updM (updM (relM M t (M 1 0 4) 0) 8 0 t how) 15 0 t (-1)
theorem clM_g {M : Mem} {t how : Int} {g : Nat} (h6 : g ≠ 6) (h8 : g ≠ 8) (h15 : g ≠ 15) : clM M t how g = M g := by
  unfold clM
  rw [updM_g h15, updM_g h8, relM_g h6]
/-- time passes: the tickets one by one -/
def psS (M : Mem) : Nat → Mem
  | 0 => M
  | j + 1 => if psS M j 8 0 ((j : Int) + 1) = 0 ∧ psS M j 10 0 ((j : Int) + 1) ≤ M 0 0 4 then clM (psS M j) ((j : Int) + 1) 2 else psS M j
def psC (M : Mem) : Nat → Int
  | 0 => 0
  | j + 1 => if psS M j 8 0 ((j : Int) + 1) = 0 ∧ psS M j 10 0 ((j : Int) + 1) ≤ M 0 0 4 then psC M j + 1 else psC M j
theorem psS_g {M : Mem} {g : Nat} (h6 : g ≠ 6) (h8 : g ≠ 8) (h15 : g ≠ 15) : ∀ j : Nat, psS M j g = M g
  | 0 => rfl
  | j + 1 => by
    have ih := psS_g (M := M) h6 h8 h15 j
    simp only [psS]
    split
    · rw [clM_g h6 h8 h15]; exact ih
    · exact ih
theorem psS_s {M : Mem} {t : Int} (h : 1 ≤ t) : (psS M (t + 1 - 1).toNat = if psS M (t - 1).toNat 8 0 t = 0 ∧ M 10 0 t ≤ M 0 0 4 then clM (psS M (t - 1).toNat) t 2 else psS M (t - 1).toNat) ∧ psC M (t + 1 - 1).toNat = if psS M (t - 1).toNat 8 0 t = 0 ∧ M 10 0 t ≤ M 0 0 4 then psC M (t - 1).toNat + 1 else psC M (t - 1).toNat := by
  have e : (t + 1 - 1).toNat = (t - 1).toNat + 1 := by omega
  have e2 : (((t - 1).toNat : Nat) : Int) + 1 = t := by omega
  rw [e]
  simp only [psS, psC, e2, psS_g (M := M) (g := 10) (by decide) (by decide) (by decide)]
  exact ⟨trivial, trivial⟩
theorem psC_bd (M : Mem) : ∀ j : Nat, 0 ≤ psC M j ∧ psC M j ≤ (j : Int)
  | 0 => by simp [psC]
  | j + 1 => by
    have := psC_bd M j
    simp only [psC]
    split <;> omega
def passM (M : Mem) (minutes : Int) : Mem := psS (updM M 0 0 4 (M 0 0 4 + minutes)) (M 7 0 8).toNat
def passC (M : Mem) (minutes : Int) : Int := psC (updM M 0 0 4 (M 0 0 4 + minutes)) (M 7 0 8).toNat
