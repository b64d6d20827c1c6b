/-! two objects in one memory: the second one's groups are 30 places on -/
def sg (g : Nat) : Nat := if g < 30 then g + 30 else if g < 60 then g - 30 else g
def swM (M : Mem) : Mem := fun g => M (sg g)
def swK (K : WPar) : WPar := (K.1, K.2.1, fun g i => K.2.2.1 (sg g) i, K.2.2.2)
theorem sg_sg (g : Nat) : sg (sg g) = g := by
  unfold sg
  by_cases h : g < 30
  · rw [if_pos h, if_neg (by omega), if_pos (by omega)]; omega
  · rw [if_neg h]
    by_cases h2 : g < 60
    · rw [if_pos h2, if_pos (by omega)]; omega
    · rw [if_neg h2, if_neg h, if_neg h2]
theorem swM_swM (M : Mem) : swM (swM M) = M := by
  funext g
  show M (sg (sg g)) = M g
  rw [sg_sg]
theorem sg_lo {g : Nat} (h : g < 30) : sg g = g + 30 := if_pos h
theorem sg_hi {g : Nat} (h : 30 ≤ g) (h2 : g < 60) : sg g = g - 30 := by
  unfold sg
  rw [if_neg (by omega), if_pos h2]
theorem sg_out {g : Nat} (h : 60 ≤ g) : sg g = g := by
  unfold sg
  rw [if_neg (by omega), if_neg (by omega)]
theorem swM_lo {M : Mem} {g : Nat} (h : g < 30) : swM M g = M (g + 30) := by
  show M (sg g) = _
  rw [sg_lo h]
theorem swM_hi {M : Mem} {g : Nat} (h : g < 30) : swM M (g + 30) = M g := by
  show M (sg (g + 30)) = _
  rw [sg_hi (by omega) (by omega)]
  rfl
theorem gcnt_sw : ∀ g : Nat, gcnt (sg g) = gcnt g := by
  have h : ∀ g : Nat, g < 60 → gcnt (sg g) = gcnt g := by decide +kernel
  intro g
  by_cases h2 : g < 60
  · exact h g h2
  · rw [sg_out (by omega)]
theorem gcnt_60 {g : Nat} (h : 60 ≤ g) : gcnt g = 0 := by
  unfold gcnt
  split
  any_goals omega
theorem cell_sw (K : WPar) (f : Int → Int) : ∀ g : Nat, g < 60 → cellK (swK K) (gk g) f = cellK K (gk (sg g)) f := by
  intro g hg
  rcases (show g = 0 ∨ g = 1 ∨ g = 2 ∨ g = 3 ∨ g = 4 ∨ g = 5 ∨ g = 6 ∨ g = 7 ∨ g = 8 ∨ g = 9 ∨ g = 10 ∨ g = 11 ∨ g = 12 ∨ g = 13 ∨ g = 14 ∨ g = 15 ∨ g = 16 ∨ g = 17 ∨ g = 18 ∨ g = 19 ∨ g = 20 ∨ g = 21 ∨ g = 22 ∨ g = 23 ∨ g = 24 ∨ g = 25 ∨ g = 26 ∨ g = 27 ∨ g = 28 ∨ g = 29 ∨ g = 30 ∨ g = 31 ∨ g = 32 ∨ g = 33 ∨ g = 34 ∨ g = 35 ∨ g = 36 ∨ g = 37 ∨ g = 38 ∨ g = 39 ∨ g = 40 ∨ g = 41 ∨ g = 42 ∨ g = 43 ∨ g = 44 ∨ g = 45 ∨ g = 46 ∨ g = 47 ∨ g = 48 ∨ g = 49 ∨ g = 50 ∨ g = 51 ∨ g = 52 ∨ g = 53 ∨ g = 54 ∨ g = 55 ∨ g = 56 ∨ g = 57 ∨ g = 58 ∨ g = 59 by omega) with rfl | rfl | rfl | rfl | rfl | rfl | rfl | rfl | rfl | rfl | rfl | rfl | rfl | rfl | rfl | rfl | rfl | rfl | rfl | rfl | rfl | rfl | rfl | rfl | rfl | rfl | rfl | rfl | rfl | rfl | rfl | rfl | rfl | rfl | rfl | rfl | rfl | rfl | rfl | rfl | rfl | rfl | rfl | rfl | rfl | rfl | rfl | rfl | rfl | rfl | rfl | rfl | rfl | rfl | rfl | rfl | rfl | rfl | rfl | rfl <;> rfl
theorem cellOf_sw (K : WPar) (M : Mem) (g : Nat) (hg : g < 60) (i : Int) : cellOf (swK K) (swM M) g i = cellOf K M (sg g) i := cell_sw K (M (sg g) i) g hg
theorem kad_sw (K : WPar) (g : Nat) (i : Int) : kad (swK K) g i = kad K (sg g) i := rfl
theorem wd_sw1 {K : WPar} {M : Mem} {H : Heap} (h : WD K M H) : WD (swK K) (swM M) H := by
  refine ⟨fun g i j => h.1 (sg g) i j, fun g i i0 i1 => ?_⟩
  have hg : g < 60 := by
    by_cases q : g < 60
    · exact q
    · rw [gcnt_60 (by omega)] at i1; omega
  have := h.2 (sg g) i i0 (by rw [gcnt_sw]; exact i1)
  rw [cellOf_sw K M g hg i, kad_sw]
  exact this
theorem swK_swK (K : WPar) : swK (swK K) = K := by
  have e : (fun g i => (swK K).2.2.1 (sg g) i) = K.2.2.1 := by
    funext g i
    show K.2.2.1 (sg (sg g)) i = _
    rw [sg_sg]
  show ((swK K).1, (swK K).2.1, (fun g i => (swK K).2.2.1 (sg g) i), (swK K).2.2.2) = K
  rw [e]
  rfl
theorem wd_sw2 {K : WPar} {M : Mem} {H : Heap} (h : WD (swK K) M H) : WD K (swM M) H := by
  have := wd_sw1 h
  rw [swK_swK] at this
  exact this
theorem adk_sw {K : WPar} (h : ADK K) : ADK (swK K) := by
  refine ⟨fun g i g' i' a b a' b' e => ?_, fun g i a b => ?_⟩
  · have q := h.1 (sg g) i (sg g') i' a (by rw [gcnt_sw]; exact b) a' (by rw [gcnt_sw]; exact b') e
    refine ⟨?_, q.2⟩
    have := congrArg sg q.1
    rw [sg_sg, sg_sg] at this
    exact this
  · exact h.2 (sg g) i a (by rw [gcnt_sw]; exact b)
theorem pre_sw {K : WPar} {M : Mem} {U : State} (h : PRE K M U) : PRE (swK K) (swM M) U := ⟨wd_sw1 h.1, h.2.1, h.2.2.1, adk_sw h.2.2.2⟩
/-- a contract's end, said otherwise -/
theorem CT_mono {K : WPar} {l : Launch} {μ : MInfo} {avs : List Value} {M : Mem} {P P' : OutT → Mem → Prop} (h : CT K l μ avs M P) (hp : ∀ o m, (∀ g i j, inR (m g i j)) → P o m → P' o m) : CT K l μ avs M P' := by
  intro p e ha hc hk s m args below hf hpre hP hW
  obtain ⟨k, o, h1, h2, h3, hQ⟩ := h p e ha hc hk s m args below hf hpre hP hW
  refine ⟨k, o, h1, h2, h3, ?_⟩
  rcases hQ with ⟨⟨⟨r, M1, e1, e2, e3⟩, hF⟩, hL⟩ | ⟨q, e0, E, ce, L, ⟨⟨M1, e2, e3⟩, hF⟩, hr⟩
  · exact Or.inl ⟨⟨⟨r, M1, e1, hp _ _ e3.1 e2, e3⟩, hF⟩, hL⟩
  · exact Or.inr ⟨q, e0, E, ce, L, ⟨⟨M1, hp _ _ e3.1 e2, e3⟩, hF⟩, hr⟩
theorem CT_rng {K : WPar} {l : Launch} {μ : MInfo} {avs : List Value} {M : Mem} {P : OutT → Mem → Prop} (h : (∀ g i j, inR (M g i j)) → CT K l μ avs M P) : CT K l μ avs M P := by
  intro p e ha hc hk s m args below hf hpre hP hW
  exact h hP.2.1.1 p e ha hc hk s m args below hf hpre hP hW
/-- a contract of the first object is one of the second -/
theorem CT_sw {K : WPar} {l : Launch} {μ : MInfo} {avs : List Value} {M : Mem} {P : OutT → Mem → Prop} (h : CT (swK K) l μ avs (swM M) P) : CT K l μ avs M (fun o m => P o (swM m)) := by
  intro p e ha hc hk s m args below hf hpre hP hW
  obtain ⟨k, o, h1, h2, h3, hQ⟩ := h p e ha hc hk s m args below hf hpre ⟨hP.1, pre_sw hP.2⟩ hW
  refine ⟨k, o, h1, h2, h3, ?_⟩
  rcases hQ with ⟨⟨⟨r, M1, e1, e2, e3⟩, hF⟩, hL⟩ | ⟨q, e0, E, ce, L, ⟨⟨M1, e2, e3⟩, hF⟩, hr⟩
  · exact Or.inl ⟨⟨⟨r, swM M1, e1, (show P _ (swM (swM M1)) from (swM_swM M1).symm ▸ e2), wd_sw2 e3⟩, hF⟩, hL⟩
  · exact Or.inr ⟨q, e0, E, ce, L, ⟨⟨swM M1, (show P _ (swM (swM M1)) from (swM_swM M1).symm ▸ e2), wd_sw2 e3⟩, hF⟩, hr⟩
theorem CTL_mono {K : WPar} {l : Launch} {μ : MInfo} {avs : List Value} {M : Mem} {P P' : OutT → Mem → Prop} (h : CTL K l μ avs M P) (hp : ∀ o m, (∀ g i j, inR (m g i j)) → P o m → P' o m) : CTL K l μ avs M P' := by
  intro p e ha hc hk s m args below hf hpre hP hW
  obtain ⟨k, o, h1, h2, h3, ⟨⟨r, M1, e1, e2, e3⟩, hF⟩, hL⟩ := h p e ha hc hk s m args below hf hpre hP hW
  exact ⟨k, o, h1, h2, h3, ⟨⟨r, M1, e1, hp _ _ e3.1 e2, e3⟩, hF⟩, hL⟩
theorem CTL_sw {K : WPar} {l : Launch} {μ : MInfo} {avs : List Value} {M : Mem} {P : OutT → Mem → Prop} (h : CTL (swK K) l μ avs (swM M) P) : CTL K l μ avs M (fun o m => P o (swM m)) := by
  intro p e ha hc hk s m args below hf hpre hP hW
  obtain ⟨k, o, h1, h2, h3, ⟨⟨r, M1, e1, e2, e3⟩, hF⟩, hL⟩ := h p e ha hc hk s m args below hf hpre ⟨hP.1, pre_sw hP.2⟩ hW
  exact ⟨k, o, h1, h2, h3, ⟨⟨r, swM M1, e1, (show P _ (swM (swM M1)) from (swM_swM M1).symm ▸ e2), wd_sw2 e3⟩, hF⟩, hL⟩
/-- the two agree -/
def EQ2 (M : Mem) : Prop := ∀ g : Nat, g < 16 → M (g + 30) = M g
def S16 (M m : Mem) : Prop := ∀ g : Nat, g < 16 → m g = M g
theorem S16.rf {M : Mem} : S16 M M := fun _ _ => rfl
theorem S16.tr {M m m2 : Mem} (h : S16 M m) (h2 : S16 m m2) : S16 M m2 := fun g hg => (h2 g hg).trans (h g hg)
theorem S16.sy {M m : Mem} (h : S16 M m) : S16 m M := fun g hg => (h g hg).symm
theorem EQ2.s {M : Mem} (h : EQ2 M) : S16 M (swM M) := fun g hg => by
  rw [swM_lo (by omega)]
  exact h g hg
