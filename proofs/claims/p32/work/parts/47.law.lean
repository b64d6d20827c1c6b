/-! THE CLAIM OUT OF ONE WALK OF THE LAW'S BODY. Your part is whole_start (and what it stands on); all else here is the same for every law, but numbers. -/
def R_law : String := "BoxofficeRowLaw"
def lw_P (b : Addr) (xs : List Int32) (args : Array Value) (s : State) : Prop := args = #[.ref b] ∧ s.IntsAt b xs ∧ xs.length ≤ 260 ∧ (Jvm.Cond.and given_1 narrow_1).before args s = true
def lw_Q (_ : Array Value) (s : State) (o : Outcome) (t : State) : Prop := o = .returned (some (.int 1)) ∧ Framed s o t [] 600104 7301314
def lw_Z (below : List Frame) (a : Array Value) (s : State) : State → Prop := fun t => ∃ o, t.status = .running ∧ Ended t below o ∧ lw_Q a s o t
/-- the law's own end, with 1 on the stack, nothing written that was there before, its room as the claim has it -/
theorem lw_ret {p : Program} {l : Launch} {e : Env} {s : State} {m : MethodId} {below : List Frame} {meth : Method} {c : Code} {b : Nat} (hx : p.tables.exec = Jvm.exec) (hb : c.code = code) (hr : meth.sig.returnType = ret) (hlocks : meth.locks = false) {pc : Nat} {H : Heap} {ls : Array Slot} (hdg : decode code pc = .ok (.ireturn, 1)) : W p l e room_1 s m #[Value.ref b] below meth c H [] 600104 7301314 (lw_Z below #[Value.ref b] s) (F0 m pc ls [.int 1]) := by
  intro T hT X
  obtain ⟨fs, hret, hrun, hended, hW, hframe⟩ := X.leave (v := some (.int 1)) (hlocks := hlocks) (fun h => by rw [hr] at h; cases h)
  have hmeth' : T.vm.method? m = some meth := X.method'
  refine ⟨T.setFrames fs, ?_, .returned (some (.int 1)), hrun, hended, rfl, ⟨_, rfl⟩, hW, hframe⟩
  jvm_step X.here [X.here.top, hx, hb, hdg, hmeth', hr, ret, narrow_b1]
  (try refine ⟨rfl, ?_⟩); (try refine ⟨rfl, ?_⟩)
  first | (intro acts; rw [hret _ acts rfl rfl rfl]) | rw [hret _ _ rfl rfl rfl]
  exact Steps.refl _
/-- what holds at the law's entry: the machine, the code, the tables' words (any of lw_tbl by 'hts w (by decide +kernel)'), the script of L ints xs at the cell b, what the Statement gives of the start (any of its parts by flat_of_before) -/
def lw_At (p : Program) (s : State) (m : MethodId) (meth : Method) (c : Code) (b L : Nat) (xs : Nat → Int32) : Prop :=
  p.tables.exec = Jvm.exec ∧ c.code = code ∧ meth.sig.returnType = ret ∧ c.maxLocals = 6 ∧ s.vm.findClass R_law = some m.cls ∧ (∀ w ∈ lw_tbl, w.before #[Value.ref b] s = true) ∧ va_X b L xs s s.heap ∧ b < s.heap.size ∧ meth.locks = false ∧ (Jvm.Cond.and given_1 narrow_1).before #[Value.ref b] s = true ∧ c.exceptionTable.toList = []
def iL_law : MInfo := (yL_law, code, 6, ret, (14, 538), (600104, 7301314), [])
def ZL (b L : Nat) (xs : Nat → Int32) (K : WPar) : ZT := (fun s args => args = #[Value.ref b] ∧ va_X b L xs s s.heap ∧ b < s.heap.size ∧ K.2.2.2 = s.heap.size, fun below args s => lw_Z below args s)
theorem zl_x {b L0 : Nat} {xs : Nat → Int32} {K : WPar} : ∀ s a, (ZL b L0 xs K).1 s a → va_X b L0 xs s s.heap ∧ b < s.heap.size ∧ ¬ kF K b := fun s a h => ⟨h.2.1, h.2.2.1, by
  have h1 := h.2.2.1
  have h2 := h.2.2.2
  show ¬ K.2.2.2 ≤ b
  omega⟩
section AWL2
variable {K : WPar} {l : Launch} {pc : Nat} {L : List (Option Value)} {st : List Value} {M : Mem} {cells slots : Nat} {b L0 : Nat} {xs : Nat → Int32}
/-- the law's end -/
theorem aw_lend (hd : decode iL_law.2.1 pc = .ok (.ireturn, 1)) (h1 : cells ≤ 600104) (h2 : slots ≤ 7301314) : AW K l iL_law (ZL b L0 xs K) pc L [iV 1] M cells slots := by
  intro p e s m args below meth c H locs ls C hl2 hW hS
  obtain ⟨ha, hX, hbl, hsz⟩ := C.2.2.2.2.2.2.2.2.2.2.2.2
  subst ha
  refine va_forget (fun q hq => by rw [← hsz]; exact hS.2.2 q hq) ?_
  refine W.widen h1 h2 ?_
  exact lw_ret C.1 C.2.1 C.2.2.2.2.2.1 C.2.2.2.2.2.2.1 hd
end AWL2
/-- how many cells k rounds make at most -/
def budN : Nat → Nat
  | 0 => 0
  | n + 1 => budN n + 10 + (if n % 3 = 2 then 682 else 0) + (if n % 4 = 1 then 2205 else 0) + (if n % 6 = 3 then 19965 else 0) + (if n % 6 = 5 then 9880 else 0)
def bud (k : Int) : Nat := budN k.toNat
theorem budN_le : ∀ n : Nat, n < 73 → budN n ≤ 450000 := by decide +kernel
theorem bud_le {k : Int} (h0 : 0 ≤ k) (h1 : k ≤ 72) : bud k ≤ 450000 := budN_le _ (by omega)
theorem ite_cg {p q : Prop} [Decidable p] [Decidable q] {x : Nat} (h : p ↔ q) : (if p then x else 0) = if q then x else 0 := by
  by_cases a : p
  · rw [if_pos a, if_pos (h.mp a)]
  · rw [if_neg a, if_neg (fun b => a (h.mpr b))]
theorem bud_s {k : Int} (h0 : 0 ≤ k) : bud (k + 1) = bud k + 10 + (if k % 3 = 2 then 682 else 0) + (if k % 4 = 1 then 2205 else 0) + (if k % 6 = 3 then 19965 else 0) + (if k % 6 = 5 then 9880 else 0) := by
  obtain ⟨n, rfl⟩ := Int.eq_ofNat_of_zero_le h0
  have e : ((n : Int) + 1).toNat = n + 1 := by omega
  have e2 : ((n : Int)).toNat = n := by omega
  unfold bud
  rw [e, e2]
  show budN n + 10 + (if n % 3 = 2 then 682 else 0) + (if n % 4 = 1 then 2205 else 0) + (if n % 6 = 3 then 19965 else 0) + (if n % 6 = 5 then 9880 else 0) = _
  rw [ite_cg (p := n % 3 = 2) (q := (n : Int) % 3 = 2) (by omega), ite_cg (p := n % 4 = 1) (q := (n : Int) % 4 = 1) (by omega), ite_cg (p := n % 6 = 3) (q := (n : Int) % 6 = 3) (by omega), ite_cg (p := n % 6 = 5) (q := (n : Int) % 6 = 5) (by omega)]
/-! the two objects, step by step -/
theorem eq2_x {M m : Mem} (q : EQ2 M) (f : FR M m) (s : S16 M m) : EQ2 m := fun g hg => by
  rw [f (g + 30) (by omega), q g hg, s g hg]
/-- where the first has gone on and the second has not -/
theorem eq2_s {M m : Mem} (q : EQ2 M) (f : FR M m) : S16 M (swM m) := fun g hg => by
  rw [swM_lo (by omega), f (g + 30) (by omega), q g hg]
/-- .. and now the second has, too -/
theorem eq2_n {m m2 : Mem} (f : FR (swM m) (swM m2)) (s : S16 m (swM m2)) : S16 m m2 ∧ EQ2 m2 := by
  have e : S16 m m2 := fun g hg => by
    have := f (g + 30) (by omega)
    rw [swM_hi (by omega), swM_hi (by omega)] at this
    exact this
  refine ⟨e, fun g hg => ?_⟩
  have h := s g hg
  rw [swM_lo (by omega)] at h
  rw [h, e g hg]
theorem c2_L_act {K : WPar} {l : Launch} (hst : l.stackTraces = false) {c : Int} (hc : c ≤ 512) (M : Mem) (v : Int) (h : INV (swM M) c) (r_v : inR v) : CT K l iL_act [rV K 30 0, iV v] M (rZm (fun z m => ACT (swM M) v z (swM m))) := CT_sw (c_L_act (K := swK K) hst hc (swM M) v h r_v)
set_option maxHeartbeats 4000000 in
set_option maxRecDepth 20000 in
theorem law_loop {K : WPar} {l : Launch} (hst : l.stackTraces = false) {b L0 : Nat} {xs : Nat → Int32} (hL0 : L0 ≤ 260) (M0 : Mem) (h0 : INV M0 0) (he0 : ENDS M0) (hq0 : EQ2 M0) : AW K l iL_law (ZL b L0 xs K) 18 [some (Value.ref b), some (rV K 0 0), some (rV K 30 0), some (iV 0), none, none] [] M0 20000 (6 * 20000) := by
  have lp18 : ∀ (n18 : Nat) (k : Int) (M : Mem), (0 ≤ k ∧ k ≤ 72) → (INV M k) → (ENDS M) → (EQ2 M) → (((72 : Int) - k).toNat) < n18 → AW K l iL_law (ZL b L0 xs K) 18 [some (Value.ref b), some (rV K 0 0), some (rV K 30 0), some (iV (k)), none, none] [] (M) (20000 + bud k) (6 * (20000 + bud k)) := by
    intro n18
    induction n18 with
    | zero =>
      intro k M e1 h he hq hm18
      exact absurd hm18 (Nat.not_lt_zero _)
    | succ n18 ih18 =>
      intro k M e1 h he hq hm18
      have bl := bud_le e1.1 e1.2
      refine aw_iload_n dL_law_18 rfl rfl ?_
      refine aw_bipush dL_law_19 rfl ?_
      refine aw_icmp_ge (tgt := 148) dL_law_21 (by decide) (by omega) (by omega) (fun h21 => ?_) (fun h21 => ?_)
      · refine aw_aload_n dL_law_148 rfl rfl ?_
        refine aw_aload_n dL_law_149 rfl rfl ?_
        refine lw_Si (As := [rV K 0 0, rV K 30 0]) (rest := []) (c2 := 20000 + bud k + 682) (s2 := 6 * (20000 + bud k + 682)) (c_L_areAlike hst M h (show k ≤ 512 by omega) hq) cs_L_areAlike dL_law_150 ml_L_156 rfl rfl (Nat.le_of_ble_eq_true rfl) (by decide) (by rw [show (mRm iL_areAlike).cells = 682 from rfl]; omega) (by rw [show (mRm iL_areAlike).slots = 4092 from rfl]; omega) (by show 20000 + bud k + 682 ≤ 600104 ∧ 6 * (20000 + bud k + 682) ≤ 7301314; omega) ?_
        refine aw_if_eq (tgt := 183) dL_law_153 (by decide) (by decide) (fun h => absurd h (by decide)) (fun _ => ?_)
        refine aw_aload_n dL_law_156 rfl rfl ?_
        refine lw_Si (As := [rV K 0 0]) (rest := []) (c2 := 20000 + bud k + 682 + 2205) (s2 := 6 * (20000 + bud k + 682 + 2205)) (c_L_areSeatsSo hst M h (show k ≤ 512 by omega) he) cs_L_areSeatsSo dL_law_157 ml_L_160 rfl rfl (Nat.le_of_ble_eq_true rfl) (by decide) (by rw [show (mRm iL_areSeatsSo).cells = 2205 from rfl]; omega) (by rw [show (mRm iL_areSeatsSo).slots = 13230 from rfl]; omega) (by show 20000 + bud k + 682 + 2205 ≤ 600104 ∧ 6 * (20000 + bud k + 682 + 2205) ≤ 7301314; omega) ?_
        refine aw_if_eq (tgt := 183) dL_law_160 (by decide) (by decide) (fun h => absurd h (by decide)) (fun _ => ?_)
        refine aw_aload_n dL_law_163 rfl rfl ?_
        refine aw_iconst dL_law_164 ?_
        refine lw_Si (As := [rV K 0 0, iV 2]) (rest := []) (c2 := 20000 + bud k + 682 + 2205 + 19965) (s2 := 6 * (20000 + bud k + 682 + 2205 + 19965)) (c_L_isBestSo hst M (2) h (show k ≤ 512 by omega) (by decide)) cs_L_isBestSo dL_law_165 ml_L_164 rfl rfl (Nat.le_of_ble_eq_true rfl) (by decide) (by rw [show (mRm iL_isBestSo).cells = 19965 from rfl]; omega) (by rw [show (mRm iL_isBestSo).slots = 119790 from rfl]; omega) (by show 20000 + bud k + 682 + 2205 + 19965 ≤ 600104 ∧ 6 * (20000 + bud k + 682 + 2205 + 19965) ≤ 7301314; omega) ?_
        refine aw_if_eq (tgt := 183) dL_law_168 (by decide) (by decide) (fun h => absurd h (by decide)) (fun _ => ?_)
        refine aw_aload_n dL_law_171 rfl rfl ?_
        refine aw_iconst dL_law_172 ?_
        refine lw_Sw (As := [rV K 0 0, iV 5]) (rest := []) (c2 := 20000 + bud k + 682 + 2205 + 19965 + 9880) (s2 := 6 * (20000 + bud k + 682 + 2205 + 19965 + 9880)) (c_L_isGroupSo hst M (5) h (show k ≤ 512 by omega) (by decide)) cs_L_isGroupSo dL_law_173 ml_L_168 rfl rfl (Nat.le_of_ble_eq_true rfl) (by decide) (by rw [show (mRm iL_isGroupSo).cells = 9880 from rfl]; omega) (by rw [show (mRm iL_isGroupSo).slots = 59280 from rfl]; omega) (by show 20000 + bud k + 682 + 2205 + 19965 + 9880 ≤ 600104 ∧ 6 * (20000 + bud k + 682 + 2205 + 19965 + 9880) ≤ 7301314; omega) (fun z9 m8 q9 => ?_)
        have i_m8 : INV m8 (k) := INV_cg q9.2.s16 h
        have e_m8 : ENDS m8 := ENDS_cg q9.2.s16 he
        have q_m8 : EQ2 m8 := eq2_x hq q9.2.fr q9.2.s16
        refine aw_st (st' := [iV 1]) (by rw [q9.1]) ?_
        refine aw_if_eq (tgt := 183) dL_law_176 (by decide) (by decide) (fun h => absurd h (by decide)) (fun _ => ?_)
        refine aw_iconst dL_law_179 ?_
        refine aw_goto (tgt := 184) dL_law_180 (by decide) ?_
        exact aw_lend dL_law_184 (by omega) (by omega)
      · refine lw_aload dL_law_24 rfl rfl ?_
        refine aw_iload_n dL_law_25 rfl rfl ?_
        refine lw_X zl_x (As := [Value.ref b, iV (k)]) (rest := []) (c2 := 20000 + bud k) (s2 := 6 * (20000 + bud k)) (c_L_cell hst hL0 M k (by omega)) cs_L_cell dL_law_26 ml_L_149 rfl rfl (Nat.le_of_ble_eq_true rfl) (by decide) (by rw [show (mRm iL_cell).cells = 0 from rfl]; omega) (by rw [show (mRm iL_cell).slots = 0 from rfl]; omega) (by show 20000 + bud k ≤ 600104 ∧ 6 * (20000 + bud k) ≤ 7301314; omega) (fun v r_v => ?_)
        refine aw_istore (L2 := [some (Value.ref b), some (rV K 0 0), some (rV K 30 0), some (iV (k)), some (iV (v)), none]) dL_law_29 (by decide) rfl ?_
        refine aw_aload_n dL_law_31 rfl rfl ?_
        refine aw_iload dL_law_32 rfl ?_
        refine lw_Sw (As := [rV K 0 0, iV (v)]) (rest := []) (c2 := 20000 + bud k + 5) (s2 := 6 * (20000 + bud k + 5)) (c_L_act hst (show k ≤ 512 by omega) M v h r_v) cs_L_act dL_law_34 ml_L_153 rfl rfl (Nat.le_of_ble_eq_true rfl) (by decide) (by rw [show (mRm iL_act).cells = 5 from rfl]; omega) (by rw [show (mRm iL_act).slots = 30 from rfl]; omega) (by show 20000 + bud k + 5 ≤ 600104 ∧ 6 * (20000 + bud k + 5) ≤ 7301314; omega) (fun t1 m1 q1 => ?_)
        have a1 := act_ok h he q1
        refine aw_istore (L2 := [some (Value.ref b), some (rV K 0 0), some (rV K 30 0), some (iV (k)), some (iV (v)), some (iV (t1))]) dL_law_37 (by decide) rfl ?_
        refine aw_iload dL_law_39 rfl ?_
        refine aw_ldc (z := -99999) dL_law_41 cn_L_30 rfl ?_
        refine aw_icmp_eq (tgt := 57) dL_law_43 (by decide) (by rcases a1.2.2.2.2 with q | q; omega; omega) (by omega) (fun h43 => ?_) (fun h43 => ?_)
        · have i_m1 : INV m1 (k + 1) := a1.1
          have e_m1 : ENDS m1 := a1.2.1
          have q_m1 : EQ2 m1 := eq2_x hq a1.2.2.1 (a1.2.2.2.1 h43)
          refine aw_iload_n dL_law_57 rfl rfl ?_
          refine aw_iconst dL_law_58 ?_
          refine aw_irem dL_law_59 (by omega) (by omega) ?_
          refine aw_iconst dL_law_60 ?_
          refine aw_icmp_ne (tgt := 72) dL_law_61 (by decide) (by omega) (by omega) (fun h61 => ?_) (fun h61 => ?_)
          · refine aw_iload_n dL_law_72 rfl rfl ?_
            refine aw_iconst dL_law_73 ?_
            refine aw_irem dL_law_74 (by omega) (by omega) ?_
            refine aw_iconst dL_law_75 ?_
            refine aw_icmp_ne (tgt := 88) dL_law_76 (by decide) (by omega) (by omega) (fun h76 => ?_) (fun h76 => ?_)
            · refine aw_iload_n dL_law_88 rfl rfl ?_
              refine aw_bipush dL_law_89 rfl ?_
              refine aw_irem dL_law_91 (by omega) (by omega) ?_
              refine aw_iconst dL_law_92 ?_
              refine aw_icmp_ne (tgt := 114) dL_law_93 (by decide) (by omega) (by omega) (fun h93 => ?_) (fun h93 => ?_)
              · refine aw_iload_n dL_law_114 rfl rfl ?_
                refine aw_bipush dL_law_115 rfl ?_
                refine aw_irem dL_law_117 (by omega) (by omega) ?_
                refine aw_iconst dL_law_118 ?_
                refine aw_icmp_ne (tgt := 142) dL_law_119 (by decide) (by omega) (by omega) (fun h119 => ?_) (fun h119 => ?_)
                · refine aw_iinc (L2 := [some (Value.ref b), some (rV K 0 0), some (rV K 30 0), some (iV (k + 1)), some (iV (v)), some (iV (t1))]) dL_law_142 rfl (by decide) rfl ?_
                  refine aw_goto (tgt := 18) dL_law_145 (by decide) ?_
                  refine aw_weak (L' := [some (Value.ref b), some (rV K 0 0), some (rV K 30 0), some (iV (k + 1)), none, none]) ⟨Or.inr rfl, Or.inr rfl, Or.inr rfl, Or.inr rfl, Or.inl rfl, Or.inl rfl, trivial⟩ ?_
                  refine aw_wide (a := 20000 + bud (k + 1)) (b := 6 * (20000 + bud (k + 1))) (by rw [bud_s e1.1, if_neg h61, if_neg h76, if_neg h93, if_neg h119]; omega) (by rw [bud_s e1.1, if_neg h61, if_neg h76, if_neg h93, if_neg h119]; omega) ?_
                  exact ih18 (k + 1) (m1) (by omega) (by exact i_m1) (by exact e_m1) (by exact q_m1) (by omega)
                · refine aw_aload_n dL_law_122 rfl rfl ?_
                  refine aw_iconst dL_law_123 ?_
                  refine aw_iload dL_law_124 rfl ?_
                  refine aw_iconst dL_law_126 ?_
                  refine aw_ishr dL_law_127 ?_
                  refine aw_bipush dL_law_128 rfl ?_
                  refine lw_Si (As := [iV (shI v 2), iV 12]) (rest := [iV 2, rV K 0 0]) (c2 := 20000 + bud k + 5) (s2 := 6 * (20000 + bud k + 5)) (c_L_low hst m1 (shI v 2) (12) (shI_r _ _) (by omega)) cs_L_low dL_law_130 ml_L_65 rfl rfl (Nat.le_of_ble_eq_true rfl) (by decide) (by rw [show (mRm iL_low).cells = 0 from rfl]; omega) (by rw [show (mRm iL_low).slots = 0 from rfl]; omega) (by show 20000 + bud k + 5 ≤ 600104 ∧ 6 * (20000 + bud k + 5) ≤ 7301314; omega) ?_
                  refine aw_iadd dL_law_133 ?_
                  refine lw_Sw (As := [rV K 0 0, iV (2 + (lowI (shI v 2) 12))]) (rest := []) (c2 := 20000 + bud k + 5 + 9880) (s2 := 6 * (20000 + bud k + 5 + 9880)) (c_L_isGroupSo hst m1 (2 + (lowI (shI v 2) 12)) i_m1 (show k + 1 ≤ 512 by omega) (by have q0 := lowI_bd (shI v 2) (n := 12) (by omega); omega)) cs_L_isGroupSo dL_law_134 ml_L_168 rfl rfl (Nat.le_of_ble_eq_true rfl) (by decide) (by rw [show (mRm iL_isGroupSo).cells = 9880 from rfl]; omega) (by rw [show (mRm iL_isGroupSo).slots = 59280 from rfl]; omega) (by show 20000 + bud k + 5 + 9880 ≤ 600104 ∧ 6 * (20000 + bud k + 5 + 9880) ≤ 7301314; omega) (fun z9 m9 q9 => ?_)
                  have i_m9 : INV m9 (k + 1) := INV_cg q9.2.s16 i_m1
                  have e_m9 : ENDS m9 := ENDS_cg q9.2.s16 e_m1
                  have q_m9 : EQ2 m9 := eq2_x q_m1 q9.2.fr q9.2.s16
                  refine aw_st (st' := [iV 1]) (by rw [q9.1]) ?_
                  refine aw_if_ne (tgt := 142) dL_law_137 (by decide) (by decide) (fun _ => ?_) (fun h => absurd h (by decide))
                  refine aw_iinc (L2 := [some (Value.ref b), some (rV K 0 0), some (rV K 30 0), some (iV (k + 1)), some (iV (v)), some (iV (t1))]) dL_law_142 rfl (by decide) rfl ?_
                  refine aw_goto (tgt := 18) dL_law_145 (by decide) ?_
                  refine aw_weak (L' := [some (Value.ref b), some (rV K 0 0), some (rV K 30 0), some (iV (k + 1)), none, none]) ⟨Or.inr rfl, Or.inr rfl, Or.inr rfl, Or.inr rfl, Or.inl rfl, Or.inl rfl, trivial⟩ ?_
                  refine aw_wide (a := 20000 + bud (k + 1)) (b := 6 * (20000 + bud (k + 1))) (by rw [bud_s e1.1, if_neg h61, if_neg h76, if_neg h93, if_pos h119]; omega) (by rw [bud_s e1.1, if_neg h61, if_neg h76, if_neg h93, if_pos h119]; omega) ?_
                  exact ih18 (k + 1) (m9) (by omega) (by exact i_m9) (by exact e_m9) (by exact q_m9) (by omega)
              · refine aw_aload_n dL_law_96 rfl rfl ?_
                refine aw_iconst dL_law_97 ?_
                refine aw_iload dL_law_98 rfl ?_
                refine aw_iconst dL_law_100 ?_
                refine aw_ishr dL_law_101 ?_
                refine aw_bipush dL_law_102 rfl ?_
                refine lw_Si (As := [iV (shI v 3), iV 6]) (rest := [iV 1, rV K 0 0]) (c2 := 20000 + bud k + 5) (s2 := 6 * (20000 + bud k + 5)) (c_L_low hst m1 (shI v 3) (6) (shI_r _ _) (by omega)) cs_L_low dL_law_104 ml_L_65 rfl rfl (Nat.le_of_ble_eq_true rfl) (by decide) (by rw [show (mRm iL_low).cells = 0 from rfl]; omega) (by rw [show (mRm iL_low).slots = 0 from rfl]; omega) (by show 20000 + bud k + 5 ≤ 600104 ∧ 6 * (20000 + bud k + 5) ≤ 7301314; omega) ?_
                refine aw_iadd dL_law_107 ?_
                refine lw_Si (As := [rV K 0 0, iV (1 + (lowI (shI v 3) 6))]) (rest := []) (c2 := 20000 + bud k + 5 + 19965) (s2 := 6 * (20000 + bud k + 5 + 19965)) (c_L_isBestSo hst m1 (1 + (lowI (shI v 3) 6)) i_m1 (show k + 1 ≤ 512 by omega) (by have q0 := lowI_bd (shI v 3) (n := 6) (by omega); omega)) cs_L_isBestSo dL_law_108 ml_L_164 rfl rfl (Nat.le_of_ble_eq_true rfl) (by decide) (by rw [show (mRm iL_isBestSo).cells = 19965 from rfl]; omega) (by rw [show (mRm iL_isBestSo).slots = 119790 from rfl]; omega) (by show 20000 + bud k + 5 + 19965 ≤ 600104 ∧ 6 * (20000 + bud k + 5 + 19965) ≤ 7301314; omega) ?_
                refine aw_if_eq (tgt := 140) dL_law_111 (by decide) (by decide) (fun h => absurd h (by decide)) (fun _ => ?_)
                refine aw_iload_n dL_law_114 rfl rfl ?_
                refine aw_bipush dL_law_115 rfl ?_
                refine aw_irem dL_law_117 (by omega) (by omega) ?_
                refine aw_iconst dL_law_118 ?_
                refine aw_icmp_ne (tgt := 142) dL_law_119 (by decide) (by omega) (by omega) (fun h119 => ?_) (fun h119 => ?_)
                · refine aw_iinc (L2 := [some (Value.ref b), some (rV K 0 0), some (rV K 30 0), some (iV (k + 1)), some (iV (v)), some (iV (t1))]) dL_law_142 rfl (by decide) rfl ?_
                  refine aw_goto (tgt := 18) dL_law_145 (by decide) ?_
                  refine aw_weak (L' := [some (Value.ref b), some (rV K 0 0), some (rV K 30 0), some (iV (k + 1)), none, none]) ⟨Or.inr rfl, Or.inr rfl, Or.inr rfl, Or.inr rfl, Or.inl rfl, Or.inl rfl, trivial⟩ ?_
                  refine aw_wide (a := 20000 + bud (k + 1)) (b := 6 * (20000 + bud (k + 1))) (by rw [bud_s e1.1, if_neg h61, if_neg h76, if_pos h93, if_neg h119]; omega) (by rw [bud_s e1.1, if_neg h61, if_neg h76, if_pos h93, if_neg h119]; omega) ?_
                  exact ih18 (k + 1) (m1) (by omega) (by exact i_m1) (by exact e_m1) (by exact q_m1) (by omega)
                · refine aw_aload_n dL_law_122 rfl rfl ?_
                  refine aw_iconst dL_law_123 ?_
                  refine aw_iload dL_law_124 rfl ?_
                  refine aw_iconst dL_law_126 ?_
                  refine aw_ishr dL_law_127 ?_
                  refine aw_bipush dL_law_128 rfl ?_
                  refine lw_Si (As := [iV (shI v 2), iV 12]) (rest := [iV 2, rV K 0 0]) (c2 := 20000 + bud k + 5 + 19965) (s2 := 6 * (20000 + bud k + 5 + 19965)) (c_L_low hst m1 (shI v 2) (12) (shI_r _ _) (by omega)) cs_L_low dL_law_130 ml_L_65 rfl rfl (Nat.le_of_ble_eq_true rfl) (by decide) (by rw [show (mRm iL_low).cells = 0 from rfl]; omega) (by rw [show (mRm iL_low).slots = 0 from rfl]; omega) (by show 20000 + bud k + 5 + 19965 ≤ 600104 ∧ 6 * (20000 + bud k + 5 + 19965) ≤ 7301314; omega) ?_
                  refine aw_iadd dL_law_133 ?_
                  refine lw_Sw (As := [rV K 0 0, iV (2 + (lowI (shI v 2) 12))]) (rest := []) (c2 := 20000 + bud k + 5 + 19965 + 9880) (s2 := 6 * (20000 + bud k + 5 + 19965 + 9880)) (c_L_isGroupSo hst m1 (2 + (lowI (shI v 2) 12)) i_m1 (show k + 1 ≤ 512 by omega) (by have q0 := lowI_bd (shI v 2) (n := 12) (by omega); omega)) cs_L_isGroupSo dL_law_134 ml_L_168 rfl rfl (Nat.le_of_ble_eq_true rfl) (by decide) (by rw [show (mRm iL_isGroupSo).cells = 9880 from rfl]; omega) (by rw [show (mRm iL_isGroupSo).slots = 59280 from rfl]; omega) (by show 20000 + bud k + 5 + 19965 + 9880 ≤ 600104 ∧ 6 * (20000 + bud k + 5 + 19965 + 9880) ≤ 7301314; omega) (fun z9 m9 q9 => ?_)
                  have i_m9 : INV m9 (k + 1) := INV_cg q9.2.s16 i_m1
                  have e_m9 : ENDS m9 := ENDS_cg q9.2.s16 e_m1
                  have q_m9 : EQ2 m9 := eq2_x q_m1 q9.2.fr q9.2.s16
                  refine aw_st (st' := [iV 1]) (by rw [q9.1]) ?_
                  refine aw_if_ne (tgt := 142) dL_law_137 (by decide) (by decide) (fun _ => ?_) (fun h => absurd h (by decide))
                  refine aw_iinc (L2 := [some (Value.ref b), some (rV K 0 0), some (rV K 30 0), some (iV (k + 1)), some (iV (v)), some (iV (t1))]) dL_law_142 rfl (by decide) rfl ?_
                  refine aw_goto (tgt := 18) dL_law_145 (by decide) ?_
                  refine aw_weak (L' := [some (Value.ref b), some (rV K 0 0), some (rV K 30 0), some (iV (k + 1)), none, none]) ⟨Or.inr rfl, Or.inr rfl, Or.inr rfl, Or.inr rfl, Or.inl rfl, Or.inl rfl, trivial⟩ ?_
                  refine aw_wide (a := 20000 + bud (k + 1)) (b := 6 * (20000 + bud (k + 1))) (by rw [bud_s e1.1, if_neg h61, if_neg h76, if_pos h93, if_pos h119]; omega) (by rw [bud_s e1.1, if_neg h61, if_neg h76, if_pos h93, if_pos h119]; omega) ?_
                  exact ih18 (k + 1) (m9) (by omega) (by exact i_m9) (by exact e_m9) (by exact q_m9) (by omega)
            · refine aw_aload_n dL_law_79 rfl rfl ?_
              refine lw_Si (As := [rV K 0 0]) (rest := []) (c2 := 20000 + bud k + 5 + 2205) (s2 := 6 * (20000 + bud k + 5 + 2205)) (c_L_areSeatsSo hst m1 i_m1 (show k + 1 ≤ 512 by omega) e_m1) cs_L_areSeatsSo dL_law_80 ml_L_160 rfl rfl (Nat.le_of_ble_eq_true rfl) (by decide) (by rw [show (mRm iL_areSeatsSo).cells = 2205 from rfl]; omega) (by rw [show (mRm iL_areSeatsSo).slots = 13230 from rfl]; omega) (by show 20000 + bud k + 5 + 2205 ≤ 600104 ∧ 6 * (20000 + bud k + 5 + 2205) ≤ 7301314; omega) ?_
              refine aw_if_ne (tgt := 88) dL_law_83 (by decide) (by decide) (fun _ => ?_) (fun h => absurd h (by decide))
              refine aw_iload_n dL_law_88 rfl rfl ?_
              refine aw_bipush dL_law_89 rfl ?_
              refine aw_irem dL_law_91 (by omega) (by omega) ?_
              refine aw_iconst dL_law_92 ?_
              refine aw_icmp_ne (tgt := 114) dL_law_93 (by decide) (by omega) (by omega) (fun h93 => ?_) (fun h93 => ?_)
              · refine aw_iload_n dL_law_114 rfl rfl ?_
                refine aw_bipush dL_law_115 rfl ?_
                refine aw_irem dL_law_117 (by omega) (by omega) ?_
                refine aw_iconst dL_law_118 ?_
                refine aw_icmp_ne (tgt := 142) dL_law_119 (by decide) (by omega) (by omega) (fun h119 => ?_) (fun h119 => ?_)
                · refine aw_iinc (L2 := [some (Value.ref b), some (rV K 0 0), some (rV K 30 0), some (iV (k + 1)), some (iV (v)), some (iV (t1))]) dL_law_142 rfl (by decide) rfl ?_
                  refine aw_goto (tgt := 18) dL_law_145 (by decide) ?_
                  refine aw_weak (L' := [some (Value.ref b), some (rV K 0 0), some (rV K 30 0), some (iV (k + 1)), none, none]) ⟨Or.inr rfl, Or.inr rfl, Or.inr rfl, Or.inr rfl, Or.inl rfl, Or.inl rfl, trivial⟩ ?_
                  refine aw_wide (a := 20000 + bud (k + 1)) (b := 6 * (20000 + bud (k + 1))) (by rw [bud_s e1.1, if_neg h61, if_pos h76, if_neg h93, if_neg h119]; omega) (by rw [bud_s e1.1, if_neg h61, if_pos h76, if_neg h93, if_neg h119]; omega) ?_
                  exact ih18 (k + 1) (m1) (by omega) (by exact i_m1) (by exact e_m1) (by exact q_m1) (by omega)
                · refine aw_aload_n dL_law_122 rfl rfl ?_
                  refine aw_iconst dL_law_123 ?_
                  refine aw_iload dL_law_124 rfl ?_
                  refine aw_iconst dL_law_126 ?_
                  refine aw_ishr dL_law_127 ?_
                  refine aw_bipush dL_law_128 rfl ?_
                  refine lw_Si (As := [iV (shI v 2), iV 12]) (rest := [iV 2, rV K 0 0]) (c2 := 20000 + bud k + 5 + 2205) (s2 := 6 * (20000 + bud k + 5 + 2205)) (c_L_low hst m1 (shI v 2) (12) (shI_r _ _) (by omega)) cs_L_low dL_law_130 ml_L_65 rfl rfl (Nat.le_of_ble_eq_true rfl) (by decide) (by rw [show (mRm iL_low).cells = 0 from rfl]; omega) (by rw [show (mRm iL_low).slots = 0 from rfl]; omega) (by show 20000 + bud k + 5 + 2205 ≤ 600104 ∧ 6 * (20000 + bud k + 5 + 2205) ≤ 7301314; omega) ?_
                  refine aw_iadd dL_law_133 ?_
                  refine lw_Sw (As := [rV K 0 0, iV (2 + (lowI (shI v 2) 12))]) (rest := []) (c2 := 20000 + bud k + 5 + 2205 + 9880) (s2 := 6 * (20000 + bud k + 5 + 2205 + 9880)) (c_L_isGroupSo hst m1 (2 + (lowI (shI v 2) 12)) i_m1 (show k + 1 ≤ 512 by omega) (by have q0 := lowI_bd (shI v 2) (n := 12) (by omega); omega)) cs_L_isGroupSo dL_law_134 ml_L_168 rfl rfl (Nat.le_of_ble_eq_true rfl) (by decide) (by rw [show (mRm iL_isGroupSo).cells = 9880 from rfl]; omega) (by rw [show (mRm iL_isGroupSo).slots = 59280 from rfl]; omega) (by show 20000 + bud k + 5 + 2205 + 9880 ≤ 600104 ∧ 6 * (20000 + bud k + 5 + 2205 + 9880) ≤ 7301314; omega) (fun z9 m9 q9 => ?_)
                  have i_m9 : INV m9 (k + 1) := INV_cg q9.2.s16 i_m1
                  have e_m9 : ENDS m9 := ENDS_cg q9.2.s16 e_m1
                  have q_m9 : EQ2 m9 := eq2_x q_m1 q9.2.fr q9.2.s16
                  refine aw_st (st' := [iV 1]) (by rw [q9.1]) ?_
                  refine aw_if_ne (tgt := 142) dL_law_137 (by decide) (by decide) (fun _ => ?_) (fun h => absurd h (by decide))
                  refine aw_iinc (L2 := [some (Value.ref b), some (rV K 0 0), some (rV K 30 0), some (iV (k + 1)), some (iV (v)), some (iV (t1))]) dL_law_142 rfl (by decide) rfl ?_
                  refine aw_goto (tgt := 18) dL_law_145 (by decide) ?_
                  refine aw_weak (L' := [some (Value.ref b), some (rV K 0 0), some (rV K 30 0), some (iV (k + 1)), none, none]) ⟨Or.inr rfl, Or.inr rfl, Or.inr rfl, Or.inr rfl, Or.inl rfl, Or.inl rfl, trivial⟩ ?_
                  refine aw_wide (a := 20000 + bud (k + 1)) (b := 6 * (20000 + bud (k + 1))) (by rw [bud_s e1.1, if_neg h61, if_pos h76, if_neg h93, if_pos h119]; omega) (by rw [bud_s e1.1, if_neg h61, if_pos h76, if_neg h93, if_pos h119]; omega) ?_
                  exact ih18 (k + 1) (m9) (by omega) (by exact i_m9) (by exact e_m9) (by exact q_m9) (by omega)
              · refine aw_aload_n dL_law_96 rfl rfl ?_
                refine aw_iconst dL_law_97 ?_
                refine aw_iload dL_law_98 rfl ?_
                refine aw_iconst dL_law_100 ?_
                refine aw_ishr dL_law_101 ?_
                refine aw_bipush dL_law_102 rfl ?_
                refine lw_Si (As := [iV (shI v 3), iV 6]) (rest := [iV 1, rV K 0 0]) (c2 := 20000 + bud k + 5 + 2205) (s2 := 6 * (20000 + bud k + 5 + 2205)) (c_L_low hst m1 (shI v 3) (6) (shI_r _ _) (by omega)) cs_L_low dL_law_104 ml_L_65 rfl rfl (Nat.le_of_ble_eq_true rfl) (by decide) (by rw [show (mRm iL_low).cells = 0 from rfl]; omega) (by rw [show (mRm iL_low).slots = 0 from rfl]; omega) (by show 20000 + bud k + 5 + 2205 ≤ 600104 ∧ 6 * (20000 + bud k + 5 + 2205) ≤ 7301314; omega) ?_
                refine aw_iadd dL_law_107 ?_
                refine lw_Si (As := [rV K 0 0, iV (1 + (lowI (shI v 3) 6))]) (rest := []) (c2 := 20000 + bud k + 5 + 2205 + 19965) (s2 := 6 * (20000 + bud k + 5 + 2205 + 19965)) (c_L_isBestSo hst m1 (1 + (lowI (shI v 3) 6)) i_m1 (show k + 1 ≤ 512 by omega) (by have q0 := lowI_bd (shI v 3) (n := 6) (by omega); omega)) cs_L_isBestSo dL_law_108 ml_L_164 rfl rfl (Nat.le_of_ble_eq_true rfl) (by decide) (by rw [show (mRm iL_isBestSo).cells = 19965 from rfl]; omega) (by rw [show (mRm iL_isBestSo).slots = 119790 from rfl]; omega) (by show 20000 + bud k + 5 + 2205 + 19965 ≤ 600104 ∧ 6 * (20000 + bud k + 5 + 2205 + 19965) ≤ 7301314; omega) ?_
                refine aw_if_eq (tgt := 140) dL_law_111 (by decide) (by decide) (fun h => absurd h (by decide)) (fun _ => ?_)
                refine aw_iload_n dL_law_114 rfl rfl ?_
                refine aw_bipush dL_law_115 rfl ?_
                refine aw_irem dL_law_117 (by omega) (by omega) ?_
                refine aw_iconst dL_law_118 ?_
                refine aw_icmp_ne (tgt := 142) dL_law_119 (by decide) (by omega) (by omega) (fun h119 => ?_) (fun h119 => ?_)
                · refine aw_iinc (L2 := [some (Value.ref b), some (rV K 0 0), some (rV K 30 0), some (iV (k + 1)), some (iV (v)), some (iV (t1))]) dL_law_142 rfl (by decide) rfl ?_
                  refine aw_goto (tgt := 18) dL_law_145 (by decide) ?_
                  refine aw_weak (L' := [some (Value.ref b), some (rV K 0 0), some (rV K 30 0), some (iV (k + 1)), none, none]) ⟨Or.inr rfl, Or.inr rfl, Or.inr rfl, Or.inr rfl, Or.inl rfl, Or.inl rfl, trivial⟩ ?_
                  refine aw_wide (a := 20000 + bud (k + 1)) (b := 6 * (20000 + bud (k + 1))) (by rw [bud_s e1.1, if_neg h61, if_pos h76, if_pos h93, if_neg h119]; omega) (by rw [bud_s e1.1, if_neg h61, if_pos h76, if_pos h93, if_neg h119]; omega) ?_
                  exact ih18 (k + 1) (m1) (by omega) (by exact i_m1) (by exact e_m1) (by exact q_m1) (by omega)
                · refine aw_aload_n dL_law_122 rfl rfl ?_
                  refine aw_iconst dL_law_123 ?_
                  refine aw_iload dL_law_124 rfl ?_
                  refine aw_iconst dL_law_126 ?_
                  refine aw_ishr dL_law_127 ?_
                  refine aw_bipush dL_law_128 rfl ?_
                  refine lw_Si (As := [iV (shI v 2), iV 12]) (rest := [iV 2, rV K 0 0]) (c2 := 20000 + bud k + 5 + 2205 + 19965) (s2 := 6 * (20000 + bud k + 5 + 2205 + 19965)) (c_L_low hst m1 (shI v 2) (12) (shI_r _ _) (by omega)) cs_L_low dL_law_130 ml_L_65 rfl rfl (Nat.le_of_ble_eq_true rfl) (by decide) (by rw [show (mRm iL_low).cells = 0 from rfl]; omega) (by rw [show (mRm iL_low).slots = 0 from rfl]; omega) (by show 20000 + bud k + 5 + 2205 + 19965 ≤ 600104 ∧ 6 * (20000 + bud k + 5 + 2205 + 19965) ≤ 7301314; omega) ?_
                  refine aw_iadd dL_law_133 ?_
                  refine lw_Sw (As := [rV K 0 0, iV (2 + (lowI (shI v 2) 12))]) (rest := []) (c2 := 20000 + bud k + 5 + 2205 + 19965 + 9880) (s2 := 6 * (20000 + bud k + 5 + 2205 + 19965 + 9880)) (c_L_isGroupSo hst m1 (2 + (lowI (shI v 2) 12)) i_m1 (show k + 1 ≤ 512 by omega) (by have q0 := lowI_bd (shI v 2) (n := 12) (by omega); omega)) cs_L_isGroupSo dL_law_134 ml_L_168 rfl rfl (Nat.le_of_ble_eq_true rfl) (by decide) (by rw [show (mRm iL_isGroupSo).cells = 9880 from rfl]; omega) (by rw [show (mRm iL_isGroupSo).slots = 59280 from rfl]; omega) (by show 20000 + bud k + 5 + 2205 + 19965 + 9880 ≤ 600104 ∧ 6 * (20000 + bud k + 5 + 2205 + 19965 + 9880) ≤ 7301314; omega) (fun z9 m9 q9 => ?_)
                  have i_m9 : INV m9 (k + 1) := INV_cg q9.2.s16 i_m1
                  have e_m9 : ENDS m9 := ENDS_cg q9.2.s16 e_m1
                  have q_m9 : EQ2 m9 := eq2_x q_m1 q9.2.fr q9.2.s16
                  refine aw_st (st' := [iV 1]) (by rw [q9.1]) ?_
                  refine aw_if_ne (tgt := 142) dL_law_137 (by decide) (by decide) (fun _ => ?_) (fun h => absurd h (by decide))
                  refine aw_iinc (L2 := [some (Value.ref b), some (rV K 0 0), some (rV K 30 0), some (iV (k + 1)), some (iV (v)), some (iV (t1))]) dL_law_142 rfl (by decide) rfl ?_
                  refine aw_goto (tgt := 18) dL_law_145 (by decide) ?_
                  refine aw_weak (L' := [some (Value.ref b), some (rV K 0 0), some (rV K 30 0), some (iV (k + 1)), none, none]) ⟨Or.inr rfl, Or.inr rfl, Or.inr rfl, Or.inr rfl, Or.inl rfl, Or.inl rfl, trivial⟩ ?_
                  refine aw_wide (a := 20000 + bud (k + 1)) (b := 6 * (20000 + bud (k + 1))) (by rw [bud_s e1.1, if_neg h61, if_pos h76, if_pos h93, if_pos h119]; omega) (by rw [bud_s e1.1, if_neg h61, if_pos h76, if_pos h93, if_pos h119]; omega) ?_
                  exact ih18 (k + 1) (m9) (by omega) (by exact i_m9) (by exact e_m9) (by exact q_m9) (by omega)
          · refine aw_aload_n dL_law_64 rfl rfl ?_
            refine aw_aload_n dL_law_65 rfl rfl ?_
            refine lw_Si (As := [rV K 0 0, rV K 30 0]) (rest := []) (c2 := 20000 + bud k + 5 + 682) (s2 := 6 * (20000 + bud k + 5 + 682)) (c_L_areAlike hst m1 i_m1 (show k + 1 ≤ 512 by omega) q_m1) cs_L_areAlike dL_law_66 ml_L_156 rfl rfl (Nat.le_of_ble_eq_true rfl) (by decide) (by rw [show (mRm iL_areAlike).cells = 682 from rfl]; omega) (by rw [show (mRm iL_areAlike).slots = 4092 from rfl]; omega) (by show 20000 + bud k + 5 + 682 ≤ 600104 ∧ 6 * (20000 + bud k + 5 + 682) ≤ 7301314; omega) ?_
            refine aw_if_eq (tgt := 86) dL_law_69 (by decide) (by decide) (fun h => absurd h (by decide)) (fun _ => ?_)
            refine aw_iload_n dL_law_72 rfl rfl ?_
            refine aw_iconst dL_law_73 ?_
            refine aw_irem dL_law_74 (by omega) (by omega) ?_
            refine aw_iconst dL_law_75 ?_
            refine aw_icmp_ne (tgt := 88) dL_law_76 (by decide) (by omega) (by omega) (fun h76 => ?_) (fun h76 => ?_)
            · refine aw_iload_n dL_law_88 rfl rfl ?_
              refine aw_bipush dL_law_89 rfl ?_
              refine aw_irem dL_law_91 (by omega) (by omega) ?_
              refine aw_iconst dL_law_92 ?_
              refine aw_icmp_ne (tgt := 114) dL_law_93 (by decide) (by omega) (by omega) (fun h93 => ?_) (fun h93 => ?_)
              · refine aw_iload_n dL_law_114 rfl rfl ?_
                refine aw_bipush dL_law_115 rfl ?_
                refine aw_irem dL_law_117 (by omega) (by omega) ?_
                refine aw_iconst dL_law_118 ?_
                refine aw_icmp_ne (tgt := 142) dL_law_119 (by decide) (by omega) (by omega) (fun h119 => ?_) (fun h119 => ?_)
                · refine aw_iinc (L2 := [some (Value.ref b), some (rV K 0 0), some (rV K 30 0), some (iV (k + 1)), some (iV (v)), some (iV (t1))]) dL_law_142 rfl (by decide) rfl ?_
                  refine aw_goto (tgt := 18) dL_law_145 (by decide) ?_
                  refine aw_weak (L' := [some (Value.ref b), some (rV K 0 0), some (rV K 30 0), some (iV (k + 1)), none, none]) ⟨Or.inr rfl, Or.inr rfl, Or.inr rfl, Or.inr rfl, Or.inl rfl, Or.inl rfl, trivial⟩ ?_
                  refine aw_wide (a := 20000 + bud (k + 1)) (b := 6 * (20000 + bud (k + 1))) (by rw [bud_s e1.1, if_pos h61, if_neg h76, if_neg h93, if_neg h119]; omega) (by rw [bud_s e1.1, if_pos h61, if_neg h76, if_neg h93, if_neg h119]; omega) ?_
                  exact ih18 (k + 1) (m1) (by omega) (by exact i_m1) (by exact e_m1) (by exact q_m1) (by omega)
                · refine aw_aload_n dL_law_122 rfl rfl ?_
                  refine aw_iconst dL_law_123 ?_
                  refine aw_iload dL_law_124 rfl ?_
                  refine aw_iconst dL_law_126 ?_
                  refine aw_ishr dL_law_127 ?_
                  refine aw_bipush dL_law_128 rfl ?_
                  refine lw_Si (As := [iV (shI v 2), iV 12]) (rest := [iV 2, rV K 0 0]) (c2 := 20000 + bud k + 5 + 682) (s2 := 6 * (20000 + bud k + 5 + 682)) (c_L_low hst m1 (shI v 2) (12) (shI_r _ _) (by omega)) cs_L_low dL_law_130 ml_L_65 rfl rfl (Nat.le_of_ble_eq_true rfl) (by decide) (by rw [show (mRm iL_low).cells = 0 from rfl]; omega) (by rw [show (mRm iL_low).slots = 0 from rfl]; omega) (by show 20000 + bud k + 5 + 682 ≤ 600104 ∧ 6 * (20000 + bud k + 5 + 682) ≤ 7301314; omega) ?_
                  refine aw_iadd dL_law_133 ?_
                  refine lw_Sw (As := [rV K 0 0, iV (2 + (lowI (shI v 2) 12))]) (rest := []) (c2 := 20000 + bud k + 5 + 682 + 9880) (s2 := 6 * (20000 + bud k + 5 + 682 + 9880)) (c_L_isGroupSo hst m1 (2 + (lowI (shI v 2) 12)) i_m1 (show k + 1 ≤ 512 by omega) (by have q0 := lowI_bd (shI v 2) (n := 12) (by omega); omega)) cs_L_isGroupSo dL_law_134 ml_L_168 rfl rfl (Nat.le_of_ble_eq_true rfl) (by decide) (by rw [show (mRm iL_isGroupSo).cells = 9880 from rfl]; omega) (by rw [show (mRm iL_isGroupSo).slots = 59280 from rfl]; omega) (by show 20000 + bud k + 5 + 682 + 9880 ≤ 600104 ∧ 6 * (20000 + bud k + 5 + 682 + 9880) ≤ 7301314; omega) (fun z9 m9 q9 => ?_)
                  have i_m9 : INV m9 (k + 1) := INV_cg q9.2.s16 i_m1
                  have e_m9 : ENDS m9 := ENDS_cg q9.2.s16 e_m1
                  have q_m9 : EQ2 m9 := eq2_x q_m1 q9.2.fr q9.2.s16
                  refine aw_st (st' := [iV 1]) (by rw [q9.1]) ?_
                  refine aw_if_ne (tgt := 142) dL_law_137 (by decide) (by decide) (fun _ => ?_) (fun h => absurd h (by decide))
                  refine aw_iinc (L2 := [some (Value.ref b), some (rV K 0 0), some (rV K 30 0), some (iV (k + 1)), some (iV (v)), some (iV (t1))]) dL_law_142 rfl (by decide) rfl ?_
                  refine aw_goto (tgt := 18) dL_law_145 (by decide) ?_
                  refine aw_weak (L' := [some (Value.ref b), some (rV K 0 0), some (rV K 30 0), some (iV (k + 1)), none, none]) ⟨Or.inr rfl, Or.inr rfl, Or.inr rfl, Or.inr rfl, Or.inl rfl, Or.inl rfl, trivial⟩ ?_
                  refine aw_wide (a := 20000 + bud (k + 1)) (b := 6 * (20000 + bud (k + 1))) (by rw [bud_s e1.1, if_pos h61, if_neg h76, if_neg h93, if_pos h119]; omega) (by rw [bud_s e1.1, if_pos h61, if_neg h76, if_neg h93, if_pos h119]; omega) ?_
                  exact ih18 (k + 1) (m9) (by omega) (by exact i_m9) (by exact e_m9) (by exact q_m9) (by omega)
              · refine aw_aload_n dL_law_96 rfl rfl ?_
                refine aw_iconst dL_law_97 ?_
                refine aw_iload dL_law_98 rfl ?_
                refine aw_iconst dL_law_100 ?_
                refine aw_ishr dL_law_101 ?_
                refine aw_bipush dL_law_102 rfl ?_
                refine lw_Si (As := [iV (shI v 3), iV 6]) (rest := [iV 1, rV K 0 0]) (c2 := 20000 + bud k + 5 + 682) (s2 := 6 * (20000 + bud k + 5 + 682)) (c_L_low hst m1 (shI v 3) (6) (shI_r _ _) (by omega)) cs_L_low dL_law_104 ml_L_65 rfl rfl (Nat.le_of_ble_eq_true rfl) (by decide) (by rw [show (mRm iL_low).cells = 0 from rfl]; omega) (by rw [show (mRm iL_low).slots = 0 from rfl]; omega) (by show 20000 + bud k + 5 + 682 ≤ 600104 ∧ 6 * (20000 + bud k + 5 + 682) ≤ 7301314; omega) ?_
                refine aw_iadd dL_law_107 ?_
                refine lw_Si (As := [rV K 0 0, iV (1 + (lowI (shI v 3) 6))]) (rest := []) (c2 := 20000 + bud k + 5 + 682 + 19965) (s2 := 6 * (20000 + bud k + 5 + 682 + 19965)) (c_L_isBestSo hst m1 (1 + (lowI (shI v 3) 6)) i_m1 (show k + 1 ≤ 512 by omega) (by have q0 := lowI_bd (shI v 3) (n := 6) (by omega); omega)) cs_L_isBestSo dL_law_108 ml_L_164 rfl rfl (Nat.le_of_ble_eq_true rfl) (by decide) (by rw [show (mRm iL_isBestSo).cells = 19965 from rfl]; omega) (by rw [show (mRm iL_isBestSo).slots = 119790 from rfl]; omega) (by show 20000 + bud k + 5 + 682 + 19965 ≤ 600104 ∧ 6 * (20000 + bud k + 5 + 682 + 19965) ≤ 7301314; omega) ?_
                refine aw_if_eq (tgt := 140) dL_law_111 (by decide) (by decide) (fun h => absurd h (by decide)) (fun _ => ?_)
                refine aw_iload_n dL_law_114 rfl rfl ?_
                refine aw_bipush dL_law_115 rfl ?_
                refine aw_irem dL_law_117 (by omega) (by omega) ?_
                refine aw_iconst dL_law_118 ?_
                refine aw_icmp_ne (tgt := 142) dL_law_119 (by decide) (by omega) (by omega) (fun h119 => ?_) (fun h119 => ?_)
                · refine aw_iinc (L2 := [some (Value.ref b), some (rV K 0 0), some (rV K 30 0), some (iV (k + 1)), some (iV (v)), some (iV (t1))]) dL_law_142 rfl (by decide) rfl ?_
                  refine aw_goto (tgt := 18) dL_law_145 (by decide) ?_
                  refine aw_weak (L' := [some (Value.ref b), some (rV K 0 0), some (rV K 30 0), some (iV (k + 1)), none, none]) ⟨Or.inr rfl, Or.inr rfl, Or.inr rfl, Or.inr rfl, Or.inl rfl, Or.inl rfl, trivial⟩ ?_
                  refine aw_wide (a := 20000 + bud (k + 1)) (b := 6 * (20000 + bud (k + 1))) (by rw [bud_s e1.1, if_pos h61, if_neg h76, if_pos h93, if_neg h119]; omega) (by rw [bud_s e1.1, if_pos h61, if_neg h76, if_pos h93, if_neg h119]; omega) ?_
                  exact ih18 (k + 1) (m1) (by omega) (by exact i_m1) (by exact e_m1) (by exact q_m1) (by omega)
                · refine aw_aload_n dL_law_122 rfl rfl ?_
                  refine aw_iconst dL_law_123 ?_
                  refine aw_iload dL_law_124 rfl ?_
                  refine aw_iconst dL_law_126 ?_
                  refine aw_ishr dL_law_127 ?_
                  refine aw_bipush dL_law_128 rfl ?_
                  refine lw_Si (As := [iV (shI v 2), iV 12]) (rest := [iV 2, rV K 0 0]) (c2 := 20000 + bud k + 5 + 682 + 19965) (s2 := 6 * (20000 + bud k + 5 + 682 + 19965)) (c_L_low hst m1 (shI v 2) (12) (shI_r _ _) (by omega)) cs_L_low dL_law_130 ml_L_65 rfl rfl (Nat.le_of_ble_eq_true rfl) (by decide) (by rw [show (mRm iL_low).cells = 0 from rfl]; omega) (by rw [show (mRm iL_low).slots = 0 from rfl]; omega) (by show 20000 + bud k + 5 + 682 + 19965 ≤ 600104 ∧ 6 * (20000 + bud k + 5 + 682 + 19965) ≤ 7301314; omega) ?_
                  refine aw_iadd dL_law_133 ?_
                  refine lw_Sw (As := [rV K 0 0, iV (2 + (lowI (shI v 2) 12))]) (rest := []) (c2 := 20000 + bud k + 5 + 682 + 19965 + 9880) (s2 := 6 * (20000 + bud k + 5 + 682 + 19965 + 9880)) (c_L_isGroupSo hst m1 (2 + (lowI (shI v 2) 12)) i_m1 (show k + 1 ≤ 512 by omega) (by have q0 := lowI_bd (shI v 2) (n := 12) (by omega); omega)) cs_L_isGroupSo dL_law_134 ml_L_168 rfl rfl (Nat.le_of_ble_eq_true rfl) (by decide) (by rw [show (mRm iL_isGroupSo).cells = 9880 from rfl]; omega) (by rw [show (mRm iL_isGroupSo).slots = 59280 from rfl]; omega) (by show 20000 + bud k + 5 + 682 + 19965 + 9880 ≤ 600104 ∧ 6 * (20000 + bud k + 5 + 682 + 19965 + 9880) ≤ 7301314; omega) (fun z9 m9 q9 => ?_)
                  have i_m9 : INV m9 (k + 1) := INV_cg q9.2.s16 i_m1
                  have e_m9 : ENDS m9 := ENDS_cg q9.2.s16 e_m1
                  have q_m9 : EQ2 m9 := eq2_x q_m1 q9.2.fr q9.2.s16
                  refine aw_st (st' := [iV 1]) (by rw [q9.1]) ?_
                  refine aw_if_ne (tgt := 142) dL_law_137 (by decide) (by decide) (fun _ => ?_) (fun h => absurd h (by decide))
                  refine aw_iinc (L2 := [some (Value.ref b), some (rV K 0 0), some (rV K 30 0), some (iV (k + 1)), some (iV (v)), some (iV (t1))]) dL_law_142 rfl (by decide) rfl ?_
                  refine aw_goto (tgt := 18) dL_law_145 (by decide) ?_
                  refine aw_weak (L' := [some (Value.ref b), some (rV K 0 0), some (rV K 30 0), some (iV (k + 1)), none, none]) ⟨Or.inr rfl, Or.inr rfl, Or.inr rfl, Or.inr rfl, Or.inl rfl, Or.inl rfl, trivial⟩ ?_
                  refine aw_wide (a := 20000 + bud (k + 1)) (b := 6 * (20000 + bud (k + 1))) (by rw [bud_s e1.1, if_pos h61, if_neg h76, if_pos h93, if_pos h119]; omega) (by rw [bud_s e1.1, if_pos h61, if_neg h76, if_pos h93, if_pos h119]; omega) ?_
                  exact ih18 (k + 1) (m9) (by omega) (by exact i_m9) (by exact e_m9) (by exact q_m9) (by omega)
            · refine aw_aload_n dL_law_79 rfl rfl ?_
              refine lw_Si (As := [rV K 0 0]) (rest := []) (c2 := 20000 + bud k + 5 + 682 + 2205) (s2 := 6 * (20000 + bud k + 5 + 682 + 2205)) (c_L_areSeatsSo hst m1 i_m1 (show k + 1 ≤ 512 by omega) e_m1) cs_L_areSeatsSo dL_law_80 ml_L_160 rfl rfl (Nat.le_of_ble_eq_true rfl) (by decide) (by rw [show (mRm iL_areSeatsSo).cells = 2205 from rfl]; omega) (by rw [show (mRm iL_areSeatsSo).slots = 13230 from rfl]; omega) (by show 20000 + bud k + 5 + 682 + 2205 ≤ 600104 ∧ 6 * (20000 + bud k + 5 + 682 + 2205) ≤ 7301314; omega) ?_
              refine aw_if_ne (tgt := 88) dL_law_83 (by decide) (by decide) (fun _ => ?_) (fun h => absurd h (by decide))
              refine aw_iload_n dL_law_88 rfl rfl ?_
              refine aw_bipush dL_law_89 rfl ?_
              refine aw_irem dL_law_91 (by omega) (by omega) ?_
              refine aw_iconst dL_law_92 ?_
              refine aw_icmp_ne (tgt := 114) dL_law_93 (by decide) (by omega) (by omega) (fun h93 => ?_) (fun h93 => ?_)
              · refine aw_iload_n dL_law_114 rfl rfl ?_
                refine aw_bipush dL_law_115 rfl ?_
                refine aw_irem dL_law_117 (by omega) (by omega) ?_
                refine aw_iconst dL_law_118 ?_
                refine aw_icmp_ne (tgt := 142) dL_law_119 (by decide) (by omega) (by omega) (fun h119 => ?_) (fun h119 => ?_)
                · refine aw_iinc (L2 := [some (Value.ref b), some (rV K 0 0), some (rV K 30 0), some (iV (k + 1)), some (iV (v)), some (iV (t1))]) dL_law_142 rfl (by decide) rfl ?_
                  refine aw_goto (tgt := 18) dL_law_145 (by decide) ?_
                  refine aw_weak (L' := [some (Value.ref b), some (rV K 0 0), some (rV K 30 0), some (iV (k + 1)), none, none]) ⟨Or.inr rfl, Or.inr rfl, Or.inr rfl, Or.inr rfl, Or.inl rfl, Or.inl rfl, trivial⟩ ?_
                  refine aw_wide (a := 20000 + bud (k + 1)) (b := 6 * (20000 + bud (k + 1))) (by rw [bud_s e1.1, if_pos h61, if_pos h76, if_neg h93, if_neg h119]; omega) (by rw [bud_s e1.1, if_pos h61, if_pos h76, if_neg h93, if_neg h119]; omega) ?_
                  exact ih18 (k + 1) (m1) (by omega) (by exact i_m1) (by exact e_m1) (by exact q_m1) (by omega)
                · refine aw_aload_n dL_law_122 rfl rfl ?_
                  refine aw_iconst dL_law_123 ?_
                  refine aw_iload dL_law_124 rfl ?_
                  refine aw_iconst dL_law_126 ?_
                  refine aw_ishr dL_law_127 ?_
                  refine aw_bipush dL_law_128 rfl ?_
                  refine lw_Si (As := [iV (shI v 2), iV 12]) (rest := [iV 2, rV K 0 0]) (c2 := 20000 + bud k + 5 + 682 + 2205) (s2 := 6 * (20000 + bud k + 5 + 682 + 2205)) (c_L_low hst m1 (shI v 2) (12) (shI_r _ _) (by omega)) cs_L_low dL_law_130 ml_L_65 rfl rfl (Nat.le_of_ble_eq_true rfl) (by decide) (by rw [show (mRm iL_low).cells = 0 from rfl]; omega) (by rw [show (mRm iL_low).slots = 0 from rfl]; omega) (by show 20000 + bud k + 5 + 682 + 2205 ≤ 600104 ∧ 6 * (20000 + bud k + 5 + 682 + 2205) ≤ 7301314; omega) ?_
                  refine aw_iadd dL_law_133 ?_
                  refine lw_Sw (As := [rV K 0 0, iV (2 + (lowI (shI v 2) 12))]) (rest := []) (c2 := 20000 + bud k + 5 + 682 + 2205 + 9880) (s2 := 6 * (20000 + bud k + 5 + 682 + 2205 + 9880)) (c_L_isGroupSo hst m1 (2 + (lowI (shI v 2) 12)) i_m1 (show k + 1 ≤ 512 by omega) (by have q0 := lowI_bd (shI v 2) (n := 12) (by omega); omega)) cs_L_isGroupSo dL_law_134 ml_L_168 rfl rfl (Nat.le_of_ble_eq_true rfl) (by decide) (by rw [show (mRm iL_isGroupSo).cells = 9880 from rfl]; omega) (by rw [show (mRm iL_isGroupSo).slots = 59280 from rfl]; omega) (by show 20000 + bud k + 5 + 682 + 2205 + 9880 ≤ 600104 ∧ 6 * (20000 + bud k + 5 + 682 + 2205 + 9880) ≤ 7301314; omega) (fun z9 m9 q9 => ?_)
                  have i_m9 : INV m9 (k + 1) := INV_cg q9.2.s16 i_m1
                  have e_m9 : ENDS m9 := ENDS_cg q9.2.s16 e_m1
                  have q_m9 : EQ2 m9 := eq2_x q_m1 q9.2.fr q9.2.s16
                  refine aw_st (st' := [iV 1]) (by rw [q9.1]) ?_
                  refine aw_if_ne (tgt := 142) dL_law_137 (by decide) (by decide) (fun _ => ?_) (fun h => absurd h (by decide))
                  refine aw_iinc (L2 := [some (Value.ref b), some (rV K 0 0), some (rV K 30 0), some (iV (k + 1)), some (iV (v)), some (iV (t1))]) dL_law_142 rfl (by decide) rfl ?_
                  refine aw_goto (tgt := 18) dL_law_145 (by decide) ?_
                  refine aw_weak (L' := [some (Value.ref b), some (rV K 0 0), some (rV K 30 0), some (iV (k + 1)), none, none]) ⟨Or.inr rfl, Or.inr rfl, Or.inr rfl, Or.inr rfl, Or.inl rfl, Or.inl rfl, trivial⟩ ?_
                  refine aw_wide (a := 20000 + bud (k + 1)) (b := 6 * (20000 + bud (k + 1))) (by rw [bud_s e1.1, if_pos h61, if_pos h76, if_neg h93, if_pos h119]; omega) (by rw [bud_s e1.1, if_pos h61, if_pos h76, if_neg h93, if_pos h119]; omega) ?_
                  exact ih18 (k + 1) (m9) (by omega) (by exact i_m9) (by exact e_m9) (by exact q_m9) (by omega)
              · refine aw_aload_n dL_law_96 rfl rfl ?_
                refine aw_iconst dL_law_97 ?_
                refine aw_iload dL_law_98 rfl ?_
                refine aw_iconst dL_law_100 ?_
                refine aw_ishr dL_law_101 ?_
                refine aw_bipush dL_law_102 rfl ?_
                refine lw_Si (As := [iV (shI v 3), iV 6]) (rest := [iV 1, rV K 0 0]) (c2 := 20000 + bud k + 5 + 682 + 2205) (s2 := 6 * (20000 + bud k + 5 + 682 + 2205)) (c_L_low hst m1 (shI v 3) (6) (shI_r _ _) (by omega)) cs_L_low dL_law_104 ml_L_65 rfl rfl (Nat.le_of_ble_eq_true rfl) (by decide) (by rw [show (mRm iL_low).cells = 0 from rfl]; omega) (by rw [show (mRm iL_low).slots = 0 from rfl]; omega) (by show 20000 + bud k + 5 + 682 + 2205 ≤ 600104 ∧ 6 * (20000 + bud k + 5 + 682 + 2205) ≤ 7301314; omega) ?_
                refine aw_iadd dL_law_107 ?_
                refine lw_Si (As := [rV K 0 0, iV (1 + (lowI (shI v 3) 6))]) (rest := []) (c2 := 20000 + bud k + 5 + 682 + 2205 + 19965) (s2 := 6 * (20000 + bud k + 5 + 682 + 2205 + 19965)) (c_L_isBestSo hst m1 (1 + (lowI (shI v 3) 6)) i_m1 (show k + 1 ≤ 512 by omega) (by have q0 := lowI_bd (shI v 3) (n := 6) (by omega); omega)) cs_L_isBestSo dL_law_108 ml_L_164 rfl rfl (Nat.le_of_ble_eq_true rfl) (by decide) (by rw [show (mRm iL_isBestSo).cells = 19965 from rfl]; omega) (by rw [show (mRm iL_isBestSo).slots = 119790 from rfl]; omega) (by show 20000 + bud k + 5 + 682 + 2205 + 19965 ≤ 600104 ∧ 6 * (20000 + bud k + 5 + 682 + 2205 + 19965) ≤ 7301314; omega) ?_
                refine aw_if_eq (tgt := 140) dL_law_111 (by decide) (by decide) (fun h => absurd h (by decide)) (fun _ => ?_)
                refine aw_iload_n dL_law_114 rfl rfl ?_
                refine aw_bipush dL_law_115 rfl ?_
                refine aw_irem dL_law_117 (by omega) (by omega) ?_
                refine aw_iconst dL_law_118 ?_
                refine aw_icmp_ne (tgt := 142) dL_law_119 (by decide) (by omega) (by omega) (fun h119 => ?_) (fun h119 => ?_)
                · refine aw_iinc (L2 := [some (Value.ref b), some (rV K 0 0), some (rV K 30 0), some (iV (k + 1)), some (iV (v)), some (iV (t1))]) dL_law_142 rfl (by decide) rfl ?_
                  refine aw_goto (tgt := 18) dL_law_145 (by decide) ?_
                  refine aw_weak (L' := [some (Value.ref b), some (rV K 0 0), some (rV K 30 0), some (iV (k + 1)), none, none]) ⟨Or.inr rfl, Or.inr rfl, Or.inr rfl, Or.inr rfl, Or.inl rfl, Or.inl rfl, trivial⟩ ?_
                  refine aw_wide (a := 20000 + bud (k + 1)) (b := 6 * (20000 + bud (k + 1))) (by rw [bud_s e1.1, if_pos h61, if_pos h76, if_pos h93, if_neg h119]; omega) (by rw [bud_s e1.1, if_pos h61, if_pos h76, if_pos h93, if_neg h119]; omega) ?_
                  exact ih18 (k + 1) (m1) (by omega) (by exact i_m1) (by exact e_m1) (by exact q_m1) (by omega)
                · refine aw_aload_n dL_law_122 rfl rfl ?_
                  refine aw_iconst dL_law_123 ?_
                  refine aw_iload dL_law_124 rfl ?_
                  refine aw_iconst dL_law_126 ?_
                  refine aw_ishr dL_law_127 ?_
                  refine aw_bipush dL_law_128 rfl ?_
                  refine lw_Si (As := [iV (shI v 2), iV 12]) (rest := [iV 2, rV K 0 0]) (c2 := 20000 + bud k + 5 + 682 + 2205 + 19965) (s2 := 6 * (20000 + bud k + 5 + 682 + 2205 + 19965)) (c_L_low hst m1 (shI v 2) (12) (shI_r _ _) (by omega)) cs_L_low dL_law_130 ml_L_65 rfl rfl (Nat.le_of_ble_eq_true rfl) (by decide) (by rw [show (mRm iL_low).cells = 0 from rfl]; omega) (by rw [show (mRm iL_low).slots = 0 from rfl]; omega) (by show 20000 + bud k + 5 + 682 + 2205 + 19965 ≤ 600104 ∧ 6 * (20000 + bud k + 5 + 682 + 2205 + 19965) ≤ 7301314; omega) ?_
                  refine aw_iadd dL_law_133 ?_
                  refine lw_Sw (As := [rV K 0 0, iV (2 + (lowI (shI v 2) 12))]) (rest := []) (c2 := 20000 + bud k + 5 + 682 + 2205 + 19965 + 9880) (s2 := 6 * (20000 + bud k + 5 + 682 + 2205 + 19965 + 9880)) (c_L_isGroupSo hst m1 (2 + (lowI (shI v 2) 12)) i_m1 (show k + 1 ≤ 512 by omega) (by have q0 := lowI_bd (shI v 2) (n := 12) (by omega); omega)) cs_L_isGroupSo dL_law_134 ml_L_168 rfl rfl (Nat.le_of_ble_eq_true rfl) (by decide) (by rw [show (mRm iL_isGroupSo).cells = 9880 from rfl]; omega) (by rw [show (mRm iL_isGroupSo).slots = 59280 from rfl]; omega) (by show 20000 + bud k + 5 + 682 + 2205 + 19965 + 9880 ≤ 600104 ∧ 6 * (20000 + bud k + 5 + 682 + 2205 + 19965 + 9880) ≤ 7301314; omega) (fun z9 m9 q9 => ?_)
                  have i_m9 : INV m9 (k + 1) := INV_cg q9.2.s16 i_m1
                  have e_m9 : ENDS m9 := ENDS_cg q9.2.s16 e_m1
                  have q_m9 : EQ2 m9 := eq2_x q_m1 q9.2.fr q9.2.s16
                  refine aw_st (st' := [iV 1]) (by rw [q9.1]) ?_
                  refine aw_if_ne (tgt := 142) dL_law_137 (by decide) (by decide) (fun _ => ?_) (fun h => absurd h (by decide))
                  refine aw_iinc (L2 := [some (Value.ref b), some (rV K 0 0), some (rV K 30 0), some (iV (k + 1)), some (iV (v)), some (iV (t1))]) dL_law_142 rfl (by decide) rfl ?_
                  refine aw_goto (tgt := 18) dL_law_145 (by decide) ?_
                  refine aw_weak (L' := [some (Value.ref b), some (rV K 0 0), some (rV K 30 0), some (iV (k + 1)), none, none]) ⟨Or.inr rfl, Or.inr rfl, Or.inr rfl, Or.inr rfl, Or.inl rfl, Or.inl rfl, trivial⟩ ?_
                  refine aw_wide (a := 20000 + bud (k + 1)) (b := 6 * (20000 + bud (k + 1))) (by rw [bud_s e1.1, if_pos h61, if_pos h76, if_pos h93, if_pos h119]; omega) (by rw [bud_s e1.1, if_pos h61, if_pos h76, if_pos h93, if_pos h119]; omega) ?_
                  exact ih18 (k + 1) (m9) (by omega) (by exact i_m9) (by exact e_m9) (by exact q_m9) (by omega)
        · refine aw_aload_n dL_law_46 rfl rfl ?_
          refine aw_iload dL_law_47 rfl ?_
          refine lw_Sw (As := [rV K 30 0, iV (v)]) (rest := []) (c2 := 20000 + bud k + 5 + 5) (s2 := 6 * (20000 + bud k + 5 + 5)) (c2_L_act hst (show k ≤ 512 by omega) m1 v (INV_cg (eq2_s hq a1.2.2.1) h) r_v) cs_L_act dL_law_49 ml_L_153 rfl rfl (Nat.le_of_ble_eq_true rfl) (by decide) (by rw [show (mRm iL_act).cells = 5 from rfl]; omega) (by rw [show (mRm iL_act).slots = 30 from rfl]; omega) (by show 20000 + bud k + 5 + 5 ≤ 600104 ∧ 6 * (20000 + bud k + 5 + 5) ≤ 7301314; omega) (fun t2 m2 q2 => ?_)
          have a2 := act_ok (INV_cg (eq2_s hq a1.2.2.1) h) (ENDS_cg (eq2_s hq a1.2.2.1) he) q2
          have d2 := act_det h (eq2_s hq a1.2.2.1) q1 q2
          refine aw_iload dL_law_52 rfl ?_
          refine aw_samen (tgt := 86) dL_law_54 (by decide) (by exact d2.1.symm) ?_
          have n2 := eq2_n a2.2.2.1 d2.2
          have i_m2 : INV m2 (k + 1) := INV_cg n2.1 a1.1
          have e_m2 : ENDS m2 := ENDS_cg n2.1 a1.2.1
          have q_m2 : EQ2 m2 := n2.2
          refine aw_iload_n dL_law_57 rfl rfl ?_
          refine aw_iconst dL_law_58 ?_
          refine aw_irem dL_law_59 (by omega) (by omega) ?_
          refine aw_iconst dL_law_60 ?_
          refine aw_icmp_ne (tgt := 72) dL_law_61 (by decide) (by omega) (by omega) (fun h61 => ?_) (fun h61 => ?_)
          · refine aw_iload_n dL_law_72 rfl rfl ?_
            refine aw_iconst dL_law_73 ?_
            refine aw_irem dL_law_74 (by omega) (by omega) ?_
            refine aw_iconst dL_law_75 ?_
            refine aw_icmp_ne (tgt := 88) dL_law_76 (by decide) (by omega) (by omega) (fun h76 => ?_) (fun h76 => ?_)
            · refine aw_iload_n dL_law_88 rfl rfl ?_
              refine aw_bipush dL_law_89 rfl ?_
              refine aw_irem dL_law_91 (by omega) (by omega) ?_
              refine aw_iconst dL_law_92 ?_
              refine aw_icmp_ne (tgt := 114) dL_law_93 (by decide) (by omega) (by omega) (fun h93 => ?_) (fun h93 => ?_)
              · refine aw_iload_n dL_law_114 rfl rfl ?_
                refine aw_bipush dL_law_115 rfl ?_
                refine aw_irem dL_law_117 (by omega) (by omega) ?_
                refine aw_iconst dL_law_118 ?_
                refine aw_icmp_ne (tgt := 142) dL_law_119 (by decide) (by omega) (by omega) (fun h119 => ?_) (fun h119 => ?_)
                · refine aw_iinc (L2 := [some (Value.ref b), some (rV K 0 0), some (rV K 30 0), some (iV (k + 1)), some (iV (v)), some (iV (t1))]) dL_law_142 rfl (by decide) rfl ?_
                  refine aw_goto (tgt := 18) dL_law_145 (by decide) ?_
                  refine aw_weak (L' := [some (Value.ref b), some (rV K 0 0), some (rV K 30 0), some (iV (k + 1)), none, none]) ⟨Or.inr rfl, Or.inr rfl, Or.inr rfl, Or.inr rfl, Or.inl rfl, Or.inl rfl, trivial⟩ ?_
                  refine aw_wide (a := 20000 + bud (k + 1)) (b := 6 * (20000 + bud (k + 1))) (by rw [bud_s e1.1, if_neg h61, if_neg h76, if_neg h93, if_neg h119]; omega) (by rw [bud_s e1.1, if_neg h61, if_neg h76, if_neg h93, if_neg h119]; omega) ?_
                  exact ih18 (k + 1) (m2) (by omega) (by exact i_m2) (by exact e_m2) (by exact q_m2) (by omega)
                · refine aw_aload_n dL_law_122 rfl rfl ?_
                  refine aw_iconst dL_law_123 ?_
                  refine aw_iload dL_law_124 rfl ?_
                  refine aw_iconst dL_law_126 ?_
                  refine aw_ishr dL_law_127 ?_
                  refine aw_bipush dL_law_128 rfl ?_
                  refine lw_Si (As := [iV (shI v 2), iV 12]) (rest := [iV 2, rV K 0 0]) (c2 := 20000 + bud k + 5 + 5) (s2 := 6 * (20000 + bud k + 5 + 5)) (c_L_low hst m2 (shI v 2) (12) (shI_r _ _) (by omega)) cs_L_low dL_law_130 ml_L_65 rfl rfl (Nat.le_of_ble_eq_true rfl) (by decide) (by rw [show (mRm iL_low).cells = 0 from rfl]; omega) (by rw [show (mRm iL_low).slots = 0 from rfl]; omega) (by show 20000 + bud k + 5 + 5 ≤ 600104 ∧ 6 * (20000 + bud k + 5 + 5) ≤ 7301314; omega) ?_
                  refine aw_iadd dL_law_133 ?_
                  refine lw_Sw (As := [rV K 0 0, iV (2 + (lowI (shI v 2) 12))]) (rest := []) (c2 := 20000 + bud k + 5 + 5 + 9880) (s2 := 6 * (20000 + bud k + 5 + 5 + 9880)) (c_L_isGroupSo hst m2 (2 + (lowI (shI v 2) 12)) i_m2 (show k + 1 ≤ 512 by omega) (by have q0 := lowI_bd (shI v 2) (n := 12) (by omega); omega)) cs_L_isGroupSo dL_law_134 ml_L_168 rfl rfl (Nat.le_of_ble_eq_true rfl) (by decide) (by rw [show (mRm iL_isGroupSo).cells = 9880 from rfl]; omega) (by rw [show (mRm iL_isGroupSo).slots = 59280 from rfl]; omega) (by show 20000 + bud k + 5 + 5 + 9880 ≤ 600104 ∧ 6 * (20000 + bud k + 5 + 5 + 9880) ≤ 7301314; omega) (fun z9 m9 q9 => ?_)
                  have i_m9 : INV m9 (k + 1) := INV_cg q9.2.s16 i_m2
                  have e_m9 : ENDS m9 := ENDS_cg q9.2.s16 e_m2
                  have q_m9 : EQ2 m9 := eq2_x q_m2 q9.2.fr q9.2.s16
                  refine aw_st (st' := [iV 1]) (by rw [q9.1]) ?_
                  refine aw_if_ne (tgt := 142) dL_law_137 (by decide) (by decide) (fun _ => ?_) (fun h => absurd h (by decide))
                  refine aw_iinc (L2 := [some (Value.ref b), some (rV K 0 0), some (rV K 30 0), some (iV (k + 1)), some (iV (v)), some (iV (t1))]) dL_law_142 rfl (by decide) rfl ?_
                  refine aw_goto (tgt := 18) dL_law_145 (by decide) ?_
                  refine aw_weak (L' := [some (Value.ref b), some (rV K 0 0), some (rV K 30 0), some (iV (k + 1)), none, none]) ⟨Or.inr rfl, Or.inr rfl, Or.inr rfl, Or.inr rfl, Or.inl rfl, Or.inl rfl, trivial⟩ ?_
                  refine aw_wide (a := 20000 + bud (k + 1)) (b := 6 * (20000 + bud (k + 1))) (by rw [bud_s e1.1, if_neg h61, if_neg h76, if_neg h93, if_pos h119]; omega) (by rw [bud_s e1.1, if_neg h61, if_neg h76, if_neg h93, if_pos h119]; omega) ?_
                  exact ih18 (k + 1) (m9) (by omega) (by exact i_m9) (by exact e_m9) (by exact q_m9) (by omega)
              · refine aw_aload_n dL_law_96 rfl rfl ?_
                refine aw_iconst dL_law_97 ?_
                refine aw_iload dL_law_98 rfl ?_
                refine aw_iconst dL_law_100 ?_
                refine aw_ishr dL_law_101 ?_
                refine aw_bipush dL_law_102 rfl ?_
                refine lw_Si (As := [iV (shI v 3), iV 6]) (rest := [iV 1, rV K 0 0]) (c2 := 20000 + bud k + 5 + 5) (s2 := 6 * (20000 + bud k + 5 + 5)) (c_L_low hst m2 (shI v 3) (6) (shI_r _ _) (by omega)) cs_L_low dL_law_104 ml_L_65 rfl rfl (Nat.le_of_ble_eq_true rfl) (by decide) (by rw [show (mRm iL_low).cells = 0 from rfl]; omega) (by rw [show (mRm iL_low).slots = 0 from rfl]; omega) (by show 20000 + bud k + 5 + 5 ≤ 600104 ∧ 6 * (20000 + bud k + 5 + 5) ≤ 7301314; omega) ?_
                refine aw_iadd dL_law_107 ?_
                refine lw_Si (As := [rV K 0 0, iV (1 + (lowI (shI v 3) 6))]) (rest := []) (c2 := 20000 + bud k + 5 + 5 + 19965) (s2 := 6 * (20000 + bud k + 5 + 5 + 19965)) (c_L_isBestSo hst m2 (1 + (lowI (shI v 3) 6)) i_m2 (show k + 1 ≤ 512 by omega) (by have q0 := lowI_bd (shI v 3) (n := 6) (by omega); omega)) cs_L_isBestSo dL_law_108 ml_L_164 rfl rfl (Nat.le_of_ble_eq_true rfl) (by decide) (by rw [show (mRm iL_isBestSo).cells = 19965 from rfl]; omega) (by rw [show (mRm iL_isBestSo).slots = 119790 from rfl]; omega) (by show 20000 + bud k + 5 + 5 + 19965 ≤ 600104 ∧ 6 * (20000 + bud k + 5 + 5 + 19965) ≤ 7301314; omega) ?_
                refine aw_if_eq (tgt := 140) dL_law_111 (by decide) (by decide) (fun h => absurd h (by decide)) (fun _ => ?_)
                refine aw_iload_n dL_law_114 rfl rfl ?_
                refine aw_bipush dL_law_115 rfl ?_
                refine aw_irem dL_law_117 (by omega) (by omega) ?_
                refine aw_iconst dL_law_118 ?_
                refine aw_icmp_ne (tgt := 142) dL_law_119 (by decide) (by omega) (by omega) (fun h119 => ?_) (fun h119 => ?_)
                · refine aw_iinc (L2 := [some (Value.ref b), some (rV K 0 0), some (rV K 30 0), some (iV (k + 1)), some (iV (v)), some (iV (t1))]) dL_law_142 rfl (by decide) rfl ?_
                  refine aw_goto (tgt := 18) dL_law_145 (by decide) ?_
                  refine aw_weak (L' := [some (Value.ref b), some (rV K 0 0), some (rV K 30 0), some (iV (k + 1)), none, none]) ⟨Or.inr rfl, Or.inr rfl, Or.inr rfl, Or.inr rfl, Or.inl rfl, Or.inl rfl, trivial⟩ ?_
                  refine aw_wide (a := 20000 + bud (k + 1)) (b := 6 * (20000 + bud (k + 1))) (by rw [bud_s e1.1, if_neg h61, if_neg h76, if_pos h93, if_neg h119]; omega) (by rw [bud_s e1.1, if_neg h61, if_neg h76, if_pos h93, if_neg h119]; omega) ?_
                  exact ih18 (k + 1) (m2) (by omega) (by exact i_m2) (by exact e_m2) (by exact q_m2) (by omega)
                · refine aw_aload_n dL_law_122 rfl rfl ?_
                  refine aw_iconst dL_law_123 ?_
                  refine aw_iload dL_law_124 rfl ?_
                  refine aw_iconst dL_law_126 ?_
                  refine aw_ishr dL_law_127 ?_
                  refine aw_bipush dL_law_128 rfl ?_
                  refine lw_Si (As := [iV (shI v 2), iV 12]) (rest := [iV 2, rV K 0 0]) (c2 := 20000 + bud k + 5 + 5 + 19965) (s2 := 6 * (20000 + bud k + 5 + 5 + 19965)) (c_L_low hst m2 (shI v 2) (12) (shI_r _ _) (by omega)) cs_L_low dL_law_130 ml_L_65 rfl rfl (Nat.le_of_ble_eq_true rfl) (by decide) (by rw [show (mRm iL_low).cells = 0 from rfl]; omega) (by rw [show (mRm iL_low).slots = 0 from rfl]; omega) (by show 20000 + bud k + 5 + 5 + 19965 ≤ 600104 ∧ 6 * (20000 + bud k + 5 + 5 + 19965) ≤ 7301314; omega) ?_
                  refine aw_iadd dL_law_133 ?_
                  refine lw_Sw (As := [rV K 0 0, iV (2 + (lowI (shI v 2) 12))]) (rest := []) (c2 := 20000 + bud k + 5 + 5 + 19965 + 9880) (s2 := 6 * (20000 + bud k + 5 + 5 + 19965 + 9880)) (c_L_isGroupSo hst m2 (2 + (lowI (shI v 2) 12)) i_m2 (show k + 1 ≤ 512 by omega) (by have q0 := lowI_bd (shI v 2) (n := 12) (by omega); omega)) cs_L_isGroupSo dL_law_134 ml_L_168 rfl rfl (Nat.le_of_ble_eq_true rfl) (by decide) (by rw [show (mRm iL_isGroupSo).cells = 9880 from rfl]; omega) (by rw [show (mRm iL_isGroupSo).slots = 59280 from rfl]; omega) (by show 20000 + bud k + 5 + 5 + 19965 + 9880 ≤ 600104 ∧ 6 * (20000 + bud k + 5 + 5 + 19965 + 9880) ≤ 7301314; omega) (fun z9 m9 q9 => ?_)
                  have i_m9 : INV m9 (k + 1) := INV_cg q9.2.s16 i_m2
                  have e_m9 : ENDS m9 := ENDS_cg q9.2.s16 e_m2
                  have q_m9 : EQ2 m9 := eq2_x q_m2 q9.2.fr q9.2.s16
                  refine aw_st (st' := [iV 1]) (by rw [q9.1]) ?_
                  refine aw_if_ne (tgt := 142) dL_law_137 (by decide) (by decide) (fun _ => ?_) (fun h => absurd h (by decide))
                  refine aw_iinc (L2 := [some (Value.ref b), some (rV K 0 0), some (rV K 30 0), some (iV (k + 1)), some (iV (v)), some (iV (t1))]) dL_law_142 rfl (by decide) rfl ?_
                  refine aw_goto (tgt := 18) dL_law_145 (by decide) ?_
                  refine aw_weak (L' := [some (Value.ref b), some (rV K 0 0), some (rV K 30 0), some (iV (k + 1)), none, none]) ⟨Or.inr rfl, Or.inr rfl, Or.inr rfl, Or.inr rfl, Or.inl rfl, Or.inl rfl, trivial⟩ ?_
                  refine aw_wide (a := 20000 + bud (k + 1)) (b := 6 * (20000 + bud (k + 1))) (by rw [bud_s e1.1, if_neg h61, if_neg h76, if_pos h93, if_pos h119]; omega) (by rw [bud_s e1.1, if_neg h61, if_neg h76, if_pos h93, if_pos h119]; omega) ?_
                  exact ih18 (k + 1) (m9) (by omega) (by exact i_m9) (by exact e_m9) (by exact q_m9) (by omega)
            · refine aw_aload_n dL_law_79 rfl rfl ?_
              refine lw_Si (As := [rV K 0 0]) (rest := []) (c2 := 20000 + bud k + 5 + 5 + 2205) (s2 := 6 * (20000 + bud k + 5 + 5 + 2205)) (c_L_areSeatsSo hst m2 i_m2 (show k + 1 ≤ 512 by omega) e_m2) cs_L_areSeatsSo dL_law_80 ml_L_160 rfl rfl (Nat.le_of_ble_eq_true rfl) (by decide) (by rw [show (mRm iL_areSeatsSo).cells = 2205 from rfl]; omega) (by rw [show (mRm iL_areSeatsSo).slots = 13230 from rfl]; omega) (by show 20000 + bud k + 5 + 5 + 2205 ≤ 600104 ∧ 6 * (20000 + bud k + 5 + 5 + 2205) ≤ 7301314; omega) ?_
              refine aw_if_ne (tgt := 88) dL_law_83 (by decide) (by decide) (fun _ => ?_) (fun h => absurd h (by decide))
              refine aw_iload_n dL_law_88 rfl rfl ?_
              refine aw_bipush dL_law_89 rfl ?_
              refine aw_irem dL_law_91 (by omega) (by omega) ?_
              refine aw_iconst dL_law_92 ?_
              refine aw_icmp_ne (tgt := 114) dL_law_93 (by decide) (by omega) (by omega) (fun h93 => ?_) (fun h93 => ?_)
              · refine aw_iload_n dL_law_114 rfl rfl ?_
                refine aw_bipush dL_law_115 rfl ?_
                refine aw_irem dL_law_117 (by omega) (by omega) ?_
                refine aw_iconst dL_law_118 ?_
                refine aw_icmp_ne (tgt := 142) dL_law_119 (by decide) (by omega) (by omega) (fun h119 => ?_) (fun h119 => ?_)
                · refine aw_iinc (L2 := [some (Value.ref b), some (rV K 0 0), some (rV K 30 0), some (iV (k + 1)), some (iV (v)), some (iV (t1))]) dL_law_142 rfl (by decide) rfl ?_
                  refine aw_goto (tgt := 18) dL_law_145 (by decide) ?_
                  refine aw_weak (L' := [some (Value.ref b), some (rV K 0 0), some (rV K 30 0), some (iV (k + 1)), none, none]) ⟨Or.inr rfl, Or.inr rfl, Or.inr rfl, Or.inr rfl, Or.inl rfl, Or.inl rfl, trivial⟩ ?_
                  refine aw_wide (a := 20000 + bud (k + 1)) (b := 6 * (20000 + bud (k + 1))) (by rw [bud_s e1.1, if_neg h61, if_pos h76, if_neg h93, if_neg h119]; omega) (by rw [bud_s e1.1, if_neg h61, if_pos h76, if_neg h93, if_neg h119]; omega) ?_
                  exact ih18 (k + 1) (m2) (by omega) (by exact i_m2) (by exact e_m2) (by exact q_m2) (by omega)
                · refine aw_aload_n dL_law_122 rfl rfl ?_
                  refine aw_iconst dL_law_123 ?_
                  refine aw_iload dL_law_124 rfl ?_
                  refine aw_iconst dL_law_126 ?_
                  refine aw_ishr dL_law_127 ?_
                  refine aw_bipush dL_law_128 rfl ?_
                  refine lw_Si (As := [iV (shI v 2), iV 12]) (rest := [iV 2, rV K 0 0]) (c2 := 20000 + bud k + 5 + 5 + 2205) (s2 := 6 * (20000 + bud k + 5 + 5 + 2205)) (c_L_low hst m2 (shI v 2) (12) (shI_r _ _) (by omega)) cs_L_low dL_law_130 ml_L_65 rfl rfl (Nat.le_of_ble_eq_true rfl) (by decide) (by rw [show (mRm iL_low).cells = 0 from rfl]; omega) (by rw [show (mRm iL_low).slots = 0 from rfl]; omega) (by show 20000 + bud k + 5 + 5 + 2205 ≤ 600104 ∧ 6 * (20000 + bud k + 5 + 5 + 2205) ≤ 7301314; omega) ?_
                  refine aw_iadd dL_law_133 ?_
                  refine lw_Sw (As := [rV K 0 0, iV (2 + (lowI (shI v 2) 12))]) (rest := []) (c2 := 20000 + bud k + 5 + 5 + 2205 + 9880) (s2 := 6 * (20000 + bud k + 5 + 5 + 2205 + 9880)) (c_L_isGroupSo hst m2 (2 + (lowI (shI v 2) 12)) i_m2 (show k + 1 ≤ 512 by omega) (by have q0 := lowI_bd (shI v 2) (n := 12) (by omega); omega)) cs_L_isGroupSo dL_law_134 ml_L_168 rfl rfl (Nat.le_of_ble_eq_true rfl) (by decide) (by rw [show (mRm iL_isGroupSo).cells = 9880 from rfl]; omega) (by rw [show (mRm iL_isGroupSo).slots = 59280 from rfl]; omega) (by show 20000 + bud k + 5 + 5 + 2205 + 9880 ≤ 600104 ∧ 6 * (20000 + bud k + 5 + 5 + 2205 + 9880) ≤ 7301314; omega) (fun z9 m9 q9 => ?_)
                  have i_m9 : INV m9 (k + 1) := INV_cg q9.2.s16 i_m2
                  have e_m9 : ENDS m9 := ENDS_cg q9.2.s16 e_m2
                  have q_m9 : EQ2 m9 := eq2_x q_m2 q9.2.fr q9.2.s16
                  refine aw_st (st' := [iV 1]) (by rw [q9.1]) ?_
                  refine aw_if_ne (tgt := 142) dL_law_137 (by decide) (by decide) (fun _ => ?_) (fun h => absurd h (by decide))
                  refine aw_iinc (L2 := [some (Value.ref b), some (rV K 0 0), some (rV K 30 0), some (iV (k + 1)), some (iV (v)), some (iV (t1))]) dL_law_142 rfl (by decide) rfl ?_
                  refine aw_goto (tgt := 18) dL_law_145 (by decide) ?_
                  refine aw_weak (L' := [some (Value.ref b), some (rV K 0 0), some (rV K 30 0), some (iV (k + 1)), none, none]) ⟨Or.inr rfl, Or.inr rfl, Or.inr rfl, Or.inr rfl, Or.inl rfl, Or.inl rfl, trivial⟩ ?_
                  refine aw_wide (a := 20000 + bud (k + 1)) (b := 6 * (20000 + bud (k + 1))) (by rw [bud_s e1.1, if_neg h61, if_pos h76, if_neg h93, if_pos h119]; omega) (by rw [bud_s e1.1, if_neg h61, if_pos h76, if_neg h93, if_pos h119]; omega) ?_
                  exact ih18 (k + 1) (m9) (by omega) (by exact i_m9) (by exact e_m9) (by exact q_m9) (by omega)
              · refine aw_aload_n dL_law_96 rfl rfl ?_
                refine aw_iconst dL_law_97 ?_
                refine aw_iload dL_law_98 rfl ?_
                refine aw_iconst dL_law_100 ?_
                refine aw_ishr dL_law_101 ?_
                refine aw_bipush dL_law_102 rfl ?_
                refine lw_Si (As := [iV (shI v 3), iV 6]) (rest := [iV 1, rV K 0 0]) (c2 := 20000 + bud k + 5 + 5 + 2205) (s2 := 6 * (20000 + bud k + 5 + 5 + 2205)) (c_L_low hst m2 (shI v 3) (6) (shI_r _ _) (by omega)) cs_L_low dL_law_104 ml_L_65 rfl rfl (Nat.le_of_ble_eq_true rfl) (by decide) (by rw [show (mRm iL_low).cells = 0 from rfl]; omega) (by rw [show (mRm iL_low).slots = 0 from rfl]; omega) (by show 20000 + bud k + 5 + 5 + 2205 ≤ 600104 ∧ 6 * (20000 + bud k + 5 + 5 + 2205) ≤ 7301314; omega) ?_
                refine aw_iadd dL_law_107 ?_
                refine lw_Si (As := [rV K 0 0, iV (1 + (lowI (shI v 3) 6))]) (rest := []) (c2 := 20000 + bud k + 5 + 5 + 2205 + 19965) (s2 := 6 * (20000 + bud k + 5 + 5 + 2205 + 19965)) (c_L_isBestSo hst m2 (1 + (lowI (shI v 3) 6)) i_m2 (show k + 1 ≤ 512 by omega) (by have q0 := lowI_bd (shI v 3) (n := 6) (by omega); omega)) cs_L_isBestSo dL_law_108 ml_L_164 rfl rfl (Nat.le_of_ble_eq_true rfl) (by decide) (by rw [show (mRm iL_isBestSo).cells = 19965 from rfl]; omega) (by rw [show (mRm iL_isBestSo).slots = 119790 from rfl]; omega) (by show 20000 + bud k + 5 + 5 + 2205 + 19965 ≤ 600104 ∧ 6 * (20000 + bud k + 5 + 5 + 2205 + 19965) ≤ 7301314; omega) ?_
                refine aw_if_eq (tgt := 140) dL_law_111 (by decide) (by decide) (fun h => absurd h (by decide)) (fun _ => ?_)
                refine aw_iload_n dL_law_114 rfl rfl ?_
                refine aw_bipush dL_law_115 rfl ?_
                refine aw_irem dL_law_117 (by omega) (by omega) ?_
                refine aw_iconst dL_law_118 ?_
                refine aw_icmp_ne (tgt := 142) dL_law_119 (by decide) (by omega) (by omega) (fun h119 => ?_) (fun h119 => ?_)
                · refine aw_iinc (L2 := [some (Value.ref b), some (rV K 0 0), some (rV K 30 0), some (iV (k + 1)), some (iV (v)), some (iV (t1))]) dL_law_142 rfl (by decide) rfl ?_
                  refine aw_goto (tgt := 18) dL_law_145 (by decide) ?_
                  refine aw_weak (L' := [some (Value.ref b), some (rV K 0 0), some (rV K 30 0), some (iV (k + 1)), none, none]) ⟨Or.inr rfl, Or.inr rfl, Or.inr rfl, Or.inr rfl, Or.inl rfl, Or.inl rfl, trivial⟩ ?_
                  refine aw_wide (a := 20000 + bud (k + 1)) (b := 6 * (20000 + bud (k + 1))) (by rw [bud_s e1.1, if_neg h61, if_pos h76, if_pos h93, if_neg h119]; omega) (by rw [bud_s e1.1, if_neg h61, if_pos h76, if_pos h93, if_neg h119]; omega) ?_
                  exact ih18 (k + 1) (m2) (by omega) (by exact i_m2) (by exact e_m2) (by exact q_m2) (by omega)
                · refine aw_aload_n dL_law_122 rfl rfl ?_
                  refine aw_iconst dL_law_123 ?_
                  refine aw_iload dL_law_124 rfl ?_
                  refine aw_iconst dL_law_126 ?_
                  refine aw_ishr dL_law_127 ?_
                  refine aw_bipush dL_law_128 rfl ?_
                  refine lw_Si (As := [iV (shI v 2), iV 12]) (rest := [iV 2, rV K 0 0]) (c2 := 20000 + bud k + 5 + 5 + 2205 + 19965) (s2 := 6 * (20000 + bud k + 5 + 5 + 2205 + 19965)) (c_L_low hst m2 (shI v 2) (12) (shI_r _ _) (by omega)) cs_L_low dL_law_130 ml_L_65 rfl rfl (Nat.le_of_ble_eq_true rfl) (by decide) (by rw [show (mRm iL_low).cells = 0 from rfl]; omega) (by rw [show (mRm iL_low).slots = 0 from rfl]; omega) (by show 20000 + bud k + 5 + 5 + 2205 + 19965 ≤ 600104 ∧ 6 * (20000 + bud k + 5 + 5 + 2205 + 19965) ≤ 7301314; omega) ?_
                  refine aw_iadd dL_law_133 ?_
                  refine lw_Sw (As := [rV K 0 0, iV (2 + (lowI (shI v 2) 12))]) (rest := []) (c2 := 20000 + bud k + 5 + 5 + 2205 + 19965 + 9880) (s2 := 6 * (20000 + bud k + 5 + 5 + 2205 + 19965 + 9880)) (c_L_isGroupSo hst m2 (2 + (lowI (shI v 2) 12)) i_m2 (show k + 1 ≤ 512 by omega) (by have q0 := lowI_bd (shI v 2) (n := 12) (by omega); omega)) cs_L_isGroupSo dL_law_134 ml_L_168 rfl rfl (Nat.le_of_ble_eq_true rfl) (by decide) (by rw [show (mRm iL_isGroupSo).cells = 9880 from rfl]; omega) (by rw [show (mRm iL_isGroupSo).slots = 59280 from rfl]; omega) (by show 20000 + bud k + 5 + 5 + 2205 + 19965 + 9880 ≤ 600104 ∧ 6 * (20000 + bud k + 5 + 5 + 2205 + 19965 + 9880) ≤ 7301314; omega) (fun z9 m9 q9 => ?_)
                  have i_m9 : INV m9 (k + 1) := INV_cg q9.2.s16 i_m2
                  have e_m9 : ENDS m9 := ENDS_cg q9.2.s16 e_m2
                  have q_m9 : EQ2 m9 := eq2_x q_m2 q9.2.fr q9.2.s16
                  refine aw_st (st' := [iV 1]) (by rw [q9.1]) ?_
                  refine aw_if_ne (tgt := 142) dL_law_137 (by decide) (by decide) (fun _ => ?_) (fun h => absurd h (by decide))
                  refine aw_iinc (L2 := [some (Value.ref b), some (rV K 0 0), some (rV K 30 0), some (iV (k + 1)), some (iV (v)), some (iV (t1))]) dL_law_142 rfl (by decide) rfl ?_
                  refine aw_goto (tgt := 18) dL_law_145 (by decide) ?_
                  refine aw_weak (L' := [some (Value.ref b), some (rV K 0 0), some (rV K 30 0), some (iV (k + 1)), none, none]) ⟨Or.inr rfl, Or.inr rfl, Or.inr rfl, Or.inr rfl, Or.inl rfl, Or.inl rfl, trivial⟩ ?_
                  refine aw_wide (a := 20000 + bud (k + 1)) (b := 6 * (20000 + bud (k + 1))) (by rw [bud_s e1.1, if_neg h61, if_pos h76, if_pos h93, if_pos h119]; omega) (by rw [bud_s e1.1, if_neg h61, if_pos h76, if_pos h93, if_pos h119]; omega) ?_
                  exact ih18 (k + 1) (m9) (by omega) (by exact i_m9) (by exact e_m9) (by exact q_m9) (by omega)
          · refine aw_aload_n dL_law_64 rfl rfl ?_
            refine aw_aload_n dL_law_65 rfl rfl ?_
            refine lw_Si (As := [rV K 0 0, rV K 30 0]) (rest := []) (c2 := 20000 + bud k + 5 + 5 + 682) (s2 := 6 * (20000 + bud k + 5 + 5 + 682)) (c_L_areAlike hst m2 i_m2 (show k + 1 ≤ 512 by omega) q_m2) cs_L_areAlike dL_law_66 ml_L_156 rfl rfl (Nat.le_of_ble_eq_true rfl) (by decide) (by rw [show (mRm iL_areAlike).cells = 682 from rfl]; omega) (by rw [show (mRm iL_areAlike).slots = 4092 from rfl]; omega) (by show 20000 + bud k + 5 + 5 + 682 ≤ 600104 ∧ 6 * (20000 + bud k + 5 + 5 + 682) ≤ 7301314; omega) ?_
            refine aw_if_eq (tgt := 86) dL_law_69 (by decide) (by decide) (fun h => absurd h (by decide)) (fun _ => ?_)
            refine aw_iload_n dL_law_72 rfl rfl ?_
            refine aw_iconst dL_law_73 ?_
            refine aw_irem dL_law_74 (by omega) (by omega) ?_
            refine aw_iconst dL_law_75 ?_
            refine aw_icmp_ne (tgt := 88) dL_law_76 (by decide) (by omega) (by omega) (fun h76 => ?_) (fun h76 => ?_)
            · refine aw_iload_n dL_law_88 rfl rfl ?_
              refine aw_bipush dL_law_89 rfl ?_
              refine aw_irem dL_law_91 (by omega) (by omega) ?_
              refine aw_iconst dL_law_92 ?_
              refine aw_icmp_ne (tgt := 114) dL_law_93 (by decide) (by omega) (by omega) (fun h93 => ?_) (fun h93 => ?_)
              · refine aw_iload_n dL_law_114 rfl rfl ?_
                refine aw_bipush dL_law_115 rfl ?_
                refine aw_irem dL_law_117 (by omega) (by omega) ?_
                refine aw_iconst dL_law_118 ?_
                refine aw_icmp_ne (tgt := 142) dL_law_119 (by decide) (by omega) (by omega) (fun h119 => ?_) (fun h119 => ?_)
                · refine aw_iinc (L2 := [some (Value.ref b), some (rV K 0 0), some (rV K 30 0), some (iV (k + 1)), some (iV (v)), some (iV (t1))]) dL_law_142 rfl (by decide) rfl ?_
                  refine aw_goto (tgt := 18) dL_law_145 (by decide) ?_
                  refine aw_weak (L' := [some (Value.ref b), some (rV K 0 0), some (rV K 30 0), some (iV (k + 1)), none, none]) ⟨Or.inr rfl, Or.inr rfl, Or.inr rfl, Or.inr rfl, Or.inl rfl, Or.inl rfl, trivial⟩ ?_
                  refine aw_wide (a := 20000 + bud (k + 1)) (b := 6 * (20000 + bud (k + 1))) (by rw [bud_s e1.1, if_pos h61, if_neg h76, if_neg h93, if_neg h119]; omega) (by rw [bud_s e1.1, if_pos h61, if_neg h76, if_neg h93, if_neg h119]; omega) ?_
                  exact ih18 (k + 1) (m2) (by omega) (by exact i_m2) (by exact e_m2) (by exact q_m2) (by omega)
                · refine aw_aload_n dL_law_122 rfl rfl ?_
                  refine aw_iconst dL_law_123 ?_
                  refine aw_iload dL_law_124 rfl ?_
                  refine aw_iconst dL_law_126 ?_
                  refine aw_ishr dL_law_127 ?_
                  refine aw_bipush dL_law_128 rfl ?_
                  refine lw_Si (As := [iV (shI v 2), iV 12]) (rest := [iV 2, rV K 0 0]) (c2 := 20000 + bud k + 5 + 5 + 682) (s2 := 6 * (20000 + bud k + 5 + 5 + 682)) (c_L_low hst m2 (shI v 2) (12) (shI_r _ _) (by omega)) cs_L_low dL_law_130 ml_L_65 rfl rfl (Nat.le_of_ble_eq_true rfl) (by decide) (by rw [show (mRm iL_low).cells = 0 from rfl]; omega) (by rw [show (mRm iL_low).slots = 0 from rfl]; omega) (by show 20000 + bud k + 5 + 5 + 682 ≤ 600104 ∧ 6 * (20000 + bud k + 5 + 5 + 682) ≤ 7301314; omega) ?_
                  refine aw_iadd dL_law_133 ?_
                  refine lw_Sw (As := [rV K 0 0, iV (2 + (lowI (shI v 2) 12))]) (rest := []) (c2 := 20000 + bud k + 5 + 5 + 682 + 9880) (s2 := 6 * (20000 + bud k + 5 + 5 + 682 + 9880)) (c_L_isGroupSo hst m2 (2 + (lowI (shI v 2) 12)) i_m2 (show k + 1 ≤ 512 by omega) (by have q0 := lowI_bd (shI v 2) (n := 12) (by omega); omega)) cs_L_isGroupSo dL_law_134 ml_L_168 rfl rfl (Nat.le_of_ble_eq_true rfl) (by decide) (by rw [show (mRm iL_isGroupSo).cells = 9880 from rfl]; omega) (by rw [show (mRm iL_isGroupSo).slots = 59280 from rfl]; omega) (by show 20000 + bud k + 5 + 5 + 682 + 9880 ≤ 600104 ∧ 6 * (20000 + bud k + 5 + 5 + 682 + 9880) ≤ 7301314; omega) (fun z9 m9 q9 => ?_)
                  have i_m9 : INV m9 (k + 1) := INV_cg q9.2.s16 i_m2
                  have e_m9 : ENDS m9 := ENDS_cg q9.2.s16 e_m2
                  have q_m9 : EQ2 m9 := eq2_x q_m2 q9.2.fr q9.2.s16
                  refine aw_st (st' := [iV 1]) (by rw [q9.1]) ?_
                  refine aw_if_ne (tgt := 142) dL_law_137 (by decide) (by decide) (fun _ => ?_) (fun h => absurd h (by decide))
                  refine aw_iinc (L2 := [some (Value.ref b), some (rV K 0 0), some (rV K 30 0), some (iV (k + 1)), some (iV (v)), some (iV (t1))]) dL_law_142 rfl (by decide) rfl ?_
                  refine aw_goto (tgt := 18) dL_law_145 (by decide) ?_
                  refine aw_weak (L' := [some (Value.ref b), some (rV K 0 0), some (rV K 30 0), some (iV (k + 1)), none, none]) ⟨Or.inr rfl, Or.inr rfl, Or.inr rfl, Or.inr rfl, Or.inl rfl, Or.inl rfl, trivial⟩ ?_
                  refine aw_wide (a := 20000 + bud (k + 1)) (b := 6 * (20000 + bud (k + 1))) (by rw [bud_s e1.1, if_pos h61, if_neg h76, if_neg h93, if_pos h119]; omega) (by rw [bud_s e1.1, if_pos h61, if_neg h76, if_neg h93, if_pos h119]; omega) ?_
                  exact ih18 (k + 1) (m9) (by omega) (by exact i_m9) (by exact e_m9) (by exact q_m9) (by omega)
              · refine aw_aload_n dL_law_96 rfl rfl ?_
                refine aw_iconst dL_law_97 ?_
                refine aw_iload dL_law_98 rfl ?_
                refine aw_iconst dL_law_100 ?_
                refine aw_ishr dL_law_101 ?_
                refine aw_bipush dL_law_102 rfl ?_
                refine lw_Si (As := [iV (shI v 3), iV 6]) (rest := [iV 1, rV K 0 0]) (c2 := 20000 + bud k + 5 + 5 + 682) (s2 := 6 * (20000 + bud k + 5 + 5 + 682)) (c_L_low hst m2 (shI v 3) (6) (shI_r _ _) (by omega)) cs_L_low dL_law_104 ml_L_65 rfl rfl (Nat.le_of_ble_eq_true rfl) (by decide) (by rw [show (mRm iL_low).cells = 0 from rfl]; omega) (by rw [show (mRm iL_low).slots = 0 from rfl]; omega) (by show 20000 + bud k + 5 + 5 + 682 ≤ 600104 ∧ 6 * (20000 + bud k + 5 + 5 + 682) ≤ 7301314; omega) ?_
                refine aw_iadd dL_law_107 ?_
                refine lw_Si (As := [rV K 0 0, iV (1 + (lowI (shI v 3) 6))]) (rest := []) (c2 := 20000 + bud k + 5 + 5 + 682 + 19965) (s2 := 6 * (20000 + bud k + 5 + 5 + 682 + 19965)) (c_L_isBestSo hst m2 (1 + (lowI (shI v 3) 6)) i_m2 (show k + 1 ≤ 512 by omega) (by have q0 := lowI_bd (shI v 3) (n := 6) (by omega); omega)) cs_L_isBestSo dL_law_108 ml_L_164 rfl rfl (Nat.le_of_ble_eq_true rfl) (by decide) (by rw [show (mRm iL_isBestSo).cells = 19965 from rfl]; omega) (by rw [show (mRm iL_isBestSo).slots = 119790 from rfl]; omega) (by show 20000 + bud k + 5 + 5 + 682 + 19965 ≤ 600104 ∧ 6 * (20000 + bud k + 5 + 5 + 682 + 19965) ≤ 7301314; omega) ?_
                refine aw_if_eq (tgt := 140) dL_law_111 (by decide) (by decide) (fun h => absurd h (by decide)) (fun _ => ?_)
                refine aw_iload_n dL_law_114 rfl rfl ?_
                refine aw_bipush dL_law_115 rfl ?_
                refine aw_irem dL_law_117 (by omega) (by omega) ?_
                refine aw_iconst dL_law_118 ?_
                refine aw_icmp_ne (tgt := 142) dL_law_119 (by decide) (by omega) (by omega) (fun h119 => ?_) (fun h119 => ?_)
                · refine aw_iinc (L2 := [some (Value.ref b), some (rV K 0 0), some (rV K 30 0), some (iV (k + 1)), some (iV (v)), some (iV (t1))]) dL_law_142 rfl (by decide) rfl ?_
                  refine aw_goto (tgt := 18) dL_law_145 (by decide) ?_
                  refine aw_weak (L' := [some (Value.ref b), some (rV K 0 0), some (rV K 30 0), some (iV (k + 1)), none, none]) ⟨Or.inr rfl, Or.inr rfl, Or.inr rfl, Or.inr rfl, Or.inl rfl, Or.inl rfl, trivial⟩ ?_
                  refine aw_wide (a := 20000 + bud (k + 1)) (b := 6 * (20000 + bud (k + 1))) (by rw [bud_s e1.1, if_pos h61, if_neg h76, if_pos h93, if_neg h119]; omega) (by rw [bud_s e1.1, if_pos h61, if_neg h76, if_pos h93, if_neg h119]; omega) ?_
                  exact ih18 (k + 1) (m2) (by omega) (by exact i_m2) (by exact e_m2) (by exact q_m2) (by omega)
                · refine aw_aload_n dL_law_122 rfl rfl ?_
                  refine aw_iconst dL_law_123 ?_
                  refine aw_iload dL_law_124 rfl ?_
                  refine aw_iconst dL_law_126 ?_
                  refine aw_ishr dL_law_127 ?_
                  refine aw_bipush dL_law_128 rfl ?_
                  refine lw_Si (As := [iV (shI v 2), iV 12]) (rest := [iV 2, rV K 0 0]) (c2 := 20000 + bud k + 5 + 5 + 682 + 19965) (s2 := 6 * (20000 + bud k + 5 + 5 + 682 + 19965)) (c_L_low hst m2 (shI v 2) (12) (shI_r _ _) (by omega)) cs_L_low dL_law_130 ml_L_65 rfl rfl (Nat.le_of_ble_eq_true rfl) (by decide) (by rw [show (mRm iL_low).cells = 0 from rfl]; omega) (by rw [show (mRm iL_low).slots = 0 from rfl]; omega) (by show 20000 + bud k + 5 + 5 + 682 + 19965 ≤ 600104 ∧ 6 * (20000 + bud k + 5 + 5 + 682 + 19965) ≤ 7301314; omega) ?_
                  refine aw_iadd dL_law_133 ?_
                  refine lw_Sw (As := [rV K 0 0, iV (2 + (lowI (shI v 2) 12))]) (rest := []) (c2 := 20000 + bud k + 5 + 5 + 682 + 19965 + 9880) (s2 := 6 * (20000 + bud k + 5 + 5 + 682 + 19965 + 9880)) (c_L_isGroupSo hst m2 (2 + (lowI (shI v 2) 12)) i_m2 (show k + 1 ≤ 512 by omega) (by have q0 := lowI_bd (shI v 2) (n := 12) (by omega); omega)) cs_L_isGroupSo dL_law_134 ml_L_168 rfl rfl (Nat.le_of_ble_eq_true rfl) (by decide) (by rw [show (mRm iL_isGroupSo).cells = 9880 from rfl]; omega) (by rw [show (mRm iL_isGroupSo).slots = 59280 from rfl]; omega) (by show 20000 + bud k + 5 + 5 + 682 + 19965 + 9880 ≤ 600104 ∧ 6 * (20000 + bud k + 5 + 5 + 682 + 19965 + 9880) ≤ 7301314; omega) (fun z9 m9 q9 => ?_)
                  have i_m9 : INV m9 (k + 1) := INV_cg q9.2.s16 i_m2
                  have e_m9 : ENDS m9 := ENDS_cg q9.2.s16 e_m2
                  have q_m9 : EQ2 m9 := eq2_x q_m2 q9.2.fr q9.2.s16
                  refine aw_st (st' := [iV 1]) (by rw [q9.1]) ?_
                  refine aw_if_ne (tgt := 142) dL_law_137 (by decide) (by decide) (fun _ => ?_) (fun h => absurd h (by decide))
                  refine aw_iinc (L2 := [some (Value.ref b), some (rV K 0 0), some (rV K 30 0), some (iV (k + 1)), some (iV (v)), some (iV (t1))]) dL_law_142 rfl (by decide) rfl ?_
                  refine aw_goto (tgt := 18) dL_law_145 (by decide) ?_
                  refine aw_weak (L' := [some (Value.ref b), some (rV K 0 0), some (rV K 30 0), some (iV (k + 1)), none, none]) ⟨Or.inr rfl, Or.inr rfl, Or.inr rfl, Or.inr rfl, Or.inl rfl, Or.inl rfl, trivial⟩ ?_
                  refine aw_wide (a := 20000 + bud (k + 1)) (b := 6 * (20000 + bud (k + 1))) (by rw [bud_s e1.1, if_pos h61, if_neg h76, if_pos h93, if_pos h119]; omega) (by rw [bud_s e1.1, if_pos h61, if_neg h76, if_pos h93, if_pos h119]; omega) ?_
                  exact ih18 (k + 1) (m9) (by omega) (by exact i_m9) (by exact e_m9) (by exact q_m9) (by omega)
            · refine aw_aload_n dL_law_79 rfl rfl ?_
              refine lw_Si (As := [rV K 0 0]) (rest := []) (c2 := 20000 + bud k + 5 + 5 + 682 + 2205) (s2 := 6 * (20000 + bud k + 5 + 5 + 682 + 2205)) (c_L_areSeatsSo hst m2 i_m2 (show k + 1 ≤ 512 by omega) e_m2) cs_L_areSeatsSo dL_law_80 ml_L_160 rfl rfl (Nat.le_of_ble_eq_true rfl) (by decide) (by rw [show (mRm iL_areSeatsSo).cells = 2205 from rfl]; omega) (by rw [show (mRm iL_areSeatsSo).slots = 13230 from rfl]; omega) (by show 20000 + bud k + 5 + 5 + 682 + 2205 ≤ 600104 ∧ 6 * (20000 + bud k + 5 + 5 + 682 + 2205) ≤ 7301314; omega) ?_
              refine aw_if_ne (tgt := 88) dL_law_83 (by decide) (by decide) (fun _ => ?_) (fun h => absurd h (by decide))
              refine aw_iload_n dL_law_88 rfl rfl ?_
              refine aw_bipush dL_law_89 rfl ?_
              refine aw_irem dL_law_91 (by omega) (by omega) ?_
              refine aw_iconst dL_law_92 ?_
              refine aw_icmp_ne (tgt := 114) dL_law_93 (by decide) (by omega) (by omega) (fun h93 => ?_) (fun h93 => ?_)
              · refine aw_iload_n dL_law_114 rfl rfl ?_
                refine aw_bipush dL_law_115 rfl ?_
                refine aw_irem dL_law_117 (by omega) (by omega) ?_
                refine aw_iconst dL_law_118 ?_
                refine aw_icmp_ne (tgt := 142) dL_law_119 (by decide) (by omega) (by omega) (fun h119 => ?_) (fun h119 => ?_)
                · refine aw_iinc (L2 := [some (Value.ref b), some (rV K 0 0), some (rV K 30 0), some (iV (k + 1)), some (iV (v)), some (iV (t1))]) dL_law_142 rfl (by decide) rfl ?_
                  refine aw_goto (tgt := 18) dL_law_145 (by decide) ?_
                  refine aw_weak (L' := [some (Value.ref b), some (rV K 0 0), some (rV K 30 0), some (iV (k + 1)), none, none]) ⟨Or.inr rfl, Or.inr rfl, Or.inr rfl, Or.inr rfl, Or.inl rfl, Or.inl rfl, trivial⟩ ?_
                  refine aw_wide (a := 20000 + bud (k + 1)) (b := 6 * (20000 + bud (k + 1))) (by rw [bud_s e1.1, if_pos h61, if_pos h76, if_neg h93, if_neg h119]; omega) (by rw [bud_s e1.1, if_pos h61, if_pos h76, if_neg h93, if_neg h119]; omega) ?_
                  exact ih18 (k + 1) (m2) (by omega) (by exact i_m2) (by exact e_m2) (by exact q_m2) (by omega)
                · refine aw_aload_n dL_law_122 rfl rfl ?_
                  refine aw_iconst dL_law_123 ?_
                  refine aw_iload dL_law_124 rfl ?_
                  refine aw_iconst dL_law_126 ?_
                  refine aw_ishr dL_law_127 ?_
                  refine aw_bipush dL_law_128 rfl ?_
                  refine lw_Si (As := [iV (shI v 2), iV 12]) (rest := [iV 2, rV K 0 0]) (c2 := 20000 + bud k + 5 + 5 + 682 + 2205) (s2 := 6 * (20000 + bud k + 5 + 5 + 682 + 2205)) (c_L_low hst m2 (shI v 2) (12) (shI_r _ _) (by omega)) cs_L_low dL_law_130 ml_L_65 rfl rfl (Nat.le_of_ble_eq_true rfl) (by decide) (by rw [show (mRm iL_low).cells = 0 from rfl]; omega) (by rw [show (mRm iL_low).slots = 0 from rfl]; omega) (by show 20000 + bud k + 5 + 5 + 682 + 2205 ≤ 600104 ∧ 6 * (20000 + bud k + 5 + 5 + 682 + 2205) ≤ 7301314; omega) ?_
                  refine aw_iadd dL_law_133 ?_
                  refine lw_Sw (As := [rV K 0 0, iV (2 + (lowI (shI v 2) 12))]) (rest := []) (c2 := 20000 + bud k + 5 + 5 + 682 + 2205 + 9880) (s2 := 6 * (20000 + bud k + 5 + 5 + 682 + 2205 + 9880)) (c_L_isGroupSo hst m2 (2 + (lowI (shI v 2) 12)) i_m2 (show k + 1 ≤ 512 by omega) (by have q0 := lowI_bd (shI v 2) (n := 12) (by omega); omega)) cs_L_isGroupSo dL_law_134 ml_L_168 rfl rfl (Nat.le_of_ble_eq_true rfl) (by decide) (by rw [show (mRm iL_isGroupSo).cells = 9880 from rfl]; omega) (by rw [show (mRm iL_isGroupSo).slots = 59280 from rfl]; omega) (by show 20000 + bud k + 5 + 5 + 682 + 2205 + 9880 ≤ 600104 ∧ 6 * (20000 + bud k + 5 + 5 + 682 + 2205 + 9880) ≤ 7301314; omega) (fun z9 m9 q9 => ?_)
                  have i_m9 : INV m9 (k + 1) := INV_cg q9.2.s16 i_m2
                  have e_m9 : ENDS m9 := ENDS_cg q9.2.s16 e_m2
                  have q_m9 : EQ2 m9 := eq2_x q_m2 q9.2.fr q9.2.s16
                  refine aw_st (st' := [iV 1]) (by rw [q9.1]) ?_
                  refine aw_if_ne (tgt := 142) dL_law_137 (by decide) (by decide) (fun _ => ?_) (fun h => absurd h (by decide))
                  refine aw_iinc (L2 := [some (Value.ref b), some (rV K 0 0), some (rV K 30 0), some (iV (k + 1)), some (iV (v)), some (iV (t1))]) dL_law_142 rfl (by decide) rfl ?_
                  refine aw_goto (tgt := 18) dL_law_145 (by decide) ?_
                  refine aw_weak (L' := [some (Value.ref b), some (rV K 0 0), some (rV K 30 0), some (iV (k + 1)), none, none]) ⟨Or.inr rfl, Or.inr rfl, Or.inr rfl, Or.inr rfl, Or.inl rfl, Or.inl rfl, trivial⟩ ?_
                  refine aw_wide (a := 20000 + bud (k + 1)) (b := 6 * (20000 + bud (k + 1))) (by rw [bud_s e1.1, if_pos h61, if_pos h76, if_neg h93, if_pos h119]; omega) (by rw [bud_s e1.1, if_pos h61, if_pos h76, if_neg h93, if_pos h119]; omega) ?_
                  exact ih18 (k + 1) (m9) (by omega) (by exact i_m9) (by exact e_m9) (by exact q_m9) (by omega)
              · refine aw_aload_n dL_law_96 rfl rfl ?_
                refine aw_iconst dL_law_97 ?_
                refine aw_iload dL_law_98 rfl ?_
                refine aw_iconst dL_law_100 ?_
                refine aw_ishr dL_law_101 ?_
                refine aw_bipush dL_law_102 rfl ?_
                refine lw_Si (As := [iV (shI v 3), iV 6]) (rest := [iV 1, rV K 0 0]) (c2 := 20000 + bud k + 5 + 5 + 682 + 2205) (s2 := 6 * (20000 + bud k + 5 + 5 + 682 + 2205)) (c_L_low hst m2 (shI v 3) (6) (shI_r _ _) (by omega)) cs_L_low dL_law_104 ml_L_65 rfl rfl (Nat.le_of_ble_eq_true rfl) (by decide) (by rw [show (mRm iL_low).cells = 0 from rfl]; omega) (by rw [show (mRm iL_low).slots = 0 from rfl]; omega) (by show 20000 + bud k + 5 + 5 + 682 + 2205 ≤ 600104 ∧ 6 * (20000 + bud k + 5 + 5 + 682 + 2205) ≤ 7301314; omega) ?_
                refine aw_iadd dL_law_107 ?_
                refine lw_Si (As := [rV K 0 0, iV (1 + (lowI (shI v 3) 6))]) (rest := []) (c2 := 20000 + bud k + 5 + 5 + 682 + 2205 + 19965) (s2 := 6 * (20000 + bud k + 5 + 5 + 682 + 2205 + 19965)) (c_L_isBestSo hst m2 (1 + (lowI (shI v 3) 6)) i_m2 (show k + 1 ≤ 512 by omega) (by have q0 := lowI_bd (shI v 3) (n := 6) (by omega); omega)) cs_L_isBestSo dL_law_108 ml_L_164 rfl rfl (Nat.le_of_ble_eq_true rfl) (by decide) (by rw [show (mRm iL_isBestSo).cells = 19965 from rfl]; omega) (by rw [show (mRm iL_isBestSo).slots = 119790 from rfl]; omega) (by show 20000 + bud k + 5 + 5 + 682 + 2205 + 19965 ≤ 600104 ∧ 6 * (20000 + bud k + 5 + 5 + 682 + 2205 + 19965) ≤ 7301314; omega) ?_
                refine aw_if_eq (tgt := 140) dL_law_111 (by decide) (by decide) (fun h => absurd h (by decide)) (fun _ => ?_)
                refine aw_iload_n dL_law_114 rfl rfl ?_
                refine aw_bipush dL_law_115 rfl ?_
                refine aw_irem dL_law_117 (by omega) (by omega) ?_
                refine aw_iconst dL_law_118 ?_
                refine aw_icmp_ne (tgt := 142) dL_law_119 (by decide) (by omega) (by omega) (fun h119 => ?_) (fun h119 => ?_)
                · refine aw_iinc (L2 := [some (Value.ref b), some (rV K 0 0), some (rV K 30 0), some (iV (k + 1)), some (iV (v)), some (iV (t1))]) dL_law_142 rfl (by decide) rfl ?_
                  refine aw_goto (tgt := 18) dL_law_145 (by decide) ?_
                  refine aw_weak (L' := [some (Value.ref b), some (rV K 0 0), some (rV K 30 0), some (iV (k + 1)), none, none]) ⟨Or.inr rfl, Or.inr rfl, Or.inr rfl, Or.inr rfl, Or.inl rfl, Or.inl rfl, trivial⟩ ?_
                  refine aw_wide (a := 20000 + bud (k + 1)) (b := 6 * (20000 + bud (k + 1))) (by rw [bud_s e1.1, if_pos h61, if_pos h76, if_pos h93, if_neg h119]; omega) (by rw [bud_s e1.1, if_pos h61, if_pos h76, if_pos h93, if_neg h119]; omega) ?_
                  exact ih18 (k + 1) (m2) (by omega) (by exact i_m2) (by exact e_m2) (by exact q_m2) (by omega)
                · refine aw_aload_n dL_law_122 rfl rfl ?_
                  refine aw_iconst dL_law_123 ?_
                  refine aw_iload dL_law_124 rfl ?_
                  refine aw_iconst dL_law_126 ?_
                  refine aw_ishr dL_law_127 ?_
                  refine aw_bipush dL_law_128 rfl ?_
                  refine lw_Si (As := [iV (shI v 2), iV 12]) (rest := [iV 2, rV K 0 0]) (c2 := 20000 + bud k + 5 + 5 + 682 + 2205 + 19965) (s2 := 6 * (20000 + bud k + 5 + 5 + 682 + 2205 + 19965)) (c_L_low hst m2 (shI v 2) (12) (shI_r _ _) (by omega)) cs_L_low dL_law_130 ml_L_65 rfl rfl (Nat.le_of_ble_eq_true rfl) (by decide) (by rw [show (mRm iL_low).cells = 0 from rfl]; omega) (by rw [show (mRm iL_low).slots = 0 from rfl]; omega) (by show 20000 + bud k + 5 + 5 + 682 + 2205 + 19965 ≤ 600104 ∧ 6 * (20000 + bud k + 5 + 5 + 682 + 2205 + 19965) ≤ 7301314; omega) ?_
                  refine aw_iadd dL_law_133 ?_
                  refine lw_Sw (As := [rV K 0 0, iV (2 + (lowI (shI v 2) 12))]) (rest := []) (c2 := 20000 + bud k + 5 + 5 + 682 + 2205 + 19965 + 9880) (s2 := 6 * (20000 + bud k + 5 + 5 + 682 + 2205 + 19965 + 9880)) (c_L_isGroupSo hst m2 (2 + (lowI (shI v 2) 12)) i_m2 (show k + 1 ≤ 512 by omega) (by have q0 := lowI_bd (shI v 2) (n := 12) (by omega); omega)) cs_L_isGroupSo dL_law_134 ml_L_168 rfl rfl (Nat.le_of_ble_eq_true rfl) (by decide) (by rw [show (mRm iL_isGroupSo).cells = 9880 from rfl]; omega) (by rw [show (mRm iL_isGroupSo).slots = 59280 from rfl]; omega) (by show 20000 + bud k + 5 + 5 + 682 + 2205 + 19965 + 9880 ≤ 600104 ∧ 6 * (20000 + bud k + 5 + 5 + 682 + 2205 + 19965 + 9880) ≤ 7301314; omega) (fun z9 m9 q9 => ?_)
                  have i_m9 : INV m9 (k + 1) := INV_cg q9.2.s16 i_m2
                  have e_m9 : ENDS m9 := ENDS_cg q9.2.s16 e_m2
                  have q_m9 : EQ2 m9 := eq2_x q_m2 q9.2.fr q9.2.s16
                  refine aw_st (st' := [iV 1]) (by rw [q9.1]) ?_
                  refine aw_if_ne (tgt := 142) dL_law_137 (by decide) (by decide) (fun _ => ?_) (fun h => absurd h (by decide))
                  refine aw_iinc (L2 := [some (Value.ref b), some (rV K 0 0), some (rV K 30 0), some (iV (k + 1)), some (iV (v)), some (iV (t1))]) dL_law_142 rfl (by decide) rfl ?_
                  refine aw_goto (tgt := 18) dL_law_145 (by decide) ?_
                  refine aw_weak (L' := [some (Value.ref b), some (rV K 0 0), some (rV K 30 0), some (iV (k + 1)), none, none]) ⟨Or.inr rfl, Or.inr rfl, Or.inr rfl, Or.inr rfl, Or.inl rfl, Or.inl rfl, trivial⟩ ?_
                  refine aw_wide (a := 20000 + bud (k + 1)) (b := 6 * (20000 + bud (k + 1))) (by rw [bud_s e1.1, if_pos h61, if_pos h76, if_pos h93, if_pos h119]; omega) (by rw [bud_s e1.1, if_pos h61, if_pos h76, if_pos h93, if_pos h119]; omega) ?_
                  exact ih18 (k + 1) (m9) (by omega) (by exact i_m9) (by exact e_m9) (by exact q_m9) (by omega)
  refine aw_wide (a := 20000 + bud 0) (b := 6 * (20000 + bud 0)) (by omega) (by omega) ?_
  exact lp18 ((((72 : Int) - 0).toNat) + 1) (0) (M0) (by omega) (by exact h0) (by exact he0) (by exact hq0) (Nat.lt_succ_self _)
