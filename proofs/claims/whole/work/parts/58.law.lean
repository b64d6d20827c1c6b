section AWS2
variable {K : WPar} {l : Launch} {μ : MInfo} {Z : ZT} {pc : Nat} {L : List (Option Value)} {st : List Value} {M : Mem} {cells slots : Nat}
theorem aw_same {a b : Int} {off : Int} {tgt : Nat} (hd : decode μ.2.1 pc = .ok (.if_icmp .eq off, 3)) (ht : (pc : Int) + off = (tgt : Int)) (hab : a = b) (kk : AW K l μ Z tgt L st M cells slots) : AW K l μ Z pc L (iV b :: iV a :: st) M cells slots := by
  subst hab
  intro p e s m args below meth c H locs ls C hl hW hS
  exact lv_icmp_eq C.1 C.2.1 hd ht (fun _ => kk p e s m args below meth c H locs ls C hl hW hS) (fun h => absurd rfl h)
theorem aw_switch2 {dflt hi w : Int} {offs : Array Int} {len N : Nat} (tg : Nat → Nat) (hd : decode μ.2.1 pc = .ok (.tableswitch dflt 0 hi offs, len)) (hN : hi = (N : Int) - 1) (htg : ∀ n, n < N → offs[n]? = some ((tg n : Int) - (pc : Int))) (h1 : 0 ≤ w) (hw : inR w)
    (kin : ∀ n : Nat, n < N → w = (n : Int) → AW K l μ Z (tg n) L st M cells slots) {tgt : Nat} (ht : (pc : Int) + dflt = (tgt : Int)) (kout : (N : Int) ≤ w → AW K l μ Z tgt L st M cells slots) : AW K l μ Z pc L (iV w :: st) M cells slots := by
  intro p e s m args below meth c H locs ls C hl hW hS
  by_cases h : hi < w
  · exact lv_tableOut C.1 C.2.1 hd (by rw [ri hw]; exact Or.inr h) ht (kout (by omega) p e s m args below meth c H locs ls C hl hW hS)
  · refine lv_tableIn C.1 C.2.1 hd (by rw [ri hw]; omega) (by rw [ri hw]; exact h) (off := (tg w.toNat : Int) - (pc : Int)) ?_ (by omega) (kin w.toNat (by omega) (by omega) p e s m args below meth c H locs ls C hl hW hS)
    rw [ri hw, show (w - 0).toNat = w.toNat by rw [Int.sub_zero]]
    exact htg _ (by omega)
end AWS2
def lawT (n : Nat) : Nat := [168, 248, 323, 336, 404, 472, 540, 596, 609, 622, 678, 741, 809, 901, 957, 1025, 1093, 1106, 1162, 1218, 1274, 1342, 1398, 1454, 1467, 1480, 1536, 1580, 1648].getD n 0
set_option maxHeartbeats 4000000 in
set_option maxRecDepth 20000 in
theorem law_c0 {K : WPar} {l : Launch} (hst : l.stackTraces = false) {b L0 : Nat} {xs : Nat → Int32} (hL0 : L0 ≤ 2560) {M : Mem} {c : Nat} {i : Int} (i0 : 0 ≤ i) (hi : i + 5 ≤ (L0 : Int)) (hc : (c : Int) ≤ 512) (h : INV M (c : Int)) {C0 S0 : Nat} (hC : C0 + 5 ≤ 601024) (hS : S0 + 30 ≤ 7293034) (next : ∀ M2 : Mem, INV M2 ((c : Int) + 1) → AW K l iL_law (ZL b L0 xs K) 1704 [some (Value.ref b), some (rV K 0 0), some (rV K 30 0), some (rV K 45 0), some (iV (i)), none, none] [] M2 (C0 + 5) (S0 + 30)) : AW K l iL_law (ZL b L0 xs K) 168 [some (Value.ref b), some (rV K 0 0), some (rV K 30 0), some (rV K 45 0), some (iV (i)), none, none] [] M C0 S0 := by
  refine aw_rng (fun hM => ?_)
  refine aw_aload_n dL_law_168 rfl rfl ?_
  refine aw_aload_nb dL_law_169 rfl rfl ?_
  refine aw_iload dL_law_170 rfl ?_
  refine aw_iconst dL_law_172 ?_
  refine aw_iadd dL_law_173 ?_
  refine aw_sld hL0 (by omega) dL_law_174 (fun _ => ?_)
  refine aw_aload_nb dL_law_175 rfl rfl ?_
  refine aw_iload dL_law_176 rfl ?_
  refine aw_iconst dL_law_178 ?_
  refine aw_iadd dL_law_179 ?_
  refine aw_sld hL0 (by omega) dL_law_180 (fun _ => ?_)
  refine aw_aload_nb dL_law_181 rfl rfl ?_
  refine aw_iload dL_law_182 rfl ?_
  refine aw_iconst dL_law_184 ?_
  refine aw_iadd dL_law_185 ?_
  refine aw_sld hL0 (by omega) dL_law_186 (fun _ => ?_)
  refine aw_aload_n dL_law_187 rfl rfl ?_
  refine aw_callW (As := [rV K 0 0, iV (sx xs (i + 1)), iV (sx xs (i + 2)), iV (sx xs (i + 3)), rV K 45 0]) (rest := []) (c2 := C0 + 5) (s2 := S0 + 30) (c_L_addRow hst M (sx xs (i + 1)) (sx xs (i + 2)) (sx xs (i + 3)) (sx_r _ _) (sx_r _ _) (sx_r _ _) h.hw) cw_L_addRow dL_law_188 ml_L_95 rfl rfl (Nat.le_of_ble_eq_true rfl) (by decide) (Nat.add_le_add_left (by decide) C0) (Nat.add_le_add_left (by decide) S0) ⟨hC, hS⟩ (fun z m hq => ?_)
  have hk : MOD M m := by
    rcases hq with ⟨e1, q1, q2⟩ | ⟨e1, q1, q2⟩ | ⟨e1, a, y, ⟨q1, q2, q3, q4⟩, q5⟩
    · rw [q2]; exact MOD.rf
    · rw [q2]; exact MOD.rf
    · rw [q5]; refine MOD.o (fun g g1 g2 => ?_); rw [q4, updM_g (by omega), updM_g (by omega), updM_g (by omega), updM_g (by omega)]
  refine aw_istore (L2 := [some (Value.ref b), some (rV K 0 0), some (rV K 30 0), some (rV K 45 0), some (iV (i)), some (iV (z)), none]) dL_law_191 (by decide) rfl ?_
  refine aw_aload_n dL_law_193 rfl rfl ?_
  refine aw_aload_nb dL_law_194 rfl rfl ?_
  refine aw_iload dL_law_195 rfl ?_
  refine aw_iconst dL_law_197 ?_
  refine aw_iadd dL_law_198 ?_
  refine aw_sld hL0 (by omega) dL_law_199 (fun _ => ?_)
  refine aw_aload_nb dL_law_200 rfl rfl ?_
  refine aw_iload dL_law_201 rfl ?_
  refine aw_iconst dL_law_203 ?_
  refine aw_iadd dL_law_204 ?_
  refine aw_sld hL0 (by omega) dL_law_205 (fun _ => ?_)
  refine aw_aload_nb dL_law_206 rfl rfl ?_
  refine aw_iload dL_law_207 rfl ?_
  refine aw_iconst dL_law_209 ?_
  refine aw_iadd dL_law_210 ?_
  refine aw_sld hL0 (by omega) dL_law_211 (fun _ => ?_)
  refine aw_cVw (g := 30) (As := [iV (sx xs (i + 1)), iV (sx xs (i + 2)), iV (sx xs (i + 3))]) (rest := []) (c_X5_addRow hst m (sx xs (i + 1)) (sx xs (i + 2)) (sx xs (i + 3)) (sx_r _ _) (sx_r _ _) (sx_r _ _) (hk.hwm h)) cv_X5_addRow dL_law_212 ml_L_100 rfl rfl rfl rfl rfl (Nat.le_of_ble_eq_true rfl) (by decide) rfl rfl ⟨hC, hS⟩ (fun ans m2 q => ?_)
  have R := sm_addRow (z := z) (ans := ans) (m := m) (m2 := m2) (seats := sx xs (i + 1)) (score := sx xs (i + 2)) (price := sx xs (i + 3)) h (by
      rcases hq with q | q | ⟨e1, a, y, ⟨q1, q2, q3, q4⟩, q5⟩
      · exact (Or.inl q)
      · exact (Or.inr (Or.inl q))
      · exact (Or.inr (Or.inr ⟨e1, ⟨q1, q2⟩, by rw [q5, q3, q4]⟩))) q
  refine aw_rng (fun hM2 => ?_)
  have rz : inR z := R.1 ▸ hM2 30 0 0
  refine aw_istore (L2 := [some (Value.ref b), some (rV K 0 0), some (rV K 30 0), some (rV K 45 0), some (iV (i)), some (iV (z)), some (iV (ans))]) dL_law_215 (by decide) rfl ?_
  refine aw_aload_n dL_law_217 rfl rfl ?_
  refine aw_cVi (g := 30) (As := []) (rest := []) (c_X5_thrown hst m2) cv_X5_thrown dL_law_218 ml_L_101 rfl rfl rfl rfl rfl (Nat.le_of_ble_eq_true rfl) (by decide) rfl rfl ⟨hC, hS⟩ ?_
  refine aw_iload dL_law_221 rfl ?_
  refine aw_same (tgt := 228) dL_law_223 (by decide) R.1 ?_
  refine aw_iload dL_law_228 rfl ?_
  refine aw_if_ne (tgt := 245) dL_law_230 (by decide) rz (fun hz => ?_) (fun hz => ?_)
  · skip
    refine aw_goto (tgt := 1704) dL_law_245 (by decide) ?_
    refine aw_weak (L' := [some (Value.ref b), some (rV K 0 0), some (rV K 30 0), some (rV K 45 0), some (iV (i)), none, none]) ⟨Or.inr rfl, Or.inr rfl, Or.inr rfl, Or.inr rfl, Or.inr rfl, Or.inl rfl, Or.inl rfl, trivial⟩ ?_
    exact next _ R.2.2
  · skip
    have ho := R.2.1 hz
    refine aw_aload_n dL_law_233 rfl rfl ?_
    refine aw_iconst dL_law_234 ?_
    refine aw_lald (g := 45) (n := 1) rfl (by decide) dL_law_235 (by decide) (by decide) (fun ro => ?_)
    refine aw_iload dL_law_236 rfl ?_
    refine aw_i2l (ho ▸ ro) dL_law_238 ?_
    refine aw_lcmp (tgt := 245) dL_law_239 dL_law_240 (by decide) ho ?_
    refine aw_goto (tgt := 1704) dL_law_245 (by decide) ?_
    refine aw_weak (L' := [some (Value.ref b), some (rV K 0 0), some (rV K 30 0), some (rV K 45 0), some (iV (i)), none, none]) ⟨Or.inr rfl, Or.inr rfl, Or.inr rfl, Or.inr rfl, Or.inr rfl, Or.inl rfl, Or.inl rfl, trivial⟩ ?_
    exact next _ R.2.2
set_option maxHeartbeats 4000000 in
set_option maxRecDepth 20000 in
theorem law_c1 {K : WPar} {l : Launch} (hst : l.stackTraces = false) {b L0 : Nat} {xs : Nat → Int32} (hL0 : L0 ≤ 2560) {M : Mem} {c : Nat} {i : Int} (i0 : 0 ≤ i) (hi : i + 5 ≤ (L0 : Int)) (hc : (c : Int) ≤ 512) (h : INV M (c : Int)) {C0 S0 : Nat} (hC : C0 + 5 ≤ 601024) (hS : S0 + 30 ≤ 7293034) (next : ∀ M2 : Mem, INV M2 ((c : Int) + 1) → AW K l iL_law (ZL b L0 xs K) 1704 [some (Value.ref b), some (rV K 0 0), some (rV K 30 0), some (rV K 45 0), some (iV (i)), none, none] [] M2 (C0 + 5) (S0 + 30)) : AW K l iL_law (ZL b L0 xs K) 248 [some (Value.ref b), some (rV K 0 0), some (rV K 30 0), some (rV K 45 0), some (iV (i)), none, none] [] M C0 S0 := by
  refine aw_rng (fun hM => ?_)
  refine aw_aload_n dL_law_248 rfl rfl ?_
  refine aw_aload_nb dL_law_249 rfl rfl ?_
  refine aw_iload dL_law_250 rfl ?_
  refine aw_iconst dL_law_252 ?_
  refine aw_iadd dL_law_253 ?_
  refine aw_sld hL0 (by omega) dL_law_254 (fun _ => ?_)
  refine aw_aload_nb dL_law_255 rfl rfl ?_
  refine aw_iload dL_law_256 rfl ?_
  refine aw_iconst dL_law_258 ?_
  refine aw_iadd dL_law_259 ?_
  refine aw_sld hL0 (by omega) dL_law_260 (fun _ => ?_)
  refine aw_aload_n dL_law_261 rfl rfl ?_
  refine aw_callW (As := [rV K 0 0, iV (sx xs (i + 1)), iV (sx xs (i + 2)), rV K 45 0]) (rest := []) (c2 := C0 + 5) (s2 := S0 + 30) (c_L_toggleBlocked hst M (sx xs (i + 1)) (sx xs (i + 2)) (sx_r _ _) (sx_r _ _) h.hw) cw_L_toggleBlocked dL_law_262 ml_L_104 rfl rfl (Nat.le_of_ble_eq_true rfl) (by decide) (Nat.add_le_add_left (by decide) C0) (Nat.add_le_add_left (by decide) S0) ⟨hC, hS⟩ (fun z m hq => ?_)
  have hk : MOD M m := by
    rcases hq with ⟨e1, q1, q2⟩ | ⟨e1, q1, q2⟩ | ⟨e1, a, y, ⟨q1, q2, q3, q4⟩, q5⟩
    · rw [q2]; exact MOD.rf
    · rw [q2]; exact MOD.rf
    · rw [q5]; refine MOD.o (fun g g1 g2 => ?_); rw [q4, giveM_g (by omega)]
  refine aw_istore (L2 := [some (Value.ref b), some (rV K 0 0), some (rV K 30 0), some (rV K 45 0), some (iV (i)), some (iV (z)), none]) dL_law_265 (by decide) rfl ?_
  refine aw_aload_n dL_law_267 rfl rfl ?_
  refine aw_aload_nb dL_law_268 rfl rfl ?_
  refine aw_iload dL_law_269 rfl ?_
  refine aw_iconst dL_law_271 ?_
  refine aw_iadd dL_law_272 ?_
  refine aw_sld hL0 (by omega) dL_law_273 (fun _ => ?_)
  refine aw_aload_nb dL_law_274 rfl rfl ?_
  refine aw_iload dL_law_275 rfl ?_
  refine aw_iconst dL_law_277 ?_
  refine aw_iadd dL_law_278 ?_
  refine aw_sld hL0 (by omega) dL_law_279 (fun _ => ?_)
  refine aw_cVw (g := 30) (As := [iV (sx xs (i + 1)), iV (sx xs (i + 2))]) (rest := []) (c_X5_toggleBlocked hst m (sx xs (i + 1)) (sx xs (i + 2)) (sx_r _ _) (sx_r _ _) (hk.hwm h)) cv_X5_toggleBlocked dL_law_280 ml_L_107 rfl rfl rfl rfl rfl (Nat.le_of_ble_eq_true rfl) (by decide) rfl rfl ⟨hC, hS⟩ (fun ans m2 q => ?_)
  have R := sm_toggleBlocked (z := z) (ans := ans) (m := m) (m2 := m2) (row := sx xs (i + 1)) (seat := sx xs (i + 2)) h (by
      rcases hq with q | q | ⟨e1, a, y, ⟨q1, q2, q3, q4⟩, q5⟩
      · exact (Or.inl q)
      · exact (Or.inr (Or.inl q))
      · exact (Or.inr (Or.inr ⟨e1, ⟨q1, q2⟩, by rw [q5, q3, q4]⟩))) q
  have ha : ans = 0 ∨ ans = 1 := by
    rcases q with q | q | q | q
    · exact Or.inl q.2.1
    · exact Or.inl q.2.1
    · exact Or.inr q.2.1
    · exact Or.inl q.2.1
  refine aw_rng (fun hM2 => ?_)
  have rz : inR z := R.1 ▸ hM2 30 0 0
  refine aw_istore (L2 := [some (Value.ref b), some (rV K 0 0), some (rV K 30 0), some (rV K 45 0), some (iV (i)), some (iV (z)), some (iV (ans))]) dL_law_283 (by decide) rfl ?_
  refine aw_aload_n dL_law_285 rfl rfl ?_
  refine aw_cVi (g := 30) (As := []) (rest := []) (c_X5_thrown hst m2) cv_X5_thrown dL_law_286 ml_L_101 rfl rfl rfl rfl rfl (Nat.le_of_ble_eq_true rfl) (by decide) rfl rfl ⟨hC, hS⟩ ?_
  refine aw_iload dL_law_289 rfl ?_
  refine aw_same (tgt := 296) dL_law_291 (by decide) R.1 ?_
  refine aw_iload dL_law_296 rfl ?_
  refine aw_if_ne (tgt := 320) dL_law_298 (by decide) rz (fun hz => ?_) (fun hz => ?_)
  · skip
    refine aw_goto (tgt := 1704) dL_law_320 (by decide) ?_
    refine aw_weak (L' := [some (Value.ref b), some (rV K 0 0), some (rV K 30 0), some (rV K 45 0), some (iV (i)), none, none]) ⟨Or.inr rfl, Or.inr rfl, Or.inr rfl, Or.inr rfl, Or.inr rfl, Or.inl rfl, Or.inl rfl, trivial⟩ ?_
    exact next _ R.2.2
  · skip
    have ho := R.2.1 hz
    refine aw_aload_n dL_law_301 rfl rfl ?_
    refine aw_iconst dL_law_302 ?_
    refine aw_lald (g := 45) (n := 1) rfl (by decide) dL_law_303 (by decide) (by decide) (fun ro => ?_)
    refine aw_iload dL_law_304 rfl ?_
    refine aw_if_eq (tgt := 313) dL_law_306 (by decide) (by omega) (fun h0 => ?_) (fun h1 => ?_)
    · refine aw_lconst (z := 0) dL_law_313 rfl ?_
      refine aw_lcmp (tgt := 320) dL_law_314 dL_law_315 (by decide) (by omega) ?_
      refine aw_goto (tgt := 1704) dL_law_320 (by decide) ?_
      refine aw_weak (L' := [some (Value.ref b), some (rV K 0 0), some (rV K 30 0), some (rV K 45 0), some (iV (i)), none, none]) ⟨Or.inr rfl, Or.inr rfl, Or.inr rfl, Or.inr rfl, Or.inr rfl, Or.inl rfl, Or.inl rfl, trivial⟩ ?_
      exact next _ R.2.2
    · refine aw_lconst (z := 1) dL_law_309 rfl ?_
      refine aw_goto (tgt := 314) dL_law_310 (by decide) ?_
      refine aw_lcmp (tgt := 320) dL_law_314 dL_law_315 (by decide) (by omega) ?_
      refine aw_goto (tgt := 1704) dL_law_320 (by decide) ?_
      refine aw_weak (L' := [some (Value.ref b), some (rV K 0 0), some (rV K 30 0), some (rV K 45 0), some (iV (i)), none, none]) ⟨Or.inr rfl, Or.inr rfl, Or.inr rfl, Or.inr rfl, Or.inr rfl, Or.inl rfl, Or.inl rfl, trivial⟩ ?_
      exact next _ R.2.2
set_option maxHeartbeats 4000000 in
set_option maxRecDepth 20000 in
theorem law_c2 {K : WPar} {l : Launch} (hst : l.stackTraces = false) {b L0 : Nat} {xs : Nat → Int32} (hL0 : L0 ≤ 2560) {M : Mem} {c : Nat} {i : Int} (i0 : 0 ≤ i) (hi : i + 5 ≤ (L0 : Int)) (hc : (c : Int) ≤ 512) (h : INV M (c : Int)) {C0 S0 : Nat} (hC : C0 + 5 ≤ 601024) (hS : S0 + 30 ≤ 7293034) (next : ∀ M2 : Mem, INV M2 ((c : Int) + 1) → AW K l iL_law (ZL b L0 xs K) 1704 [some (Value.ref b), some (rV K 0 0), some (rV K 30 0), some (rV K 45 0), some (iV (i)), none, none] [] M2 (C0 + 5) (S0 + 30)) : AW K l iL_law (ZL b L0 xs K) 323 [some (Value.ref b), some (rV K 0 0), some (rV K 30 0), some (rV K 45 0), some (iV (i)), none, none] [] M C0 S0 := by
  refine aw_rng (fun hM => ?_)
  refine aw_aload_n dL_law_323 rfl rfl ?_
  refine aw_cVi (g := 0) (As := []) (rest := []) (c_X4_rows hst M) cv_X4_rows dL_law_324 ml_L_108 rfl rfl rfl rfl rfl (Nat.le_of_ble_eq_true rfl) (by decide) rfl rfl ⟨by show C0 ≤ 601024; omega, by show S0 ≤ 7293034; omega⟩ ?_
  refine aw_aload_n dL_law_327 rfl rfl ?_
  refine aw_cVi (g := 30) (As := []) (rest := [iV (M 1 0 4)]) (c_X5_rows hst M) cv_X5_rows dL_law_328 ml_L_111 rfl rfl rfl rfl rfl (Nat.le_of_ble_eq_true rfl) (by decide) rfl rfl ⟨by show C0 ≤ 601024; omega, by show S0 ≤ 7293034; omega⟩ ?_
  refine aw_same (tgt := 1704) dL_law_331 (by decide) (sd_rows h) ?_
  refine aw_wide (a := C0 + 5) (b := S0 + 30) (by omega) (by omega) ?_
  exact next _ (sd_t h)
set_option maxHeartbeats 4000000 in
set_option maxRecDepth 20000 in
theorem law_c3 {K : WPar} {l : Launch} (hst : l.stackTraces = false) {b L0 : Nat} {xs : Nat → Int32} (hL0 : L0 ≤ 2560) {M : Mem} {c : Nat} {i : Int} (i0 : 0 ≤ i) (hi : i + 5 ≤ (L0 : Int)) (hc : (c : Int) ≤ 512) (h : INV M (c : Int)) {C0 S0 : Nat} (hC : C0 + 5 ≤ 601024) (hS : S0 + 30 ≤ 7293034) (next : ∀ M2 : Mem, INV M2 ((c : Int) + 1) → AW K l iL_law (ZL b L0 xs K) 1704 [some (Value.ref b), some (rV K 0 0), some (rV K 30 0), some (rV K 45 0), some (iV (i)), none, none] [] M2 (C0 + 5) (S0 + 30)) : AW K l iL_law (ZL b L0 xs K) 336 [some (Value.ref b), some (rV K 0 0), some (rV K 30 0), some (rV K 45 0), some (iV (i)), none, none] [] M C0 S0 := by
  refine aw_rng (fun hM => ?_)
  refine aw_aload_n dL_law_336 rfl rfl ?_
  refine aw_aload_nb dL_law_337 rfl rfl ?_
  refine aw_iload dL_law_338 rfl ?_
  refine aw_iconst dL_law_340 ?_
  refine aw_iadd dL_law_341 ?_
  refine aw_sld hL0 (by omega) dL_law_342 (fun _ => ?_)
  refine aw_aload_nb dL_law_343 rfl rfl ?_
  refine aw_iload dL_law_344 rfl ?_
  refine aw_iconst dL_law_346 ?_
  refine aw_iadd dL_law_347 ?_
  refine aw_sld hL0 (by omega) dL_law_348 (fun _ => ?_)
  refine aw_aload_n dL_law_349 rfl rfl ?_
  refine aw_callW (As := [rV K 0 0, iV (sx xs (i + 1)), iV (sx xs (i + 2)), rV K 45 0]) (rest := []) (c2 := C0 + 5) (s2 := S0 + 30) (c_L_state hst M (sx xs (i + 1)) (sx xs (i + 2)) (sx_r _ _) (sx_r _ _) h.hw h.bw h.vo) cw_L_state dL_law_350 ml_L_112 rfl rfl (Nat.le_of_ble_eq_true rfl) (by decide) (Nat.add_le_add_left (by decide) C0) (Nat.add_le_add_left (by decide) S0) ⟨hC, hS⟩ (fun z m hq => ?_)
  have hI : INV m (c : Int) := by
    rcases hq with ⟨e1, q1, q2⟩ | ⟨e1, a, y, ⟨q1, q3, q4⟩, q2⟩
    · rw [q2]; exact h
    · rw [q2, q4]; exact sd_o h
  refine aw_istore (L2 := [some (Value.ref b), some (rV K 0 0), some (rV K 30 0), some (rV K 45 0), some (iV (i)), some (iV (z)), none]) dL_law_353 (by decide) rfl ?_
  refine aw_aload_n dL_law_355 rfl rfl ?_
  refine aw_aload_nb dL_law_356 rfl rfl ?_
  refine aw_iload dL_law_357 rfl ?_
  refine aw_iconst dL_law_359 ?_
  refine aw_iadd dL_law_360 ?_
  refine aw_sld hL0 (by omega) dL_law_361 (fun _ => ?_)
  refine aw_aload_nb dL_law_362 rfl rfl ?_
  refine aw_iload dL_law_363 rfl ?_
  refine aw_iconst dL_law_365 ?_
  refine aw_iadd dL_law_366 ?_
  refine aw_sld hL0 (by omega) dL_law_367 (fun _ => ?_)
  refine aw_cVw (g := 30) (As := [iV (sx xs (i + 1)), iV (sx xs (i + 2))]) (rest := []) (c_X5_state hst m (sx xs (i + 1)) (sx xs (i + 2)) (sx_r _ _) (sx_r _ _) hI.hwm hI.bwm hI.vom) cv_X5_state dL_law_368 ml_L_114 rfl rfl rfl rfl rfl (Nat.le_of_ble_eq_true rfl) (by decide) rfl rfl ⟨hC, hS⟩ (fun ans m2 q => ?_)
  have R := sq_state (z := z) (ans := ans) (m2 := m2) (row := sx xs (i + 1)) (seat := sx xs (i + 2)) hI (by
      rcases hq with ⟨e1, q1, q2⟩ | ⟨e1, a, y, ⟨q1, q3, q4⟩, q2⟩
      · subst q2; exact (Or.inl ⟨e1, q1⟩)
      · subst q4 q2; exact (Or.inr ⟨e1, q1, updM_same.trans q3⟩)) q
  refine aw_rng (fun hM2 => ?_)
  have rz : inR z := R.1 ▸ hM2 30 0 0
  refine aw_istore (L2 := [some (Value.ref b), some (rV K 0 0), some (rV K 30 0), some (rV K 45 0), some (iV (i)), some (iV (z)), some (iV (ans))]) dL_law_371 (by decide) rfl ?_
  refine aw_aload_n dL_law_373 rfl rfl ?_
  refine aw_cVi (g := 30) (As := []) (rest := []) (c_X5_thrown hst m2) cv_X5_thrown dL_law_374 ml_L_101 rfl rfl rfl rfl rfl (Nat.le_of_ble_eq_true rfl) (by decide) rfl rfl ⟨hC, hS⟩ ?_
  refine aw_iload dL_law_377 rfl ?_
  refine aw_same (tgt := 384) dL_law_379 (by decide) R.1 ?_
  refine aw_iload dL_law_384 rfl ?_
  refine aw_if_ne (tgt := 401) dL_law_386 (by decide) rz (fun hz => ?_) (fun hz => ?_)
  · skip
    refine aw_goto (tgt := 1704) dL_law_401 (by decide) ?_
    refine aw_weak (L' := [some (Value.ref b), some (rV K 0 0), some (rV K 30 0), some (rV K 45 0), some (iV (i)), none, none]) ⟨Or.inr rfl, Or.inr rfl, Or.inr rfl, Or.inr rfl, Or.inr rfl, Or.inl rfl, Or.inl rfl, trivial⟩ ?_
    exact next _ R.2.2
  · skip
    have ho := R.2.1 hz
    refine aw_aload_n dL_law_389 rfl rfl ?_
    refine aw_iconst dL_law_390 ?_
    refine aw_lald (g := 45) (n := 1) rfl (by decide) dL_law_391 (by decide) (by decide) (fun ro => ?_)
    refine aw_iload dL_law_392 rfl ?_
    refine aw_i2l (ho ▸ ro) dL_law_394 ?_
    refine aw_lcmp (tgt := 401) dL_law_395 dL_law_396 (by decide) ho ?_
    refine aw_goto (tgt := 1704) dL_law_401 (by decide) ?_
    refine aw_weak (L' := [some (Value.ref b), some (rV K 0 0), some (rV K 30 0), some (rV K 45 0), some (iV (i)), none, none]) ⟨Or.inr rfl, Or.inr rfl, Or.inr rfl, Or.inr rfl, Or.inr rfl, Or.inl rfl, Or.inl rfl, trivial⟩ ?_
    exact next _ R.2.2
set_option maxHeartbeats 4000000 in
set_option maxRecDepth 20000 in
theorem law_c4 {K : WPar} {l : Launch} (hst : l.stackTraces = false) {b L0 : Nat} {xs : Nat → Int32} (hL0 : L0 ≤ 2560) {M : Mem} {c : Nat} {i : Int} (i0 : 0 ≤ i) (hi : i + 5 ≤ (L0 : Int)) (hc : (c : Int) ≤ 512) (h : INV M (c : Int)) {C0 S0 : Nat} (hC : C0 + 5 ≤ 601024) (hS : S0 + 30 ≤ 7293034) (next : ∀ M2 : Mem, INV M2 ((c : Int) + 1) → AW K l iL_law (ZL b L0 xs K) 1704 [some (Value.ref b), some (rV K 0 0), some (rV K 30 0), some (rV K 45 0), some (iV (i)), none, none] [] M2 (C0 + 5) (S0 + 30)) : AW K l iL_law (ZL b L0 xs K) 404 [some (Value.ref b), some (rV K 0 0), some (rV K 30 0), some (rV K 45 0), some (iV (i)), none, none] [] M C0 S0 := by
  refine aw_rng (fun hM => ?_)
  refine aw_aload_n dL_law_404 rfl rfl ?_
  refine aw_aload_nb dL_law_405 rfl rfl ?_
  refine aw_iload dL_law_406 rfl ?_
  refine aw_iconst dL_law_408 ?_
  refine aw_iadd dL_law_409 ?_
  refine aw_sld hL0 (by omega) dL_law_410 (fun _ => ?_)
  refine aw_aload_nb dL_law_411 rfl rfl ?_
  refine aw_iload dL_law_412 rfl ?_
  refine aw_iconst dL_law_414 ?_
  refine aw_iadd dL_law_415 ?_
  refine aw_sld hL0 (by omega) dL_law_416 (fun _ => ?_)
  refine aw_aload_n dL_law_417 rfl rfl ?_
  refine aw_callW (As := [rV K 0 0, iV (sx xs (i + 1)), iV (sx xs (i + 2)), rV K 45 0]) (rest := []) (c2 := C0 + 5) (s2 := S0 + 30) (c_L_ticketAt hst M (sx xs (i + 1)) (sx xs (i + 2)) (sx_r _ _) (sx_r _ _) h.hw) cw_L_ticketAt dL_law_418 ml_L_115 rfl rfl (Nat.le_of_ble_eq_true rfl) (by decide) (Nat.add_le_add_left (by decide) C0) (Nat.add_le_add_left (by decide) S0) ⟨hC, hS⟩ (fun z m hq => ?_)
  have hI : INV m (c : Int) := by
    rcases hq with ⟨e1, q1, q2⟩ | ⟨e1, a, y, ⟨q1, q3, q4⟩, q2⟩
    · rw [q2]; exact h
    · rw [q2, q4]; exact sd_o h
  refine aw_istore (L2 := [some (Value.ref b), some (rV K 0 0), some (rV K 30 0), some (rV K 45 0), some (iV (i)), some (iV (z)), none]) dL_law_421 (by decide) rfl ?_
  refine aw_aload_n dL_law_423 rfl rfl ?_
  refine aw_aload_nb dL_law_424 rfl rfl ?_
  refine aw_iload dL_law_425 rfl ?_
  refine aw_iconst dL_law_427 ?_
  refine aw_iadd dL_law_428 ?_
  refine aw_sld hL0 (by omega) dL_law_429 (fun _ => ?_)
  refine aw_aload_nb dL_law_430 rfl rfl ?_
  refine aw_iload dL_law_431 rfl ?_
  refine aw_iconst dL_law_433 ?_
  refine aw_iadd dL_law_434 ?_
  refine aw_sld hL0 (by omega) dL_law_435 (fun _ => ?_)
  refine aw_cVw (g := 30) (As := [iV (sx xs (i + 1)), iV (sx xs (i + 2))]) (rest := []) (c_X5_ticketAt hst m (sx xs (i + 1)) (sx xs (i + 2)) (sx_r _ _) (sx_r _ _) hI.hwm) cv_X5_ticketAt dL_law_436 ml_L_117 rfl rfl rfl rfl rfl (Nat.le_of_ble_eq_true rfl) (by decide) rfl rfl ⟨hC, hS⟩ (fun ans m2 q => ?_)
  have R := sq_ticketAt (z := z) (ans := ans) (m2 := m2) (row := sx xs (i + 1)) (seat := sx xs (i + 2)) hI (by
      rcases hq with ⟨e1, q1, q2⟩ | ⟨e1, a, y, ⟨q1, q3, q4⟩, q2⟩
      · subst q2; exact (Or.inl ⟨e1, q1⟩)
      · subst q4 q2; exact (Or.inr ⟨e1, q1, updM_same.trans q3⟩)) q
  refine aw_rng (fun hM2 => ?_)
  have rz : inR z := R.1 ▸ hM2 30 0 0
  refine aw_istore (L2 := [some (Value.ref b), some (rV K 0 0), some (rV K 30 0), some (rV K 45 0), some (iV (i)), some (iV (z)), some (iV (ans))]) dL_law_439 (by decide) rfl ?_
  refine aw_aload_n dL_law_441 rfl rfl ?_
  refine aw_cVi (g := 30) (As := []) (rest := []) (c_X5_thrown hst m2) cv_X5_thrown dL_law_442 ml_L_101 rfl rfl rfl rfl rfl (Nat.le_of_ble_eq_true rfl) (by decide) rfl rfl ⟨hC, hS⟩ ?_
  refine aw_iload dL_law_445 rfl ?_
  refine aw_same (tgt := 452) dL_law_447 (by decide) R.1 ?_
  refine aw_iload dL_law_452 rfl ?_
  refine aw_if_ne (tgt := 469) dL_law_454 (by decide) rz (fun hz => ?_) (fun hz => ?_)
  · skip
    refine aw_goto (tgt := 1704) dL_law_469 (by decide) ?_
    refine aw_weak (L' := [some (Value.ref b), some (rV K 0 0), some (rV K 30 0), some (rV K 45 0), some (iV (i)), none, none]) ⟨Or.inr rfl, Or.inr rfl, Or.inr rfl, Or.inr rfl, Or.inr rfl, Or.inl rfl, Or.inl rfl, trivial⟩ ?_
    exact next _ R.2.2
  · skip
    have ho := R.2.1 hz
    refine aw_aload_n dL_law_457 rfl rfl ?_
    refine aw_iconst dL_law_458 ?_
    refine aw_lald (g := 45) (n := 1) rfl (by decide) dL_law_459 (by decide) (by decide) (fun ro => ?_)
    refine aw_iload dL_law_460 rfl ?_
    refine aw_i2l (ho ▸ ro) dL_law_462 ?_
    refine aw_lcmp (tgt := 469) dL_law_463 dL_law_464 (by decide) ho ?_
    refine aw_goto (tgt := 1704) dL_law_469 (by decide) ?_
    refine aw_weak (L' := [some (Value.ref b), some (rV K 0 0), some (rV K 30 0), some (rV K 45 0), some (iV (i)), none, none]) ⟨Or.inr rfl, Or.inr rfl, Or.inr rfl, Or.inr rfl, Or.inr rfl, Or.inl rfl, Or.inl rfl, trivial⟩ ?_
    exact next _ R.2.2
set_option maxHeartbeats 4000000 in
set_option maxRecDepth 20000 in
theorem law_c5 {K : WPar} {l : Launch} (hst : l.stackTraces = false) {b L0 : Nat} {xs : Nat → Int32} (hL0 : L0 ≤ 2560) {M : Mem} {c : Nat} {i : Int} (i0 : 0 ≤ i) (hi : i + 5 ≤ (L0 : Int)) (hc : (c : Int) ≤ 512) (h : INV M (c : Int)) {C0 S0 : Nat} (hC : C0 + 5 ≤ 601024) (hS : S0 + 30 ≤ 7293034) (next : ∀ M2 : Mem, INV M2 ((c : Int) + 1) → AW K l iL_law (ZL b L0 xs K) 1704 [some (Value.ref b), some (rV K 0 0), some (rV K 30 0), some (rV K 45 0), some (iV (i)), none, none] [] M2 (C0 + 5) (S0 + 30)) : AW K l iL_law (ZL b L0 xs K) 472 [some (Value.ref b), some (rV K 0 0), some (rV K 30 0), some (rV K 45 0), some (iV (i)), none, none] [] M C0 S0 := by
  refine aw_rng (fun hM => ?_)
  refine aw_aload_n dL_law_472 rfl rfl ?_
  refine aw_aload_nb dL_law_473 rfl rfl ?_
  refine aw_iload dL_law_474 rfl ?_
  refine aw_iconst dL_law_476 ?_
  refine aw_iadd dL_law_477 ?_
  refine aw_sld hL0 (by omega) dL_law_478 (fun _ => ?_)
  refine aw_aload_nb dL_law_479 rfl rfl ?_
  refine aw_iload dL_law_480 rfl ?_
  refine aw_iconst dL_law_482 ?_
  refine aw_iadd dL_law_483 ?_
  refine aw_sld hL0 (by omega) dL_law_484 (fun _ => ?_)
  refine aw_aload_n dL_law_485 rfl rfl ?_
  refine aw_callW (As := [rV K 0 0, iV (sx xs (i + 1)), iV (sx xs (i + 2)), rV K 45 0]) (rest := []) (c2 := C0 + 5) (s2 := S0 + 30) (c_L_value hst M (sx xs (i + 1)) (sx xs (i + 2)) (sx_r _ _) (sx_r _ _) h.hw) cw_L_value dL_law_486 ml_L_118 rfl rfl (Nat.le_of_ble_eq_true rfl) (by decide) (Nat.add_le_add_left (by decide) C0) (Nat.add_le_add_left (by decide) S0) ⟨hC, hS⟩ (fun z m hq => ?_)
  have hI : INV m (c : Int) := by
    rcases hq with ⟨e1, q1, q2⟩ | ⟨e1, a, y, ⟨q1, q3, q4⟩, q2⟩
    · rw [q2]; exact h
    · rw [q2, q4]; exact sd_o h
  refine aw_istore (L2 := [some (Value.ref b), some (rV K 0 0), some (rV K 30 0), some (rV K 45 0), some (iV (i)), some (iV (z)), none]) dL_law_489 (by decide) rfl ?_
  refine aw_aload_n dL_law_491 rfl rfl ?_
  refine aw_aload_nb dL_law_492 rfl rfl ?_
  refine aw_iload dL_law_493 rfl ?_
  refine aw_iconst dL_law_495 ?_
  refine aw_iadd dL_law_496 ?_
  refine aw_sld hL0 (by omega) dL_law_497 (fun _ => ?_)
  refine aw_aload_nb dL_law_498 rfl rfl ?_
  refine aw_iload dL_law_499 rfl ?_
  refine aw_iconst dL_law_501 ?_
  refine aw_iadd dL_law_502 ?_
  refine aw_sld hL0 (by omega) dL_law_503 (fun _ => ?_)
  refine aw_cVw (g := 30) (As := [iV (sx xs (i + 1)), iV (sx xs (i + 2))]) (rest := []) (c_X5_value hst m (sx xs (i + 1)) (sx xs (i + 2)) (sx_r _ _) (sx_r _ _) hI.hwm) cv_X5_value dL_law_504 ml_L_120 rfl rfl rfl rfl rfl (Nat.le_of_ble_eq_true rfl) (by decide) rfl rfl ⟨hC, hS⟩ (fun ans m2 q => ?_)
  have R := sq_value (z := z) (ans := ans) (m2 := m2) (row := sx xs (i + 1)) (seat := sx xs (i + 2)) hI (by
      rcases hq with ⟨e1, q1, q2⟩ | ⟨e1, a, y, ⟨q1, q3, q4⟩, q2⟩
      · subst q2; exact (Or.inl ⟨e1, q1⟩)
      · subst q4 q2; exact (Or.inr ⟨e1, q1, updM_same.trans q3⟩)) q
  refine aw_rng (fun hM2 => ?_)
  have rz : inR z := R.1 ▸ hM2 30 0 0
  refine aw_istore (L2 := [some (Value.ref b), some (rV K 0 0), some (rV K 30 0), some (rV K 45 0), some (iV (i)), some (iV (z)), some (iV (ans))]) dL_law_507 (by decide) rfl ?_
  refine aw_aload_n dL_law_509 rfl rfl ?_
  refine aw_cVi (g := 30) (As := []) (rest := []) (c_X5_thrown hst m2) cv_X5_thrown dL_law_510 ml_L_101 rfl rfl rfl rfl rfl (Nat.le_of_ble_eq_true rfl) (by decide) rfl rfl ⟨hC, hS⟩ ?_
  refine aw_iload dL_law_513 rfl ?_
  refine aw_same (tgt := 520) dL_law_515 (by decide) R.1 ?_
  refine aw_iload dL_law_520 rfl ?_
  refine aw_if_ne (tgt := 537) dL_law_522 (by decide) rz (fun hz => ?_) (fun hz => ?_)
  · skip
    refine aw_goto (tgt := 1704) dL_law_537 (by decide) ?_
    refine aw_weak (L' := [some (Value.ref b), some (rV K 0 0), some (rV K 30 0), some (rV K 45 0), some (iV (i)), none, none]) ⟨Or.inr rfl, Or.inr rfl, Or.inr rfl, Or.inr rfl, Or.inr rfl, Or.inl rfl, Or.inl rfl, trivial⟩ ?_
    exact next _ R.2.2
  · skip
    have ho := R.2.1 hz
    refine aw_aload_n dL_law_525 rfl rfl ?_
    refine aw_iconst dL_law_526 ?_
    refine aw_lald (g := 45) (n := 1) rfl (by decide) dL_law_527 (by decide) (by decide) (fun ro => ?_)
    refine aw_iload dL_law_528 rfl ?_
    refine aw_i2l (ho ▸ ro) dL_law_530 ?_
    refine aw_lcmp (tgt := 537) dL_law_531 dL_law_532 (by decide) ho ?_
    refine aw_goto (tgt := 1704) dL_law_537 (by decide) ?_
    refine aw_weak (L' := [some (Value.ref b), some (rV K 0 0), some (rV K 30 0), some (rV K 45 0), some (iV (i)), none, none]) ⟨Or.inr rfl, Or.inr rfl, Or.inr rfl, Or.inr rfl, Or.inr rfl, Or.inl rfl, Or.inl rfl, trivial⟩ ?_
    exact next _ R.2.2
set_option maxHeartbeats 4000000 in
set_option maxRecDepth 20000 in
theorem law_c6 {K : WPar} {l : Launch} (hst : l.stackTraces = false) {b L0 : Nat} {xs : Nat → Int32} (hL0 : L0 ≤ 2560) {M : Mem} {c : Nat} {i : Int} (i0 : 0 ≤ i) (hi : i + 5 ≤ (L0 : Int)) (hc : (c : Int) ≤ 512) (h : INV M (c : Int)) {C0 S0 : Nat} (hC : C0 + 5 ≤ 601024) (hS : S0 + 30 ≤ 7293034) (next : ∀ M2 : Mem, INV M2 ((c : Int) + 1) → AW K l iL_law (ZL b L0 xs K) 1704 [some (Value.ref b), some (rV K 0 0), some (rV K 30 0), some (rV K 45 0), some (iV (i)), none, none] [] M2 (C0 + 5) (S0 + 30)) : AW K l iL_law (ZL b L0 xs K) 540 [some (Value.ref b), some (rV K 0 0), some (rV K 30 0), some (rV K 45 0), some (iV (i)), none, none] [] M C0 S0 := by
  refine aw_rng (fun hM => ?_)
  refine aw_aload_n dL_law_540 rfl rfl ?_
  refine aw_aload_nb dL_law_541 rfl rfl ?_
  refine aw_iload dL_law_542 rfl ?_
  refine aw_iconst dL_law_544 ?_
  refine aw_iadd dL_law_545 ?_
  refine aw_sld hL0 (by omega) dL_law_546 (fun _ => ?_)
  refine aw_aload_n dL_law_547 rfl rfl ?_
  refine aw_callW (As := [rV K 0 0, iV (sx xs (i + 1)), rV K 45 0]) (rest := []) (c2 := C0 + 5) (s2 := S0 + 30) (c_L_freeSeats hst M (sx xs (i + 1)) (sx_r _ _) h.hw) cw_L_freeSeats dL_law_548 ml_L_121 rfl rfl (Nat.le_of_ble_eq_true rfl) (by decide) (Nat.add_le_add_left (by decide) C0) (Nat.add_le_add_left (by decide) S0) ⟨hC, hS⟩ (fun z m hq => ?_)
  have hI : INV m (c : Int) := by
    rcases hq with ⟨e1, q1, q2⟩ | ⟨e1, a, y, ⟨q1, q3, q4⟩, q2⟩
    · rw [q2]; exact h
    · rw [q2, q4]; exact sd_o h
  refine aw_istore (L2 := [some (Value.ref b), some (rV K 0 0), some (rV K 30 0), some (rV K 45 0), some (iV (i)), some (iV (z)), none]) dL_law_551 (by decide) rfl ?_
  refine aw_aload_n dL_law_553 rfl rfl ?_
  refine aw_aload_nb dL_law_554 rfl rfl ?_
  refine aw_iload dL_law_555 rfl ?_
  refine aw_iconst dL_law_557 ?_
  refine aw_iadd dL_law_558 ?_
  refine aw_sld hL0 (by omega) dL_law_559 (fun _ => ?_)
  refine aw_cVw (g := 30) (As := [iV (sx xs (i + 1))]) (rest := []) (c_X5_freeSeats hst m (sx xs (i + 1)) (sx_r _ _) hI.hwm) cv_X5_freeSeats dL_law_560 ml_L_124 rfl rfl rfl rfl rfl (Nat.le_of_ble_eq_true rfl) (by decide) rfl rfl ⟨hC, hS⟩ (fun ans m2 q => ?_)
  have R := sq_freeSeats (z := z) (ans := ans) (m2 := m2) (row := sx xs (i + 1)) hI (by
      rcases hq with ⟨e1, q1, q2⟩ | ⟨e1, a, y, ⟨q1, q3, q4⟩, q2⟩
      · subst q2; exact (Or.inl ⟨e1, q1⟩)
      · subst q4 q2; exact (Or.inr ⟨e1, q1, updM_same.trans q3⟩)) q
  refine aw_rng (fun hM2 => ?_)
  have rz : inR z := R.1 ▸ hM2 30 0 0
  refine aw_istore (L2 := [some (Value.ref b), some (rV K 0 0), some (rV K 30 0), some (rV K 45 0), some (iV (i)), some (iV (z)), some (iV (ans))]) dL_law_563 (by decide) rfl ?_
  refine aw_aload_n dL_law_565 rfl rfl ?_
  refine aw_cVi (g := 30) (As := []) (rest := []) (c_X5_thrown hst m2) cv_X5_thrown dL_law_566 ml_L_101 rfl rfl rfl rfl rfl (Nat.le_of_ble_eq_true rfl) (by decide) rfl rfl ⟨hC, hS⟩ ?_
  refine aw_iload dL_law_569 rfl ?_
  refine aw_same (tgt := 576) dL_law_571 (by decide) R.1 ?_
  refine aw_iload dL_law_576 rfl ?_
  refine aw_if_ne (tgt := 593) dL_law_578 (by decide) rz (fun hz => ?_) (fun hz => ?_)
  · skip
    refine aw_goto (tgt := 1704) dL_law_593 (by decide) ?_
    refine aw_weak (L' := [some (Value.ref b), some (rV K 0 0), some (rV K 30 0), some (rV K 45 0), some (iV (i)), none, none]) ⟨Or.inr rfl, Or.inr rfl, Or.inr rfl, Or.inr rfl, Or.inr rfl, Or.inl rfl, Or.inl rfl, trivial⟩ ?_
    exact next _ R.2.2
  · skip
    have ho := R.2.1 hz
    refine aw_aload_n dL_law_581 rfl rfl ?_
    refine aw_iconst dL_law_582 ?_
    refine aw_lald (g := 45) (n := 1) rfl (by decide) dL_law_583 (by decide) (by decide) (fun ro => ?_)
    refine aw_iload dL_law_584 rfl ?_
    refine aw_i2l (ho ▸ ro) dL_law_586 ?_
    refine aw_lcmp (tgt := 593) dL_law_587 dL_law_588 (by decide) ho ?_
    refine aw_goto (tgt := 1704) dL_law_593 (by decide) ?_
    refine aw_weak (L' := [some (Value.ref b), some (rV K 0 0), some (rV K 30 0), some (rV K 45 0), some (iV (i)), none, none]) ⟨Or.inr rfl, Or.inr rfl, Or.inr rfl, Or.inr rfl, Or.inr rfl, Or.inl rfl, Or.inl rfl, trivial⟩ ?_
    exact next _ R.2.2
set_option maxHeartbeats 4000000 in
set_option maxRecDepth 20000 in
theorem law_c7 {K : WPar} {l : Launch} (hst : l.stackTraces = false) {b L0 : Nat} {xs : Nat → Int32} (hL0 : L0 ≤ 2560) {M : Mem} {c : Nat} {i : Int} (i0 : 0 ≤ i) (hi : i + 5 ≤ (L0 : Int)) (hc : (c : Int) ≤ 512) (h : INV M (c : Int)) {C0 S0 : Nat} (hC : C0 + 5 ≤ 601024) (hS : S0 + 30 ≤ 7293034) (next : ∀ M2 : Mem, INV M2 ((c : Int) + 1) → AW K l iL_law (ZL b L0 xs K) 1704 [some (Value.ref b), some (rV K 0 0), some (rV K 30 0), some (rV K 45 0), some (iV (i)), none, none] [] M2 (C0 + 5) (S0 + 30)) : AW K l iL_law (ZL b L0 xs K) 596 [some (Value.ref b), some (rV K 0 0), some (rV K 30 0), some (rV K 45 0), some (iV (i)), none, none] [] M C0 S0 := by
  refine aw_rng (fun hM => ?_)
  refine aw_aload_n dL_law_596 rfl rfl ?_
  refine aw_cVi (g := 0) (As := []) (rest := []) (c_X4_orphans hst M h.hw) cv_X4_orphans dL_law_597 ml_L_125 rfl rfl rfl rfl rfl (Nat.le_of_ble_eq_true rfl) (by decide) rfl rfl ⟨by show C0 ≤ 601024; omega, by show S0 ≤ 7293034; omega⟩ ?_
  refine aw_aload_n dL_law_600 rfl rfl ?_
  refine aw_cVi (g := 30) (As := []) (rest := [iV (sumI (fun r => sumI (orC (M 2 0 r) (M 6 r)) (M 2 0 r)) (M 1 0 4))]) (c_X5_orphans hst M h.hwm) cv_X5_orphans dL_law_601 ml_L_128 rfl rfl rfl rfl rfl (Nat.le_of_ble_eq_true rfl) (by decide) rfl rfl ⟨by show C0 ≤ 601024; omega, by show S0 ≤ 7293034; omega⟩ ?_
  refine aw_same (tgt := 1704) dL_law_604 (by decide) (sd_orphans h) ?_
  refine aw_wide (a := C0 + 5) (b := S0 + 30) (by omega) (by omega) ?_
  exact next _ (sd_t h)
set_option maxHeartbeats 4000000 in
set_option maxRecDepth 20000 in
theorem law_c8 {K : WPar} {l : Launch} (hst : l.stackTraces = false) {b L0 : Nat} {xs : Nat → Int32} (hL0 : L0 ≤ 2560) {M : Mem} {c : Nat} {i : Int} (i0 : 0 ≤ i) (hi : i + 5 ≤ (L0 : Int)) (hc : (c : Int) ≤ 512) (h : INV M (c : Int)) {C0 S0 : Nat} (hC : C0 + 5 ≤ 601024) (hS : S0 + 30 ≤ 7293034) (next : ∀ M2 : Mem, INV M2 ((c : Int) + 1) → AW K l iL_law (ZL b L0 xs K) 1704 [some (Value.ref b), some (rV K 0 0), some (rV K 30 0), some (rV K 45 0), some (iV (i)), none, none] [] M2 (C0 + 5) (S0 + 30)) : AW K l iL_law (ZL b L0 xs K) 609 [some (Value.ref b), some (rV K 0 0), some (rV K 30 0), some (rV K 45 0), some (iV (i)), none, none] [] M C0 S0 := by
  refine aw_rng (fun hM => ?_)
  refine aw_aload_n dL_law_609 rfl rfl ?_
  refine aw_cVr (R := fun z => isLongR (M 1 0 4) (M 2 0) (M 6) z) (M1 := M) (g := 0) (As := []) (rest := []) (c_X4_longestBlock hst M h.hw) cv_X4_longestBlock dL_law_610 ml_L_129 rfl rfl rfl rfl rfl (Nat.le_of_ble_eq_true rfl) (by decide) rfl rfl ⟨by show C0 ≤ 601024; omega, by show S0 ≤ 7293034; omega⟩ (fun y1 hy1 => ?_)
  refine aw_aload_n dL_law_613 rfl rfl ?_
  refine aw_cVr (R := fun z => isLongR (M 30 0 3) (M 31 0) (oMd M) z) (M1 := thr M 0) (g := 30) (As := []) (rest := [iV (y1)]) (c_X5_longestBlock hst M h.hwm) cv_X5_longestBlock dL_law_614 ml_L_132 rfl rfl rfl rfl rfl (Nat.le_of_ble_eq_true rfl) (by decide) rfl rfl ⟨by show C0 ≤ 601024; omega, by show S0 ≤ 7293034; omega⟩ (fun y2 hy2 => ?_)
  refine aw_same (tgt := 1704) dL_law_617 (by decide) (sd_longestBlock h hy1 hy2) ?_
  refine aw_wide (a := C0 + 5) (b := S0 + 30) (by omega) (by omega) ?_
  exact next _ (sd_t h)
set_option maxHeartbeats 4000000 in
set_option maxRecDepth 20000 in
theorem law_c9 {K : WPar} {l : Launch} (hst : l.stackTraces = false) {b L0 : Nat} {xs : Nat → Int32} (hL0 : L0 ≤ 2560) {M : Mem} {c : Nat} {i : Int} (i0 : 0 ≤ i) (hi : i + 5 ≤ (L0 : Int)) (hc : (c : Int) ≤ 512) (h : INV M (c : Int)) {C0 S0 : Nat} (hC : C0 + 5 ≤ 601024) (hS : S0 + 30 ≤ 7293034) (next : ∀ M2 : Mem, INV M2 ((c : Int) + 1) → AW K l iL_law (ZL b L0 xs K) 1704 [some (Value.ref b), some (rV K 0 0), some (rV K 30 0), some (rV K 45 0), some (iV (i)), none, none] [] M2 (C0 + 5) (S0 + 30)) : AW K l iL_law (ZL b L0 xs K) 622 [some (Value.ref b), some (rV K 0 0), some (rV K 30 0), some (rV K 45 0), some (iV (i)), none, none] [] M C0 S0 := by
  refine aw_rng (fun hM => ?_)
  refine aw_aload_n dL_law_622 rfl rfl ?_
  refine aw_aload_nb dL_law_623 rfl rfl ?_
  refine aw_iload dL_law_624 rfl ?_
  refine aw_iconst dL_law_626 ?_
  refine aw_iadd dL_law_627 ?_
  refine aw_sld hL0 (by omega) dL_law_628 (fun _ => ?_)
  refine aw_aload_n dL_law_629 rfl rfl ?_
  refine aw_callW (As := [rV K 0 0, iV (sx xs (i + 1)), rV K 45 0]) (rest := []) (c2 := C0 + 5) (s2 := S0 + 30) (c_L_bestBlock hst M (sx xs (i + 1)) (sx_r _ _) h.hw) cw_L_bestBlock dL_law_630 ml_L_133 rfl rfl (Nat.le_of_ble_eq_true rfl) (by decide) (Nat.add_le_add_left (by decide) C0) (Nat.add_le_add_left (by decide) S0) ⟨hC, hS⟩ (fun z m hq => ?_)
  have hI : INV m (c : Int) := by
    rcases hq with ⟨e1, q1, q2⟩ | ⟨e1, q1, q2⟩ | ⟨e1, a, y, ⟨q1, q3, q4⟩, q2⟩
    · rw [q2]; exact h
    · rw [q2]; exact h
    · rw [q2, q4]; exact sd_o h
  refine aw_istore (L2 := [some (Value.ref b), some (rV K 0 0), some (rV K 30 0), some (rV K 45 0), some (iV (i)), some (iV (z)), none]) dL_law_633 (by decide) rfl ?_
  refine aw_aload_n dL_law_635 rfl rfl ?_
  refine aw_aload_nb dL_law_636 rfl rfl ?_
  refine aw_iload dL_law_637 rfl ?_
  refine aw_iconst dL_law_639 ?_
  refine aw_iadd dL_law_640 ?_
  refine aw_sld hL0 (by omega) dL_law_641 (fun _ => ?_)
  refine aw_cVw (g := 30) (As := [iV (sx xs (i + 1))]) (rest := []) (c_X5_bestBlock hst m (sx xs (i + 1)) (sx_r _ _) hI.hwm) cv_X5_bestBlock dL_law_642 ml_L_135 rfl rfl rfl rfl rfl (Nat.le_of_ble_eq_true rfl) (by decide) rfl rfl ⟨hC, hS⟩ (fun ans m2 q => ?_)
  have R := sq_bestBlock (z := z) (ans := ans) (m2 := m2) (seats := sx xs (i + 1)) hI (by
      rcases hq with ⟨e1, q1, q2⟩ | ⟨e1, q1, q2⟩ | ⟨e1, a, y, ⟨q1, q3, q4⟩, q2⟩
      · subst q2; exact (Or.inl ⟨e1, q1⟩)
      · subst q2; exact (Or.inr (Or.inl ⟨e1, q1⟩))
      · subst q4 q2; exact (Or.inr (Or.inr ⟨e1, q1, by rw [updM_same]; exact q3.1, by rw [updM_same]; exact q3.2⟩))) q
  refine aw_rng (fun hM2 => ?_)
  have rz : inR z := R.1 ▸ hM2 30 0 0
  refine aw_istore (L2 := [some (Value.ref b), some (rV K 0 0), some (rV K 30 0), some (rV K 45 0), some (iV (i)), some (iV (z)), some (iV (ans))]) dL_law_645 (by decide) rfl ?_
  refine aw_aload_n dL_law_647 rfl rfl ?_
  refine aw_cVi (g := 30) (As := []) (rest := []) (c_X5_thrown hst m2) cv_X5_thrown dL_law_648 ml_L_101 rfl rfl rfl rfl rfl (Nat.le_of_ble_eq_true rfl) (by decide) rfl rfl ⟨hC, hS⟩ ?_
  refine aw_iload dL_law_651 rfl ?_
  refine aw_same (tgt := 658) dL_law_653 (by decide) R.1 ?_
  refine aw_iload dL_law_658 rfl ?_
  refine aw_if_ne (tgt := 675) dL_law_660 (by decide) rz (fun hz => ?_) (fun hz => ?_)
  · skip
    refine aw_goto (tgt := 1704) dL_law_675 (by decide) ?_
    refine aw_weak (L' := [some (Value.ref b), some (rV K 0 0), some (rV K 30 0), some (rV K 45 0), some (iV (i)), none, none]) ⟨Or.inr rfl, Or.inr rfl, Or.inr rfl, Or.inr rfl, Or.inr rfl, Or.inl rfl, Or.inl rfl, trivial⟩ ?_
    exact next _ R.2.2
  · skip
    have ho := R.2.1 hz
    refine aw_aload_n dL_law_663 rfl rfl ?_
    refine aw_iconst dL_law_664 ?_
    refine aw_lald (g := 45) (n := 1) rfl (by decide) dL_law_665 (by decide) (by decide) (fun ro => ?_)
    refine aw_iload dL_law_666 rfl ?_
    refine aw_i2l (ho ▸ ro) dL_law_668 ?_
    refine aw_lcmp (tgt := 675) dL_law_669 dL_law_670 (by decide) ho ?_
    refine aw_goto (tgt := 1704) dL_law_675 (by decide) ?_
    refine aw_weak (L' := [some (Value.ref b), some (rV K 0 0), some (rV K 30 0), some (rV K 45 0), some (iV (i)), none, none]) ⟨Or.inr rfl, Or.inr rfl, Or.inr rfl, Or.inr rfl, Or.inr rfl, Or.inl rfl, Or.inl rfl, trivial⟩ ?_
    exact next _ R.2.2
set_option maxHeartbeats 4000000 in
set_option maxRecDepth 20000 in
theorem law_c10 {K : WPar} {l : Launch} (hst : l.stackTraces = false) {b L0 : Nat} {xs : Nat → Int32} (hL0 : L0 ≤ 2560) {M : Mem} {c : Nat} {i : Int} (i0 : 0 ≤ i) (hi : i + 5 ≤ (L0 : Int)) (hc : (c : Int) ≤ 512) (h : INV M (c : Int)) {C0 S0 : Nat} (hC : C0 + 5 ≤ 601024) (hS : S0 + 30 ≤ 7293034) (next : ∀ M2 : Mem, INV M2 ((c : Int) + 1) → AW K l iL_law (ZL b L0 xs K) 1704 [some (Value.ref b), some (rV K 0 0), some (rV K 30 0), some (rV K 45 0), some (iV (i)), none, none] [] M2 (C0 + 5) (S0 + 30)) : AW K l iL_law (ZL b L0 xs K) 678 [some (Value.ref b), some (rV K 0 0), some (rV K 30 0), some (rV K 45 0), some (iV (i)), none, none] [] M C0 S0 := by
  refine aw_rng (fun hM => ?_)
  refine aw_aload_n dL_law_678 rfl rfl ?_
  refine aw_aload_nb dL_law_679 rfl rfl ?_
  refine aw_iload dL_law_680 rfl ?_
  refine aw_iconst dL_law_682 ?_
  refine aw_iadd dL_law_683 ?_
  refine aw_sld hL0 (by omega) dL_law_684 (fun _ => ?_)
  refine aw_aload_n dL_law_685 rfl rfl ?_
  refine aw_callW (As := [rV K 0 0, iV (sx xs (i + 1)), rV K 45 0]) (rest := []) (c2 := C0 + 5) (s2 := S0 + 30) (c_L_leavesOrphan hst M (sx xs (i + 1)) (sx_r _ _) h.hw) cw_L_leavesOrphan dL_law_686 ml_L_136 rfl rfl (Nat.le_of_ble_eq_true rfl) (by decide) (Nat.add_le_add_left (by decide) C0) (Nat.add_le_add_left (by decide) S0) ⟨hC, hS⟩ (fun z m hq => ?_)
  have hI : INV m (c : Int) := by
    rcases hq with ⟨e1, q1, q2⟩ | ⟨e1, q1, q2⟩ | ⟨e1, a, y, ⟨q1, x, q3, q6, q4⟩, q2⟩
    · rw [q2]; exact h
    · rw [q2]; exact h
    · rw [q2, q4]; exact sd_o h
  refine aw_istore (L2 := [some (Value.ref b), some (rV K 0 0), some (rV K 30 0), some (rV K 45 0), some (iV (i)), some (iV (z)), none]) dL_law_689 (by decide) rfl ?_
  refine aw_aload_n dL_law_691 rfl rfl ?_
  refine aw_aload_nb dL_law_692 rfl rfl ?_
  refine aw_iload dL_law_693 rfl ?_
  refine aw_iconst dL_law_695 ?_
  refine aw_iadd dL_law_696 ?_
  refine aw_sld hL0 (by omega) dL_law_697 (fun _ => ?_)
  refine aw_cVw (g := 30) (As := [iV (sx xs (i + 1))]) (rest := []) (c_X5_leavesOrphan hst m (sx xs (i + 1)) (sx_r _ _) hI.hwm) cv_X5_leavesOrphan dL_law_698 ml_L_138 rfl rfl rfl rfl rfl (Nat.le_of_ble_eq_true rfl) (by decide) rfl rfl ⟨hC, hS⟩ (fun ans m2 q => ?_)
  have R := sq_leavesOrphan (z := z) (ans := ans) (m2 := m2) (seats := sx xs (i + 1)) hI (by
      rcases hq with ⟨e1, q1, q2⟩ | ⟨e1, q1, q2⟩ | ⟨e1, a, y, ⟨q1, x, q3, q6, q4⟩, q2⟩
      · subst q2; exact (Or.inl ⟨e1, q1⟩)
      · subst q2; exact (Or.inr (Or.inl ⟨e1, q1⟩))
      · subst q4 q2; exact (Or.inr (Or.inr ⟨e1, q1, x, q3, q6.imp (fun q => ⟨updM_same.trans q.1, q.2⟩) (fun q => ⟨updM_same.trans q.1, q.2⟩)⟩))) q
  have ha : ans = 0 ∨ ans = 1 := by
    rcases q with q | q | ⟨⟨_, x, _, q⟩, _⟩
    · exact Or.inl q.2.1
    · exact Or.inl q.2.1
    · exact q.elim (fun q => Or.inr q.1) (fun q => Or.inl q.1)
  refine aw_rng (fun hM2 => ?_)
  have rz : inR z := R.1 ▸ hM2 30 0 0
  refine aw_istore (L2 := [some (Value.ref b), some (rV K 0 0), some (rV K 30 0), some (rV K 45 0), some (iV (i)), some (iV (z)), some (iV (ans))]) dL_law_701 (by decide) rfl ?_
  refine aw_aload_n dL_law_703 rfl rfl ?_
  refine aw_cVi (g := 30) (As := []) (rest := []) (c_X5_thrown hst m2) cv_X5_thrown dL_law_704 ml_L_101 rfl rfl rfl rfl rfl (Nat.le_of_ble_eq_true rfl) (by decide) rfl rfl ⟨hC, hS⟩ ?_
  refine aw_iload dL_law_707 rfl ?_
  refine aw_same (tgt := 714) dL_law_709 (by decide) R.1 ?_
  refine aw_iload dL_law_714 rfl ?_
  refine aw_if_ne (tgt := 738) dL_law_716 (by decide) rz (fun hz => ?_) (fun hz => ?_)
  · skip
    refine aw_goto (tgt := 1704) dL_law_738 (by decide) ?_
    refine aw_weak (L' := [some (Value.ref b), some (rV K 0 0), some (rV K 30 0), some (rV K 45 0), some (iV (i)), none, none]) ⟨Or.inr rfl, Or.inr rfl, Or.inr rfl, Or.inr rfl, Or.inr rfl, Or.inl rfl, Or.inl rfl, trivial⟩ ?_
    exact next _ R.2.2
  · skip
    have ho := R.2.1 hz
    refine aw_aload_n dL_law_719 rfl rfl ?_
    refine aw_iconst dL_law_720 ?_
    refine aw_lald (g := 45) (n := 1) rfl (by decide) dL_law_721 (by decide) (by decide) (fun ro => ?_)
    refine aw_iload dL_law_722 rfl ?_
    refine aw_if_eq (tgt := 731) dL_law_724 (by decide) (by omega) (fun h0 => ?_) (fun h1 => ?_)
    · refine aw_lconst (z := 0) dL_law_731 rfl ?_
      refine aw_lcmp (tgt := 738) dL_law_732 dL_law_733 (by decide) (by omega) ?_
      refine aw_goto (tgt := 1704) dL_law_738 (by decide) ?_
      refine aw_weak (L' := [some (Value.ref b), some (rV K 0 0), some (rV K 30 0), some (rV K 45 0), some (iV (i)), none, none]) ⟨Or.inr rfl, Or.inr rfl, Or.inr rfl, Or.inr rfl, Or.inr rfl, Or.inl rfl, Or.inl rfl, trivial⟩ ?_
      exact next _ R.2.2
    · refine aw_lconst (z := 1) dL_law_727 rfl ?_
      refine aw_goto (tgt := 732) dL_law_728 (by decide) ?_
      refine aw_lcmp (tgt := 738) dL_law_732 dL_law_733 (by decide) (by omega) ?_
      refine aw_goto (tgt := 1704) dL_law_738 (by decide) ?_
      refine aw_weak (L' := [some (Value.ref b), some (rV K 0 0), some (rV K 30 0), some (rV K 45 0), some (iV (i)), none, none]) ⟨Or.inr rfl, Or.inr rfl, Or.inr rfl, Or.inr rfl, Or.inr rfl, Or.inl rfl, Or.inl rfl, trivial⟩ ?_
      exact next _ R.2.2
set_option maxHeartbeats 4000000 in
set_option maxRecDepth 20000 in
theorem law_c11 {K : WPar} {l : Launch} (hst : l.stackTraces = false) {b L0 : Nat} {xs : Nat → Int32} (hL0 : L0 ≤ 2560) {M : Mem} {c : Nat} {i : Int} (i0 : 0 ≤ i) (hi : i + 5 ≤ (L0 : Int)) (hc : (c : Int) ≤ 512) (h : INV M (c : Int)) {C0 S0 : Nat} (hC : C0 + 5 ≤ 601024) (hS : S0 + 30 ≤ 7293034) (next : ∀ M2 : Mem, INV M2 ((c : Int) + 1) → AW K l iL_law (ZL b L0 xs K) 1704 [some (Value.ref b), some (rV K 0 0), some (rV K 30 0), some (rV K 45 0), some (iV (i)), none, none] [] M2 (C0 + 5) (S0 + 30)) : AW K l iL_law (ZL b L0 xs K) 741 [some (Value.ref b), some (rV K 0 0), some (rV K 30 0), some (rV K 45 0), some (iV (i)), none, none] [] M C0 S0 := by
  refine aw_rng (fun hM => ?_)
  refine aw_aload_n dL_law_741 rfl rfl ?_
  refine aw_aload_nb dL_law_742 rfl rfl ?_
  refine aw_iload dL_law_743 rfl ?_
  refine aw_iconst dL_law_745 ?_
  refine aw_iadd dL_law_746 ?_
  refine aw_sld hL0 (by omega) dL_law_747 (fun _ => ?_)
  refine aw_aload_nb dL_law_748 rfl rfl ?_
  refine aw_iload dL_law_749 rfl ?_
  refine aw_iconst dL_law_751 ?_
  refine aw_iadd dL_law_752 ?_
  refine aw_sld hL0 (by omega) dL_law_753 (fun _ => ?_)
  refine aw_aload_n dL_law_754 rfl rfl ?_
  refine aw_callW (As := [rV K 0 0, iV (sx xs (i + 1)), iV (sx xs (i + 2)), rV K 45 0]) (rest := []) (c2 := C0 + 5) (s2 := S0 + 30) (c_L_hold hst M (sx xs (i + 1)) (sx xs (i + 2)) (sx_r _ _) (sx_r _ _) h.hw h.bw (h.nowb hc)) cw_L_hold dL_law_755 ml_L_139 rfl rfl (Nat.le_of_ble_eq_true rfl) (by decide) (Nat.add_le_add_left (by decide) C0) (Nat.add_le_add_left (by decide) S0) ⟨hC, hS⟩ (fun z m hq => ?_)
  have hk : MOD M m := by
    rcases hq with ⟨e1, q1, q2⟩ | ⟨e1, q1, q2⟩ | ⟨e1, a, y, ⟨q1, q2, x, q6, q3, q4⟩, q5⟩
    · rw [q2]; exact MOD.rf
    · rw [q2]; exact MOD.rf
    · rw [q5]; refine MOD.o (fun g g1 g2 => ?_); rw [q4, grM_g (by omega)]
  refine aw_istore (L2 := [some (Value.ref b), some (rV K 0 0), some (rV K 30 0), some (rV K 45 0), some (iV (i)), some (iV (z)), none]) dL_law_758 (by decide) rfl ?_
  refine aw_aload_n dL_law_760 rfl rfl ?_
  refine aw_aload_nb dL_law_761 rfl rfl ?_
  refine aw_iload dL_law_762 rfl ?_
  refine aw_iconst dL_law_764 ?_
  refine aw_iadd dL_law_765 ?_
  refine aw_sld hL0 (by omega) dL_law_766 (fun _ => ?_)
  refine aw_aload_nb dL_law_767 rfl rfl ?_
  refine aw_iload dL_law_768 rfl ?_
  refine aw_iconst dL_law_770 ?_
  refine aw_iadd dL_law_771 ?_
  refine aw_sld hL0 (by omega) dL_law_772 (fun _ => ?_)
  refine aw_cVw (g := 30) (As := [iV (sx xs (i + 1)), iV (sx xs (i + 2))]) (rest := []) (c_X5_hold hst m (sx xs (i + 1)) (sx xs (i + 2)) (sx_r _ _) (sx_r _ _) (hk.hwm h) (hk.bwm h) (hk.now h hc)) cv_X5_hold dL_law_773 ml_L_141 rfl rfl rfl rfl rfl (Nat.le_of_ble_eq_true rfl) (by decide) rfl rfl ⟨hC, hS⟩ (fun ans m2 q => ?_)
  have R := sm_hold (z := z) (ans := ans) (m := m) (m2 := m2) (seats := sx xs (i + 1)) (minutes := sx xs (i + 2)) h (by
      rcases hq with q | q | ⟨e1, a, y, ⟨q1, q2, x, q6, q3, q4⟩, q5⟩
      · exact (Or.inl q)
      · exact (Or.inr (Or.inl q))
      · exact (Or.inr (Or.inr ⟨e1, q1, q2, x, q6, by rw [q5, q3, q4]⟩))) q
  refine aw_rng (fun hM2 => ?_)
  have rz : inR z := R.1 ▸ hM2 30 0 0
  refine aw_istore (L2 := [some (Value.ref b), some (rV K 0 0), some (rV K 30 0), some (rV K 45 0), some (iV (i)), some (iV (z)), some (iV (ans))]) dL_law_776 (by decide) rfl ?_
  refine aw_aload_n dL_law_778 rfl rfl ?_
  refine aw_cVi (g := 30) (As := []) (rest := []) (c_X5_thrown hst m2) cv_X5_thrown dL_law_779 ml_L_101 rfl rfl rfl rfl rfl (Nat.le_of_ble_eq_true rfl) (by decide) rfl rfl ⟨hC, hS⟩ ?_
  refine aw_iload dL_law_782 rfl ?_
  refine aw_same (tgt := 789) dL_law_784 (by decide) R.1 ?_
  refine aw_iload dL_law_789 rfl ?_
  refine aw_if_ne (tgt := 806) dL_law_791 (by decide) rz (fun hz => ?_) (fun hz => ?_)
  · skip
    refine aw_goto (tgt := 1704) dL_law_806 (by decide) ?_
    refine aw_weak (L' := [some (Value.ref b), some (rV K 0 0), some (rV K 30 0), some (rV K 45 0), some (iV (i)), none, none]) ⟨Or.inr rfl, Or.inr rfl, Or.inr rfl, Or.inr rfl, Or.inr rfl, Or.inl rfl, Or.inl rfl, trivial⟩ ?_
    exact next _ R.2.2
  · skip
    have ho := R.2.1 hz
    refine aw_aload_n dL_law_794 rfl rfl ?_
    refine aw_iconst dL_law_795 ?_
    refine aw_lald (g := 45) (n := 1) rfl (by decide) dL_law_796 (by decide) (by decide) (fun ro => ?_)
    refine aw_iload dL_law_797 rfl ?_
    refine aw_i2l (ho ▸ ro) dL_law_799 ?_
    refine aw_lcmp (tgt := 806) dL_law_800 dL_law_801 (by decide) ho ?_
    refine aw_goto (tgt := 1704) dL_law_806 (by decide) ?_
    refine aw_weak (L' := [some (Value.ref b), some (rV K 0 0), some (rV K 30 0), some (rV K 45 0), some (iV (i)), none, none]) ⟨Or.inr rfl, Or.inr rfl, Or.inr rfl, Or.inr rfl, Or.inr rfl, Or.inl rfl, Or.inl rfl, trivial⟩ ?_
    exact next _ R.2.2
set_option maxHeartbeats 4000000 in
set_option maxRecDepth 20000 in
theorem law_c12 {K : WPar} {l : Launch} (hst : l.stackTraces = false) {b L0 : Nat} {xs : Nat → Int32} (hL0 : L0 ≤ 2560) {M : Mem} {c : Nat} {i : Int} (i0 : 0 ≤ i) (hi : i + 5 ≤ (L0 : Int)) (hc : (c : Int) ≤ 512) (h : INV M (c : Int)) {C0 S0 : Nat} (hC : C0 + 5 ≤ 601024) (hS : S0 + 30 ≤ 7293034) (next : ∀ M2 : Mem, INV M2 ((c : Int) + 1) → AW K l iL_law (ZL b L0 xs K) 1704 [some (Value.ref b), some (rV K 0 0), some (rV K 30 0), some (rV K 45 0), some (iV (i)), none, none] [] M2 (C0 + 5) (S0 + 30)) : AW K l iL_law (ZL b L0 xs K) 809 [some (Value.ref b), some (rV K 0 0), some (rV K 30 0), some (rV K 45 0), some (iV (i)), none, none] [] M C0 S0 := by
  refine aw_rng (fun hM => ?_)
  refine aw_aload_n dL_law_809 rfl rfl ?_
  refine aw_aload_nb dL_law_810 rfl rfl ?_
  refine aw_iload dL_law_811 rfl ?_
  refine aw_iconst dL_law_813 ?_
  refine aw_iadd dL_law_814 ?_
  refine aw_sld hL0 (by omega) dL_law_815 (fun _ => ?_)
  refine aw_aload_nb dL_law_816 rfl rfl ?_
  refine aw_iload dL_law_817 rfl ?_
  refine aw_iconst dL_law_819 ?_
  refine aw_iadd dL_law_820 ?_
  refine aw_sld hL0 (by omega) dL_law_821 (fun _ => ?_)
  refine aw_aload_nb dL_law_822 rfl rfl ?_
  refine aw_iload dL_law_823 rfl ?_
  refine aw_iconst dL_law_825 ?_
  refine aw_iadd dL_law_826 ?_
  refine aw_sld hL0 (by omega) dL_law_827 (fun _ => ?_)
  refine aw_aload_nb dL_law_828 rfl rfl ?_
  refine aw_iload dL_law_829 rfl ?_
  refine aw_iconst dL_law_831 ?_
  refine aw_iadd dL_law_832 ?_
  refine aw_sld hL0 (by omega) dL_law_833 (fun _ => ?_)
  refine aw_aload_n dL_law_834 rfl rfl ?_
  refine aw_callW (As := [rV K 0 0, iV (sx xs (i + 1)), iV (sx xs (i + 2)), iV (sx xs (i + 3)), iV (sx xs (i + 4)), rV K 45 0]) (rest := []) (c2 := C0 + 5) (s2 := S0 + 30) (c_L_holdAt hst M (sx xs (i + 1)) (sx xs (i + 2)) (sx xs (i + 3)) (sx xs (i + 4)) (sx_r _ _) (sx_r _ _) (sx_r _ _) (sx_r _ _) h.hw h.bw (h.nowb hc)) cw_L_holdAt dL_law_835 ml_L_142 rfl rfl (Nat.le_of_ble_eq_true rfl) (by decide) (Nat.add_le_add_left (by decide) C0) (Nat.add_le_add_left (by decide) S0) ⟨hC, hS⟩ (fun z m hq => ?_)
  have hk : MOD M m := by
    rcases hq with ⟨e1, q1, q2⟩ | ⟨e1, q1, q2⟩ | ⟨e1, q1, q2⟩ | ⟨e1, a, y, ⟨q1, q2, q6, q3, q4⟩, q5⟩
    · rw [q2]; exact MOD.rf
    · rw [q2]; exact MOD.rf
    · rw [q2]; exact MOD.rf
    · rw [q5]; refine MOD.o (fun g g1 g2 => ?_); rw [q4, grM_g (by omega)]
  refine aw_istore (L2 := [some (Value.ref b), some (rV K 0 0), some (rV K 30 0), some (rV K 45 0), some (iV (i)), some (iV (z)), none]) dL_law_838 (by decide) rfl ?_
  refine aw_aload_n dL_law_840 rfl rfl ?_
  refine aw_aload_nb dL_law_841 rfl rfl ?_
  refine aw_iload dL_law_842 rfl ?_
  refine aw_iconst dL_law_844 ?_
  refine aw_iadd dL_law_845 ?_
  refine aw_sld hL0 (by omega) dL_law_846 (fun _ => ?_)
  refine aw_aload_nb dL_law_847 rfl rfl ?_
  refine aw_iload dL_law_848 rfl ?_
  refine aw_iconst dL_law_850 ?_
  refine aw_iadd dL_law_851 ?_
  refine aw_sld hL0 (by omega) dL_law_852 (fun _ => ?_)
  refine aw_aload_nb dL_law_853 rfl rfl ?_
  refine aw_iload dL_law_854 rfl ?_
  refine aw_iconst dL_law_856 ?_
  refine aw_iadd dL_law_857 ?_
  refine aw_sld hL0 (by omega) dL_law_858 (fun _ => ?_)
  refine aw_aload_nb dL_law_859 rfl rfl ?_
  refine aw_iload dL_law_860 rfl ?_
  refine aw_iconst dL_law_862 ?_
  refine aw_iadd dL_law_863 ?_
  refine aw_sld hL0 (by omega) dL_law_864 (fun _ => ?_)
  refine aw_cVw (g := 30) (As := [iV (sx xs (i + 1)), iV (sx xs (i + 2)), iV (sx xs (i + 3)), iV (sx xs (i + 4))]) (rest := []) (c_X5_holdAt hst m (sx xs (i + 1)) (sx xs (i + 2)) (sx xs (i + 3)) (sx xs (i + 4)) (sx_r _ _) (sx_r _ _) (sx_r _ _) (sx_r _ _) (hk.hwm h) (hk.bwm h) (hk.now h hc)) cv_X5_holdAt dL_law_865 ml_L_145 rfl rfl rfl rfl rfl (Nat.le_of_ble_eq_true rfl) (by decide) rfl rfl ⟨hC, hS⟩ (fun ans m2 q => ?_)
  have R := sm_holdAt (z := z) (ans := ans) (m := m) (m2 := m2) (row := sx xs (i + 1)) (first := sx xs (i + 2)) (seats := sx xs (i + 3)) (minutes := sx xs (i + 4)) h (by
      rcases hq with q | q | q | ⟨e1, a, y, ⟨q1, q2, q6, q3, q4⟩, q5⟩
      · exact (Or.inl q)
      · exact (Or.inr (Or.inl q))
      · exact (Or.inr (Or.inr (Or.inl q)))
      · exact (Or.inr (Or.inr (Or.inr ⟨e1, ⟨q1, q2, q6⟩, by rw [q5, q3, q4]⟩)))) q
  refine aw_rng (fun hM2 => ?_)
  have rz : inR z := R.1 ▸ hM2 30 0 0
  refine aw_istore (L2 := [some (Value.ref b), some (rV K 0 0), some (rV K 30 0), some (rV K 45 0), some (iV (i)), some (iV (z)), some (iV (ans))]) dL_law_868 (by decide) rfl ?_
  refine aw_aload_n dL_law_870 rfl rfl ?_
  refine aw_cVi (g := 30) (As := []) (rest := []) (c_X5_thrown hst m2) cv_X5_thrown dL_law_871 ml_L_101 rfl rfl rfl rfl rfl (Nat.le_of_ble_eq_true rfl) (by decide) rfl rfl ⟨hC, hS⟩ ?_
  refine aw_iload dL_law_874 rfl ?_
  refine aw_same (tgt := 881) dL_law_876 (by decide) R.1 ?_
  refine aw_iload dL_law_881 rfl ?_
  refine aw_if_ne (tgt := 898) dL_law_883 (by decide) rz (fun hz => ?_) (fun hz => ?_)
  · skip
    refine aw_goto (tgt := 1704) dL_law_898 (by decide) ?_
    refine aw_weak (L' := [some (Value.ref b), some (rV K 0 0), some (rV K 30 0), some (rV K 45 0), some (iV (i)), none, none]) ⟨Or.inr rfl, Or.inr rfl, Or.inr rfl, Or.inr rfl, Or.inr rfl, Or.inl rfl, Or.inl rfl, trivial⟩ ?_
    exact next _ R.2.2
  · skip
    have ho := R.2.1 hz
    refine aw_aload_n dL_law_886 rfl rfl ?_
    refine aw_iconst dL_law_887 ?_
    refine aw_lald (g := 45) (n := 1) rfl (by decide) dL_law_888 (by decide) (by decide) (fun ro => ?_)
    refine aw_iload dL_law_889 rfl ?_
    refine aw_i2l (ho ▸ ro) dL_law_891 ?_
    refine aw_lcmp (tgt := 898) dL_law_892 dL_law_893 (by decide) ho ?_
    refine aw_goto (tgt := 1704) dL_law_898 (by decide) ?_
    refine aw_weak (L' := [some (Value.ref b), some (rV K 0 0), some (rV K 30 0), some (rV K 45 0), some (iV (i)), none, none]) ⟨Or.inr rfl, Or.inr rfl, Or.inr rfl, Or.inr rfl, Or.inr rfl, Or.inl rfl, Or.inl rfl, trivial⟩ ?_
    exact next _ R.2.2
set_option maxHeartbeats 4000000 in
set_option maxRecDepth 20000 in
theorem law_c13 {K : WPar} {l : Launch} (hst : l.stackTraces = false) {b L0 : Nat} {xs : Nat → Int32} (hL0 : L0 ≤ 2560) {M : Mem} {c : Nat} {i : Int} (i0 : 0 ≤ i) (hi : i + 5 ≤ (L0 : Int)) (hc : (c : Int) ≤ 512) (h : INV M (c : Int)) {C0 S0 : Nat} (hC : C0 + 5 ≤ 601024) (hS : S0 + 30 ≤ 7293034) (next : ∀ M2 : Mem, INV M2 ((c : Int) + 1) → AW K l iL_law (ZL b L0 xs K) 1704 [some (Value.ref b), some (rV K 0 0), some (rV K 30 0), some (rV K 45 0), some (iV (i)), none, none] [] M2 (C0 + 5) (S0 + 30)) : AW K l iL_law (ZL b L0 xs K) 901 [some (Value.ref b), some (rV K 0 0), some (rV K 30 0), some (rV K 45 0), some (iV (i)), none, none] [] M C0 S0 := by
  refine aw_rng (fun hM => ?_)
  refine aw_aload_n dL_law_901 rfl rfl ?_
  refine aw_aload_nb dL_law_902 rfl rfl ?_
  refine aw_iload dL_law_903 rfl ?_
  refine aw_iconst dL_law_905 ?_
  refine aw_iadd dL_law_906 ?_
  refine aw_sld hL0 (by omega) dL_law_907 (fun _ => ?_)
  refine aw_aload_n dL_law_908 rfl rfl ?_
  refine aw_callW (As := [rV K 0 0, iV (sx xs (i + 1)), rV K 45 0]) (rest := []) (c2 := C0 + 5) (s2 := S0 + 30) (c_L_rowsForGroup hst M (sx xs (i + 1)) (sx_r _ _) h.hw) cw_L_rowsForGroup dL_law_909 ml_L_146 rfl rfl (Nat.le_of_ble_eq_true rfl) (by decide) (Nat.add_le_add_left (by decide) C0) (Nat.add_le_add_left (by decide) S0) ⟨hC, hS⟩ (fun z m hq => ?_)
  have hI : INV m (c : Int) := by
    rcases hq with ⟨e1, q1, q2⟩ | ⟨e1, q1, q2⟩ | ⟨e1, a, y, ⟨q1, q3, q4, q5⟩, q2⟩
    · rw [q2]; exact h
    · exact SF_inv q2 h
    · rw [q2]; exact sd_o (SF_inv q3 h)
  refine aw_istore (L2 := [some (Value.ref b), some (rV K 0 0), some (rV K 30 0), some (rV K 45 0), some (iV (i)), some (iV (z)), none]) dL_law_912 (by decide) rfl ?_
  refine aw_aload_n dL_law_914 rfl rfl ?_
  refine aw_aload_nb dL_law_915 rfl rfl ?_
  refine aw_iload dL_law_916 rfl ?_
  refine aw_iconst dL_law_918 ?_
  refine aw_iadd dL_law_919 ?_
  refine aw_sld hL0 (by omega) dL_law_920 (fun _ => ?_)
  refine aw_cVw (g := 30) (As := [iV (sx xs (i + 1))]) (rest := []) (c_X5_rowsForGroup hst m (sx xs (i + 1)) (sx_r _ _) hI.hwm) cv_X5_rowsForGroup dL_law_921 ml_L_148 rfl rfl rfl rfl rfl (Nat.le_of_ble_eq_true rfl) (by decide) rfl rfl ⟨hC, hS⟩ (fun ans m2 q => ?_)
  have R := sq_rowsForGroup (z := z) (ans := ans) (m2 := m2) (people := sx xs (i + 1)) hI (by
      rcases hq with ⟨e1, q1, q2⟩ | ⟨e1, q1, q2⟩ | ⟨e1, a, y, ⟨q1, q3, q4, q5⟩, q2⟩
      · subst q2; exact (Or.inl ⟨e1, q1⟩)
      · exact (Or.inr (Or.inl ⟨e1, q1.1, fun x v qq => q1.2 x v ((SF_cM q2).mp qq)⟩))
      · subst q2; exact (Or.inr (Or.inr ⟨e1, q1, FOUND_m q3 rfl rfl rfl rfl rfl rfl rfl q4, updM_same.trans q5⟩))) q
  refine aw_rng (fun hM2 => ?_)
  have rz : inR z := R.1 ▸ hM2 30 0 0
  refine aw_istore (L2 := [some (Value.ref b), some (rV K 0 0), some (rV K 30 0), some (rV K 45 0), some (iV (i)), some (iV (z)), some (iV (ans))]) dL_law_924 (by decide) rfl ?_
  refine aw_aload_n dL_law_926 rfl rfl ?_
  refine aw_cVi (g := 30) (As := []) (rest := []) (c_X5_thrown hst m2) cv_X5_thrown dL_law_927 ml_L_101 rfl rfl rfl rfl rfl (Nat.le_of_ble_eq_true rfl) (by decide) rfl rfl ⟨hC, hS⟩ ?_
  refine aw_iload dL_law_930 rfl ?_
  refine aw_same (tgt := 937) dL_law_932 (by decide) R.1 ?_
  refine aw_iload dL_law_937 rfl ?_
  refine aw_if_ne (tgt := 954) dL_law_939 (by decide) rz (fun hz => ?_) (fun hz => ?_)
  · skip
    refine aw_goto (tgt := 1704) dL_law_954 (by decide) ?_
    refine aw_weak (L' := [some (Value.ref b), some (rV K 0 0), some (rV K 30 0), some (rV K 45 0), some (iV (i)), none, none]) ⟨Or.inr rfl, Or.inr rfl, Or.inr rfl, Or.inr rfl, Or.inr rfl, Or.inl rfl, Or.inl rfl, trivial⟩ ?_
    exact next _ R.2.2
  · skip
    have ho := R.2.1 hz
    refine aw_aload_n dL_law_942 rfl rfl ?_
    refine aw_iconst dL_law_943 ?_
    refine aw_lald (g := 45) (n := 1) rfl (by decide) dL_law_944 (by decide) (by decide) (fun ro => ?_)
    refine aw_iload dL_law_945 rfl ?_
    refine aw_i2l (ho ▸ ro) dL_law_947 ?_
    refine aw_lcmp (tgt := 954) dL_law_948 dL_law_949 (by decide) ho ?_
    refine aw_goto (tgt := 1704) dL_law_954 (by decide) ?_
    refine aw_weak (L' := [some (Value.ref b), some (rV K 0 0), some (rV K 30 0), some (rV K 45 0), some (iV (i)), none, none]) ⟨Or.inr rfl, Or.inr rfl, Or.inr rfl, Or.inr rfl, Or.inr rfl, Or.inl rfl, Or.inl rfl, trivial⟩ ?_
    exact next _ R.2.2
set_option maxHeartbeats 4000000 in
set_option maxRecDepth 20000 in
theorem law_c14 {K : WPar} {l : Launch} (hst : l.stackTraces = false) {b L0 : Nat} {xs : Nat → Int32} (hL0 : L0 ≤ 2560) {M : Mem} {c : Nat} {i : Int} (i0 : 0 ≤ i) (hi : i + 5 ≤ (L0 : Int)) (hc : (c : Int) ≤ 512) (h : INV M (c : Int)) {C0 S0 : Nat} (hC : C0 + 5 ≤ 601024) (hS : S0 + 30 ≤ 7293034) (next : ∀ M2 : Mem, INV M2 ((c : Int) + 1) → AW K l iL_law (ZL b L0 xs K) 1704 [some (Value.ref b), some (rV K 0 0), some (rV K 30 0), some (rV K 45 0), some (iV (i)), none, none] [] M2 (C0 + 5) (S0 + 30)) : AW K l iL_law (ZL b L0 xs K) 957 [some (Value.ref b), some (rV K 0 0), some (rV K 30 0), some (rV K 45 0), some (iV (i)), none, none] [] M C0 S0 := by
  refine aw_rng (fun hM => ?_)
  refine aw_aload_n dL_law_957 rfl rfl ?_
  refine aw_aload_nb dL_law_958 rfl rfl ?_
  refine aw_iload dL_law_959 rfl ?_
  refine aw_iconst dL_law_961 ?_
  refine aw_iadd dL_law_962 ?_
  refine aw_sld hL0 (by omega) dL_law_963 (fun _ => ?_)
  refine aw_aload_nb dL_law_964 rfl rfl ?_
  refine aw_iload dL_law_965 rfl ?_
  refine aw_iconst dL_law_967 ?_
  refine aw_iadd dL_law_968 ?_
  refine aw_sld hL0 (by omega) dL_law_969 (fun _ => ?_)
  refine aw_aload_n dL_law_970 rfl rfl ?_
  refine aw_callW (As := [rV K 0 0, iV (sx xs (i + 1)), iV (sx xs (i + 2)), rV K 45 0]) (rest := []) (c2 := C0 + 5) (s2 := S0 + 30) (c_L_seatsForGroup hst M (sx xs (i + 1)) (sx xs (i + 2)) (sx_r _ _) (sx_r _ _) h.hw) cw_L_seatsForGroup dL_law_971 ml_L_149 rfl rfl (Nat.le_of_ble_eq_true rfl) (by decide) (Nat.add_le_add_left (by decide) C0) (Nat.add_le_add_left (by decide) S0) ⟨hC, hS⟩ (fun z m hq => ?_)
  have hI : INV m (c : Int) := by
    rcases hq with ⟨e1, q1, q2⟩ | ⟨e1, q1, q2⟩ | ⟨e1, q1, q2⟩ | ⟨e1, a, y, ⟨q1, q3, q4, q5⟩, q2⟩
    · rw [q2]; exact h
    · rw [q2]; exact h
    · exact SF_inv q2 h
    · rw [q2]; exact sd_o (SF_inv q3 h)
  refine aw_istore (L2 := [some (Value.ref b), some (rV K 0 0), some (rV K 30 0), some (rV K 45 0), some (iV (i)), some (iV (z)), none]) dL_law_974 (by decide) rfl ?_
  refine aw_aload_n dL_law_976 rfl rfl ?_
  refine aw_aload_nb dL_law_977 rfl rfl ?_
  refine aw_iload dL_law_978 rfl ?_
  refine aw_iconst dL_law_980 ?_
  refine aw_iadd dL_law_981 ?_
  refine aw_sld hL0 (by omega) dL_law_982 (fun _ => ?_)
  refine aw_aload_nb dL_law_983 rfl rfl ?_
  refine aw_iload dL_law_984 rfl ?_
  refine aw_iconst dL_law_986 ?_
  refine aw_iadd dL_law_987 ?_
  refine aw_sld hL0 (by omega) dL_law_988 (fun _ => ?_)
  refine aw_cVw (g := 30) (As := [iV (sx xs (i + 1)), iV (sx xs (i + 2))]) (rest := []) (c_X5_seatsForGroup hst m (sx xs (i + 1)) (sx xs (i + 2)) (sx_r _ _) (sx_r _ _) hI.hwm) cv_X5_seatsForGroup dL_law_989 ml_L_151 rfl rfl rfl rfl rfl (Nat.le_of_ble_eq_true rfl) (by decide) rfl rfl ⟨hC, hS⟩ (fun ans m2 q => ?_)
  have R := sq_seatsForGroup (z := z) (ans := ans) (m2 := m2) (people := sx xs (i + 1)) (row := sx xs (i + 2)) hI (by
      rcases hq with ⟨e1, q1, q2⟩ | ⟨e1, q1, q2⟩ | ⟨e1, q1, q2⟩ | ⟨e1, a, y, ⟨q1, q3, q4, q5⟩, q2⟩
      · subst q2; exact (Or.inl ⟨e1, q1⟩)
      · subst q2; exact (Or.inr (Or.inl ⟨e1, q1⟩))
      · rw [q2 1 (by decide)]; exact (Or.inr (Or.inr (Or.inl ⟨e1, q1.1, fun x v qq => q1.2 x v ((SF_cM q2).mp qq)⟩)))
      · subst q2; rw [show updM y 45 0 0 a 1 = M 1 from q3 1 (by decide)]; exact (Or.inr (Or.inr (Or.inr ⟨e1, q1, FOUND_m q3 rfl rfl rfl rfl rfl rfl rfl q4, updM_same.trans q5⟩)))) q
  refine aw_rng (fun hM2 => ?_)
  have rz : inR z := R.1 ▸ hM2 30 0 0
  refine aw_istore (L2 := [some (Value.ref b), some (rV K 0 0), some (rV K 30 0), some (rV K 45 0), some (iV (i)), some (iV (z)), some (iV (ans))]) dL_law_992 (by decide) rfl ?_
  refine aw_aload_n dL_law_994 rfl rfl ?_
  refine aw_cVi (g := 30) (As := []) (rest := []) (c_X5_thrown hst m2) cv_X5_thrown dL_law_995 ml_L_101 rfl rfl rfl rfl rfl (Nat.le_of_ble_eq_true rfl) (by decide) rfl rfl ⟨hC, hS⟩ ?_
  refine aw_iload dL_law_998 rfl ?_
  refine aw_same (tgt := 1005) dL_law_1000 (by decide) R.1 ?_
  refine aw_iload dL_law_1005 rfl ?_
  refine aw_if_ne (tgt := 1022) dL_law_1007 (by decide) rz (fun hz => ?_) (fun hz => ?_)
  · skip
    refine aw_goto (tgt := 1704) dL_law_1022 (by decide) ?_
    refine aw_weak (L' := [some (Value.ref b), some (rV K 0 0), some (rV K 30 0), some (rV K 45 0), some (iV (i)), none, none]) ⟨Or.inr rfl, Or.inr rfl, Or.inr rfl, Or.inr rfl, Or.inr rfl, Or.inl rfl, Or.inl rfl, trivial⟩ ?_
    exact next _ R.2.2
  · skip
    have ho := R.2.1 hz
    refine aw_aload_n dL_law_1010 rfl rfl ?_
    refine aw_iconst dL_law_1011 ?_
    refine aw_lald (g := 45) (n := 1) rfl (by decide) dL_law_1012 (by decide) (by decide) (fun ro => ?_)
    refine aw_iload dL_law_1013 rfl ?_
    refine aw_i2l (ho ▸ ro) dL_law_1015 ?_
    refine aw_lcmp (tgt := 1022) dL_law_1016 dL_law_1017 (by decide) ho ?_
    refine aw_goto (tgt := 1704) dL_law_1022 (by decide) ?_
    refine aw_weak (L' := [some (Value.ref b), some (rV K 0 0), some (rV K 30 0), some (rV K 45 0), some (iV (i)), none, none]) ⟨Or.inr rfl, Or.inr rfl, Or.inr rfl, Or.inr rfl, Or.inr rfl, Or.inl rfl, Or.inl rfl, trivial⟩ ?_
    exact next _ R.2.2
set_option maxHeartbeats 4000000 in
set_option maxRecDepth 20000 in
theorem law_c15 {K : WPar} {l : Launch} (hst : l.stackTraces = false) {b L0 : Nat} {xs : Nat → Int32} (hL0 : L0 ≤ 2560) {M : Mem} {c : Nat} {i : Int} (i0 : 0 ≤ i) (hi : i + 5 ≤ (L0 : Int)) (hc : (c : Int) ≤ 512) (h : INV M (c : Int)) {C0 S0 : Nat} (hC : C0 + 5 ≤ 601024) (hS : S0 + 30 ≤ 7293034) (next : ∀ M2 : Mem, INV M2 ((c : Int) + 1) → AW K l iL_law (ZL b L0 xs K) 1704 [some (Value.ref b), some (rV K 0 0), some (rV K 30 0), some (rV K 45 0), some (iV (i)), none, none] [] M2 (C0 + 5) (S0 + 30)) : AW K l iL_law (ZL b L0 xs K) 1025 [some (Value.ref b), some (rV K 0 0), some (rV K 30 0), some (rV K 45 0), some (iV (i)), none, none] [] M C0 S0 := by
  refine aw_rng (fun hM => ?_)
  refine aw_aload_n dL_law_1025 rfl rfl ?_
  refine aw_aload_nb dL_law_1026 rfl rfl ?_
  refine aw_iload dL_law_1027 rfl ?_
  refine aw_iconst dL_law_1029 ?_
  refine aw_iadd dL_law_1030 ?_
  refine aw_sld hL0 (by omega) dL_law_1031 (fun _ => ?_)
  refine aw_aload_nb dL_law_1032 rfl rfl ?_
  refine aw_iload dL_law_1033 rfl ?_
  refine aw_iconst dL_law_1035 ?_
  refine aw_iadd dL_law_1036 ?_
  refine aw_sld hL0 (by omega) dL_law_1037 (fun _ => ?_)
  refine aw_aload_n dL_law_1038 rfl rfl ?_
  refine aw_callW (As := [rV K 0 0, iV (sx xs (i + 1)), iV (sx xs (i + 2)), rV K 45 0]) (rest := []) (c2 := C0 + 5) (s2 := S0 + 30) (c_L_holdGroup hst M (sx xs (i + 1)) (sx xs (i + 2)) (sx_r _ _) (sx_r _ _) h.hw h.bw (h.nowb hc)) cw_L_holdGroup dL_law_1039 ml_L_152 rfl rfl (Nat.le_of_ble_eq_true rfl) (by decide) (Nat.add_le_add_left (by decide) C0) (Nat.add_le_add_left (by decide) S0) ⟨hC, hS⟩ (fun z m hq => ?_)
  have hk : MOD M m := by
    rcases hq with ⟨e1, q1, q2⟩ | ⟨e1, q1, q2⟩ | ⟨e1, a, y, ⟨q1, q2, m1, q6, q7, q3, q4⟩, q5⟩
    · rw [q2]; exact MOD.rf
    · exact fun g g1 g2 => q2 g (by omega)
    · rw [q5]; refine MOD.o (fun g g1 g2 => ?_); rw [q4]; unfold gsM; rw [gsS_g (by omega) (by omega) (by omega), openM_g (by omega)]; exact q6 g (by omega)
  refine aw_istore (L2 := [some (Value.ref b), some (rV K 0 0), some (rV K 30 0), some (rV K 45 0), some (iV (i)), some (iV (z)), none]) dL_law_1042 (by decide) rfl ?_
  refine aw_aload_n dL_law_1044 rfl rfl ?_
  refine aw_aload_nb dL_law_1045 rfl rfl ?_
  refine aw_iload dL_law_1046 rfl ?_
  refine aw_iconst dL_law_1048 ?_
  refine aw_iadd dL_law_1049 ?_
  refine aw_sld hL0 (by omega) dL_law_1050 (fun _ => ?_)
  refine aw_aload_nb dL_law_1051 rfl rfl ?_
  refine aw_iload dL_law_1052 rfl ?_
  refine aw_iconst dL_law_1054 ?_
  refine aw_iadd dL_law_1055 ?_
  refine aw_sld hL0 (by omega) dL_law_1056 (fun _ => ?_)
  refine aw_cVw (g := 30) (As := [iV (sx xs (i + 1)), iV (sx xs (i + 2))]) (rest := []) (c_X5_holdGroup hst m (sx xs (i + 1)) (sx xs (i + 2)) (sx_r _ _) (sx_r _ _) (hk.hwm h) (hk.bwm h) (hk.now h hc)) cv_X5_holdGroup dL_law_1057 ml_L_154 rfl rfl rfl rfl rfl (Nat.le_of_ble_eq_true rfl) (by decide) rfl rfl ⟨hC, hS⟩ (fun ans m2 q => ?_)
  have R := sm_holdGroup (z := z) (ans := ans) (m := m) (m2 := m2) (people := sx xs (i + 1)) (minutes := sx xs (i + 2)) h (by
      rcases hq with q | q | ⟨e1, a, y, ⟨q1, q2, m1, q6, q7, q3, q4⟩, q5⟩
      · exact (Or.inl q)
      · exact (Or.inr (Or.inl q))
      · exact (Or.inr (Or.inr ⟨e1, q1, q2, m1, q6, q7, by rw [q5, q3, q4]⟩))) q
  refine aw_rng (fun hM2 => ?_)
  have rz : inR z := R.1 ▸ hM2 30 0 0
  refine aw_istore (L2 := [some (Value.ref b), some (rV K 0 0), some (rV K 30 0), some (rV K 45 0), some (iV (i)), some (iV (z)), some (iV (ans))]) dL_law_1060 (by decide) rfl ?_
  refine aw_aload_n dL_law_1062 rfl rfl ?_
  refine aw_cVi (g := 30) (As := []) (rest := []) (c_X5_thrown hst m2) cv_X5_thrown dL_law_1063 ml_L_101 rfl rfl rfl rfl rfl (Nat.le_of_ble_eq_true rfl) (by decide) rfl rfl ⟨hC, hS⟩ ?_
  refine aw_iload dL_law_1066 rfl ?_
  refine aw_same (tgt := 1073) dL_law_1068 (by decide) R.1 ?_
  refine aw_iload dL_law_1073 rfl ?_
  refine aw_if_ne (tgt := 1090) dL_law_1075 (by decide) rz (fun hz => ?_) (fun hz => ?_)
  · skip
    refine aw_goto (tgt := 1704) dL_law_1090 (by decide) ?_
    refine aw_weak (L' := [some (Value.ref b), some (rV K 0 0), some (rV K 30 0), some (rV K 45 0), some (iV (i)), none, none]) ⟨Or.inr rfl, Or.inr rfl, Or.inr rfl, Or.inr rfl, Or.inr rfl, Or.inl rfl, Or.inl rfl, trivial⟩ ?_
    exact next _ R.2.2
  · skip
    have ho := R.2.1 hz
    refine aw_aload_n dL_law_1078 rfl rfl ?_
    refine aw_iconst dL_law_1079 ?_
    refine aw_lald (g := 45) (n := 1) rfl (by decide) dL_law_1080 (by decide) (by decide) (fun ro => ?_)
    refine aw_iload dL_law_1081 rfl ?_
    refine aw_i2l (ho ▸ ro) dL_law_1083 ?_
    refine aw_lcmp (tgt := 1090) dL_law_1084 dL_law_1085 (by decide) ho ?_
    refine aw_goto (tgt := 1704) dL_law_1090 (by decide) ?_
    refine aw_weak (L' := [some (Value.ref b), some (rV K 0 0), some (rV K 30 0), some (rV K 45 0), some (iV (i)), none, none]) ⟨Or.inr rfl, Or.inr rfl, Or.inr rfl, Or.inr rfl, Or.inr rfl, Or.inl rfl, Or.inl rfl, trivial⟩ ?_
    exact next _ R.2.2
set_option maxHeartbeats 4000000 in
set_option maxRecDepth 20000 in
theorem law_c16 {K : WPar} {l : Launch} (hst : l.stackTraces = false) {b L0 : Nat} {xs : Nat → Int32} (hL0 : L0 ≤ 2560) {M : Mem} {c : Nat} {i : Int} (i0 : 0 ≤ i) (hi : i + 5 ≤ (L0 : Int)) (hc : (c : Int) ≤ 512) (h : INV M (c : Int)) {C0 S0 : Nat} (hC : C0 + 5 ≤ 601024) (hS : S0 + 30 ≤ 7293034) (next : ∀ M2 : Mem, INV M2 ((c : Int) + 1) → AW K l iL_law (ZL b L0 xs K) 1704 [some (Value.ref b), some (rV K 0 0), some (rV K 30 0), some (rV K 45 0), some (iV (i)), none, none] [] M2 (C0 + 5) (S0 + 30)) : AW K l iL_law (ZL b L0 xs K) 1093 [some (Value.ref b), some (rV K 0 0), some (rV K 30 0), some (rV K 45 0), some (iV (i)), none, none] [] M C0 S0 := by
  refine aw_rng (fun hM => ?_)
  refine aw_aload_n dL_law_1093 rfl rfl ?_
  refine aw_cVi (g := 0) (As := []) (rest := []) (c_X4_tickets hst M) cv_X4_tickets dL_law_1094 ml_L_155 rfl rfl rfl rfl rfl (Nat.le_of_ble_eq_true rfl) (by decide) rfl rfl ⟨by show C0 ≤ 601024; omega, by show S0 ≤ 7293034; omega⟩ ?_
  refine aw_aload_n dL_law_1097 rfl rfl ?_
  refine aw_cVi (g := 30) (As := []) (rest := [iV (M 7 0 8)]) (c_X5_tickets hst M) cv_X5_tickets dL_law_1098 ml_L_158 rfl rfl rfl rfl rfl (Nat.le_of_ble_eq_true rfl) (by decide) rfl rfl ⟨by show C0 ≤ 601024; omega, by show S0 ≤ 7293034; omega⟩ ?_
  refine aw_same (tgt := 1704) dL_law_1101 (by decide) (sd_tickets h) ?_
  refine aw_wide (a := C0 + 5) (b := S0 + 30) (by omega) (by omega) ?_
  exact next _ (sd_t h)
set_option maxHeartbeats 4000000 in
set_option maxRecDepth 20000 in
theorem law_c17 {K : WPar} {l : Launch} (hst : l.stackTraces = false) {b L0 : Nat} {xs : Nat → Int32} (hL0 : L0 ≤ 2560) {M : Mem} {c : Nat} {i : Int} (i0 : 0 ≤ i) (hi : i + 5 ≤ (L0 : Int)) (hc : (c : Int) ≤ 512) (h : INV M (c : Int)) {C0 S0 : Nat} (hC : C0 + 5 ≤ 601024) (hS : S0 + 30 ≤ 7293034) (next : ∀ M2 : Mem, INV M2 ((c : Int) + 1) → AW K l iL_law (ZL b L0 xs K) 1704 [some (Value.ref b), some (rV K 0 0), some (rV K 30 0), some (rV K 45 0), some (iV (i)), none, none] [] M2 (C0 + 5) (S0 + 30)) : AW K l iL_law (ZL b L0 xs K) 1106 [some (Value.ref b), some (rV K 0 0), some (rV K 30 0), some (rV K 45 0), some (iV (i)), none, none] [] M C0 S0 := by
  refine aw_rng (fun hM => ?_)
  refine aw_aload_n dL_law_1106 rfl rfl ?_
  refine aw_aload_nb dL_law_1107 rfl rfl ?_
  refine aw_iload dL_law_1108 rfl ?_
  refine aw_iconst dL_law_1110 ?_
  refine aw_iadd dL_law_1111 ?_
  refine aw_sld hL0 (by omega) dL_law_1112 (fun _ => ?_)
  refine aw_aload_n dL_law_1113 rfl rfl ?_
  refine aw_callW (As := [rV K 0 0, iV (sx xs (i + 1)), rV K 45 0]) (rest := []) (c2 := C0 + 5) (s2 := S0 + 30) (c_L_ticketState hst M (sx xs (i + 1)) (sx_r _ _) h.bw) cw_L_ticketState dL_law_1114 ml_L_159 rfl rfl (Nat.le_of_ble_eq_true rfl) (by decide) (Nat.add_le_add_left (by decide) C0) (Nat.add_le_add_left (by decide) S0) ⟨hC, hS⟩ (fun z m hq => ?_)
  have hI : INV m (c : Int) := by
    rcases hq with ⟨e1, q1, q2⟩ | ⟨e1, a, y, ⟨q1, q3, q4⟩, q2⟩
    · rw [q2]; exact h
    · rw [q2, q4]; exact sd_o h
  refine aw_istore (L2 := [some (Value.ref b), some (rV K 0 0), some (rV K 30 0), some (rV K 45 0), some (iV (i)), some (iV (z)), none]) dL_law_1117 (by decide) rfl ?_
  refine aw_aload_n dL_law_1119 rfl rfl ?_
  refine aw_aload_nb dL_law_1120 rfl rfl ?_
  refine aw_iload dL_law_1121 rfl ?_
  refine aw_iconst dL_law_1123 ?_
  refine aw_iadd dL_law_1124 ?_
  refine aw_sld hL0 (by omega) dL_law_1125 (fun _ => ?_)
  refine aw_cVw (g := 30) (As := [iV (sx xs (i + 1))]) (rest := []) (c_X5_ticketState hst m (sx xs (i + 1)) (sx_r _ _) hI.bwm) cv_X5_ticketState dL_law_1126 ml_L_161 rfl rfl rfl rfl rfl (Nat.le_of_ble_eq_true rfl) (by decide) rfl rfl ⟨hC, hS⟩ (fun ans m2 q => ?_)
  have R := sq_ticketState (z := z) (ans := ans) (m2 := m2) (ticket := sx xs (i + 1)) hI (by
      rcases hq with ⟨e1, q1, q2⟩ | ⟨e1, a, y, ⟨q1, q3, q4⟩, q2⟩
      · subst q2; exact (Or.inl ⟨e1, q1⟩)
      · subst q4 q2; exact (Or.inr ⟨e1, q1, updM_same.trans q3⟩)) q
  refine aw_rng (fun hM2 => ?_)
  have rz : inR z := R.1 ▸ hM2 30 0 0
  refine aw_istore (L2 := [some (Value.ref b), some (rV K 0 0), some (rV K 30 0), some (rV K 45 0), some (iV (i)), some (iV (z)), some (iV (ans))]) dL_law_1129 (by decide) rfl ?_
  refine aw_aload_n dL_law_1131 rfl rfl ?_
  refine aw_cVi (g := 30) (As := []) (rest := []) (c_X5_thrown hst m2) cv_X5_thrown dL_law_1132 ml_L_101 rfl rfl rfl rfl rfl (Nat.le_of_ble_eq_true rfl) (by decide) rfl rfl ⟨hC, hS⟩ ?_
  refine aw_iload dL_law_1135 rfl ?_
  refine aw_same (tgt := 1142) dL_law_1137 (by decide) R.1 ?_
  refine aw_iload dL_law_1142 rfl ?_
  refine aw_if_ne (tgt := 1159) dL_law_1144 (by decide) rz (fun hz => ?_) (fun hz => ?_)
  · skip
    refine aw_goto (tgt := 1704) dL_law_1159 (by decide) ?_
    refine aw_weak (L' := [some (Value.ref b), some (rV K 0 0), some (rV K 30 0), some (rV K 45 0), some (iV (i)), none, none]) ⟨Or.inr rfl, Or.inr rfl, Or.inr rfl, Or.inr rfl, Or.inr rfl, Or.inl rfl, Or.inl rfl, trivial⟩ ?_
    exact next _ R.2.2
  · skip
    have ho := R.2.1 hz
    refine aw_aload_n dL_law_1147 rfl rfl ?_
    refine aw_iconst dL_law_1148 ?_
    refine aw_lald (g := 45) (n := 1) rfl (by decide) dL_law_1149 (by decide) (by decide) (fun ro => ?_)
    refine aw_iload dL_law_1150 rfl ?_
    refine aw_i2l (ho ▸ ro) dL_law_1152 ?_
    refine aw_lcmp (tgt := 1159) dL_law_1153 dL_law_1154 (by decide) ho ?_
    refine aw_goto (tgt := 1704) dL_law_1159 (by decide) ?_
    refine aw_weak (L' := [some (Value.ref b), some (rV K 0 0), some (rV K 30 0), some (rV K 45 0), some (iV (i)), none, none]) ⟨Or.inr rfl, Or.inr rfl, Or.inr rfl, Or.inr rfl, Or.inr rfl, Or.inl rfl, Or.inl rfl, trivial⟩ ?_
    exact next _ R.2.2
set_option maxHeartbeats 4000000 in
set_option maxRecDepth 20000 in
theorem law_c18 {K : WPar} {l : Launch} (hst : l.stackTraces = false) {b L0 : Nat} {xs : Nat → Int32} (hL0 : L0 ≤ 2560) {M : Mem} {c : Nat} {i : Int} (i0 : 0 ≤ i) (hi : i + 5 ≤ (L0 : Int)) (hc : (c : Int) ≤ 512) (h : INV M (c : Int)) {C0 S0 : Nat} (hC : C0 + 5 ≤ 601024) (hS : S0 + 30 ≤ 7293034) (next : ∀ M2 : Mem, INV M2 ((c : Int) + 1) → AW K l iL_law (ZL b L0 xs K) 1704 [some (Value.ref b), some (rV K 0 0), some (rV K 30 0), some (rV K 45 0), some (iV (i)), none, none] [] M2 (C0 + 5) (S0 + 30)) : AW K l iL_law (ZL b L0 xs K) 1162 [some (Value.ref b), some (rV K 0 0), some (rV K 30 0), some (rV K 45 0), some (iV (i)), none, none] [] M C0 S0 := by
  refine aw_rng (fun hM => ?_)
  refine aw_aload_n dL_law_1162 rfl rfl ?_
  refine aw_aload_nb dL_law_1163 rfl rfl ?_
  refine aw_iload dL_law_1164 rfl ?_
  refine aw_iconst dL_law_1166 ?_
  refine aw_iadd dL_law_1167 ?_
  refine aw_sld hL0 (by omega) dL_law_1168 (fun _ => ?_)
  refine aw_aload_n dL_law_1169 rfl rfl ?_
  refine aw_callW (As := [rV K 0 0, iV (sx xs (i + 1)), rV K 45 0]) (rest := []) (c2 := C0 + 5) (s2 := S0 + 30) (c_L_seatsOf hst M (sx xs (i + 1)) (sx_r _ _) h.bw) cw_L_seatsOf dL_law_1170 ml_L_162 rfl rfl (Nat.le_of_ble_eq_true rfl) (by decide) (Nat.add_le_add_left (by decide) C0) (Nat.add_le_add_left (by decide) S0) ⟨hC, hS⟩ (fun z m hq => ?_)
  have hI : INV m (c : Int) := by
    rcases hq with ⟨e1, q1, q2⟩ | ⟨e1, a, y, ⟨q1, q3, q4⟩, q2⟩
    · rw [q2]; exact h
    · rw [q2, q4]; exact sd_o h
  refine aw_istore (L2 := [some (Value.ref b), some (rV K 0 0), some (rV K 30 0), some (rV K 45 0), some (iV (i)), some (iV (z)), none]) dL_law_1173 (by decide) rfl ?_
  refine aw_aload_n dL_law_1175 rfl rfl ?_
  refine aw_aload_nb dL_law_1176 rfl rfl ?_
  refine aw_iload dL_law_1177 rfl ?_
  refine aw_iconst dL_law_1179 ?_
  refine aw_iadd dL_law_1180 ?_
  refine aw_sld hL0 (by omega) dL_law_1181 (fun _ => ?_)
  refine aw_cVw (g := 30) (As := [iV (sx xs (i + 1))]) (rest := []) (c_X5_seatsOf hst m (sx xs (i + 1)) (sx_r _ _) hI.bwm) cv_X5_seatsOf dL_law_1182 ml_L_164 rfl rfl rfl rfl rfl (Nat.le_of_ble_eq_true rfl) (by decide) rfl rfl ⟨hC, hS⟩ (fun ans m2 q => ?_)
  have R := sq_seatsOf (z := z) (ans := ans) (m2 := m2) (ticket := sx xs (i + 1)) hI (by
      rcases hq with ⟨e1, q1, q2⟩ | ⟨e1, a, y, ⟨q1, q3, q4⟩, q2⟩
      · subst q2; exact (Or.inl ⟨e1, q1⟩)
      · subst q4 q2; exact (Or.inr ⟨e1, q1, updM_same.trans q3⟩)) q
  refine aw_rng (fun hM2 => ?_)
  have rz : inR z := R.1 ▸ hM2 30 0 0
  refine aw_istore (L2 := [some (Value.ref b), some (rV K 0 0), some (rV K 30 0), some (rV K 45 0), some (iV (i)), some (iV (z)), some (iV (ans))]) dL_law_1185 (by decide) rfl ?_
  refine aw_aload_n dL_law_1187 rfl rfl ?_
  refine aw_cVi (g := 30) (As := []) (rest := []) (c_X5_thrown hst m2) cv_X5_thrown dL_law_1188 ml_L_101 rfl rfl rfl rfl rfl (Nat.le_of_ble_eq_true rfl) (by decide) rfl rfl ⟨hC, hS⟩ ?_
  refine aw_iload dL_law_1191 rfl ?_
  refine aw_same (tgt := 1198) dL_law_1193 (by decide) R.1 ?_
  refine aw_iload dL_law_1198 rfl ?_
  refine aw_if_ne (tgt := 1215) dL_law_1200 (by decide) rz (fun hz => ?_) (fun hz => ?_)
  · skip
    refine aw_goto (tgt := 1704) dL_law_1215 (by decide) ?_
    refine aw_weak (L' := [some (Value.ref b), some (rV K 0 0), some (rV K 30 0), some (rV K 45 0), some (iV (i)), none, none]) ⟨Or.inr rfl, Or.inr rfl, Or.inr rfl, Or.inr rfl, Or.inr rfl, Or.inl rfl, Or.inl rfl, trivial⟩ ?_
    exact next _ R.2.2
  · skip
    have ho := R.2.1 hz
    refine aw_aload_n dL_law_1203 rfl rfl ?_
    refine aw_iconst dL_law_1204 ?_
    refine aw_lald (g := 45) (n := 1) rfl (by decide) dL_law_1205 (by decide) (by decide) (fun ro => ?_)
    refine aw_iload dL_law_1206 rfl ?_
    refine aw_i2l (ho ▸ ro) dL_law_1208 ?_
    refine aw_lcmp (tgt := 1215) dL_law_1209 dL_law_1210 (by decide) ho ?_
    refine aw_goto (tgt := 1704) dL_law_1215 (by decide) ?_
    refine aw_weak (L' := [some (Value.ref b), some (rV K 0 0), some (rV K 30 0), some (rV K 45 0), some (iV (i)), none, none]) ⟨Or.inr rfl, Or.inr rfl, Or.inr rfl, Or.inr rfl, Or.inr rfl, Or.inl rfl, Or.inl rfl, trivial⟩ ?_
    exact next _ R.2.2
set_option maxHeartbeats 4000000 in
set_option maxRecDepth 20000 in
theorem law_c19 {K : WPar} {l : Launch} (hst : l.stackTraces = false) {b L0 : Nat} {xs : Nat → Int32} (hL0 : L0 ≤ 2560) {M : Mem} {c : Nat} {i : Int} (i0 : 0 ≤ i) (hi : i + 5 ≤ (L0 : Int)) (hc : (c : Int) ≤ 512) (h : INV M (c : Int)) {C0 S0 : Nat} (hC : C0 + 5 ≤ 601024) (hS : S0 + 30 ≤ 7293034) (next : ∀ M2 : Mem, INV M2 ((c : Int) + 1) → AW K l iL_law (ZL b L0 xs K) 1704 [some (Value.ref b), some (rV K 0 0), some (rV K 30 0), some (rV K 45 0), some (iV (i)), none, none] [] M2 (C0 + 5) (S0 + 30)) : AW K l iL_law (ZL b L0 xs K) 1218 [some (Value.ref b), some (rV K 0 0), some (rV K 30 0), some (rV K 45 0), some (iV (i)), none, none] [] M C0 S0 := by
  refine aw_rng (fun hM => ?_)
  refine aw_aload_n dL_law_1218 rfl rfl ?_
  refine aw_aload_nb dL_law_1219 rfl rfl ?_
  refine aw_iload dL_law_1220 rfl ?_
  refine aw_iconst dL_law_1222 ?_
  refine aw_iadd dL_law_1223 ?_
  refine aw_sld hL0 (by omega) dL_law_1224 (fun _ => ?_)
  refine aw_aload_n dL_law_1225 rfl rfl ?_
  refine aw_callW (As := [rV K 0 0, iV (sx xs (i + 1)), rV K 45 0]) (rest := []) (c2 := C0 + 5) (s2 := S0 + 30) (c_L_priceOf hst M (sx xs (i + 1)) (sx_r _ _) h.hw h.bw) cw_L_priceOf dL_law_1226 ml_L_165 rfl rfl (Nat.le_of_ble_eq_true rfl) (by decide) (Nat.add_le_add_left (by decide) C0) (Nat.add_le_add_left (by decide) S0) ⟨hC, hS⟩ (fun z m hq => ?_)
  have hI : INV m (c : Int) := by
    rcases hq with ⟨e1, q1, q2⟩ | ⟨e1, a, y, ⟨q1, q3, q4⟩, q2⟩
    · rw [q2]; exact h
    · rw [q2, q4]; exact sd_o h
  refine aw_istore (L2 := [some (Value.ref b), some (rV K 0 0), some (rV K 30 0), some (rV K 45 0), some (iV (i)), some (iV (z)), none]) dL_law_1229 (by decide) rfl ?_
  refine aw_aload_n dL_law_1231 rfl rfl ?_
  refine aw_aload_nb dL_law_1232 rfl rfl ?_
  refine aw_iload dL_law_1233 rfl ?_
  refine aw_iconst dL_law_1235 ?_
  refine aw_iadd dL_law_1236 ?_
  refine aw_sld hL0 (by omega) dL_law_1237 (fun _ => ?_)
  refine aw_cVw (g := 30) (As := [iV (sx xs (i + 1))]) (rest := []) (c_X5_priceOf hst m (sx xs (i + 1)) (sx_r _ _) hI.bwm hI.prm) cv_X5_priceOf dL_law_1238 ml_L_167 rfl rfl rfl rfl rfl (Nat.le_of_ble_eq_true rfl) (by decide) rfl rfl ⟨hC, hS⟩ (fun ans m2 q => ?_)
  have R := sq_priceOf (z := z) (ans := ans) (m2 := m2) (ticket := sx xs (i + 1)) hI (by
      rcases hq with ⟨e1, q1, q2⟩ | ⟨e1, a, y, ⟨q1, q3, q4⟩, q2⟩
      · subst q2; exact (Or.inl ⟨e1, q1⟩)
      · subst q4 q2; exact (Or.inr ⟨e1, q1, updM_same.trans q3⟩)) q
  refine aw_rng (fun hM2 => ?_)
  have rz : inR z := R.1 ▸ hM2 30 0 0
  refine aw_istore (L2 := [some (Value.ref b), some (rV K 0 0), some (rV K 30 0), some (rV K 45 0), some (iV (i)), some (iV (z)), some (iV (ans))]) dL_law_1241 (by decide) rfl ?_
  refine aw_aload_n dL_law_1243 rfl rfl ?_
  refine aw_cVi (g := 30) (As := []) (rest := []) (c_X5_thrown hst m2) cv_X5_thrown dL_law_1244 ml_L_101 rfl rfl rfl rfl rfl (Nat.le_of_ble_eq_true rfl) (by decide) rfl rfl ⟨hC, hS⟩ ?_
  refine aw_iload dL_law_1247 rfl ?_
  refine aw_same (tgt := 1254) dL_law_1249 (by decide) R.1 ?_
  refine aw_iload dL_law_1254 rfl ?_
  refine aw_if_ne (tgt := 1271) dL_law_1256 (by decide) rz (fun hz => ?_) (fun hz => ?_)
  · skip
    refine aw_goto (tgt := 1704) dL_law_1271 (by decide) ?_
    refine aw_weak (L' := [some (Value.ref b), some (rV K 0 0), some (rV K 30 0), some (rV K 45 0), some (iV (i)), none, none]) ⟨Or.inr rfl, Or.inr rfl, Or.inr rfl, Or.inr rfl, Or.inr rfl, Or.inl rfl, Or.inl rfl, trivial⟩ ?_
    exact next _ R.2.2
  · skip
    have ho := R.2.1 hz
    refine aw_aload_n dL_law_1259 rfl rfl ?_
    refine aw_iconst dL_law_1260 ?_
    refine aw_lald (g := 45) (n := 1) rfl (by decide) dL_law_1261 (by decide) (by decide) (fun ro => ?_)
    refine aw_iload dL_law_1262 rfl ?_
    refine aw_i2l (ho ▸ ro) dL_law_1264 ?_
    refine aw_lcmp (tgt := 1271) dL_law_1265 dL_law_1266 (by decide) ho ?_
    refine aw_goto (tgt := 1704) dL_law_1271 (by decide) ?_
    refine aw_weak (L' := [some (Value.ref b), some (rV K 0 0), some (rV K 30 0), some (rV K 45 0), some (iV (i)), none, none]) ⟨Or.inr rfl, Or.inr rfl, Or.inr rfl, Or.inr rfl, Or.inr rfl, Or.inl rfl, Or.inl rfl, trivial⟩ ?_
    exact next _ R.2.2
set_option maxHeartbeats 4000000 in
set_option maxRecDepth 20000 in
theorem law_c20 {K : WPar} {l : Launch} (hst : l.stackTraces = false) {b L0 : Nat} {xs : Nat → Int32} (hL0 : L0 ≤ 2560) {M : Mem} {c : Nat} {i : Int} (i0 : 0 ≤ i) (hi : i + 5 ≤ (L0 : Int)) (hc : (c : Int) ≤ 512) (h : INV M (c : Int)) {C0 S0 : Nat} (hC : C0 + 5 ≤ 601024) (hS : S0 + 30 ≤ 7293034) (next : ∀ M2 : Mem, INV M2 ((c : Int) + 1) → AW K l iL_law (ZL b L0 xs K) 1704 [some (Value.ref b), some (rV K 0 0), some (rV K 30 0), some (rV K 45 0), some (iV (i)), none, none] [] M2 (C0 + 5) (S0 + 30)) : AW K l iL_law (ZL b L0 xs K) 1274 [some (Value.ref b), some (rV K 0 0), some (rV K 30 0), some (rV K 45 0), some (iV (i)), none, none] [] M C0 S0 := by
  refine aw_rng (fun hM => ?_)
  refine aw_aload_n dL_law_1274 rfl rfl ?_
  refine aw_aload_nb dL_law_1275 rfl rfl ?_
  refine aw_iload dL_law_1276 rfl ?_
  refine aw_iconst dL_law_1278 ?_
  refine aw_iadd dL_law_1279 ?_
  refine aw_sld hL0 (by omega) dL_law_1280 (fun _ => ?_)
  refine aw_aload_nb dL_law_1281 rfl rfl ?_
  refine aw_iload dL_law_1282 rfl ?_
  refine aw_iconst dL_law_1284 ?_
  refine aw_iadd dL_law_1285 ?_
  refine aw_sld hL0 (by omega) dL_law_1286 (fun _ => ?_)
  refine aw_aload_n dL_law_1287 rfl rfl ?_
  refine aw_callW (As := [rV K 0 0, iV (sx xs (i + 1)), iV (sx xs (i + 2)), rV K 45 0]) (rest := []) (c2 := C0 + 5) (s2 := S0 + 30) (c_L_extend hst M (sx xs (i + 1)) (sx xs (i + 2)) (sx_r _ _) (sx_r _ _) h.bw (h.nowb hc)) cw_L_extend dL_law_1288 ml_L_168 rfl rfl (Nat.le_of_ble_eq_true rfl) (by decide) (Nat.add_le_add_left (by decide) C0) (Nat.add_le_add_left (by decide) S0) ⟨hC, hS⟩ (fun z m hq => ?_)
  have hk : MOD M m := by
    rcases hq with ⟨e1, q1, q2⟩ | ⟨e1, q1, q2⟩ | ⟨e1, q1, q2⟩ | ⟨e1, a, y, ⟨q1, q2, q3, q4⟩, q5⟩
    · rw [q2]; exact MOD.rf
    · rw [q2]; exact MOD.rf
    · rw [q2]; exact MOD.rf
    · rw [q5]; refine MOD.o (fun g g1 g2 => ?_); rw [q4, updM_g (by omega), updM_g (by omega)]
  refine aw_istore (L2 := [some (Value.ref b), some (rV K 0 0), some (rV K 30 0), some (rV K 45 0), some (iV (i)), some (iV (z)), none]) dL_law_1291 (by decide) rfl ?_
  refine aw_aload_n dL_law_1293 rfl rfl ?_
  refine aw_aload_nb dL_law_1294 rfl rfl ?_
  refine aw_iload dL_law_1295 rfl ?_
  refine aw_iconst dL_law_1297 ?_
  refine aw_iadd dL_law_1298 ?_
  refine aw_sld hL0 (by omega) dL_law_1299 (fun _ => ?_)
  refine aw_aload_nb dL_law_1300 rfl rfl ?_
  refine aw_iload dL_law_1301 rfl ?_
  refine aw_iconst dL_law_1303 ?_
  refine aw_iadd dL_law_1304 ?_
  refine aw_sld hL0 (by omega) dL_law_1305 (fun _ => ?_)
  refine aw_cVw (g := 30) (As := [iV (sx xs (i + 1)), iV (sx xs (i + 2))]) (rest := []) (c_X5_extend hst m (sx xs (i + 1)) (sx xs (i + 2)) (sx_r _ _) (sx_r _ _) (hk.bwm h) (hk.now h hc) (hk.xx h _)) cv_X5_extend dL_law_1306 ml_L_170 rfl rfl rfl rfl rfl (Nat.le_of_ble_eq_true rfl) (by decide) rfl rfl ⟨hC, hS⟩ (fun ans m2 q => ?_)
  have R := sm_extend (z := z) (ans := ans) (m := m) (m2 := m2) (ticket := sx xs (i + 1)) (minutes := sx xs (i + 2)) h (by
      rcases hq with q | q | q | ⟨e1, a, y, ⟨q1, q2, q3, q4⟩, q5⟩
      · exact (Or.inl q)
      · exact (Or.inr (Or.inl q))
      · exact (Or.inr (Or.inr (Or.inl q)))
      · exact (Or.inr (Or.inr (Or.inr ⟨e1, ⟨q1, q2⟩, by rw [q5, q3, q4]⟩)))) q
  refine aw_rng (fun hM2 => ?_)
  have rz : inR z := R.1 ▸ hM2 30 0 0
  refine aw_istore (L2 := [some (Value.ref b), some (rV K 0 0), some (rV K 30 0), some (rV K 45 0), some (iV (i)), some (iV (z)), some (iV (ans))]) dL_law_1309 (by decide) rfl ?_
  refine aw_aload_n dL_law_1311 rfl rfl ?_
  refine aw_cVi (g := 30) (As := []) (rest := []) (c_X5_thrown hst m2) cv_X5_thrown dL_law_1312 ml_L_101 rfl rfl rfl rfl rfl (Nat.le_of_ble_eq_true rfl) (by decide) rfl rfl ⟨hC, hS⟩ ?_
  refine aw_iload dL_law_1315 rfl ?_
  refine aw_same (tgt := 1322) dL_law_1317 (by decide) R.1 ?_
  refine aw_iload dL_law_1322 rfl ?_
  refine aw_if_ne (tgt := 1339) dL_law_1324 (by decide) rz (fun hz => ?_) (fun hz => ?_)
  · skip
    refine aw_goto (tgt := 1704) dL_law_1339 (by decide) ?_
    refine aw_weak (L' := [some (Value.ref b), some (rV K 0 0), some (rV K 30 0), some (rV K 45 0), some (iV (i)), none, none]) ⟨Or.inr rfl, Or.inr rfl, Or.inr rfl, Or.inr rfl, Or.inr rfl, Or.inl rfl, Or.inl rfl, trivial⟩ ?_
    exact next _ R.2.2
  · skip
    have ho := R.2.1 hz
    refine aw_aload_n dL_law_1327 rfl rfl ?_
    refine aw_iconst dL_law_1328 ?_
    refine aw_lald (g := 45) (n := 1) rfl (by decide) dL_law_1329 (by decide) (by decide) (fun ro => ?_)
    refine aw_iload dL_law_1330 rfl ?_
    refine aw_i2l (ho ▸ ro) dL_law_1332 ?_
    refine aw_lcmp (tgt := 1339) dL_law_1333 dL_law_1334 (by decide) ho ?_
    refine aw_goto (tgt := 1704) dL_law_1339 (by decide) ?_
    refine aw_weak (L' := [some (Value.ref b), some (rV K 0 0), some (rV K 30 0), some (rV K 45 0), some (iV (i)), none, none]) ⟨Or.inr rfl, Or.inr rfl, Or.inr rfl, Or.inr rfl, Or.inr rfl, Or.inl rfl, Or.inl rfl, trivial⟩ ?_
    exact next _ R.2.2
set_option maxHeartbeats 4000000 in
set_option maxRecDepth 20000 in
theorem law_c21 {K : WPar} {l : Launch} (hst : l.stackTraces = false) {b L0 : Nat} {xs : Nat → Int32} (hL0 : L0 ≤ 2560) {M : Mem} {c : Nat} {i : Int} (i0 : 0 ≤ i) (hi : i + 5 ≤ (L0 : Int)) (hc : (c : Int) ≤ 512) (h : INV M (c : Int)) {C0 S0 : Nat} (hC : C0 + 5 ≤ 601024) (hS : S0 + 30 ≤ 7293034) (next : ∀ M2 : Mem, INV M2 ((c : Int) + 1) → AW K l iL_law (ZL b L0 xs K) 1704 [some (Value.ref b), some (rV K 0 0), some (rV K 30 0), some (rV K 45 0), some (iV (i)), none, none] [] M2 (C0 + 5) (S0 + 30)) : AW K l iL_law (ZL b L0 xs K) 1342 [some (Value.ref b), some (rV K 0 0), some (rV K 30 0), some (rV K 45 0), some (iV (i)), none, none] [] M C0 S0 := by
  refine aw_rng (fun hM => ?_)
  refine aw_aload_n dL_law_1342 rfl rfl ?_
  refine aw_aload_nb dL_law_1343 rfl rfl ?_
  refine aw_iload dL_law_1344 rfl ?_
  refine aw_iconst dL_law_1346 ?_
  refine aw_iadd dL_law_1347 ?_
  refine aw_sld hL0 (by omega) dL_law_1348 (fun _ => ?_)
  refine aw_aload_n dL_law_1349 rfl rfl ?_
  refine aw_callW (As := [rV K 0 0, iV (sx xs (i + 1)), rV K 45 0]) (rest := []) (c2 := C0 + 5) (s2 := S0 + 30) (c_L_pay hst M (sx xs (i + 1)) (sx_r _ _) h.hw h.bw (h.balb hc)) cw_L_pay dL_law_1350 ml_L_171 rfl rfl (Nat.le_of_ble_eq_true rfl) (by decide) (Nat.add_le_add_left (by decide) C0) (Nat.add_le_add_left (by decide) S0) ⟨hC, hS⟩ (fun z m hq => ?_)
  have hk : MOD M m := by
    rcases hq with ⟨e1, q1, q2⟩ | ⟨e1, q1, q2⟩ | ⟨e1, a, y, ⟨q1, q2, q3, q4⟩, q5⟩
    · rw [q2]; exact MOD.rf
    · rw [q2]; exact MOD.rf
    · rw [q5]; refine MOD.o (fun g g1 g2 => ?_); rw [q4, updM_g (by omega), updM_g (by omega), updM_g (by omega)]
  refine aw_istore (L2 := [some (Value.ref b), some (rV K 0 0), some (rV K 30 0), some (rV K 45 0), some (iV (i)), some (iV (z)), none]) dL_law_1353 (by decide) rfl ?_
  refine aw_aload_n dL_law_1355 rfl rfl ?_
  refine aw_aload_nb dL_law_1356 rfl rfl ?_
  refine aw_iload dL_law_1357 rfl ?_
  refine aw_iconst dL_law_1359 ?_
  refine aw_iadd dL_law_1360 ?_
  refine aw_sld hL0 (by omega) dL_law_1361 (fun _ => ?_)
  refine aw_cVw (g := 30) (As := [iV (sx xs (i + 1))]) (rest := []) (c_X5_pay hst m (sx xs (i + 1)) (sx_r _ _) (hk.bwm h) (hk.pr h) (hk.bal h hc)) cv_X5_pay dL_law_1362 ml_L_173 rfl rfl rfl rfl rfl (Nat.le_of_ble_eq_true rfl) (by decide) rfl rfl ⟨hC, hS⟩ (fun ans m2 q => ?_)
  have R := sm_pay (z := z) (ans := ans) (m := m) (m2 := m2) (ticket := sx xs (i + 1)) h (by
      rcases hq with q | q | ⟨e1, a, y, ⟨q1, q2, q3, q4⟩, q5⟩
      · exact (Or.inl q)
      · exact (Or.inr (Or.inl q))
      · exact (Or.inr (Or.inr ⟨e1, ⟨q1, q2⟩, by rw [q5, q3, q4]⟩))) q
  refine aw_rng (fun hM2 => ?_)
  have rz : inR z := R.1 ▸ hM2 30 0 0
  refine aw_istore (L2 := [some (Value.ref b), some (rV K 0 0), some (rV K 30 0), some (rV K 45 0), some (iV (i)), some (iV (z)), some (iV (ans))]) dL_law_1365 (by decide) rfl ?_
  refine aw_aload_n dL_law_1367 rfl rfl ?_
  refine aw_cVi (g := 30) (As := []) (rest := []) (c_X5_thrown hst m2) cv_X5_thrown dL_law_1368 ml_L_101 rfl rfl rfl rfl rfl (Nat.le_of_ble_eq_true rfl) (by decide) rfl rfl ⟨hC, hS⟩ ?_
  refine aw_iload dL_law_1371 rfl ?_
  refine aw_same (tgt := 1378) dL_law_1373 (by decide) R.1 ?_
  refine aw_iload dL_law_1378 rfl ?_
  refine aw_if_ne (tgt := 1395) dL_law_1380 (by decide) rz (fun hz => ?_) (fun hz => ?_)
  · skip
    refine aw_goto (tgt := 1704) dL_law_1395 (by decide) ?_
    refine aw_weak (L' := [some (Value.ref b), some (rV K 0 0), some (rV K 30 0), some (rV K 45 0), some (iV (i)), none, none]) ⟨Or.inr rfl, Or.inr rfl, Or.inr rfl, Or.inr rfl, Or.inr rfl, Or.inl rfl, Or.inl rfl, trivial⟩ ?_
    exact next _ R.2.2
  · skip
    have ho := R.2.1 hz
    refine aw_aload_n dL_law_1383 rfl rfl ?_
    refine aw_iconst dL_law_1384 ?_
    refine aw_lald (g := 45) (n := 1) rfl (by decide) dL_law_1385 (by decide) (by decide) (fun ro => ?_)
    refine aw_iload dL_law_1386 rfl ?_
    refine aw_i2l (ho ▸ ro) dL_law_1388 ?_
    refine aw_lcmp (tgt := 1395) dL_law_1389 dL_law_1390 (by decide) ho ?_
    refine aw_goto (tgt := 1704) dL_law_1395 (by decide) ?_
    refine aw_weak (L' := [some (Value.ref b), some (rV K 0 0), some (rV K 30 0), some (rV K 45 0), some (iV (i)), none, none]) ⟨Or.inr rfl, Or.inr rfl, Or.inr rfl, Or.inr rfl, Or.inr rfl, Or.inl rfl, Or.inl rfl, trivial⟩ ?_
    exact next _ R.2.2
set_option maxHeartbeats 4000000 in
set_option maxRecDepth 20000 in
theorem law_c22 {K : WPar} {l : Launch} (hst : l.stackTraces = false) {b L0 : Nat} {xs : Nat → Int32} (hL0 : L0 ≤ 2560) {M : Mem} {c : Nat} {i : Int} (i0 : 0 ≤ i) (hi : i + 5 ≤ (L0 : Int)) (hc : (c : Int) ≤ 512) (h : INV M (c : Int)) {C0 S0 : Nat} (hC : C0 + 5 ≤ 601024) (hS : S0 + 30 ≤ 7293034) (next : ∀ M2 : Mem, INV M2 ((c : Int) + 1) → AW K l iL_law (ZL b L0 xs K) 1704 [some (Value.ref b), some (rV K 0 0), some (rV K 30 0), some (rV K 45 0), some (iV (i)), none, none] [] M2 (C0 + 5) (S0 + 30)) : AW K l iL_law (ZL b L0 xs K) 1398 [some (Value.ref b), some (rV K 0 0), some (rV K 30 0), some (rV K 45 0), some (iV (i)), none, none] [] M C0 S0 := by
  refine aw_rng (fun hM => ?_)
  refine aw_aload_n dL_law_1398 rfl rfl ?_
  refine aw_aload_nb dL_law_1399 rfl rfl ?_
  refine aw_iload dL_law_1400 rfl ?_
  refine aw_iconst dL_law_1402 ?_
  refine aw_iadd dL_law_1403 ?_
  refine aw_sld hL0 (by omega) dL_law_1404 (fun _ => ?_)
  refine aw_aload_n dL_law_1405 rfl rfl ?_
  refine aw_callW (As := [rV K 0 0, iV (sx xs (i + 1)), rV K 45 0]) (rest := []) (c2 := C0 + 5) (s2 := S0 + 30) (c_L_cancel hst M (sx xs (i + 1)) (sx_r _ _) h.hw h.bw (h.balb hc) (h.pd _)) cw_L_cancel dL_law_1406 ml_L_174 rfl rfl (Nat.le_of_ble_eq_true rfl) (by decide) (Nat.add_le_add_left (by decide) C0) (Nat.add_le_add_left (by decide) S0) ⟨hC, hS⟩ (fun z m hq => ?_)
  have hk : MOD M m := by
    rcases hq with ⟨e1, q1, q2⟩ | ⟨e1, q1, q2⟩ | ⟨e1, a, y, ⟨q1, q2, q3, q4⟩, q5⟩
    · rw [q2]; exact MOD.rf
    · rw [q2]; exact MOD.rf
    · rw [q5]; refine MOD.o (fun g g1 g2 => ?_); rw [q4, updM_g (by omega), clM_g (by omega) (by omega) (by omega)]
  refine aw_istore (L2 := [some (Value.ref b), some (rV K 0 0), some (rV K 30 0), some (rV K 45 0), some (iV (i)), some (iV (z)), none]) dL_law_1409 (by decide) rfl ?_
  refine aw_aload_n dL_law_1411 rfl rfl ?_
  refine aw_aload_nb dL_law_1412 rfl rfl ?_
  refine aw_iload dL_law_1413 rfl ?_
  refine aw_iconst dL_law_1415 ?_
  refine aw_iadd dL_law_1416 ?_
  refine aw_sld hL0 (by omega) dL_law_1417 (fun _ => ?_)
  refine aw_cVw (g := 30) (As := [iV (sx xs (i + 1))]) (rest := []) (c_X5_cancel hst m (sx xs (i + 1)) (sx_r _ _) (hk.bwm h) (hk.bal h hc) (hk.pd h _)) cv_X5_cancel dL_law_1418 ml_L_176 rfl rfl rfl rfl rfl (Nat.le_of_ble_eq_true rfl) (by decide) rfl rfl ⟨hC, hS⟩ (fun ans m2 q => ?_)
  have R := sm_cancel (z := z) (ans := ans) (m := m) (m2 := m2) (ticket := sx xs (i + 1)) h (by
      rcases hq with q | q | ⟨e1, a, y, ⟨q1, q2, q3, q4⟩, q5⟩
      · exact (Or.inl q)
      · exact (Or.inr (Or.inl q))
      · exact (Or.inr (Or.inr ⟨e1, ⟨q1, q2⟩, by rw [q5, q3, q4]⟩))) q
  refine aw_rng (fun hM2 => ?_)
  have rz : inR z := R.1 ▸ hM2 30 0 0
  refine aw_istore (L2 := [some (Value.ref b), some (rV K 0 0), some (rV K 30 0), some (rV K 45 0), some (iV (i)), some (iV (z)), some (iV (ans))]) dL_law_1421 (by decide) rfl ?_
  refine aw_aload_n dL_law_1423 rfl rfl ?_
  refine aw_cVi (g := 30) (As := []) (rest := []) (c_X5_thrown hst m2) cv_X5_thrown dL_law_1424 ml_L_101 rfl rfl rfl rfl rfl (Nat.le_of_ble_eq_true rfl) (by decide) rfl rfl ⟨hC, hS⟩ ?_
  refine aw_iload dL_law_1427 rfl ?_
  refine aw_same (tgt := 1434) dL_law_1429 (by decide) R.1 ?_
  refine aw_iload dL_law_1434 rfl ?_
  refine aw_if_ne (tgt := 1451) dL_law_1436 (by decide) rz (fun hz => ?_) (fun hz => ?_)
  · skip
    refine aw_goto (tgt := 1704) dL_law_1451 (by decide) ?_
    refine aw_weak (L' := [some (Value.ref b), some (rV K 0 0), some (rV K 30 0), some (rV K 45 0), some (iV (i)), none, none]) ⟨Or.inr rfl, Or.inr rfl, Or.inr rfl, Or.inr rfl, Or.inr rfl, Or.inl rfl, Or.inl rfl, trivial⟩ ?_
    exact next _ R.2.2
  · skip
    have ho := R.2.1 hz
    refine aw_aload_n dL_law_1439 rfl rfl ?_
    refine aw_iconst dL_law_1440 ?_
    refine aw_lald (g := 45) (n := 1) rfl (by decide) dL_law_1441 (by decide) (by decide) (fun ro => ?_)
    refine aw_iload dL_law_1442 rfl ?_
    refine aw_i2l (ho ▸ ro) dL_law_1444 ?_
    refine aw_lcmp (tgt := 1451) dL_law_1445 dL_law_1446 (by decide) ho ?_
    refine aw_goto (tgt := 1704) dL_law_1451 (by decide) ?_
    refine aw_weak (L' := [some (Value.ref b), some (rV K 0 0), some (rV K 30 0), some (rV K 45 0), some (iV (i)), none, none]) ⟨Or.inr rfl, Or.inr rfl, Or.inr rfl, Or.inr rfl, Or.inr rfl, Or.inl rfl, Or.inl rfl, trivial⟩ ?_
    exact next _ R.2.2
set_option maxHeartbeats 4000000 in
set_option maxRecDepth 20000 in
theorem law_c23 {K : WPar} {l : Launch} (hst : l.stackTraces = false) {b L0 : Nat} {xs : Nat → Int32} (hL0 : L0 ≤ 2560) {M : Mem} {c : Nat} {i : Int} (i0 : 0 ≤ i) (hi : i + 5 ≤ (L0 : Int)) (hc : (c : Int) ≤ 512) (h : INV M (c : Int)) {C0 S0 : Nat} (hC : C0 + 5 ≤ 601024) (hS : S0 + 30 ≤ 7293034) (next : ∀ M2 : Mem, INV M2 ((c : Int) + 1) → AW K l iL_law (ZL b L0 xs K) 1704 [some (Value.ref b), some (rV K 0 0), some (rV K 30 0), some (rV K 45 0), some (iV (i)), none, none] [] M2 (C0 + 5) (S0 + 30)) : AW K l iL_law (ZL b L0 xs K) 1454 [some (Value.ref b), some (rV K 0 0), some (rV K 30 0), some (rV K 45 0), some (iV (i)), none, none] [] M C0 S0 := by
  refine aw_rng (fun hM => ?_)
  refine aw_aload_n dL_law_1454 rfl rfl ?_
  refine aw_cVi (g := 0) (As := []) (rest := []) (c_X4_takings hst M) cv_X4_takings dL_law_1455 ml_L_177 rfl rfl rfl rfl rfl (Nat.le_of_ble_eq_true rfl) (by decide) rfl rfl ⟨by show C0 ≤ 601024; omega, by show S0 ≤ 7293034; omega⟩ ?_
  refine aw_aload_n dL_law_1458 rfl rfl ?_
  refine aw_cVi (g := 30) (As := []) (rest := [iV (M 0 0 5)]) (c_X5_takings hst M) cv_X5_takings dL_law_1459 ml_L_180 rfl rfl rfl rfl rfl (Nat.le_of_ble_eq_true rfl) (by decide) rfl rfl ⟨by show C0 ≤ 601024; omega, by show S0 ≤ 7293034; omega⟩ ?_
  refine aw_same (tgt := 1704) dL_law_1462 (by decide) (sd_takings h) ?_
  refine aw_wide (a := C0 + 5) (b := S0 + 30) (by omega) (by omega) ?_
  exact next _ (sd_t h)
set_option maxHeartbeats 4000000 in
set_option maxRecDepth 20000 in
theorem law_c24 {K : WPar} {l : Launch} (hst : l.stackTraces = false) {b L0 : Nat} {xs : Nat → Int32} (hL0 : L0 ≤ 2560) {M : Mem} {c : Nat} {i : Int} (i0 : 0 ≤ i) (hi : i + 5 ≤ (L0 : Int)) (hc : (c : Int) ≤ 512) (h : INV M (c : Int)) {C0 S0 : Nat} (hC : C0 + 5 ≤ 601024) (hS : S0 + 30 ≤ 7293034) (next : ∀ M2 : Mem, INV M2 ((c : Int) + 1) → AW K l iL_law (ZL b L0 xs K) 1704 [some (Value.ref b), some (rV K 0 0), some (rV K 30 0), some (rV K 45 0), some (iV (i)), none, none] [] M2 (C0 + 5) (S0 + 30)) : AW K l iL_law (ZL b L0 xs K) 1467 [some (Value.ref b), some (rV K 0 0), some (rV K 30 0), some (rV K 45 0), some (iV (i)), none, none] [] M C0 S0 := by
  refine aw_rng (fun hM => ?_)
  refine aw_aload_n dL_law_1467 rfl rfl ?_
  refine aw_cVi (g := 0) (As := []) (rest := []) (c_X4_now hst M) cv_X4_now dL_law_1468 ml_L_181 rfl rfl rfl rfl rfl (Nat.le_of_ble_eq_true rfl) (by decide) rfl rfl ⟨by show C0 ≤ 601024; omega, by show S0 ≤ 7293034; omega⟩ ?_
  refine aw_aload_n dL_law_1471 rfl rfl ?_
  refine aw_cVi (g := 30) (As := []) (rest := [iV (M 0 0 4)]) (c_X5_now hst M) cv_X5_now dL_law_1472 ml_L_184 rfl rfl rfl rfl rfl (Nat.le_of_ble_eq_true rfl) (by decide) rfl rfl ⟨by show C0 ≤ 601024; omega, by show S0 ≤ 7293034; omega⟩ ?_
  refine aw_same (tgt := 1704) dL_law_1475 (by decide) (sd_now h) ?_
  refine aw_wide (a := C0 + 5) (b := S0 + 30) (by omega) (by omega) ?_
  exact next _ (sd_t h)
set_option maxHeartbeats 4000000 in
set_option maxRecDepth 20000 in
theorem law_c25 {K : WPar} {l : Launch} (hst : l.stackTraces = false) {b L0 : Nat} {xs : Nat → Int32} (hL0 : L0 ≤ 2560) {M : Mem} {c : Nat} {i : Int} (i0 : 0 ≤ i) (hi : i + 5 ≤ (L0 : Int)) (hc : (c : Int) ≤ 512) (h : INV M (c : Int)) {C0 S0 : Nat} (hC : C0 + 5 ≤ 601024) (hS : S0 + 30 ≤ 7293034) (next : ∀ M2 : Mem, INV M2 ((c : Int) + 1) → AW K l iL_law (ZL b L0 xs K) 1704 [some (Value.ref b), some (rV K 0 0), some (rV K 30 0), some (rV K 45 0), some (iV (i)), none, none] [] M2 (C0 + 5) (S0 + 30)) : AW K l iL_law (ZL b L0 xs K) 1480 [some (Value.ref b), some (rV K 0 0), some (rV K 30 0), some (rV K 45 0), some (iV (i)), none, none] [] M C0 S0 := by
  refine aw_rng (fun hM => ?_)
  refine aw_aload_n dL_law_1480 rfl rfl ?_
  refine aw_aload_nb dL_law_1481 rfl rfl ?_
  refine aw_iload dL_law_1482 rfl ?_
  refine aw_iconst dL_law_1484 ?_
  refine aw_iadd dL_law_1485 ?_
  refine aw_sld hL0 (by omega) dL_law_1486 (fun _ => ?_)
  refine aw_aload_n dL_law_1487 rfl rfl ?_
  refine aw_callW (As := [rV K 0 0, iV (sx xs (i + 1)), rV K 45 0]) (rest := []) (c2 := C0 + 5) (s2 := S0 + 30) (c_L_pass hst M (sx xs (i + 1)) (sx_r _ _) h.hw h.bw (h.nowb hc)) cw_L_pass dL_law_1488 ml_L_185 rfl rfl (Nat.le_of_ble_eq_true rfl) (by decide) (Nat.add_le_add_left (by decide) C0) (Nat.add_le_add_left (by decide) S0) ⟨hC, hS⟩ (fun z m hq => ?_)
  have hk : MOD M m := by
    rcases hq with ⟨e1, q1, q2⟩ | ⟨e1, a, y, ⟨q1, q3, q4⟩, q5⟩
    · rw [q2]; exact MOD.rf
    · rw [q5]; refine MOD.o (fun g g1 g2 => ?_); rw [q4]; unfold passM; rw [psS_g (by omega) (by omega) (by omega), updM_g (by omega)]
  refine aw_istore (L2 := [some (Value.ref b), some (rV K 0 0), some (rV K 30 0), some (rV K 45 0), some (iV (i)), some (iV (z)), none]) dL_law_1491 (by decide) rfl ?_
  refine aw_aload_n dL_law_1493 rfl rfl ?_
  refine aw_aload_nb dL_law_1494 rfl rfl ?_
  refine aw_iload dL_law_1495 rfl ?_
  refine aw_iconst dL_law_1497 ?_
  refine aw_iadd dL_law_1498 ?_
  refine aw_sld hL0 (by omega) dL_law_1499 (fun _ => ?_)
  refine aw_cVw (g := 30) (As := [iV (sx xs (i + 1))]) (rest := []) (c_X5_pass hst m (sx xs (i + 1)) (sx_r _ _) (hk.bwm h) (hk.now h hc)) cv_X5_pass dL_law_1500 ml_L_187 rfl rfl rfl rfl rfl (Nat.le_of_ble_eq_true rfl) (by decide) rfl rfl ⟨hC, hS⟩ (fun ans m2 q => ?_)
  have R := sm_pass (z := z) (ans := ans) (m := m) (m2 := m2) (minutes := sx xs (i + 1)) h (by
      rcases hq with q | ⟨e1, a, y, ⟨q1, q3, q4⟩, q5⟩
      · exact (Or.inl q)
      · exact (Or.inr ⟨e1, q1, by rw [q5, q3, q4]⟩)) q
  refine aw_rng (fun hM2 => ?_)
  have rz : inR z := R.1 ▸ hM2 30 0 0
  refine aw_istore (L2 := [some (Value.ref b), some (rV K 0 0), some (rV K 30 0), some (rV K 45 0), some (iV (i)), some (iV (z)), some (iV (ans))]) dL_law_1503 (by decide) rfl ?_
  refine aw_aload_n dL_law_1505 rfl rfl ?_
  refine aw_cVi (g := 30) (As := []) (rest := []) (c_X5_thrown hst m2) cv_X5_thrown dL_law_1506 ml_L_101 rfl rfl rfl rfl rfl (Nat.le_of_ble_eq_true rfl) (by decide) rfl rfl ⟨hC, hS⟩ ?_
  refine aw_iload dL_law_1509 rfl ?_
  refine aw_same (tgt := 1516) dL_law_1511 (by decide) R.1 ?_
  refine aw_iload dL_law_1516 rfl ?_
  refine aw_if_ne (tgt := 1533) dL_law_1518 (by decide) rz (fun hz => ?_) (fun hz => ?_)
  · skip
    refine aw_goto (tgt := 1704) dL_law_1533 (by decide) ?_
    refine aw_weak (L' := [some (Value.ref b), some (rV K 0 0), some (rV K 30 0), some (rV K 45 0), some (iV (i)), none, none]) ⟨Or.inr rfl, Or.inr rfl, Or.inr rfl, Or.inr rfl, Or.inr rfl, Or.inl rfl, Or.inl rfl, trivial⟩ ?_
    exact next _ R.2.2
  · skip
    have ho := R.2.1 hz
    refine aw_aload_n dL_law_1521 rfl rfl ?_
    refine aw_iconst dL_law_1522 ?_
    refine aw_lald (g := 45) (n := 1) rfl (by decide) dL_law_1523 (by decide) (by decide) (fun ro => ?_)
    refine aw_iload dL_law_1524 rfl ?_
    refine aw_i2l (ho ▸ ro) dL_law_1526 ?_
    refine aw_lcmp (tgt := 1533) dL_law_1527 dL_law_1528 (by decide) ho ?_
    refine aw_goto (tgt := 1704) dL_law_1533 (by decide) ?_
    refine aw_weak (L' := [some (Value.ref b), some (rV K 0 0), some (rV K 30 0), some (rV K 45 0), some (iV (i)), none, none]) ⟨Or.inr rfl, Or.inr rfl, Or.inr rfl, Or.inr rfl, Or.inr rfl, Or.inl rfl, Or.inl rfl, trivial⟩ ?_
    exact next _ R.2.2
set_option maxHeartbeats 4000000 in
set_option maxRecDepth 20000 in
theorem law_c26 {K : WPar} {l : Launch} (hst : l.stackTraces = false) {b L0 : Nat} {xs : Nat → Int32} (hL0 : L0 ≤ 2560) {M : Mem} {c : Nat} {i : Int} (i0 : 0 ≤ i) (hi : i + 5 ≤ (L0 : Int)) (hc : (c : Int) ≤ 512) (h : INV M (c : Int)) {C0 S0 : Nat} (hC : C0 + 5 ≤ 601024) (hS : S0 + 30 ≤ 7293034) (next : ∀ M2 : Mem, INV M2 ((c : Int) + 1) → AW K l iL_law (ZL b L0 xs K) 1704 [some (Value.ref b), some (rV K 0 0), some (rV K 30 0), some (rV K 45 0), some (iV (i)), none, none] [] M2 (C0 + 5) (S0 + 30)) : AW K l iL_law (ZL b L0 xs K) 1536 [some (Value.ref b), some (rV K 0 0), some (rV K 30 0), some (rV K 45 0), some (iV (i)), none, none] [] M C0 S0 := by
  refine aw_rng (fun hM => ?_)
  refine aw_aload_n dL_law_1536 rfl rfl ?_
  refine aw_aload_n dL_law_1537 rfl rfl ?_
  refine aw_callW (As := [rV K 0 0, rV K 45 0]) (rest := []) (c2 := C0 + 5) (s2 := S0 + 30) (c_L_nextExpiry hst M h.bw h.en) cw_L_nextExpiry dL_law_1538 ml_L_188 rfl rfl (Nat.le_of_ble_eq_true rfl) (by decide) (Nat.add_le_add_left (by decide) C0) (Nat.add_le_add_left (by decide) S0) ⟨hC, hS⟩ (fun z m hq => ?_)
  have hI : INV m (c : Int) := by
    rcases hq with ⟨e1, q1, q2⟩ | ⟨e1, a, y, ⟨q1, q3, q4⟩, q2⟩
    · rw [q2]; exact h
    · rw [q2, q4]; exact sd_o h
  refine aw_istore (L2 := [some (Value.ref b), some (rV K 0 0), some (rV K 30 0), some (rV K 45 0), some (iV (i)), some (iV (z)), none]) dL_law_1541 (by decide) rfl ?_
  refine aw_aload_n dL_law_1543 rfl rfl ?_
  refine aw_cVw (g := 30) (As := []) (rest := []) (c_X5_nextExpiry hst m hI.bwm hI.enm2) cv_X5_nextExpiry dL_law_1544 ml_L_191 rfl rfl rfl rfl rfl (Nat.le_of_ble_eq_true rfl) (by decide) rfl rfl ⟨hC, hS⟩ (fun ans m2 q => ?_)
  have R := sq_nextExpiry (z := z) (ans := ans) (m2 := m2) hI (by
      rcases hq with ⟨e1, q1, q2⟩ | ⟨e1, a, y, ⟨q1, q3, q4⟩, q2⟩
      · subst q2; exact (Or.inl ⟨e1, q1⟩)
      · subst q4 q2; exact (Or.inr ⟨e1, by rw [updM_same]; exact q1, by rw [updM_same]; exact q3⟩)) q
  refine aw_rng (fun hM2 => ?_)
  have rz : inR z := R.1 ▸ hM2 30 0 0
  refine aw_istore (L2 := [some (Value.ref b), some (rV K 0 0), some (rV K 30 0), some (rV K 45 0), some (iV (i)), some (iV (z)), some (iV (ans))]) dL_law_1547 (by decide) rfl ?_
  refine aw_aload_n dL_law_1549 rfl rfl ?_
  refine aw_cVi (g := 30) (As := []) (rest := []) (c_X5_thrown hst m2) cv_X5_thrown dL_law_1550 ml_L_101 rfl rfl rfl rfl rfl (Nat.le_of_ble_eq_true rfl) (by decide) rfl rfl ⟨hC, hS⟩ ?_
  refine aw_iload dL_law_1553 rfl ?_
  refine aw_same (tgt := 1560) dL_law_1555 (by decide) R.1 ?_
  refine aw_iload dL_law_1560 rfl ?_
  refine aw_if_ne (tgt := 1577) dL_law_1562 (by decide) rz (fun hz => ?_) (fun hz => ?_)
  · skip
    refine aw_goto (tgt := 1704) dL_law_1577 (by decide) ?_
    refine aw_weak (L' := [some (Value.ref b), some (rV K 0 0), some (rV K 30 0), some (rV K 45 0), some (iV (i)), none, none]) ⟨Or.inr rfl, Or.inr rfl, Or.inr rfl, Or.inr rfl, Or.inr rfl, Or.inl rfl, Or.inl rfl, trivial⟩ ?_
    exact next _ R.2.2
  · skip
    have ho := R.2.1 hz
    refine aw_aload_n dL_law_1565 rfl rfl ?_
    refine aw_iconst dL_law_1566 ?_
    refine aw_lald (g := 45) (n := 1) rfl (by decide) dL_law_1567 (by decide) (by decide) (fun ro => ?_)
    refine aw_iload dL_law_1568 rfl ?_
    refine aw_i2l (ho ▸ ro) dL_law_1570 ?_
    refine aw_lcmp (tgt := 1577) dL_law_1571 dL_law_1572 (by decide) ho ?_
    refine aw_goto (tgt := 1704) dL_law_1577 (by decide) ?_
    refine aw_weak (L' := [some (Value.ref b), some (rV K 0 0), some (rV K 30 0), some (rV K 45 0), some (iV (i)), none, none]) ⟨Or.inr rfl, Or.inr rfl, Or.inr rfl, Or.inr rfl, Or.inr rfl, Or.inl rfl, Or.inl rfl, trivial⟩ ?_
    exact next _ R.2.2
set_option maxHeartbeats 4000000 in
set_option maxRecDepth 20000 in
theorem law_c27 {K : WPar} {l : Launch} (hst : l.stackTraces = false) {b L0 : Nat} {xs : Nat → Int32} (hL0 : L0 ≤ 2560) {M : Mem} {c : Nat} {i : Int} (i0 : 0 ≤ i) (hi : i + 5 ≤ (L0 : Int)) (hc : (c : Int) ≤ 512) (h : INV M (c : Int)) {C0 S0 : Nat} (hC : C0 + 5 ≤ 601024) (hS : S0 + 30 ≤ 7293034) (next : ∀ M2 : Mem, INV M2 ((c : Int) + 1) → AW K l iL_law (ZL b L0 xs K) 1704 [some (Value.ref b), some (rV K 0 0), some (rV K 30 0), some (rV K 45 0), some (iV (i)), none, none] [] M2 (C0 + 5) (S0 + 30)) : AW K l iL_law (ZL b L0 xs K) 1580 [some (Value.ref b), some (rV K 0 0), some (rV K 30 0), some (rV K 45 0), some (iV (i)), none, none] [] M C0 S0 := by
  refine aw_rng (fun hM => ?_)
  refine aw_aload_n dL_law_1580 rfl rfl ?_
  refine aw_aload_nb dL_law_1581 rfl rfl ?_
  refine aw_iload dL_law_1582 rfl ?_
  refine aw_iconst dL_law_1584 ?_
  refine aw_iadd dL_law_1585 ?_
  refine aw_sld hL0 (by omega) dL_law_1586 (fun _ => ?_)
  refine aw_aload_nb dL_law_1587 rfl rfl ?_
  refine aw_iload dL_law_1588 rfl ?_
  refine aw_iconst dL_law_1590 ?_
  refine aw_iadd dL_law_1591 ?_
  refine aw_sld hL0 (by omega) dL_law_1592 (fun _ => ?_)
  refine aw_aload_n dL_law_1593 rfl rfl ?_
  refine aw_callW (As := [rV K 0 0, iV (sx xs (i + 1)), iV (sx xs (i + 2)), rV K 45 0]) (rest := []) (c2 := C0 + 5) (s2 := S0 + 30) (c_L_wish hst M (sx xs (i + 1)) (sx xs (i + 2)) (sx_r _ _) (sx_r _ _) h.hw h.bw) cw_L_wish dL_law_1594 ml_L_192 rfl rfl (Nat.le_of_ble_eq_true rfl) (by decide) (Nat.add_le_add_left (by decide) C0) (Nat.add_le_add_left (by decide) S0) ⟨hC, hS⟩ (fun z m hq => ?_)
  have hk : MOD M m := by
    rcases hq with ⟨e1, q1, q2⟩ | ⟨e1, q1, q2⟩ | ⟨e1, a, y, ⟨q1, q2, q3, q4⟩, q5⟩
    · rw [q2]; exact MOD.rf
    · rw [q2]; exact MOD.rf
    · rw [q5]; refine MOD.o (fun g g1 g2 => ?_); rw [q4, updM_g (by omega)]
  refine aw_istore (L2 := [some (Value.ref b), some (rV K 0 0), some (rV K 30 0), some (rV K 45 0), some (iV (i)), some (iV (z)), none]) dL_law_1597 (by decide) rfl ?_
  refine aw_aload_n dL_law_1599 rfl rfl ?_
  refine aw_aload_nb dL_law_1600 rfl rfl ?_
  refine aw_iload dL_law_1601 rfl ?_
  refine aw_iconst dL_law_1603 ?_
  refine aw_iadd dL_law_1604 ?_
  refine aw_sld hL0 (by omega) dL_law_1605 (fun _ => ?_)
  refine aw_aload_nb dL_law_1606 rfl rfl ?_
  refine aw_iload dL_law_1607 rfl ?_
  refine aw_iconst dL_law_1609 ?_
  refine aw_iadd dL_law_1610 ?_
  refine aw_sld hL0 (by omega) dL_law_1611 (fun _ => ?_)
  refine aw_cVw (g := 30) (As := [iV (sx xs (i + 1)), iV (sx xs (i + 2))]) (rest := []) (c_X5_wish hst m (sx xs (i + 1)) (sx xs (i + 2)) (sx_r _ _) (sx_r _ _) (hk.hwm h) (hk.bwm h) (hk.ex h _)) cv_X5_wish dL_law_1612 ml_L_194 rfl rfl rfl rfl rfl (Nat.le_of_ble_eq_true rfl) (by decide) rfl rfl ⟨hC, hS⟩ (fun ans m2 q => ?_)
  have R := sm_wish (z := z) (ans := ans) (m := m) (m2 := m2) (ticket := sx xs (i + 1)) (row := sx xs (i + 2)) h (by
      rcases hq with q | q | ⟨e1, a, y, ⟨q1, q2, q3, q4⟩, q5⟩
      · exact (Or.inl q)
      · exact (Or.inr (Or.inl q))
      · exact (Or.inr (Or.inr ⟨e1, ⟨q1, q2⟩, by rw [q5, q3, q4]⟩))) q
  refine aw_rng (fun hM2 => ?_)
  have rz : inR z := R.1 ▸ hM2 30 0 0
  refine aw_istore (L2 := [some (Value.ref b), some (rV K 0 0), some (rV K 30 0), some (rV K 45 0), some (iV (i)), some (iV (z)), some (iV (ans))]) dL_law_1615 (by decide) rfl ?_
  refine aw_aload_n dL_law_1617 rfl rfl ?_
  refine aw_cVi (g := 30) (As := []) (rest := []) (c_X5_thrown hst m2) cv_X5_thrown dL_law_1618 ml_L_101 rfl rfl rfl rfl rfl (Nat.le_of_ble_eq_true rfl) (by decide) rfl rfl ⟨hC, hS⟩ ?_
  refine aw_iload dL_law_1621 rfl ?_
  refine aw_same (tgt := 1628) dL_law_1623 (by decide) R.1 ?_
  refine aw_iload dL_law_1628 rfl ?_
  refine aw_if_ne (tgt := 1645) dL_law_1630 (by decide) rz (fun hz => ?_) (fun hz => ?_)
  · skip
    refine aw_goto (tgt := 1704) dL_law_1645 (by decide) ?_
    refine aw_weak (L' := [some (Value.ref b), some (rV K 0 0), some (rV K 30 0), some (rV K 45 0), some (iV (i)), none, none]) ⟨Or.inr rfl, Or.inr rfl, Or.inr rfl, Or.inr rfl, Or.inr rfl, Or.inl rfl, Or.inl rfl, trivial⟩ ?_
    exact next _ R.2.2
  · skip
    have ho := R.2.1 hz
    refine aw_aload_n dL_law_1633 rfl rfl ?_
    refine aw_iconst dL_law_1634 ?_
    refine aw_lald (g := 45) (n := 1) rfl (by decide) dL_law_1635 (by decide) (by decide) (fun ro => ?_)
    refine aw_iload dL_law_1636 rfl ?_
    refine aw_i2l (ho ▸ ro) dL_law_1638 ?_
    refine aw_lcmp (tgt := 1645) dL_law_1639 dL_law_1640 (by decide) ho ?_
    refine aw_goto (tgt := 1704) dL_law_1645 (by decide) ?_
    refine aw_weak (L' := [some (Value.ref b), some (rV K 0 0), some (rV K 30 0), some (rV K 45 0), some (iV (i)), none, none]) ⟨Or.inr rfl, Or.inr rfl, Or.inr rfl, Or.inr rfl, Or.inr rfl, Or.inl rfl, Or.inl rfl, trivial⟩ ?_
    exact next _ R.2.2
set_option maxHeartbeats 4000000 in
set_option maxRecDepth 20000 in
theorem law_c28 {K : WPar} {l : Launch} (hst : l.stackTraces = false) {b L0 : Nat} {xs : Nat → Int32} (hL0 : L0 ≤ 2560) {M : Mem} {c : Nat} {i : Int} (i0 : 0 ≤ i) (hi : i + 5 ≤ (L0 : Int)) (hc : (c : Int) ≤ 512) (h : INV M (c : Int)) {C0 S0 : Nat} (hC : C0 + 5 ≤ 601024) (hS : S0 + 30 ≤ 7293034) (next : ∀ M2 : Mem, INV M2 ((c : Int) + 1) → AW K l iL_law (ZL b L0 xs K) 1704 [some (Value.ref b), some (rV K 0 0), some (rV K 30 0), some (rV K 45 0), some (iV (i)), none, none] [] M2 (C0 + 5) (S0 + 30)) : AW K l iL_law (ZL b L0 xs K) 1648 [some (Value.ref b), some (rV K 0 0), some (rV K 30 0), some (rV K 45 0), some (iV (i)), none, none] [] M C0 S0 := by
  refine aw_rng (fun hM => ?_)
  refine aw_aload_n dL_law_1648 rfl rfl ?_
  refine aw_aload_nb dL_law_1649 rfl rfl ?_
  refine aw_iload dL_law_1650 rfl ?_
  refine aw_iconst dL_law_1652 ?_
  refine aw_iadd dL_law_1653 ?_
  refine aw_sld hL0 (by omega) dL_law_1654 (fun _ => ?_)
  refine aw_aload_n dL_law_1655 rfl rfl ?_
  refine aw_callW (As := [rV K 0 0, iV (sx xs (i + 1)), rV K 45 0]) (rest := []) (c2 := C0 + 5) (s2 := S0 + 30) (c_L_exchange hst M (sx xs (i + 1)) (sx_r _ _) h.hw h.bw h.xw h.vpl) cw_L_exchange dL_law_1656 ml_L_195 rfl rfl (Nat.le_of_ble_eq_true rfl) (by decide) (Nat.add_le_add_left (by decide) C0) (Nat.add_le_add_left (by decide) S0) ⟨hC, hS⟩ (fun z m hq => ?_)
  have hk : MOD M m := by
    rcases hq with ⟨e1, q1, q2⟩ | ⟨e1, q1, q2⟩ | ⟨e1, a, y, ⟨q1, q2, m1, q6, q7, q3, q4⟩, q5⟩
    · rw [q2]; exact MOD.rf
    · exact fun g g1 g2 => q2 g (by omega) (by omega) (by omega)
    · rw [q5]; refine MOD.o (fun g g1 g2 => ?_); rw [q4]; unfold exM; split <;> rw [mvM_g (by omega) (by omega) (by omega) (by omega), chS_g (by omega) (by omega) (by omega) (by omega)] <;> exact q6 g (by omega) (by omega) (by omega)
  refine aw_istore (L2 := [some (Value.ref b), some (rV K 0 0), some (rV K 30 0), some (rV K 45 0), some (iV (i)), some (iV (z)), none]) dL_law_1659 (by decide) rfl ?_
  refine aw_aload_n dL_law_1661 rfl rfl ?_
  refine aw_aload_nb dL_law_1662 rfl rfl ?_
  refine aw_iload dL_law_1663 rfl ?_
  refine aw_iconst dL_law_1665 ?_
  refine aw_iadd dL_law_1666 ?_
  refine aw_sld hL0 (by omega) dL_law_1667 (fun _ => ?_)
  refine aw_cVw (g := 30) (As := [iV (sx xs (i + 1))]) (rest := []) (c_X5_exchange hst m (sx xs (i + 1)) (sx_r _ _) (hk.hwm h) (hk.bwm h) (hk.wim h) (hk.mz h)) cv_X5_exchange dL_law_1668 ml_L_197 rfl rfl rfl rfl rfl (Nat.le_of_ble_eq_true rfl) (by decide) rfl rfl ⟨hC, hS⟩ (fun ans m2 q => ?_)
  have R := sm_exchange (z := z) (ans := ans) (m := m) (m2 := m2) (ticket := sx xs (i + 1)) h (by
      rcases hq with q | q | ⟨e1, a, y, ⟨q1, q2, m1, q6, q7, q3, q4⟩, q5⟩
      · exact (Or.inl q)
      · exact (Or.inr (Or.inl q))
      · exact (Or.inr (Or.inr ⟨e1, ⟨q1, q2⟩, m1, q6, q7, by rw [q5, q3, q4]⟩))) q
  refine aw_rng (fun hM2 => ?_)
  have rz : inR z := R.1 ▸ hM2 30 0 0
  refine aw_istore (L2 := [some (Value.ref b), some (rV K 0 0), some (rV K 30 0), some (rV K 45 0), some (iV (i)), some (iV (z)), some (iV (ans))]) dL_law_1671 (by decide) rfl ?_
  refine aw_aload_n dL_law_1673 rfl rfl ?_
  refine aw_cVi (g := 30) (As := []) (rest := []) (c_X5_thrown hst m2) cv_X5_thrown dL_law_1674 ml_L_101 rfl rfl rfl rfl rfl (Nat.le_of_ble_eq_true rfl) (by decide) rfl rfl ⟨hC, hS⟩ ?_
  refine aw_iload dL_law_1677 rfl ?_
  refine aw_same (tgt := 1684) dL_law_1679 (by decide) R.1 ?_
  refine aw_iload dL_law_1684 rfl ?_
  refine aw_if_ne (tgt := 1701) dL_law_1686 (by decide) rz (fun hz => ?_) (fun hz => ?_)
  · skip
    refine aw_goto (tgt := 1704) dL_law_1701 (by decide) ?_
    refine aw_weak (L' := [some (Value.ref b), some (rV K 0 0), some (rV K 30 0), some (rV K 45 0), some (iV (i)), none, none]) ⟨Or.inr rfl, Or.inr rfl, Or.inr rfl, Or.inr rfl, Or.inr rfl, Or.inl rfl, Or.inl rfl, trivial⟩ ?_
    exact next _ R.2.2
  · skip
    have ho := R.2.1 hz
    refine aw_aload_n dL_law_1689 rfl rfl ?_
    refine aw_iconst dL_law_1690 ?_
    refine aw_lald (g := 45) (n := 1) rfl (by decide) dL_law_1691 (by decide) (by decide) (fun ro => ?_)
    refine aw_iload dL_law_1692 rfl ?_
    refine aw_i2l (ho ▸ ro) dL_law_1694 ?_
    refine aw_lcmp (tgt := 1701) dL_law_1695 dL_law_1696 (by decide) ho ?_
    refine aw_goto (tgt := 1704) dL_law_1701 (by decide) ?_
    refine aw_weak (L' := [some (Value.ref b), some (rV K 0 0), some (rV K 30 0), some (rV K 45 0), some (iV (i)), none, none]) ⟨Or.inr rfl, Or.inr rfl, Or.inr rfl, Or.inr rfl, Or.inr rfl, Or.inl rfl, Or.inl rfl, trivial⟩ ?_
    exact next _ R.2.2
set_option maxHeartbeats 4000000 in
set_option maxRecDepth 20000 in
theorem law_loop {K : WPar} {l : Launch} (hst : l.stackTraces = false) {b L0 : Nat} {xs : Nat → Int32} (hL0 : L0 ≤ 2560) : ∀ (n : Nat) (c : Nat) (M : Mem), c + n = 512 → INV M (c : Int) → AW K l iL_law (ZL b L0 xs K) 23 [some (Value.ref b), some (rV K 0 0), some (rV K 30 0), some (rV K 45 0), some (iV (5 * (c : Int))), none, none] [] M (1000 + 5 * c) (40000 + 30 * c) := by
  intro n
  induction n with
  | zero =>
    intro c M hn h
    refine aw_iload dL_law_23 rfl ?_
    refine aw_aload_nb dL_law_25 rfl rfl ?_
    refine aw_slen hL0 dL_law_26 ?_
    refine aw_iconst dL_law_27 ?_
    refine aw_isub dL_law_28 ?_
    refine aw_icmp_gt (tgt := 1710) dL_law_29 (by decide) (by omega) (by omega) (fun hg => ?_) (fun hg => absurd (show (L0 : Int) - 5 < 5 * (c : Int) by omega) hg)
    refine aw_iconst dL_law_1710 ?_
    exact aw_lend dL_law_1711 (by omega) (by omega)
  | succ n ih =>
    intro c M hn h
    refine aw_iload dL_law_23 rfl ?_
    refine aw_aload_nb dL_law_25 rfl rfl ?_
    refine aw_slen hL0 dL_law_26 ?_
    refine aw_iconst dL_law_27 ?_
    refine aw_isub dL_law_28 ?_
    refine aw_icmp_gt (tgt := 1710) dL_law_29 (by decide) (by omega) (by omega) (fun hg => ?_) (fun hg => ?_)
    · refine aw_iconst dL_law_1710 ?_
      exact aw_lend dL_law_1711 (by omega) (by omega)
    · have hi : 5 * (c : Int) + 5 ≤ (L0 : Int) := by omega
      have hcc : (c : Int) ≤ 512 := by omega
      have hC : (1000 + 5 * c) + 5 ≤ 601024 := by omega
      have hS : (40000 + 30 * c) + 30 ≤ 7293034 := by omega
      have next : ∀ M2 : Mem, INV M2 ((c : Int) + 1) → AW K l iL_law (ZL b L0 xs K) 1704 [some (Value.ref b), some (rV K 0 0), some (rV K 30 0), some (rV K 45 0), some (iV (5 * (c : Int))), none, none] [] M2 ((1000 + 5 * c) + 5) ((40000 + 30 * c) + 30) := fun M2 h2 => by
        refine aw_iinc (L2 := [some (Value.ref b), some (rV K 0 0), some (rV K 30 0), some (rV K 45 0), some (iV (5 * (c : Int) + 5)), none, none]) dL_law_1704 rfl (by decide) rfl ?_
        refine aw_goto (tgt := 23) dL_law_1707 (by decide) ?_
        have k := ih (c + 1) M2 (by omega) (by rw [show ((c + 1 : Nat) : Int) = (c : Int) + 1 by omega]; exact h2)
        rw [show 5 * ((c + 1 : Nat) : Int) = 5 * (c : Int) + 5 by omega, show 1000 + 5 * (c + 1) = (1000 + 5 * c) + 5 by omega, show 40000 + 30 * (c + 1) = (40000 + 30 * c) + 30 by omega] at k
        exact k
      refine aw_aload_nb dL_law_32 rfl rfl ?_
      refine aw_iload dL_law_33 rfl ?_
      refine aw_sld hL0 (by omega) dL_law_35 (fun rs => ?_)
      refine aw_bipush dL_law_36 rfl ?_
      refine aw_iand31 rs dL_law_38 (fun w w0 w1 => ?_)
      refine aw_switch2 (N := 29) (tgt := 1704) lawT dL_law_39 rfl (by decide) w0 (by omega) (fun n hn29 hw => ?_) (by decide) (fun _ => ?_)
      · have i0 : 0 ≤ 5 * (c : Int) := by omega
        have hn2 : n = 0 ∨ n = 1 ∨ n = 2 ∨ n = 3 ∨ n = 4 ∨ n = 5 ∨ n = 6 ∨ n = 7 ∨ n = 8 ∨ n = 9 ∨ n = 10 ∨ n = 11 ∨ n = 12 ∨ n = 13 ∨ n = 14 ∨ n = 15 ∨ n = 16 ∨ n = 17 ∨ n = 18 ∨ n = 19 ∨ n = 20 ∨ n = 21 ∨ n = 22 ∨ n = 23 ∨ n = 24 ∨ n = 25 ∨ n = 26 ∨ n = 27 ∨ n = 28 := by omega
        rcases hn2 with rfl | rfl | rfl | rfl | rfl | rfl | rfl | rfl | rfl | rfl | rfl | rfl | rfl | rfl | rfl | rfl | rfl | rfl | rfl | rfl | rfl | rfl | rfl | rfl | rfl | rfl | rfl | rfl | rfl
        · exact law_c0 hst hL0 i0 hi hcc h hC hS next
        · exact law_c1 hst hL0 i0 hi hcc h hC hS next
        · exact law_c2 hst hL0 i0 hi hcc h hC hS next
        · exact law_c3 hst hL0 i0 hi hcc h hC hS next
        · exact law_c4 hst hL0 i0 hi hcc h hC hS next
        · exact law_c5 hst hL0 i0 hi hcc h hC hS next
        · exact law_c6 hst hL0 i0 hi hcc h hC hS next
        · exact law_c7 hst hL0 i0 hi hcc h hC hS next
        · exact law_c8 hst hL0 i0 hi hcc h hC hS next
        · exact law_c9 hst hL0 i0 hi hcc h hC hS next
        · exact law_c10 hst hL0 i0 hi hcc h hC hS next
        · exact law_c11 hst hL0 i0 hi hcc h hC hS next
        · exact law_c12 hst hL0 i0 hi hcc h hC hS next
        · exact law_c13 hst hL0 i0 hi hcc h hC hS next
        · exact law_c14 hst hL0 i0 hi hcc h hC hS next
        · exact law_c15 hst hL0 i0 hi hcc h hC hS next
        · exact law_c16 hst hL0 i0 hi hcc h hC hS next
        · exact law_c17 hst hL0 i0 hi hcc h hC hS next
        · exact law_c18 hst hL0 i0 hi hcc h hC hS next
        · exact law_c19 hst hL0 i0 hi hcc h hC hS next
        · exact law_c20 hst hL0 i0 hi hcc h hC hS next
        · exact law_c21 hst hL0 i0 hi hcc h hC hS next
        · exact law_c22 hst hL0 i0 hi hcc h hC hS next
        · exact law_c23 hst hL0 i0 hi hcc h hC hS next
        · exact law_c24 hst hL0 i0 hi hcc h hC hS next
        · exact law_c25 hst hL0 i0 hi hcc h hC hS next
        · exact law_c26 hst hL0 i0 hi hcc h hC hS next
        · exact law_c27 hst hL0 i0 hi hcc h hC hS next
        · exact law_c28 hst hL0 i0 hi hcc h hC hS next
      · refine aw_wide (a := (1000 + 5 * c) + 5) (b := (40000 + 30 * c) + 30) (by omega) (by omega) ?_
        exact next M (INV_up h)
