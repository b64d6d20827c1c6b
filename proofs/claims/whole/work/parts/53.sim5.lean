theorem sd_rows {M : Mem} {c : Int} (h : INV M c) : M 1 0 4 = M 30 0 3 := h.row.1.symm
theorem sd_tickets {M : Mem} {c : Int} (h : INV M c) : M 7 0 8 = M 30 0 8 := h.2.1.2.1.symm
theorem sd_takings {M : Mem} {c : Int} (h : INV M c) : M 0 0 5 = M 30 0 2 := h.2.2.2.2.2.2.1
theorem sd_now {M : Mem} {c : Int} (h : INV M c) : M 0 0 4 = M 30 0 1 := h.2.2.2.2.1
theorem sd_orphans {M : Mem} {c : Int} (h : INV M c) : sumI (fun r => sumI (orC (M 2 0 r) (M 6 r)) (M 2 0 r)) (M 1 0 4) = sumI (fun r => sumI (orC (M 31 0 r) (oMd M r)) (M 31 0 r)) (M 30 0 3) := by
  rw [h.row.1]
  refine sumI_cg (fun r r0 r1 => ?_)
  have er := (h.row.2 r r0 r1).1
  rw [er]
  refine sumI_cg (fun s s0 s1 => ?_)
  have fe : ∀ x : Int, fr (M 2 0 r) (M 6 r) x ↔ fr (M 2 0 r) (oMd M r) x := fun x => by
    unfold fr
    constructor
    · intro ⟨a, b, d⟩; exact ⟨a, b, by rw [h.own r0 r1 a b]; exact d⟩
    · intro ⟨a, b, d⟩; exact ⟨a, b, by rw [← h.own r0 r1 a b]; exact d⟩
  have f1 := fe s
  have f2 := fe (s - 1)
  have f3 := fe (s + 1)
  unfold orC
  by_cases q : fr (M 2 0 r) (M 6 r) s ∧ ¬ fr (M 2 0 r) (M 6 r) (s - 1) ∧ ¬ fr (M 2 0 r) (M 6 r) (s + 1)
  · rw [if_pos q, if_pos ⟨f1.mp q.1, fun x => q.2.1 (f2.mpr x), fun x => q.2.2 (f3.mpr x)⟩]
  · rw [if_neg q, if_neg (fun x => q ⟨f1.mpr x.1, fun y => x.2.1 (f2.mp y), fun y => x.2.2 (f3.mp y)⟩)]
theorem sd_longestBlock {M : Mem} {c y z : Int} (h : INV M c) (a : isLongR (M 1 0 4) (M 2 0) (M 6) y) (b : isLongR (M 30 0 3) (M 31 0) (oMd M) z) : y = z := by
  rw [h.row.1] at b
  exact isLongR_u (fun r r0 r1 => (h.row.2 r r0 r1).1.symm) (fun r s r0 r1 s0 s1 => by rw [h.own r0 r1 s0 s1]) a b
/-- what a call to the reference that only tells leaves -/
theorem sd_t {M : Mem} {c k : Int} (h : INV M c) : INV (thr M k) (c + 1) := INV_up (INV_same (SAME_t k) h)
/-- the law may change its out -/
theorem sd_o {M : Mem} {c v : Int} (h : INV M c) : INV (updM M 45 0 0 v) c := INV_same (SAME_u (by decide)) h
/-- at the beginning all is 0 -/
theorem INV_0 {M : Mem} (hM : ∀ g i j, M g i j = 0) : INV M 0 := by
  have n := hM 1 0 4
  have T := hM 7 0 8
  refine ⟨⟨⟨by omega, by omega, fun r r0 r1 => by omega⟩, by rw [n, hM], fun r r0 r1 => by omega, fun r r0 r1 => by rw [hM]; decide⟩, ⟨⟨by omega, by omega⟩, by rw [T, hM], fun t t1 t2 => by omega, fun t t1 t2 => ⟨hM _ _ _, hM _ _ _⟩⟩, fun a a0 a1 => ⟨by rw [hM, hM], fun _ => hM _ _ _, Or.inl (hM _ _ _)⟩, fun t t1 t2 => by omega, by rw [hM, hM], by rw [hM]; decide, by rw [hM, hM], by rw [hM]; decide⟩
