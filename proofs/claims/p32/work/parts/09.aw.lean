/-! THE ABSTRACT WALK: one memory of whole numbers over a fixed graph of objects; a row an instruction, over states (place, locals, stack, memory) -/
abbrev Mem : Type := Nat → Int → Int → Int
abbrev WPar : Type := va_G × (ClassId × ClassId × ClassId) × (Nat → Int → Nat) × Nat
abbrev MInfo : Type := MethodName × ByteArray × Nat × Option FieldType × (Nat × Nat) × (Nat × Nat) × List (Nat × Nat × Nat × Nat)
abbrev OutT : Type := Option Int ⊕ String
abbrev ZT : Type := (State → Array Value → Prop) × (List Frame → Array Value → State → State → Prop)
abbrev inR (z : Int) : Prop := -2147483648 ≤ z ∧ z ≤ 2147483647
def iV (z : Int) : Value := .int (Int32.ofInt z)
def kad (K : WPar) (g : Nat) (i : Int) : Nat := K.2.2.1 g i
def rV (K : WPar) (g : Nat) (i : Int) : Value := .ref (kad K g i)
def kF (K : WPar) : Nat → Prop := fun q => K.2.2.2 ≤ q
def ktys (K : WPar) : List (ClassId × FieldType) := [(K.2.1.1, .int), (K.2.1.2.1, .int), (K.2.1.2.2, .array .int)]
/-- the kinds of the objects: (0, class, _, its fields: a number or a reference), (1, length) ints, (2, length, rows) rows of ints, (3, length) longs -/
def gk (g : Nat) : Nat × Nat × Nat × List (Option Nat) := match g with
  | 0 => (0, 4, 0, [some 1, some 7, some 16, some 27, none, none])
  | 1 => (0, 2, 0, [some 2, some 3, some 4, some 5, none])
  | 2 => (1, 12, 0, [])
  | 3 => (1, 12, 0, [])
  | 4 => (1, 12, 0, [])
  | 5 => (2, 12, 6, [])
  | 6 => (1, 20, 0, [])
  | 7 => (0, 3, 0, [some 8, some 9, some 10, some 11, some 12, some 13, some 14, some 15, none])
  | 8 => (1, 101, 0, [])
  | 9 => (1, 101, 0, [])
  | 10 => (1, 101, 0, [])
  | 11 => (1, 101, 0, [])
  | 12 => (1, 101, 0, [])
  | 13 => (1, 101, 0, [])
  | 14 => (1, 101, 0, [])
  | 15 => (1, 101, 0, [])
  | 16 => (0, 1, 0, [some 1, some 17, some 18, some 20, some 22, some 24, some 26, none])
  | 17 => (1, 12, 0, [])
  | 18 => (2, 12, 19, [])
  | 19 => (1, 21, 0, [])
  | 20 => (2, 12, 21, [])
  | 21 => (1, 21, 0, [])
  | 22 => (2, 13, 23, [])
  | 23 => (1, 101, 0, [])
  | 24 => (2, 13, 25, [])
  | 25 => (1, 101, 0, [])
  | 26 => (1, 12, 0, [])
  | 27 => (0, 0, 0, [some 1, some 7, some 28, some 29, none, none])
  | 28 => (1, 12, 0, [])
  | 29 => (1, 13, 0, [])
  | 30 => (0, 4, 0, [some 31, some 37, some 46, some 57, none, none])
  | 31 => (0, 2, 0, [some 32, some 33, some 34, some 35, none])
  | 32 => (1, 12, 0, [])
  | 33 => (1, 12, 0, [])
  | 34 => (1, 12, 0, [])
  | 35 => (2, 12, 36, [])
  | 36 => (1, 20, 0, [])
  | 37 => (0, 3, 0, [some 38, some 39, some 40, some 41, some 42, some 43, some 44, some 45, none])
  | 38 => (1, 101, 0, [])
  | 39 => (1, 101, 0, [])
  | 40 => (1, 101, 0, [])
  | 41 => (1, 101, 0, [])
  | 42 => (1, 101, 0, [])
  | 43 => (1, 101, 0, [])
  | 44 => (1, 101, 0, [])
  | 45 => (1, 101, 0, [])
  | 46 => (0, 1, 0, [some 31, some 47, some 48, some 50, some 52, some 54, some 56, none])
  | 47 => (1, 12, 0, [])
  | 48 => (2, 12, 49, [])
  | 49 => (1, 21, 0, [])
  | 50 => (2, 12, 51, [])
  | 51 => (1, 21, 0, [])
  | 52 => (2, 13, 53, [])
  | 53 => (1, 101, 0, [])
  | 54 => (2, 13, 55, [])
  | 55 => (1, 101, 0, [])
  | 56 => (1, 12, 0, [])
  | 57 => (0, 0, 0, [some 31, some 37, some 58, some 59, none, none])
  | 58 => (1, 12, 0, [])
  | 59 => (1, 13, 0, [])
  | _ => (4, 0, 0, [])
/-- how many objects of a kind there are -/
def gcnt (g : Nat) : Int := match g with
  | 6 => 12
  | 19 => 12
  | 21 => 12
  | 23 => 13
  | 25 => 13
  | 36 => 12
  | 49 => 12
  | 51 => 12
  | 53 => 13
  | 55 => 13
  | n => if n ≤ 59 then 1 else 0
def fvals (K : WPar) (f : Int → Int) : List (Option Nat) → Nat → List Value
  | [], _ => []
  | none :: r, k => iV (f (k : Int)) :: fvals K f r (k + 1)
  | some b :: r, k => rV K b 0 :: fvals K f r (k + 1)
theorem fvals_len (K : WPar) (f : Int → Int) : ∀ (fs : List (Option Nat)) (b : Nat), (fvals K f fs b).length = fs.length
  | [], _ => rfl
  | none :: r, b => by simp [fvals, fvals_len K f r]
  | some _ :: r, b => by simp [fvals, fvals_len K f r]
theorem fvals_int (K : WPar) (f : Int → Int) : ∀ (fs : List (Option Nat)) (b k : Nat), fs[k]? = some none → (fvals K f fs b)[k]? = some (iV (f ((b + k : Nat) : Int)))
  | [], _, _, h => by simp at h
  | none :: r, b, 0, _ => by simp [fvals]
  | some _ :: r, b, 0, h => by simp at h
  | none :: r, b, k + 1, h => by
    have := fvals_int K f r (b + 1) k (by simpa using h)
    simp only [fvals, List.getElem?_cons_succ]
    rw [this, show b + 1 + k = b + (k + 1) by omega]
  | some _ :: r, b, k + 1, h => by
    have := fvals_int K f r (b + 1) k (by simpa using h)
    simp only [fvals, List.getElem?_cons_succ]
    rw [this, show b + 1 + k = b + (k + 1) by omega]
theorem fvals_ref (K : WPar) (f : Int → Int) (q : Nat) : ∀ (fs : List (Option Nat)) (b k : Nat), fs[k]? = some (some q) → (fvals K f fs b)[k]? = some (rV K q 0)
  | [], _, _, h => by simp at h
  | none :: r, b, 0, h => by simp at h
  | some _ :: r, b, 0, h => by
    simp at h
    subst h
    simp [fvals]
  | none :: r, b, k + 1, h => by
    have := fvals_ref K f q r (b + 1) k (by simpa using h)
    simpa [fvals] using this
  | some _ :: r, b, k + 1, h => by
    have := fvals_ref K f q r (b + 1) k (by simpa using h)
    simpa [fvals] using this
def cellK (K : WPar) (y : Nat × Nat × Nat × List (Option Nat)) (f : Int → Int) : va_E :=
  match y with
  | (0, ci, _, fs) => .inr (ci, fvals K f fs 0)
  | (1, n, _, _) => .inl (K.2.1.1, n, .inl (fun j => Int32.ofInt (f (j : Int))))
  | (2, n, sub, _) => .inl (K.2.1.2.2, n, .inr (.inr (.inr (.inr (fun j => if j < n then some (kad K sub (j : Int)) else none)))))
  | (_, n, _, _) => .inl (K.2.1.2.1, n, .inr (.inl (fun j => Int64.ofInt (f (j : Int)))))
def cellOf (K : WPar) (M : Mem) (g : Nat) (i : Int) : va_E := cellK K (gk g) (M g i)
theorem cellOf_obj {K : WPar} {M : Mem} {g : Nat} {i : Int} {ci : Nat} {x : Nat} {fs : List (Option Nat)} (h : gk g = (0, ci, x, fs)) : cellOf K M g i = .inr (ci, fvals K (M g i) fs 0) := by
  unfold cellOf; rw [h]; rfl
theorem cellOf_ints {K : WPar} {M : Mem} {g : Nat} {i : Int} {n x : Nat} {fs : List (Option Nat)} (h : gk g = (1, n, x, fs)) : cellOf K M g i = .inl (K.2.1.1, n, .inl (fun j => Int32.ofInt (M g i (j : Int)))) := by
  unfold cellOf; rw [h]; rfl
theorem cellOf_rows {K : WPar} {M : Mem} {g : Nat} {i : Int} {n x : Nat} {fs : List (Option Nat)} (h : gk g = (2, n, x, fs)) : cellOf K M g i = .inl (K.2.1.2.2, n, .inr (.inr (.inr (.inr (fun j => if j < n then some (kad K x (j : Int)) else none))))) := by
  unfold cellOf; rw [h]; rfl
theorem cellOf_longs {K : WPar} {M : Mem} {g : Nat} {i : Int} {n x : Nat} {fs : List (Option Nat)} (h : gk g = (3, n, x, fs)) : cellOf K M g i = .inl (K.2.1.2.1, n, .inr (.inl (fun j => Int64.ofInt (M g i (j : Int))))) := by
  unfold cellOf; rw [h]; rfl
/-- the heap holds the memory M -/
def WD (K : WPar) (M : Mem) (H : Heap) : Prop := (∀ g i j, inR (M g i j)) ∧ ∀ (g : Nat) (i : Int), 0 ≤ i → i < gcnt g → va_at K.1 vwCl (kad K g i, cellOf K M g i) H
/-- the objects are apart, and none is older than the law -/
def ADK (K : WPar) : Prop := (∀ (g : Nat) (i : Int) (g' : Nat) (i' : Int), 0 ≤ i → i < gcnt g → 0 ≤ i' → i' < gcnt g' → kad K g i = kad K g' i' → g = g' ∧ i = i') ∧ ∀ (g : Nat) (i : Int), 0 ≤ i → i < gcnt g → kF K (kad K g i)
def updM (M : Mem) (g : Nat) (i j v : Int) : Mem := fun g' i' j' => if g' = g ∧ i' = i ∧ j' = j then v else M g' i' j'
theorem updM_g {M : Mem} {g g' : Nat} {i j v : Int} (h : g' ≠ g) : updM M g i j v g' = M g' := by
  funext i' j'
  simp [updM, h]
theorem updM_i {M : Mem} {g : Nat} {i j v i' : Int} (h : i' ≠ i) : updM M g i j v g i' = M g i' := by
  funext j'
  simp [updM, h]
theorem updM_same {M : Mem} {g : Nat} {i j v : Int} : updM M g i j v g i j = v := by simp [updM]
theorem updM_j {M : Mem} {g : Nat} {i j v j' : Int} (h : j' ≠ j) : updM M g i j v g i j' = M g i j' := by simp [updM, h]
def strs : List (Nat × String) := [(236, "out of range"), (62, "the hall has all its rows"), (247, "there is no possible block"), (241, "there have been all tickets"), (250, "the group cannot be split"), (227, "no such row or seat"), (129, "the block is not possible"), (79, "the seat is held or sold"), (232, "no such ticket"), (239, "the ticket is no hold"), (168, "the hold has been extended twice"), (176, "the ticket is closed"), (220, "no such row"), (192, "the ticket is no booking"), (197, "the booking has several rows or sits in that row"), (205, "the ticket has no wish"), (210, "there is no chain"), (190, "there are no holds")]
def isDC : Cond → Bool
  | .declares _ => true
  | .castable _ _ => true
  | _ => false
/-- the exceptions that the law tells apart -/
def ncs : List (String × String) := [("java/lang/IllegalArgumentException", "java/lang/IllegalStateException"), ("java/lang/IllegalArgumentException", "java/lang/IndexOutOfBoundsException"), ("java/lang/IllegalStateException", "java/lang/IllegalArgumentException"), ("java/lang/IllegalStateException", "java/lang/IndexOutOfBoundsException"), ("java/lang/IndexOutOfBoundsException", "java/lang/IllegalArgumentException"), ("java/lang/IndexOutOfBoundsException", "java/lang/IllegalStateException")]
/-- what a throw wants of the heap and the tables -/
def SX (K : WPar) (U : State) : Prop := vx_Zq Bundle.tN "UNASSIGNED_STACK" Bundle.steD (kF K) U U.heap ∧ vx_Zq Bundle.tN "SUPPRESSED_SENTINEL" Bundle.listD (kF K) U U.heap ∧ (∀ q ∈ strs, ∃ sa : Nat, vk_R RX4 q.1 q.2 sa U) ∧ (∀ w ∈ lw_tbl, isDC w = true → va_Nw w U) ∧ ∀ q ∈ ncs, va_Nc q.1 q.2 U
def PRE (K : WPar) (M : Mem) (U : State) : Prop := WD K M U.heap ∧ va_K K.1 vwCl (ktys K) U ∧ SX K U ∧ ADK K
def ctQ (K : WPar) (P : OutT → Mem → Prop) : Array Value → State → Outcome → State → Prop := fun _ st oc t => (∃ (r : Option Int) (M1 : Mem), oc = .returned (r.map iV) ∧ P (.inl r) M1 ∧ WD K M1 t.heap) ∧ va_F (kF K) st t
def ctX (K : WPar) (P : OutT → Mem → Prop) : String → State → State → Prop := fun E st t => (∃ M1 : Mem, P (.inr E) M1 ∧ WD K M1 t.heap) ∧ va_F (kF K) st t
def mRm (μ : MInfo) : Room := { frames := μ.2.2.2.2.1.1, cells := μ.2.2.2.2.2.1.1, slots := μ.2.2.2.2.2.1.2, locals := μ.2.2.2.2.1.2 }
/-- a method's contract: called with these arguments on the memory M it comes to one of the ends that P tells -/
def CT (K : WPar) (l : Launch) (μ : MInfo) (avs : List Value) (M : Mem) (P : OutT → Mem → Prop) : Prop :=
  vx_Met l μ.1 (.code μ.1 μ.2.1 μ.2.2.1 μ.2.2.2.1 :: AL) (mRm μ) (va_Pc avs (PRE K M)) (ctQ K P) (ctX K P) μ.2.2.2.2.2.1.1 μ.2.2.2.2.2.1.2 (kF K)
/-- the same for a method with a table of handlers -/
def CTW (K : WPar) (l : Launch) (μ : MInfo) (avs : List Value) (M : Mem) (P : OutT → Mem → Prop) : Prop :=
  vx_Met l μ.1 (.codeWith μ.1 μ.2.1 μ.2.2.1 μ.2.2.2.1 μ.2.2.2.2.2.2 :: AL) (mRm μ) (va_Pc avs (PRE K M)) (ctQ K P) (ctX K P) μ.2.2.2.2.2.1.1 μ.2.2.2.2.2.1.2 (kF K)
def lvo : Nat → List (Option Value) → List (Nat × Value)
  | _, [] => []
  | k, none :: r => lvo (k + 1) r
  | k, some v :: r => (k, v) :: lvo (k + 1) r
def LH (ls : Array Slot) (nL : Nat) (L : List (Option Value)) : Prop := lv_has ls nL (lvo 0 L) ∧ L.length = nL ∧ ∀ v, some v ∈ L → v.category = 1
def CX (K : WPar) (l : Launch) (μ : MInfo) (Z : ZT) (p : Program) (s : State) (m : MethodId) (args : Array Value) (meth : Method) (c : Code) : Prop :=
  p.tables.exec = Jvm.exec ∧ c.code = μ.2.1 ∧ c.maxLocals = μ.2.2.1 ∧ s.vm.findClass μ.1.cls = some m.cls ∧ (∀ w ∈ AL, w.before args s = true) ∧ meth.sig.returnType = μ.2.2.2.1 ∧ meth.locks = false ∧ c.exceptionTable.toList = tableOf μ.2.2.2.2.2.2 ∧ va_K K.1 vwCl (ktys K) s ∧ SX K s ∧ ADK K ∧ l.stackTraces = false ∧ Z.1 s args
def AW (K : WPar) (l : Launch) (μ : MInfo) (Z : ZT) (pc : Nat) (L : List (Option Value)) (st : List Value) (M : Mem) (cells slots : Nat) : Prop :=
  ∀ (p : Program) (e : Env) (s : State) (m : MethodId) (args : Array Value) (below : List Frame) (meth : Method) (c : Code) (H : Heap) (locs : List Loc) (ls : Array Slot),
    CX K l μ Z p s m args meth c → LH ls μ.2.2.1 L → WD K M H → va_S (kF K) s.heap H locs →
    W p l e (mRm μ) s m args below meth c H locs cells slots (Z.2 below args s) (F0 m pc ls st)
def AX (K : WPar) (l : Launch) (μ : MInfo) (Z : ZT) (pc : Nat) (L : List (Option Value)) (st : List Value) (M : Mem) (cells slots : Nat) (E : String) : Prop :=
  ∀ (p : Program) (e : Env) (s : State) (m : MethodId) (args : Array Value) (below : List Frame) (meth : Method) (c : Code) (H : Heap) (locs : List Loc) (ls : Array Slot) (q : Addr) (ce : Cell),
    CX K l μ Z p s m args meth c → LH ls μ.2.2.1 L → WD K M H → va_S (kF K) s.heap H locs → H[q]? = some ce → ce.vm = .none → s.vm.findClass E = some ce.cls →
    vx_W p l e (mRm μ) s m args below meth c H locs cells slots (Z.2 below args s) (F0 m pc ls st) q
/-- a method's own end -/
def ZM (K : WPar) (μ : MInfo) (P : OutT → Mem → Prop) : ZT := (fun _ _ => True, fun below args s => vx_MQ below (ctQ K P) (ctX K P) args s μ.2.2.2.2.2.1.1 μ.2.2.2.2.2.1.2 (kF K))


theorem lvo_get : ∀ (L : List (Option Value)) (k i : Nat) (v : Value), L[i]? = some (some v) → (k + i, v) ∈ lvo k L
  | [], _, _, _, h => by simp at h
  | none :: r, k, 0, v, h => by simp at h
  | none :: r, k, i + 1, v, h => by
    have := lvo_get r (k + 1) i v (by simpa using h)
    rw [show k + 1 + i = k + (i + 1) by omega] at this
    exact this
  | some w :: r, k, 0, v, h => by
    simp at h
    subst h
    exact List.mem_cons_self
  | some w :: r, k, i + 1, v, h => by
    have := lvo_get r (k + 1) i v (by simpa using h)
    rw [show k + 1 + i = k + (i + 1) by omega] at this
    exact List.mem_cons_of_mem _ this
theorem lvo_mem : ∀ (L : List (Option Value)) (k : Nat) (q : Nat × Value), q ∈ lvo k L → ∃ i, q.1 = k + i ∧ L[i]? = some (some q.2)
  | [], _, _, h => by cases h
  | none :: r, k, q, h => by
    obtain ⟨i, h1, h2⟩ := lvo_mem r (k + 1) q h
    exact ⟨i + 1, by omega, by simpa using h2⟩
  | some w :: r, k, q, h => by
    rcases List.mem_cons.mp h with rfl | h
    · exact ⟨0, rfl, rfl⟩
    · obtain ⟨i, h1, h2⟩ := lvo_mem r (k + 1) q h
      exact ⟨i + 1, by omega, by simpa using h2⟩
theorem LH.at {ls : Array Slot} {nL : Nat} {L : List (Option Value)} (h : LH ls nL L) {i : Nat} {v : Value} (hi : L[i]? = some (some v)) : ls[i]? = some (.val v) := by
  have h2 := lvo_get L 0 i v hi
  rw [Nat.zero_add] at h2
  exact h.1.2.2 (i, v) h2
theorem LH.set {ls ls' : Array Slot} {nL : Nat} {L : List (Option Value)} (h : LH ls nL L) {i : Nat} {v : Value} (hv : v.category = 1) (h' : lv_has ls' nL ((i, v) :: (lvo 0 L).filter (fun q => !(q.1 == i) && !(q.1 + 1 == i && q.2.category == 2)))) : LH ls' nL (L.set i (some v)) := by
  refine ⟨⟨h'.1, h'.2.1, fun q hq => ?_⟩, by rw [List.length_set]; exact h.2.1, fun w hw => ?_⟩
  · obtain ⟨j, h1, h2⟩ := lvo_mem _ _ _ hq
    rw [Nat.zero_add] at h1
    rw [List.getElem?_set] at h2
    by_cases hj : i = j
    · rw [if_pos hj] at h2
      split at h2
      · have e : v = q.2 := by simpa using h2
        have := h'.2.2 (i, v) List.mem_cons_self
        rw [h1, ← hj, ← e]
        exact this
      · cases h2
    · rw [if_neg hj] at h2
      have hm : (j, q.2) ∈ lvo 0 L := by
        have := lvo_get L 0 j q.2 h2
        rwa [Nat.zero_add] at this
      have hc : q.2.category = 1 := h.2.2 q.2 (List.mem_of_getElem? h2)
      have := h'.2.2 (j, q.2) (List.mem_cons_of_mem _ (List.mem_filter.mpr ⟨hm, by simp [hc, Ne.symm hj]⟩))
      rw [h1]
      exact this
  · rcases List.mem_or_eq_of_mem_set hw with h1 | h1
    · exact h.2.2 w h1
    · cases h1
      exact hv
/-- some locals are forgotten -/
def lwk : List (Option Value) → List (Option Value) → Prop
  | [], [] => True
  | a :: r, b :: q => (b = none ∨ a = b) ∧ lwk r q
  | _, _ => False
theorem lwk_get : ∀ {L L' : List (Option Value)}, lwk L L' → L'.length = L.length ∧ ∀ (i : Nat) (v : Value), L'[i]? = some (some v) → L[i]? = some (some v)
  | [], [], _ => ⟨rfl, fun _ _ h => by simp at h⟩
  | [], _ :: _, h => h.elim
  | _ :: _, [], h => h.elim
  | a :: r, b :: q, ⟨h1, h2⟩ => by
    obtain ⟨l1, l2⟩ := lwk_get h2
    refine ⟨by simp [l1], fun i v h => ?_⟩
    cases i with
    | zero =>
      simp at h
      rcases h1 with h1 | h1
      · rw [h1] at h; cases h
      · rw [h1, h]; rfl
    | succ i => exact l2 i v (by simpa using h)
theorem LH.weak {ls : Array Slot} {nL : Nat} {L L' : List (Option Value)} (h : LH ls nL L) (hw : lwk L L') : LH ls nL L' := by
  obtain ⟨l1, l2⟩ := lwk_get hw
  refine ⟨⟨h.1.1, h.1.2.1, fun q hq => ?_⟩, l1.trans h.2.1, fun v hv => ?_⟩
  · obtain ⟨i, h1, h2⟩ := lvo_mem _ _ _ hq
    rw [Nat.zero_add] at h1
    rw [h1]
    exact h.at (l2 i _ h2)
  · obtain ⟨i, hi⟩ := List.getElem?_of_mem hv
    exact h.2.2 v (List.mem_of_getElem? (l2 i v hi))
theorem ri {z : Int} (h : inR z) : (Int32.ofInt z).toInt = z := Int32.toInt_ofInt_of_le (by have := h.1; omega) (by have := h.2; omega)
theorem rn {z : Int} (h : inR z) : (Int32.ofInt z).toNatClampNeg = z.toNat := Int32.toNatClampNeg_ofInt_of_le (by have := h.1; omega) (by have := h.2; omega)
theorem r_lt {a b : Int} (ha : inR a) (hb : inR b) : Int32.ofInt a < Int32.ofInt b ↔ a < b := by rw [Int32.lt_iff_toInt_lt, ri ha, ri hb]
theorem r_le {a b : Int} (ha : inR a) (hb : inR b) : Int32.ofInt a ≤ Int32.ofInt b ↔ a ≤ b := by rw [Int32.le_iff_toInt_le, ri ha, ri hb]
theorem r_eq {a b : Int} (ha : inR a) (hb : inR b) : Int32.ofInt a = Int32.ofInt b ↔ a = b := by
  constructor
  · intro h
    rw [← ri ha, ← ri hb, h]
  · intro h; rw [h]
theorem r_z : (0 : Int32) = Int32.ofInt 0 := rfl
theorem r_0 : inR 0 := by decide
theorem r_vin {z : Int} {n : Nat} (h0 : 0 ≤ z) (h1 : z < n) (h2 : inR z) : vp_in (Int32.ofInt z) n := by
  refine vp_in_iff.mpr ?_
  rw [ri h2]
  exact ⟨h0, h1⟩
section AWS
variable {K : WPar} {l : Launch} {μ : MInfo} {Z : ZT} {pc : Nat} {L : List (Option Value)} {st : List Value} {M : Mem} {cells slots : Nat}
theorem aw_rng (k : (∀ g i j, inR (M g i j)) → AW K l μ Z pc L st M cells slots) : AW K l μ Z pc L st M cells slots := by
  intro p e s m args below meth c H locs ls C hl hW hS
  exact k hW.1 p e s m args below meth c H locs ls C hl hW hS
theorem aw_mem {M' : Mem} (h : M = M') (k : AW K l μ Z pc L st M' cells slots) : AW K l μ Z pc L st M cells slots := h ▸ k
theorem aw_st {st' : List Value} (h : st = st') (k : AW K l μ Z pc L st' M cells slots) : AW K l μ Z pc L st M cells slots := h ▸ k
theorem aw_wide {a b : Nat} (h1 : cells ≤ a) (h2 : slots ≤ b) (k : AW K l μ Z pc L st M a b) : AW K l μ Z pc L st M cells slots := by
  intro p e s m args below meth c H locs ls C hl hW hS
  exact W.widen h1 h2 (k p e s m args below meth c H locs ls C hl hW hS)
theorem aw_weak {L' : List (Option Value)} (h : lwk L L') (k : AW K l μ Z pc L' st M cells slots) : AW K l μ Z pc L st M cells slots := by
  intro p e s m args below meth c H locs ls C hl hW hS
  exact k p e s m args below meth c H locs ls C (hl.weak h) hW hS

theorem aw_iload_n {k : Fin 4} {i : Nat} {a : Int} (hd : decode μ.2.1 pc = .ok (.iload_n k, 1)) (hi : (k : Nat) = i) (hL : L[i]? = some (some (iV a))) (kk : AW K l μ Z (pc + 1) L (iV a :: st) M cells slots) : AW K l μ Z pc L st M cells slots := by
  intro p e s m args below meth c H locs ls C hl hW hS
  exact lv_iload_n C.1 C.2.1 hd hi (hl.at hL) (kk p e s m args below meth c H locs ls C hl hW hS)
theorem aw_iload {i : Nat} {a : Int} (hd : decode μ.2.1 pc = .ok (.iload i, 2)) (hL : L[i]? = some (some (iV a))) (kk : AW K l μ Z (pc + 2) L (iV a :: st) M cells slots) : AW K l μ Z pc L st M cells slots := by
  intro p e s m args below meth c H locs ls C hl hW hS
  exact lv_iload C.1 C.2.1 hd (hl.at hL) (kk p e s m args below meth c H locs ls C hl hW hS)
theorem aw_aload_n {k : Fin 4} {i : Nat} {a : Int} {g : Nat} (hd : decode μ.2.1 pc = .ok (.aload_n k, 1)) (hi : (k : Nat) = i) (hL : L[i]? = some (some (rV K g a))) (kk : AW K l μ Z (pc + 1) L (rV K g a :: st) M cells slots) : AW K l μ Z pc L st M cells slots := by
  intro p e s m args below meth c H locs ls C hl hW hS
  exact lv_aload_n C.1 C.2.1 hd hi (hl.at hL) (kk p e s m args below meth c H locs ls C hl hW hS)
theorem aw_aload {i : Nat} {a : Int} {g : Nat} (hd : decode μ.2.1 pc = .ok (.aload i, 2)) (hL : L[i]? = some (some (rV K g a))) (kk : AW K l μ Z (pc + 2) L (rV K g a :: st) M cells slots) : AW K l μ Z pc L st M cells slots := by
  intro p e s m args below meth c H locs ls C hl hW hS
  exact lv_aload C.1 C.2.1 hd (hl.at hL) (kk p e s m args below meth c H locs ls C hl hW hS)
theorem aw_iconst {n : Int} (hd : decode μ.2.1 pc = .ok (.iconst n, 1)) (kk : AW K l μ Z (pc + 1) L (iV n :: st) M cells slots) : AW K l μ Z pc L st M cells slots := by
  intro p e s m args below meth c H locs ls C hl hW hS
  exact lv_iconst C.1 C.2.1 hd rfl (kk p e s m args below meth c H locs ls C hl hW hS)
theorem aw_bipush {n : Int} (hd : decode μ.2.1 pc = .ok (.bipush n, 2)) (hv : (Int8.ofInt n).toInt32 = Int32.ofInt n) (kk : AW K l μ Z (pc + 2) L (iV n :: st) M cells slots) : AW K l μ Z pc L st M cells slots := by
  intro p e s m args below meth c H locs ls C hl hW hS
  exact lv_bipush C.1 C.2.1 hd hv (kk p e s m args below meth c H locs ls C hl hW hS)
theorem aw_sipush {n : Int} (hd : decode μ.2.1 pc = .ok (.sipush n, 3)) (hv : (Int16.ofInt n).toInt32 = Int32.ofInt n) (kk : AW K l μ Z (pc + 3) L (iV n :: st) M cells slots) : AW K l μ Z pc L st M cells slots := by
  intro p e s m args below meth c H locs ls C hl hW hS
  exact lv_sipush C.1 C.2.1 hd hv (kk p e s m args below meth c H locs ls C hl hW hS)
theorem aw_ldc {i : Nat} {v : Int32} {z : Int} (hd : decode μ.2.1 pc = .ok (.ldc i, 2)) (hc : Cond.constant μ.1.cls i v ∈ AL) (hv : v = Int32.ofInt z) (kk : AW K l μ Z (pc + 2) L (iV z :: st) M cells slots) : AW K l μ Z pc L st M cells slots := by
  intro p e s m args below meth c H locs ls C hl hW hS
  subst hv
  exact lv_ldc C.1 C.2.1 C.2.2.2.1 (C.2.2.2.2.1 _ hc) hd (kk p e s m args below meth c H locs ls C hl hW hS)
theorem aw_istore_n {k : Fin 4} {i : Nat} {a : Int} {L2 : List (Option Value)} (hd : decode μ.2.1 pc = .ok (.istore_n k, 1)) (hk : (k : Nat) = i) (hi : i < μ.2.2.1) (hL : L.set i (some (iV a)) = L2) (kk : AW K l μ Z (pc + 1) L2 st M cells slots) : AW K l μ Z pc L (iV a :: st) M cells slots := by
  intro p e s m args below meth c H locs ls C hl hW hS
  exact lv_istore_n C.1 C.2.1 hd hk hl.1 hi rfl (fun ls2 h2 => kk p e s m args below meth c H locs ls2 C (hL ▸ hl.set rfl h2) hW hS)
theorem aw_istore {i : Nat} {a : Int} {L2 : List (Option Value)} (hd : decode μ.2.1 pc = .ok (.istore i, 2)) (hi : i < μ.2.2.1) (hL : L.set i (some (iV a)) = L2) (kk : AW K l μ Z (pc + 2) L2 st M cells slots) : AW K l μ Z pc L (iV a :: st) M cells slots := by
  intro p e s m args below meth c H locs ls C hl hW hS
  exact lv_istore C.1 C.2.1 hd hl.1 hi rfl (fun ls2 h2 => kk p e s m args below meth c H locs ls2 C (hL ▸ hl.set rfl h2) hW hS)
theorem aw_astore_n {k : Fin 4} {i : Nat} {a : Int} {g : Nat} {L2 : List (Option Value)} (hd : decode μ.2.1 pc = .ok (.astore_n k, 1)) (hk : (k : Nat) = i) (hi : i < μ.2.2.1) (hL : L.set i (some (rV K g a)) = L2) (kk : AW K l μ Z (pc + 1) L2 st M cells slots) : AW K l μ Z pc L (rV K g a :: st) M cells slots := by
  intro p e s m args below meth c H locs ls C hl hW hS
  exact lv_astore_n C.1 C.2.1 hd hk hl.1 hi rfl (fun ls2 h2 => kk p e s m args below meth c H locs ls2 C (hL ▸ hl.set rfl h2) hW hS)
theorem aw_astore {i : Nat} {a : Int} {g : Nat} {L2 : List (Option Value)} (hd : decode μ.2.1 pc = .ok (.astore i, 2)) (hi : i < μ.2.2.1) (hL : L.set i (some (rV K g a)) = L2) (kk : AW K l μ Z (pc + 2) L2 st M cells slots) : AW K l μ Z pc L (rV K g a :: st) M cells slots := by
  intro p e s m args below meth c H locs ls C hl hW hS
  exact lv_astore C.1 C.2.1 hd hl.1 hi rfl (fun ls2 h2 => kk p e s m args below meth c H locs ls2 C (hL ▸ hl.set rfl h2) hW hS)
theorem aw_iinc {i : Nat} {n a : Int} {L2 : List (Option Value)} (hd : decode μ.2.1 pc = .ok (.iinc i n, 3)) (hg : L[i]? = some (some (iV a))) (hi : i < μ.2.2.1) (hL : L.set i (some (iV (a + n))) = L2) (kk : AW K l μ Z (pc + 3) L2 st M cells slots) : AW K l μ Z pc L st M cells slots := by
  intro p e s m args below meth c H locs ls C hl hW hS
  have hm := lvo_get L 0 i _ hg
  rw [Nat.zero_add] at hm
  obtain ⟨k, hk⟩ := List.getElem?_of_mem hm
  exact lv_iinc C.1 C.2.1 hd hl.1 hk (show Int32.ofInt a + Int32.ofInt n = Int32.ofInt (a + n) from (Int32.ofInt_add a n).symm) hi rfl (fun ls2 h2 => kk p e s m args below meth c H locs ls2 C (hL ▸ hl.set rfl h2) hW hS)
theorem aw_iadd {a b : Int} (hd : decode μ.2.1 pc = .ok (.iadd, 1)) (kk : AW K l μ Z (pc + 1) L (iV (b + a) :: st) M cells slots) : AW K l μ Z pc L (iV a :: iV b :: st) M cells slots := by
  intro p e s m args below meth c H locs ls C hl hW hS
  have k2 := kk p e s m args below meth c H locs ls C hl hW hS
  rw [show iV (b + a) = .int (Int32.ofInt b + Int32.ofInt a) from congrArg Value.int (Int32.ofInt_add b a)] at k2
  exact lv_iadd C.1 C.2.1 hd k2
theorem aw_isub {a b : Int} (hd : decode μ.2.1 pc = .ok (.isub, 1)) (kk : AW K l μ Z (pc + 1) L (iV (b - a) :: st) M cells slots) : AW K l μ Z pc L (iV a :: iV b :: st) M cells slots := by
  intro p e s m args below meth c H locs ls C hl hW hS
  have k2 := kk p e s m args below meth c H locs ls C hl hW hS
  rw [show iV (b - a) = .int (Int32.ofInt b - Int32.ofInt a) from congrArg Value.int (Int32.ofInt_sub b a)] at k2
  exact lv_isub C.1 C.2.1 hd k2
theorem aw_imul {a b : Int} (hd : decode μ.2.1 pc = .ok (.imul, 1)) (kk : AW K l μ Z (pc + 1) L (iV (b * a) :: st) M cells slots) : AW K l μ Z pc L (iV a :: iV b :: st) M cells slots := by
  intro p e s m args below meth c H locs ls C hl hW hS
  have k2 := kk p e s m args below meth c H locs ls C hl hW hS
  rw [show iV (b * a) = .int (Int32.ofInt b * Int32.ofInt a) from congrArg Value.int (Int32.ofInt_mul b a)] at k2
  exact lv_imul C.1 C.2.1 hd k2
theorem aw_ineg {a : Int} (hd : decode μ.2.1 pc = .ok (.ineg, 1)) (kk : AW K l μ Z (pc + 1) L (iV (-a) :: st) M cells slots) : AW K l μ Z pc L (iV a :: st) M cells slots := by
  intro p e s m args below meth c H locs ls C hl hW hS
  have k2 := kk p e s m args below meth c H locs ls C hl hW hS
  rw [show iV (-a) = .int (-Int32.ofInt a) from congrArg Value.int (Int32.ofInt_neg a)] at k2
  exact lv_ineg C.1 C.2.1 hd k2
theorem aw_idiv {a b : Int} (hd : decode μ.2.1 pc = .ok (.idiv, 1)) (hb : 0 ≤ b ∧ b ≤ 2147483647) (ha : 0 < a ∧ a ≤ 2147483647) (kk : AW K l μ Z (pc + 1) L (iV (b / a) :: st) M cells slots) : AW K l μ Z pc L (iV a :: iV b :: st) M cells slots := by
  intro p e s m args below meth c H locs ls C hl hW hS
  have k2 := kk p e s m args below meth c H locs ls C hl hW hS
  rw [show iV (b / a) = .int (Int32.ofInt b / Int32.ofInt a) from congrArg Value.int (by
    rw [← Int32.ofInt_tdiv (by show (-2147483648 : Int) ≤ b; omega) (by show b ≤ (2147483647 : Int); omega) (by show (-2147483648 : Int) ≤ a; omega) (by show a ≤ (2147483647 : Int); omega), Int.tdiv_eq_ediv_of_nonneg hb.1])] at k2
  exact lv_idiv C.1 C.2.1 hd (fun h => by
    have h1 := (r_eq (a := a) (b := 0) (by omega) r_0).mp h
    omega) k2
theorem aw_irem {a b : Int} (hd : decode μ.2.1 pc = .ok (.irem, 1)) (hb : 0 ≤ b ∧ b ≤ 2147483647) (ha : 0 < a ∧ a ≤ 2147483647) (kk : AW K l μ Z (pc + 1) L (iV (b % a) :: st) M cells slots) : AW K l μ Z pc L (iV a :: iV b :: st) M cells slots := by
  intro p e s m args below meth c H locs ls C hl hW hS
  have k2 := kk p e s m args below meth c H locs ls C hl hW hS
  rw [show iV (b % a) = .int (Int32.ofInt b - Int32.ofInt b / Int32.ofInt a * Int32.ofInt a) from congrArg Value.int (by
    rw [← Int32.ofInt_tdiv (by show (-2147483648 : Int) ≤ b; omega) (by show b ≤ (2147483647 : Int); omega) (by show (-2147483648 : Int) ≤ a; omega) (by show a ≤ (2147483647 : Int); omega), Int.tdiv_eq_ediv_of_nonneg hb.1, ← Int32.ofInt_mul, ← Int32.ofInt_sub]
    have := Int.emod_def b a
    rw [this, Int.mul_comm])] at k2
  exact lv_irem C.1 C.2.1 hd (fun h => by
    have h1 := (r_eq (a := a) (b := 0) (by omega) r_0).mp h
    omega) k2
theorem aw_icmp_lt {a b : Int} {off : Int} {tgt : Nat} (hd : decode μ.2.1 pc = .ok (.if_icmp .lt off, 3)) (ht : (pc : Int) + off = (tgt : Int)) (ha : inR a) (hb : inR b) (kt : a < b → AW K l μ Z tgt L st M cells slots) (kf : ¬ (a < b) → AW K l μ Z (pc + 3) L st M cells slots) : AW K l μ Z pc L (iV b :: iV a :: st) M cells slots := by
  intro p e s m args below meth c H locs ls C hl hW hS
  have kt := fun h => kt h p e s m args below meth c H locs ls C hl hW hS
  have kf := fun h => kf h p e s m args below meth c H locs ls C hl hW hS
  exact lv_icmp_lt C.1 C.2.1 hd ht (fun h => kt ((r_lt ha hb).mp h)) (fun h => kf (fun q => h ((r_lt ha hb).mpr q)))
theorem aw_if_lt {a : Int} {off : Int} {tgt : Nat} (hd : decode μ.2.1 pc = .ok (.ifCond .lt off, 3)) (ht : (pc : Int) + off = (tgt : Int)) (ha : inR a) (kt : a < 0 → AW K l μ Z tgt L st M cells slots) (kf : ¬ (a < 0) → AW K l μ Z (pc + 3) L st M cells slots) : AW K l μ Z pc L (iV a :: st) M cells slots := by
  intro p e s m args below meth c H locs ls C hl hW hS
  have kt := fun h => kt h p e s m args below meth c H locs ls C hl hW hS
  have kf := fun h => kf h p e s m args below meth c H locs ls C hl hW hS
  exact lv_if_lt C.1 C.2.1 hd ht (fun h => kt ((r_lt ha r_0).mp h)) (fun h => kf (fun q => h ((r_lt ha r_0).mpr q)))
theorem aw_icmp_ge {a b : Int} {off : Int} {tgt : Nat} (hd : decode μ.2.1 pc = .ok (.if_icmp .ge off, 3)) (ht : (pc : Int) + off = (tgt : Int)) (ha : inR a) (hb : inR b) (kt : b ≤ a → AW K l μ Z tgt L st M cells slots) (kf : ¬ (b ≤ a) → AW K l μ Z (pc + 3) L st M cells slots) : AW K l μ Z pc L (iV b :: iV a :: st) M cells slots := by
  intro p e s m args below meth c H locs ls C hl hW hS
  have kt := fun h => kt h p e s m args below meth c H locs ls C hl hW hS
  have kf := fun h => kf h p e s m args below meth c H locs ls C hl hW hS
  exact lv_icmp_ge C.1 C.2.1 hd ht (fun h => kt ((r_le hb ha).mp h)) (fun h => kf (fun q => h ((r_le hb ha).mpr q)))
theorem aw_if_ge {a : Int} {off : Int} {tgt : Nat} (hd : decode μ.2.1 pc = .ok (.ifCond .ge off, 3)) (ht : (pc : Int) + off = (tgt : Int)) (ha : inR a) (kt : 0 ≤ a → AW K l μ Z tgt L st M cells slots) (kf : ¬ (0 ≤ a) → AW K l μ Z (pc + 3) L st M cells slots) : AW K l μ Z pc L (iV a :: st) M cells slots := by
  intro p e s m args below meth c H locs ls C hl hW hS
  have kt := fun h => kt h p e s m args below meth c H locs ls C hl hW hS
  have kf := fun h => kf h p e s m args below meth c H locs ls C hl hW hS
  exact lv_if_ge C.1 C.2.1 hd ht (fun h => kt ((r_le r_0 ha).mp h)) (fun h => kf (fun q => h ((r_le r_0 ha).mpr q)))
theorem aw_icmp_eq {a b : Int} {off : Int} {tgt : Nat} (hd : decode μ.2.1 pc = .ok (.if_icmp .eq off, 3)) (ht : (pc : Int) + off = (tgt : Int)) (ha : inR a) (hb : inR b) (kt : a = b → AW K l μ Z tgt L st M cells slots) (kf : ¬ (a = b) → AW K l μ Z (pc + 3) L st M cells slots) : AW K l μ Z pc L (iV b :: iV a :: st) M cells slots := by
  intro p e s m args below meth c H locs ls C hl hW hS
  have kt := fun h => kt h p e s m args below meth c H locs ls C hl hW hS
  have kf := fun h => kf h p e s m args below meth c H locs ls C hl hW hS
  exact lv_icmp_eq C.1 C.2.1 hd ht (fun h => kt ((r_eq ha hb).mp h)) (fun h => kf (fun q => h ((r_eq ha hb).mpr q)))
theorem aw_if_eq {a : Int} {off : Int} {tgt : Nat} (hd : decode μ.2.1 pc = .ok (.ifCond .eq off, 3)) (ht : (pc : Int) + off = (tgt : Int)) (ha : inR a) (kt : a = 0 → AW K l μ Z tgt L st M cells slots) (kf : ¬ (a = 0) → AW K l μ Z (pc + 3) L st M cells slots) : AW K l μ Z pc L (iV a :: st) M cells slots := by
  intro p e s m args below meth c H locs ls C hl hW hS
  have kt := fun h => kt h p e s m args below meth c H locs ls C hl hW hS
  have kf := fun h => kf h p e s m args below meth c H locs ls C hl hW hS
  exact lv_if_eq C.1 C.2.1 hd ht (fun h => kt ((r_eq ha r_0).mp h)) (fun h => kf (fun q => h ((r_eq ha r_0).mpr q)))
theorem aw_icmp_ne {a b : Int} {off : Int} {tgt : Nat} (hd : decode μ.2.1 pc = .ok (.if_icmp .ne off, 3)) (ht : (pc : Int) + off = (tgt : Int)) (ha : inR a) (hb : inR b) (kt : a ≠ b → AW K l μ Z tgt L st M cells slots) (kf : a = b → AW K l μ Z (pc + 3) L st M cells slots) : AW K l μ Z pc L (iV b :: iV a :: st) M cells slots := by
  intro p e s m args below meth c H locs ls C hl hW hS
  have kt := fun h => kt h p e s m args below meth c H locs ls C hl hW hS
  have kf := fun h => kf h p e s m args below meth c H locs ls C hl hW hS
  exact lv_icmp_ne C.1 C.2.1 hd ht (fun h => kt (fun q => h ((r_eq ha hb).mpr q))) (fun h => kf ((r_eq ha hb).mp h))
theorem aw_if_ne {a : Int} {off : Int} {tgt : Nat} (hd : decode μ.2.1 pc = .ok (.ifCond .ne off, 3)) (ht : (pc : Int) + off = (tgt : Int)) (ha : inR a) (kt : a ≠ 0 → AW K l μ Z tgt L st M cells slots) (kf : a = 0 → AW K l μ Z (pc + 3) L st M cells slots) : AW K l μ Z pc L (iV a :: st) M cells slots := by
  intro p e s m args below meth c H locs ls C hl hW hS
  have kt := fun h => kt h p e s m args below meth c H locs ls C hl hW hS
  have kf := fun h => kf h p e s m args below meth c H locs ls C hl hW hS
  exact lv_if_ne C.1 C.2.1 hd ht (fun h => kt (fun q => h ((r_eq ha r_0).mpr q))) (fun h => kf ((r_eq ha r_0).mp h))
theorem aw_icmp_gt {a b : Int} {off : Int} {tgt : Nat} (hd : decode μ.2.1 pc = .ok (.if_icmp .gt off, 3)) (ht : (pc : Int) + off = (tgt : Int)) (ha : inR a) (hb : inR b) (kt : b < a → AW K l μ Z tgt L st M cells slots) (kf : ¬ (b < a) → AW K l μ Z (pc + 3) L st M cells slots) : AW K l μ Z pc L (iV b :: iV a :: st) M cells slots := by
  intro p e s m args below meth c H locs ls C hl hW hS
  have kt := fun h => kt h p e s m args below meth c H locs ls C hl hW hS
  have kf := fun h => kf h p e s m args below meth c H locs ls C hl hW hS
  exact lv_icmp_gt C.1 C.2.1 hd ht (fun h => kt ((r_lt hb ha).mp h)) (fun h => kf (fun q => h ((r_lt hb ha).mpr q)))
theorem aw_if_gt {a : Int} {off : Int} {tgt : Nat} (hd : decode μ.2.1 pc = .ok (.ifCond .gt off, 3)) (ht : (pc : Int) + off = (tgt : Int)) (ha : inR a) (kt : 0 < a → AW K l μ Z tgt L st M cells slots) (kf : ¬ (0 < a) → AW K l μ Z (pc + 3) L st M cells slots) : AW K l μ Z pc L (iV a :: st) M cells slots := by
  intro p e s m args below meth c H locs ls C hl hW hS
  have kt := fun h => kt h p e s m args below meth c H locs ls C hl hW hS
  have kf := fun h => kf h p e s m args below meth c H locs ls C hl hW hS
  exact lv_if_gt C.1 C.2.1 hd ht (fun h => kt ((r_lt r_0 ha).mp h)) (fun h => kf (fun q => h ((r_lt r_0 ha).mpr q)))
theorem aw_icmp_le {a b : Int} {off : Int} {tgt : Nat} (hd : decode μ.2.1 pc = .ok (.if_icmp .le off, 3)) (ht : (pc : Int) + off = (tgt : Int)) (ha : inR a) (hb : inR b) (kt : a ≤ b → AW K l μ Z tgt L st M cells slots) (kf : ¬ (a ≤ b) → AW K l μ Z (pc + 3) L st M cells slots) : AW K l μ Z pc L (iV b :: iV a :: st) M cells slots := by
  intro p e s m args below meth c H locs ls C hl hW hS
  have kt := fun h => kt h p e s m args below meth c H locs ls C hl hW hS
  have kf := fun h => kf h p e s m args below meth c H locs ls C hl hW hS
  exact lv_icmp_le C.1 C.2.1 hd ht (fun h => kt ((r_le ha hb).mp h)) (fun h => kf (fun q => h ((r_le ha hb).mpr q)))
theorem aw_if_le {a : Int} {off : Int} {tgt : Nat} (hd : decode μ.2.1 pc = .ok (.ifCond .le off, 3)) (ht : (pc : Int) + off = (tgt : Int)) (ha : inR a) (kt : a ≤ 0 → AW K l μ Z tgt L st M cells slots) (kf : ¬ (a ≤ 0) → AW K l μ Z (pc + 3) L st M cells slots) : AW K l μ Z pc L (iV a :: st) M cells slots := by
  intro p e s m args below meth c H locs ls C hl hW hS
  have kt := fun h => kt h p e s m args below meth c H locs ls C hl hW hS
  have kf := fun h => kf h p e s m args below meth c H locs ls C hl hW hS
  exact lv_if_le C.1 C.2.1 hd ht (fun h => kt ((r_le ha r_0).mp h)) (fun h => kf (fun q => h ((r_le ha r_0).mpr q)))
theorem aw_goto {off : Int} {tgt : Nat} (hd : decode μ.2.1 pc = .ok (.goto off, 3)) (ht : (pc : Int) + off = (tgt : Int)) (kk : AW K l μ Z tgt L st M cells slots) : AW K l μ Z pc L st M cells slots := by
  intro p e s m args below meth c H locs ls C hl hW hS
  exact lv_goto C.1 C.2.1 hd ht (kk p e s m args below meth c H locs ls C hl hW hS)
theorem aw_dup {v : Value} (hd : decode μ.2.1 pc = .ok (.dup, 1)) (hv : v.category = 1) (kk : AW K l μ Z (pc + 1) L (v :: v :: st) M cells slots) : AW K l μ Z pc L (v :: st) M cells slots := by
  intro p e s m args below meth c H locs ls C hl hW hS
  exact lv_dup C.1 C.2.1 hd hv (kk p e s m args below meth c H locs ls C hl hW hS)
theorem aw_dup2 {v w : Value} (hd : decode μ.2.1 pc = .ok (.dup2, 1)) (hv : v.category = 1) (hw : w.category = 1) (kk : AW K l μ Z (pc + 1) L (v :: w :: v :: w :: st) M cells slots) : AW K l μ Z pc L (v :: w :: st) M cells slots := by
  intro p e s m args below meth c H locs ls C hl hW hS
  exact lv_dup2_11 C.1 C.2.1 hd hv hw (kk p e s m args below meth c H locs ls C hl hW hS)

theorem aw_gets {g ci x N : Nat} {fs : List (Option Nat)} {C0 : String} {T : u_T} (hk : gk g = (0, ci, x, fs)) (hc : vwCl[ci]? = some (C0, T, N)) (hly : ∀ w ∈ u_ws C0 T N, w ∈ AL) (hcnt : gcnt g = 1) {idx k : Nat} {v : Value} (hd : decode μ.2.1 pc = .ok (.getfield idx, 3)) (hkN : k < N) (hl : Cond.fieldLink μ.1.cls idx (T k).1 (T k).2.1 (T k).2.2.1 ∈ AL) (hv : (fvals K (M g 0) fs 0)[k]? = some v) (kk : AW K l μ Z (pc + 3) L (v :: st) M cells slots) : AW K l μ Z pc L (rV K g 0 :: st) M cells slots := by
  intro p e s m args below meth c H locs ls C hl2 hW hS
  have hP : va_P K.1 vwCl [(kad K g 0, .inr (ci, fvals K (M g 0) fs 0))] H := by
    intro k0 q hq
    have : q = (kad K g 0, .inr (ci, fvals K (M g 0) fs 0)) := by
      cases k0 with
      | zero => simpa using hq.symm
      | succ _ => simp at hq
    rw [this, ← cellOf_obj (i := 0) hk]
    exact hW.2 g 0 (Int.le_refl 0) (by omega)
  exact va_get (D := K.1) (ci := ci) (v := v) (C := C0) (T := T) (N := N) (Ts := AL) C.1 C.2.1 C.2.2.2.2.1 hly C.2.2.2.1 C.2.2.2.2.2.2.2.2.1 hP 0 rfl hc k hkN (C.2.2.2.2.1 _ hl) (fun _ h9 => h9) hv hd (kk p e s m args below meth c H locs ls C hl2 hW hS)
theorem aw_geti {g ci x N : Nat} {fs : List (Option Nat)} {C0 : String} {T : u_T} (hk : gk g = (0, ci, x, fs)) (hc : vwCl[ci]? = some (C0, T, N)) (hly : ∀ w ∈ u_ws C0 T N, w ∈ AL) (hcnt : gcnt g = 1) {idx k : Nat} (kz : Int) (hz : (k : Int) = kz) (hd : decode μ.2.1 pc = .ok (.getfield idx, 3)) (hkN : k < N) (hl : Cond.fieldLink μ.1.cls idx (T k).1 (T k).2.1 (T k).2.2.1 ∈ AL) (hv : fs[k]? = some none) (kk : inR (M g 0 kz) → AW K l μ Z (pc + 3) L (iV (M g 0 kz) :: st) M cells slots) : AW K l μ Z pc L (rV K g 0 :: st) M cells slots := by
  subst hz
  refine aw_rng fun hM => ?_
  refine aw_gets hk hc hly hcnt hd hkN hl (v := iV (M g 0 (k : Int))) ?_ (kk (hM g 0 k))
  have := fvals_int K (M g 0) fs 0 k hv
  rwa [Nat.zero_add] at this
theorem aw_getr {g ci x N : Nat} {fs : List (Option Nat)} {C0 : String} {T : u_T} (hk : gk g = (0, ci, x, fs)) (hc : vwCl[ci]? = some (C0, T, N)) (hly : ∀ w ∈ u_ws C0 T N, w ∈ AL) (hcnt : gcnt g = 1) {idx k b : Nat} (hd : decode μ.2.1 pc = .ok (.getfield idx, 3)) (hkN : k < N) (hl : Cond.fieldLink μ.1.cls idx (T k).1 (T k).2.1 (T k).2.2.1 ∈ AL) (hv : fs[k]? = some (some b)) (kk : AW K l μ Z (pc + 3) L (rV K b 0 :: st) M cells slots) : AW K l μ Z pc L (rV K g 0 :: st) M cells slots :=
  aw_gets hk hc hly hcnt hd hkN hl (fvals_ref K (M g 0) b fs 0 k hv) kk
theorem fvals_other {K : WPar} {f f' : Int → Int} : ∀ (fs : List (Option Nat)) (b : Nat), (∀ k : Nat, b ≤ k → f (k : Int) = f' (k : Int)) → fvals K f fs b = fvals K f' fs b
  | [], _, _ => rfl
  | none :: r, b, h => by
    simp only [fvals]
    rw [h b (Nat.le_refl _), fvals_other r (b + 1) (fun k hk => h k (by omega))]
  | some _ :: r, b, h => by
    simp only [fvals]
    rw [fvals_other r (b + 1) (fun k hk => h k (by omega))]
theorem fvals_set {K : WPar} {f f' : Int → Int} {v : Int} : ∀ (fs : List (Option Nat)) (b k : Nat), fs[k]? = some none → (∀ j : Int, j ≠ ((b + k : Nat) : Int) → f' j = f j) → f' ((b + k : Nat) : Int) = v → (fvals K f fs b).set k (iV v) = fvals K f' fs b
  | [], _, _, h, _, _ => by simp at h
  | none :: r, b, 0, _, h1, h2 => by
    simp only [fvals, List.set_cons_zero]
    rw [fvals_other (f' := f') r (b + 1) (fun k hk => (h1 k (by omega)).symm), show f' (b : Int) = v from h2]
  | some _ :: r, b, 0, h, _, _ => by simp at h
  | none :: r, b, k + 1, h, h1, h2 => by
    have := fvals_set (K := K) (f := f) (f' := f') (v := v) r (b + 1) k (by simpa using h) (fun j hj => h1 j (by omega)) (by rw [show b + 1 + k = b + (k + 1) by omega]; exact h2)
    simp only [fvals, List.set_cons_succ]
    rw [this, h1 b (by omega)]
  | some _ :: r, b, k + 1, h, h1, h2 => by
    have := fvals_set (K := K) (f := f) (f' := f') (v := v) r (b + 1) k (by simpa using h) (fun j hj => h1 j (by omega)) (by rw [show b + 1 + k = b + (k + 1) by omega]; exact h2)
    simp only [fvals, List.set_cons_succ]
    rw [this]
theorem wd_upd {M M' : Mem} {H H' : Heap} {g : Nat} {i : Int} (hA : ADK K) (hW : WD K M H) (h0 : 0 ≤ i) (h1 : i < gcnt g) (hnew : va_at K.1 vwCl (kad K g i, cellOf K M' g i) H') (ho : ∀ q : Nat, q ≠ kad K g i → H'[q]? = H[q]?) (hr : ∀ g i j, inR (M' g i j)) (hc : ∀ g' i', ¬ (g' = g ∧ i' = i) → M' g' i' = M g' i') : WD K M' H' := by
  refine ⟨hr, fun g' i' a b => ?_⟩
  by_cases e : g' = g ∧ i' = i
  · obtain ⟨rfl, rfl⟩ := e
    exact hnew
  · have h2 := (hW.2 g' i' a b).kept (ho _ (fun q => e (hA.1 g' i' g i a b h0 h1 q)))
    unfold cellOf at h2 ⊢
    rw [hc g' i' e]
    exact h2
theorem updM_o {M : Mem} {g : Nat} {i j v : Int} {g' : Nat} {i' : Int} (h : ¬ (g' = g ∧ i' = i)) : updM M g i j v g' i' = M g' i' := by
  funext j'
  unfold updM
  rw [if_neg]
  intro q
  exact h ⟨q.1, q.2.1⟩
theorem updM_r {M : Mem} {g : Nat} {i j v : Int} (hM : ∀ g i j, inR (M g i j)) (hv : inR v) : ∀ g' i' j', inR (updM M g i j v g' i' j') := by
  intro g' i' j'
  unfold updM
  split
  · exact hv
  · exact hM g' i' j'
theorem wd_one {H : Heap} (hW : WD K M H) (g : Nat) (i : Int) (h0 : 0 ≤ i) (h1 : i < gcnt g) {e : va_E} (he : cellOf K M g i = e) : va_P K.1 vwCl [(kad K g i, e)] H := by
  intro k0 q hq
  have hq2 : q = (kad K g i, e) := by
    cases k0 with
    | zero => simpa using hq.symm
    | succ _ => simp at hq
  rw [hq2, ← he]
  exact hW.2 g i h0 h1
theorem aw_puti {g ci x N : Nat} {fs : List (Option Nat)} {C0 : String} {T : u_T} (ty0 : Nat → FieldType) (hty : ∀ k, k < N → parseFieldDescriptor (T k).2.2.1 = some (ty0 k)) (hnm : ∀ a, a < N → ∀ b, b < N → a ≠ b → (T a).2.1 ≠ (T b).2.1) (hk : gk g = (0, ci, x, fs)) (hc : vwCl[ci]? = some (C0, T, N)) (hly : ∀ w ∈ u_ws C0 T N, w ∈ AL) (hcnt : gcnt g = 1) {idx k : Nat} (kz : Int) (hz : (k : Int) = kz) {v : Int} {M' : Mem} (hd : decode μ.2.1 pc = .ok (.putfield idx, 3)) (hkN : k < N) (hl : Cond.fieldLink μ.1.cls idx (T k).1 (T k).2.1 (T k).2.2.1 ∈ AL) (hv : fs[k]? = some none) (hfin : (T k).2.2.2 = false) (hde : parseFieldDescriptor (T k).2.2.1 = some .int) (hr : inR v) (hM' : updM M g 0 kz v = M') (kk : AW K l μ Z (pc + 3) L st M' cells slots) : AW K l μ Z pc L (iV v :: rV K g 0 :: st) M cells slots := by
  subst hz
  subst hM'
  intro p e s m args below meth c H locs ls C hl2 hW hS
  have hts : ∀ w ∈ AL, w.before args s = true := C.2.2.2.2.1
  have hK := C.2.2.2.2.2.2.2.2.1
  have hown := C.2.2.2.1
  have hAD : ADK K := C.2.2.2.2.2.2.2.2.2.2.1
  have hap := va_apart (own := μ.1.cls) hts hly ty0 hty hnm hK hc
  have h00 : (0 : Int) < gcnt g := by omega
  have hcell := hW.2 g 0 (Int.le_refl 0) h00
  rw [cellOf_obj hk] at hcell
  obtain ⟨r, h1, cell, q1, q2, q3, q4⟩ := hcell
  have hr2 : r = (C0, T, N) := Option.some.inj (h1.symm.trans hc)
  subst hr2
  obtain ⟨hS2, hfc, kC, hkC, hkind⟩ := hK.1 ci _ hc
  obtain ⟨cf, kf, fi, f, hi, hsl⟩ := hS2 k hkN
  have hlay := hts _ (hly _ (u_in_lay hkN))
  unfold u_lay at hlay
  rw [if_neg (by rw [hfin]; decide)] at hlay
  have hst := (u_facts hfc hkC (u_lays hts hly hkN) hi).1
  have h6 := u_store (v := iV v) hfc hkC hkind hlay hi hde rfl rfl
  refine W.putK C.1 C.2.1 (f := f) ⟨hown, hts _ hl, ⟨_, _, _, hi⟩, hst⟩ (by rw [q2]; exact h6) q1 q3 (by rw [hsl]; exact k2_hasslot (q4 k hkN)) rfl rfl hd fun H' e1 e2 e3 => ?_
  rw [hsl] at e1 ⊢
  have hlen : k < (fvals K (M g 0) fs 0).length := by
    rw [fvals_len]
    exact (List.getElem?_eq_some_iff.mp hv).1
  have hnew : va_at K.1 vwCl (kad K g 0, .inr (ci, (fvals K (M g 0) fs 0).set k (iV v))) H' := ⟨_, hc, t_OB.to (V := updV (vp_V (fvals K (M g 0) fs 0)) k (iV v)) ⟨_, e1, q2, q3, t_set q4 hap hkN (iV v)⟩ (fun j _ => vp_updV_set hlen (iV v) j)⟩
  rw [fvals_set (f' := updM M g 0 (k : Int) v g 0) fs 0 k hv (fun j hj => updM_j (by rw [Nat.zero_add] at hj; exact hj)) (by rw [Nat.zero_add]; exact updM_same), ← cellOf_obj (M := updM M g 0 (k : Int) v) (i := 0) hk] at hnew
  exact kk p e s m args below meth c H' _ ls C hl2 (wd_upd hAD hW (Int.le_refl 0) h00 hnew e3 (updM_r hW.1 hr) (fun g' i' q => updM_o q)) (hS.put e2 e3 (hAD.2 g 0 (Int.le_refl 0) h00))
theorem aw_iald {g n x : Nat} {fs : List (Option Nat)} {i j : Int} (hk : gk g = (1, n, x, fs)) (hn : n ≤ 2147483647) (hd : decode μ.2.1 pc = .ok (.iaload, 1)) (hi : 0 ≤ i ∧ i < gcnt g) (hj : 0 ≤ j ∧ j < (n : Int)) (kk : inR (M g i j) → AW K l μ Z (pc + 1) L (iV (M g i j) :: st) M cells slots) : AW K l μ Z pc L (iV j :: rV K g i :: st) M cells slots := by
  intro p e s m args below meth c H locs ls C hl2 hW hS
  have hR : inR j := by omega
  have k2 := kk (hW.1 g i j) p e s m args below meth c H locs ls C hl2 hW hS
  refine va_iald (D := K.1) (tys := ktys K) C.1 C.2.1 C.2.2.2.2.2.2.2.2.1 (wd_one hW g i hi.1 hi.2 (cellOf_ints hk)) 0 0 rfl rfl (r_vin hj.1 hj.2 hR) hd ?_
  rw [rn hR, Int.toNat_of_nonneg hj.1]
  exact k2
theorem aw_aald {g n x : Nat} {fs : List (Option Nat)} {j : Int} (hk : gk g = (2, n, x, fs)) (hn : n ≤ 2147483647) (hcnt : gcnt g = 1) (hd : decode μ.2.1 pc = .ok (.aaload, 1)) (hj : 0 ≤ j ∧ j < (n : Int)) (kk : AW K l μ Z (pc + 1) L (rV K x j :: st) M cells slots) : AW K l μ Z pc L (iV j :: rV K g 0 :: st) M cells slots := by
  intro p e s m args below meth c H locs ls C hl2 hW hS
  have hR : inR j := by omega
  have k2 := kk p e s m args below meth c H locs ls C hl2 hW hS
  have hP := wd_one hW g 0 (Int.le_refl 0) (by omega) (cellOf_rows hk)
  have hK := C.2.2.2.2.2.2.2.2.1
  have hlt : j.toNat < n := by omega
  exact W.aald (v := rV K x j) (ty := .array .int) C.1 C.2.1 (hP 0 _ rfl) ((hK.2 2 _ rfl).1 n (fun t => va_rf (if t < n then some (kad K x (t : Int)) else none))) rfl (fun q => by cases q) (by show ¬ (_ ∨ (arrV _ _ _).slots.size ≤ _); rw [arrV_size]; exact r_vin hj.1 hj.2 hR) (by
    show (arrV _ _ _).slots[_]? = _
    rw [rn hR, arrV_read _ _ hlt]
    show some (va_rf (if j.toNat < n then some (kad K x ((j.toNat : Nat) : Int)) else none)) = some (rV K x j)
    rw [if_pos hlt, Int.toNat_of_nonneg hj.1]
    rfl) rfl rfl hd k2
theorem aw_iast {g n x : Nat} {fs : List (Option Nat)} {i j v : Int} {M' : Mem} (hk : gk g = (1, n, x, fs)) (hn : n ≤ 2147483647) (hd : decode μ.2.1 pc = .ok (.iastore, 1)) (hi : 0 ≤ i ∧ i < gcnt g) (hj : 0 ≤ j ∧ j < (n : Int)) (hr : inR v) (hM' : updM M g i j v = M') (kk : AW K l μ Z (pc + 1) L st M' cells slots) : AW K l μ Z pc L (iV v :: iV j :: rV K g i :: st) M cells slots := by
  subst hM'
  intro p e s m args below meth c H locs ls C hl2 hW hS
  have hR : inR j := by omega
  have hP := wd_one hW g i hi.1 hi.2 (cellOf_ints hk)
  have hK := C.2.2.2.2.2.2.2.2.1
  have hAD : ADK K := C.2.2.2.2.2.2.2.2.2.2.1
  refine W.iast C.1 C.2.1 (hP 0 _ rfl) ((hK.2 0 _ rfl).1 n (fun t => .int (Int32.ofInt (M g i (t : Int))))) (fun q => by cases q) (by show ¬ (_ ∨ (arrV _ _ _).slots.size ≤ _); rw [arrV_size]; exact r_vin hj.1 hj.2 hR) rfl rfl hd fun H1 e1 z oq => ?_
  have hnew : va_at K.1 vwCl (kad K g i, cellOf K (updM M g i j v) g i) H1 := by
    rw [cellOf_ints hk]
    show H1[kad K g i]? = some (vp_cell _ _)
    rw [e1, vp_cell_i, vp_cell_i, arrV_store, rn hR]
    congr 2
    funext q
    by_cases hq : q = j.toNat
    · subst hq
      rw [Int.toNat_of_nonneg hj.1, updM_same]
      simp [updV]
    · rw [updM_j (show (q : Int) ≠ j by omega)]
      simp [updV, hq]
  exact kk p e s m args below meth c H1 _ ls C hl2 (wd_upd hAD hW hi.1 hi.2 hnew oq (updM_r hW.1 hr) (fun g' i' q => updM_o q)) (hS.put z oq (hAD.2 g i hi.1 hi.2))
theorem aw_alen {g n x : Nat} {fs : List (Option Nat)} {i : Int} (hk : gk g = (1, n, x, fs)) (hd : decode μ.2.1 pc = .ok (.arraylength, 1)) (hi : 0 ≤ i ∧ i < gcnt g) (kk : AW K l μ Z (pc + 1) L (iV (n : Int) :: st) M cells slots) : AW K l μ Z pc L (rV K g i :: st) M cells slots := by
  intro p e s m args below meth c H locs ls C hl2 hW hS
  exact va_alen (D := K.1) (tys := ktys K) C.1 C.2.1 C.2.2.2.2.2.2.2.2.1 (wd_one hW g i hi.1 hi.2 (cellOf_ints hk)) 0 0 rfl rfl (by rfl) hd (kk p e s m args below meth c H locs ls C hl2 hW hS)

end AWS
