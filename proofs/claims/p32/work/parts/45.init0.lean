/-! making the objects: cells one behind another, from a place on; a row an instruction -/
def EW (D : va_G) (b : Nat) (E : List va_E) (H : Heap) : Prop := H.size = b + E.length ∧ ∀ (k : Nat) (e : va_E), E[k]? = some e → va_at D vwCl (b + k, e) H
def kty (T : ClassId × ClassId × ClassId) : List (ClassId × FieldType) := [(T.1, .int), (T.2.1, .int), (T.2.2, .array .int)]
abbrev BPar : Type := va_G × (ClassId × ClassId × ClassId) × Nat
abbrev BZT : Type := (State → Array Value → Method → Code → Prop) × (List Frame → Array Value → State → State → Prop)
def bF (b : Nat) : Nat → Prop := fun q => b ≤ q
def vAO (U : State) : Prop := (Cond.arrayOver (.array .int)).before #[] U = true
theorem vAO_moved {u U : State} (hvm : u.vm.Alike U.vm) (h : vAO u) : vAO U := by
  unfold vAO Cond.before Cond.holds at h ⊢
  simp only [Cond.value, beq_iff_eq, Option.bind_eq_some_iff, Option.map_eq_some_iff] at h ⊢
  obtain ⟨comp, h1, i, h2, k, h3, h4⟩ := h
  obtain ⟨k', hk', he⟩ := hvm.2.2 _ _ h3
  refine ⟨comp, by rw [hvm.findClass]; exact h1, i, ?_, k', hk', ?_⟩
  · have eb : U.vm.bare = u.vm.bare := by first | exact hvm.bare_eq | exact hvm.bare_eq.symm
    exact ((va_idx_bare U.vm comp).symm.trans ((congrArg (fun v : Vm => v.classes.findIdx? fun (x : Class) => match x.kind with | .array component _ => component == comp | _ => false) eb).trans (va_idx_bare u.vm comp))).trans h2
  · rw [he, hvm.findClass]
    exact h4
def BX (G : BPar) (μ : MInfo) (Z : BZT) (p : Program) (s : State) (m : MethodId) (args : Array Value) (meth : Method) (c : Code) : Prop :=
  p.tables.exec = Jvm.exec ∧ c.code = μ.2.1 ∧ c.maxLocals = μ.2.2.1 ∧ s.vm.findClass μ.1.cls = some m.cls ∧ (∀ w ∈ AL, w.before args s = true) ∧ meth.sig.returnType = μ.2.2.2.1 ∧ meth.locks = false ∧ va_K G.1 vwCl (kty G.2.1) s ∧ vAO s ∧ Z.1 s args meth c
def BLD (G : BPar) (l : Launch) (μ : MInfo) (Z : BZT) (pc : Nat) (L : List (Option Value)) (st : List Value) (E : List va_E) (cells slots : Nat) : Prop :=
  ∀ (p : Program) (e : Env) (s : State) (m : MethodId) (args : Array Value) (below : List Frame) (meth : Method) (c : Code) (H : Heap) (locs : List Loc) (ls : Array Slot),
    BX G μ Z p s m args meth c → LH ls μ.2.2.1 L → EW G.1 G.2.2 E H → va_S (bF G.2.2) s.heap H locs → s.heap.size ≤ H.size →
    (∀ q : Nat, s.heap.size ≤ q → G.2.2 ≤ q) →
    W p l e (mRm μ) s m args below meth c H locs cells slots (Z.2 below args s) (F0 m pc ls st)
/-- a constructor's contract: the object's cell alone, then the object and what it has made -/
def BPRE (G : BPar) (E : List va_E) (U : State) : Prop := EW G.1 G.2.2 E U.heap ∧ va_K G.1 vwCl (kty G.2.1) U ∧ vAO U
def BCT (G : BPar) (l : Launch) (μ : MInfo) (avs : List Value) (e0 : va_E) (E1 : List va_E) : Prop :=
  Met l μ.1 (.code μ.1 μ.2.1 μ.2.2.1 μ.2.2.2.1 :: AL) (mRm μ) (va_Pc avs (BPRE G [e0])) (va_Qv (S := Unit) (fun _ => True) (fun _ t => EW G.1 G.2.2 E1 t.heap) (bF G.2.2)) μ.2.2.2.2.2.1.1 μ.2.2.2.2.2.1.2 (bF G.2.2)
def ZI (G : BPar) (μ : MInfo) (E1 : List va_E) : BZT := (fun _ _ meth _ => meth.name = "<init>", fun below args s => MQ below (va_Qv (S := Unit) (fun _ => True) (fun _ t => EW G.1 G.2.2 E1 t.heap) (bF G.2.2)) args s μ.2.2.2.2.2.1.1 μ.2.2.2.2.2.1.2 (bF G.2.2))
theorem EW.app {D : va_G} {b : Nat} {E E2 : List va_E} {H H1 : Heap} (h : EW D b E H) (hz : H1.size = H.size + E2.length) (hk : ∀ q : Nat, q < H.size → H1[q]? = H[q]?) (hn : ∀ (k : Nat) (e : va_E), E2[k]? = some e → va_at D vwCl (H.size + k, e) H1) : EW D b (E ++ E2) H1 := by
  refine ⟨by rw [hz, h.1, List.length_append]; omega, fun k e he => ?_⟩
  by_cases q : k < E.length
  · rw [List.getElem?_append_left q] at he
    exact (h.2 k e he).kept (hk _ (by rw [h.1]; show b + k < b + E.length; omega))
  · rw [List.getElem?_append_right (by omega)] at he
    have := hn _ e he
    rw [h.1, show b + E.length + (k - E.length) = b + k by omega] at this
    exact this
theorem EW.set {D : va_G} {b x : Nat} {E : List va_E} {e1 : va_E} {H H1 : Heap} (h : EW D b E H) (hz : H1.size = H.size) (hk : ∀ q : Nat, q ≠ b + x → H1[q]? = H[q]?) (hn : va_at D vwCl (b + x, e1) H1) : EW D b (E.set x e1) H1 := by
  refine ⟨by rw [hz, h.1, List.length_set], fun k e he => ?_⟩
  rw [List.getElem?_set] at he
  by_cases q : x = k
  · rw [if_pos q] at he
    split at he
    · cases he
      rw [← q]
      exact hn
    · cases he
  · rw [if_neg q] at he
    exact (h.2 k e he).kept (hk _ (by show b + k ≠ b + x; omega))
theorem bpre_blind {G : BPar} {avs : List Value} {E : List va_E} : FrameBlind (va_Pc avs (BPRE G E)) := by
  intro a U g mk ⟨h1, h2, hK, hO⟩
  exact ⟨h1, h2, va_K.moved (u := U) (U := U.calling g mk a) (Vm.Alike.refl U.vm) hK, vAO_moved (u := U) (U := U.calling g mk a) (Vm.Alike.refl U.vm) hO⟩
abbrev CALI (ν : MInfo) (n : Nat) : Prop := Cond.code ν.1 ν.2.1 ν.2.2.1 ν.2.2.2.1 ∈ AL ∧ Cond.instanceMethod ν.1 ∈ AL ∧ Cond.initialized ν.1.cls ∈ AL ∧ ν.1.name = "<init>" ∧ ν.2.2.2.1 = none ∧ ν.1.cls ≠ "java/lang/invoke/MethodHandle" ∧ ν.1.cls ≠ "java/lang/invoke/VarHandle" ∧ (parseMethodDescriptor ν.1.desc).map (fun d => d.parameters.length) = some n
section BWS
variable {G : BPar} {l : Launch} {μ : MInfo} {Z : BZT} {pc : Nat} {L : List (Option Value)} {st : List Value} {E : List va_E} {cells slots : Nat}
theorem bw_met {avs : List Value} {e0 : va_E} {E1 : List va_E} (L0 : List (Option Value)) (hy : plainName μ.1.cls = true) (hnm : μ.1.name = "<init>") (hlen : (lg_sl avs).length ≤ μ.2.2.1) (hL : lv_args 0 avs = lvo 0 L0) (hLl : L0.length = μ.2.2.1) (hcat : ∀ v, some v ∈ L0 → v.category = 1) (k : BLD G l μ (ZI G μ E1) 0 L0 [] [e0] 0 0) : BCT G l μ avs e0 E1 := by
  refine Met.ofW (cc := μ.2.1) (maxL := μ.2.2.1) (ret := μ.2.2.2.1) hy rfl ?_
  intro p e s m args below meth c s₁ B hml hv
  obtain ⟨rfl, hE, hK, hO⟩ := hv
  have hts := atoms_spec (ws := .code μ.1 μ.2.1 μ.2.2.1 μ.2.2.2.1 :: AL) B.pre
  rw [lg_entry_eq]
  have hle := lv_entry avs hlen
  rw [hL] at hle
  exact k p e s m _ below meth c s.heap [] _ ⟨B.exec, B.bytes, hml, findClass_of_methodNamed B.named, fun w hw => hts w (List.mem_cons_of_mem _ hw), B.returns, B.notSynchronized, hK, hO, (name_of_methodNamed B.named B.method).1.trans hnm⟩ ⟨hle, hLl, hcat⟩ hE va_S.rf (Nat.le_refl _) (fun q hq => by have := hE.1; omega)
theorem bw_wide {a b : Nat} (h1 : cells ≤ a) (h2 : slots ≤ b) (k : BLD G l μ Z pc L st E a b) : BLD G l μ Z pc L st E cells slots := by
  intro p e s m args below meth c H locs ls C hl hE hS hz hq
  exact W.widen h1 h2 (k p e s m args below meth c H locs ls C hl hE hS hz hq)
theorem bw_aload_n {k : Fin 4} {i : Nat} {a : Nat} (hd : decode μ.2.1 pc = .ok (.aload_n k, 1)) (hi : (k : Nat) = i) (hL : L[i]? = some (some (.ref a))) (kk : BLD G l μ Z (pc + 1) L (.ref a :: st) E cells slots) : BLD G l μ Z pc L st E cells slots := by
  intro p e s m args below meth c H locs ls C hl hE hS hz hq
  exact lv_aload_n C.1 C.2.1 hd hi (hl.at hL) (kk p e s m args below meth c H locs ls C hl hE hS hz hq)
theorem bw_iconst {n : Int} (hd : decode μ.2.1 pc = .ok (.iconst n, 1)) (kk : BLD G l μ Z (pc + 1) L (iV n :: st) E cells slots) : BLD G l μ Z pc L st E cells slots := by
  intro p e s m args below meth c H locs ls C hl hE hS hz hq
  exact lv_iconst C.1 C.2.1 hd rfl (kk p e s m args below meth c H locs ls C hl hE hS hz hq)
theorem bw_bipush {n : Int} (hd : decode μ.2.1 pc = .ok (.bipush n, 2)) (hv : (Int8.ofInt n).toInt32 = Int32.ofInt n) (kk : BLD G l μ Z (pc + 2) L (iV n :: st) E cells slots) : BLD G l μ Z pc L st E cells slots := by
  intro p e s m args below meth c H locs ls C hl hE hS hz hq
  exact lv_bipush C.1 C.2.1 hd hv (kk p e s m args below meth c H locs ls C hl hE hS hz hq)
theorem bw_sipush {n : Int} (hd : decode μ.2.1 pc = .ok (.sipush n, 3)) (hv : (Int16.ofInt n).toInt32 = Int32.ofInt n) (kk : BLD G l μ Z (pc + 3) L (iV n :: st) E cells slots) : BLD G l μ Z pc L st E cells slots := by
  intro p e s m args below meth c H locs ls C hl hE hS hz hq
  exact lv_sipush C.1 C.2.1 hd hv (kk p e s m args below meth c H locs ls C hl hE hS hz hq)
theorem bw_dup {v : Value} (hd : decode μ.2.1 pc = .ok (.dup, 1)) (hv : v.category = 1) (kk : BLD G l μ Z (pc + 1) L (v :: v :: st) E cells slots) : BLD G l μ Z pc L (v :: st) E cells slots := by
  intro p e s m args below meth c H locs ls C hl hE hS hz hq
  exact lv_dup C.1 C.2.1 hd hv (kk p e s m args below meth c H locs ls C hl hE hS hz hq)
theorem bw_astore_n {k : Fin 4} {i : Nat} {a : Nat} {L2 : List (Option Value)} (hd : decode μ.2.1 pc = .ok (.astore_n k, 1)) (hk : (k : Nat) = i) (hi : i < μ.2.2.1) (hL : L.set i (some (.ref a)) = L2) (kk : BLD G l μ Z (pc + 1) L2 st E cells slots) : BLD G l μ Z pc L (.ref a :: st) E cells slots := by
  intro p e s m args below meth c H locs ls C hl hE hS hz hq
  exact lv_astore_n C.1 C.2.1 hd hk hl.1 hi rfl (fun ls2 h2 => kk p e s m args below meth c H locs ls2 C (hL ▸ hl.set rfl h2) hE hS hz hq)
theorem bw_istore {i : Nat} {a : Int} {L2 : List (Option Value)} (hd : decode μ.2.1 pc = .ok (.istore i, 2)) (hi : i < μ.2.2.1) (hL : L.set i (some (iV a)) = L2) (kk : BLD G l μ Z (pc + 2) L2 st E cells slots) : BLD G l μ Z pc L (iV a :: st) E cells slots := by
  intro p e s m args below meth c H locs ls C hl hE hS hz hq
  exact lv_istore C.1 C.2.1 hd hl.1 hi rfl (fun ls2 h2 => kk p e s m args below meth c H locs ls2 C (hL ▸ hl.set rfl h2) hE hS hz hq)
/-- Object's own constructor -/
theorem bw_obj {idx a : Nat} (hd : decode μ.2.1 pc = .ok (.invokespecial idx, 3)) (hli : Cond.methodLink μ.1.cls idx objectInit ∈ AL) (hfr : 1 ≤ (mRm μ).frames) (hlo : (st.map fun v => v.category).sum + 12 ≤ (mRm μ).locals) (kk : BLD G l μ Z (pc + 3) L st E cells slots) : BLD G l μ Z pc L (.ref a :: st) E cells slots := by
  intro p e s m args below meth c H locs ls C hl hE hS hz hq
  have hts : ∀ w ∈ AL, w.before args s = true := C.2.2.2.2.1
  refine W.objInit C.1 C.2.1 C.2.2.2.1 (hts _ hli) (hts _ im_objectInit) (hts _ co_objectInit) rfl (by rw [C.2.2.1]; exact hl.1.1) rfl hd hfr (by show 2 * 0 + _ + 12 ≤ _; omega) ?_
  exact W.eq (g2 := F0 m (pc + 3) ls st) rfl (kk p e s m args below meth c H locs ls C hl hE hS hz hq)
theorem bw_put {ci k N x idx : Nat} {fs : List Value} {C0 : String} {T : u_T} (ty0 : Nat → FieldType) (hty : ∀ k, k < N → parseFieldDescriptor (T k).2.2.1 = some (ty0 k)) (hnm : ∀ a, a < N → ∀ b, b < N → a ≠ b → (T a).2.1 ≠ (T b).2.1) (he : E[x]? = some (.inr (ci, fs))) (hc : vwCl[ci]? = some (C0, T, N)) (hly : ∀ w ∈ u_ws C0 T N, w ∈ AL) (hd : decode μ.2.1 pc = .ok (.putfield idx, 3)) (hkN : k < N) (hl : Cond.fieldLink μ.1.cls idx (T k).1 (T k).2.1 (T k).2.2.1 ∈ AL)
    (hfin : (T k).2.2.2 = false ∨ ((T k).2.2.2 = true ∧ (T k).1 = μ.1.cls ∧ ∀ s a m c, Z.1 s a m c → m.name = "<init>")) {ty : FieldType} {v : Value} (hde : parseFieldDescriptor (T k).2.2.1 = some ty) (hn : narrow ty v = v) (hfit : fits ty v = true) (hlen : k < fs.length) {E1 : List va_E} (hE1 : E.set x (.inr (ci, fs.set k v)) = E1) (kk : BLD G l μ Z (pc + 3) L st E1 cells slots) : BLD G l μ Z pc L (v :: .ref (G.2.2 + x) :: st) E cells slots := by
  subst hE1
  intro p e s m args below meth c H locs ls C hl2 hE hS hz hq
  have hts : ∀ w ∈ AL, w.before args s = true := C.2.2.2.2.1
  have hK := C.2.2.2.2.2.2.2.1
  have hown := C.2.2.2.1
  have hap := va_apart (own := μ.1.cls) hts hly ty0 hty hnm hK hc
  obtain ⟨r, h1, cell, q1, q2, q3, q4⟩ := hE.2 x _ he
  have hr : r = (C0, T, N) := Option.some.inj (h1.symm.trans hc)
  subst hr
  obtain ⟨hS2, hfc, kC, hkC, hkind⟩ := hK.1 ci _ hc
  obtain ⟨cf, kf, fi, f, hi, hsl⟩ := hS2 k hkN
  have hlay := hts _ (hly _ (u_in_lay hkN))
  have hst := (u_facts hfc hkC (u_lays hts hly hkN) hi).1
  have go : ∀ H' : Heap, H'[G.2.2 + x]? = some (cell.setSlot f.slot v) → H'.size = H.size → (∀ q, q ≠ G.2.2 + x → H'[q]? = H[q]?) → W p l e (mRm μ) s m args below meth c H' (locs ++ [⟨G.2.2 + x, f.slot⟩]) cells slots (Z.2 below args s) (F0 m (pc + 3) ls st) := fun H' e1 e2 e3 => by
    rw [hsl] at e1 ⊢
    exact kk p e s m args below meth c H' _ ls C hl2 (hE.set e2 e3 ⟨_, hc, t_OB.to (V := updV (vp_V fs) k v) ⟨_, e1, q2, q3, t_set q4 hap hkN v⟩ (fun j _ => vp_updV_set hlen v j)⟩) (hS.put e2 e3 (by show G.2.2 ≤ G.2.2 + x; omega)) (by rw [e2]; exact hz) hq
  unfold u_lay at hlay
  rcases hfin with hfin | ⟨hfin, hdecl, hin⟩
  · rw [if_neg (by rw [hfin]; decide)] at hlay
    have h6 := u_store hfc hkC hkind hlay hi hde hn hfit
    exact W.putK C.1 C.2.1 (f := f) ⟨hown, hts _ hl, ⟨_, _, _, hi⟩, hst⟩ (by rw [q2]; exact h6) q1 q3 (by rw [hsl]; exact k2_hasslot (q4 k hkN)) rfl rfl hd go
  · rw [if_pos hfin] at hlay
    have hcf : m.cls = cf := by
      obtain ⟨_, _, c', _, _, _, -, -, hf', -, -, -, hown2, -⟩ := Cond.laysFinal_spec hlay
      have e1 : c' = cf := by have := hi.symm.trans hf'; simp at this; exact this.1.symm
      rw [hdecl] at hown2
      rw [← e1]
      exact Option.some.inj (hown.symm.trans hown2)
    have h6 := u_fits hfc hkC hkind (Or.inr hlay) hi hde hn hfit
    exact W.putFinK C.1 C.2.1 hown (hts _ hl) hi hst hcf (hin _ _ _ _ C.2.2.2.2.2.2.2.2.2) (by rw [q2]; exact h6) q1 q3 (by rw [hsl]; exact k2_hasslot (q4 k hkN)) rfl rfl hd go
theorem bw_get {ci k N x idx : Nat} {fs : List Value} {C0 : String} {T : u_T} {v : Value} (he : E[x]? = some (.inr (ci, fs))) (hc : vwCl[ci]? = some (C0, T, N)) (hly : ∀ w ∈ u_ws C0 T N, w ∈ AL) (hd : decode μ.2.1 pc = .ok (.getfield idx, 3)) (hkN : k < N) (hl : Cond.fieldLink μ.1.cls idx (T k).1 (T k).2.1 (T k).2.2.1 ∈ AL) (hv : fs[k]? = some v) (kk : BLD G l μ Z (pc + 3) L (v :: st) E cells slots) : BLD G l μ Z pc L (.ref (G.2.2 + x) :: st) E cells slots := by
  intro p e s m args below meth c H locs ls C hl2 hE hS hz hq
  have hP : va_P G.1 vwCl [(G.2.2 + x, .inr (ci, fs))] H := fun k0 q h => by
    cases k0 with
    | zero => simp at h; subst h; exact hE.2 x _ he
    | succ _ => simp at h
  exact va_get (D := G.1) (ci := ci) (v := v) (C := C0) (T := T) (N := N) (Ts := AL) C.1 C.2.1 C.2.2.2.2.1 hly C.2.2.2.1 C.2.2.2.2.2.2.2.1 hP 0 rfl hc k hkN (C.2.2.2.2.1 _ hl) (fun _ h9 => h9) hv hd (kk p e s m args below meth c H locs ls C hl2 hE hS hz hq)
theorem bw_new {ci N n idx : Nat} {fs : List Value} {C0 : String} {T : u_T} {E1 : List va_E} (ty0 : Nat → FieldType) (hty : ∀ k, k < N → parseFieldDescriptor (T k).2.2.1 = some (ty0 k)) (hc : vwCl[ci]? = some (C0, T, N)) (hly : ∀ w ∈ u_ws C0 T N, w ∈ AL) (hd : decode μ.2.1 pc = .ok (.new idx, 3)) (hcl : Cond.classLink μ.1.cls idx C0 ∈ AL) (hins : Cond.instantiable C0 N ∈ AL) (hini : Cond.initialized C0 ∈ AL) (hfs : ∀ j, j < N → defaultValue (ty0 j) = vp_V fs j) (hn : E.length = n) (h1 : cells + 1 ≤ (mRm μ).cells) (h2 : slots + N ≤ (mRm μ).slots) (hE1 : E ++ [.inr (ci, fs)] = E1) (kk : BLD G l μ Z (pc + 3) L (.ref (G.2.2 + n) :: st) E1 (cells + 1) (slots + N)) : BLD G l μ Z pc L st E cells slots := by
  subst hE1 hn
  intro p e s m args below meth c H locs ls C hl2 hE hS hz hq
  have hts : ∀ w ∈ AL, w.before args s = true := C.2.2.2.2.1
  have hK := C.2.2.2.2.2.2.2.1
  have hKn := hK.1 ci _ hc
  refine W.newcK C.1 C.2.1 C.2.2.2.1 (hts _ hcl) (hts _ hins) (hts _ hini) rfl hd h1 h2 hKn.2.1 hE.1 fun H1 kC hkC e1 z1 o1 => ?_
  refine W.eq (g2 := F0 m (pc + 3) ls (.ref (G.2.2 + E.length) :: st)) rfl ?_
  refine kk p e s m args below meth c H1 locs ls C hl2 (hE.app (by rw [z1, hE.1]; rfl) (fun q hq => o1 q (by rw [← hE.1]; exact hq)) (fun k e hk => ?_)) ⟨Nat.le_trans hS.1 (by rw [z1, hE.1]; omega), fun q h1 h2 => (o1 q (by have := hS.1; rw [hE.1] at this; omega)).trans (hS.2.1 q h1 h2), hS.2.2⟩ (by rw [z1]; have := hE.1; omega) hq
  cases k with
  | zero =>
    cases hk
    rw [hE.1]
    exact ⟨_, hc, (u_born ty0 hts hly hKn hkC e1 hty).to hfs⟩
  | succ k => simp at hk
theorem bw_newi {N n : Nat} {nz : Int} {E1 : List va_E} (hd : decode μ.2.1 pc = .ok (.newarray .int, 2)) (hnz : (N : Int) = nz) (hb : N ≤ 100000) (hn : E.length = n) (h1 : cells + 1 ≤ (mRm μ).cells) (h2 : slots + N ≤ (mRm μ).slots) (hE1 : E ++ [.inl (G.2.1.1, N, .inl (fun _ => Int32.ofInt 0))] = E1) (kk : BLD G l μ Z (pc + 2) L (.ref (G.2.2 + n) :: st) E1 (cells + 1) (slots + N)) : BLD G l μ Z pc L (iV nz :: st) E cells slots := by
  subst hE1 hn hnz
  intro p e s m args below meth c H locs ls C hl2 hE hS hz hq
  have hts : ∀ w ∈ AL, w.before args s = true := C.2.2.2.2.1
  have hK := C.2.2.2.2.2.2.2.1
  have hR : inR (N : Int) := by omega
  refine va_newaK C.1 C.2.1 (atype := .int) (hts _ ac_int) (g := F0 m pc ls (iV (N : Int) :: st)) rfl hd rfl (N := N) (fun q => by have := (r_lt hR r_0).mp q; omega) (by rw [rn hR]; omega) (by show N * 4 ≤ 536870912; omega) h1 h2 hE.1 fun H1 cA e1 z1 o1 hAr hNm => ?_
  have hc : cA = G.2.1.1 := by
    have h9 : s.vm.findClass ("[" ++ FieldType.int.toString) = some G.2.1.1 := (hK.2 0 _ rfl).2
    exact Option.some.inj (hNm.symm.trans h9)
  subst hc
  refine W.eq (g2 := F0 m (pc + 2) ls (.ref (G.2.2 + E.length) :: st)) rfl ?_
  refine kk p e s m args below meth c H1 locs ls C hl2 (hE.app (by rw [z1, hE.1]; rfl) (fun q hq => o1 q (by rw [← hE.1]; exact hq)) (fun k e hk => ?_)) ⟨Nat.le_trans hS.1 (by rw [z1, hE.1]; omega), fun q h1 h2 => (o1 q (by have := hS.1; rw [hE.1] at this; omega)).trans (hS.2.1 q h1 h2), hS.2.2⟩ (by rw [z1]; have := hE.1; omega) hq
  cases k with
  | zero =>
    cases hk
    rw [hE.1]
    exact e1
  | succ k => simp at hk
/-- rows of rows: the outer one, then its rows one behind another -/
def mEs (T : ClassId × ClassId × ClassId) (a N K : Nat) : List va_E := .inl (T.2.2, N, .inr (.inr (.inr (.inr (fun j => if j < N then some (a + 1 + j) else none))))) :: List.replicate N (.inl (T.1, K, .inl (fun _ => Int32.ofInt 0)))
theorem bw_mna {N K n idx : Nat} {nz kz : Int} {E1 : List va_E} (hd : decode μ.2.1 pc = .ok (.multianewarray idx 2, 4)) (hcl : Cond.classLink μ.1.cls idx "[[I" ∈ AL) (hnz : (N : Int) = nz) (hkz : (K : Int) = kz) (hb : N ≤ 10000) (hb2 : K ≤ 10000) (hn : E.length = n) (h1 : cells + (1 + N) ≤ (mRm μ).cells) (h2 : slots + (N + N * K) ≤ (mRm μ).slots) (hE1 : E ++ mEs G.2.1 (G.2.2 + n) N K = E1) (kk : BLD G l μ Z (pc + 4) L (.ref (G.2.2 + n) :: st) E1 (cells + (1 + N)) (slots + (N + N * K))) : BLD G l μ Z pc L (iV kz :: iV nz :: st) E cells slots := by
  subst hE1 hn hnz hkz
  intro p e s m args below meth c H locs ls C hl2 hE hS hz hq
  have hts : ∀ w ∈ AL, w.before args s = true := C.2.2.2.2.1
  have hK := C.2.2.2.2.2.2.2.1
  have hR : inR (N : Int) := by omega
  have hR2 : inR (K : Int) := by omega
  have eN : (Int32.ofInt (N : Int)).toNatClampNeg = N := by rw [rn hR]; omega
  have eK : (Int32.ofInt (K : Int)).toNatClampNeg = K := by rw [rn hR2]; omega
  intro T hT Xs
  obtain ⟨vm₁, cA, comp, -, fA, fC, hO, -, X', step⟩ := Xs.multianewarray2F C.1 C.2.2.2.1 (ty := .int) (hts _ hcl) C.2.2.2.2.2.2.2.2.1 (hts _ ac_int) (g := F0 m pc ls (iV (K : Int) :: iV (N : Int) :: st)) rfl (by rw [C.2.1]; exact hd) rfl (fun q => by have := (r_lt hR r_0).mp q; omega) (fun q => by have := (r_lt hR2 r_0).mp q; omega) (by rw [eN]; omega) (by rw [eK]; show K * 4 ≤ 536870912; omega) (by rw [eK]; omega) rfl rfl (by rw [eN]; exact h1) (by rw [eN, eK]; exact h2)
  have c1 : cA = G.2.1.2.2 := by
    have h9 : s.vm.findClass ("[" ++ (FieldType.array .int).toString) = some G.2.1.2.2 := (hK.2 2 _ rfl).2
    exact Option.some.inj (fA.symm.trans h9)
  have c2 : comp = G.2.1.1 := by
    have h9 : s.vm.findClass ("[" ++ FieldType.int.toString) = some G.2.1.1 := (hK.2 0 _ rfl).2
    exact Option.some.inj (fC.symm.trans h9)
  subst c1 c2
  rw [eN, eK] at X' step
  have hTh : (T.setVm vm₁).heap = H := hT
  obtain ⟨f1, f2, -, -⟩ := Jvm.Free.Multi.fill_facts (T.setVm vm₁) G.2.1.2.2 G.2.1.1 N K (defaultValue .int) N
  have f3 := fun (x : Nat) (hx : x < H.size) => Jvm.Free.Multi.fill_old (T.setVm vm₁) G.2.1.2.2 G.2.1.1 N K (defaultValue .int) (a := x) (by rw [hTh]; exact hx) N
  have f4 := fun (j : Nat) (hj : j < N) => Jvm.Free.Multi.fill_inner (T.setVm vm₁) G.2.1.2.2 G.2.1.1 N K (defaultValue .int) N j hj
  generalize Jvm.Free.Multi.fill (T.setVm vm₁) G.2.1.2.2 G.2.1.1 N K (defaultValue .int) N = F at X' step f1 f2 f3 f4
  rw [hTh] at f1 f2 f3 f4
  have hEF : EW G.1 G.2.2 (E ++ mEs G.2.1 (G.2.2 + E.length) N K) F.heap := by
    refine hE.app (by rw [f1]; unfold mEs; rw [List.length_cons, List.length_replicate]; omega) f3 (fun k e hk => ?_)
    unfold mEs at hk
    cases k with
    | zero =>
      cases hk
      show F.heap[H.size + 0]? = some (vp_cell _ _)
      rw [vp_cell_q, ← hE.1]
      exact f2.trans (congrArg some (vr_outer _ _ _ _))
    | succ k =>
      rw [List.getElem?_cons_succ, List.getElem?_replicate] at hk
      by_cases q : k < N
      · rw [if_pos q] at hk
        cases hk
        show F.heap[H.size + (k + 1)]? = some (vp_cell _ _)
        rw [vp_cell_i, show H.size + (k + 1) = H.size + 1 + k by omega]
        refine (f4 k q).trans (congrArg some ?_)
        exact arrV_new _ _ _
      · rw [if_neg q] at hk
        cases hk
  obtain ⟨t, a1, b1⟩ := kk p e s m args below meth c F.heap _ ls C hl2 hEF ⟨by rw [f1]; have := hS.1; omega, fun q h1 h2 => (f3 q (Nat.lt_of_lt_of_le h1 hS.1)).trans (hS.2.1 q h1 h2), hS.2.2⟩ (by rw [f1]; omega) hq F rfl (by rw [show cells + (1 + N) = cells + 1 + N by omega, show slots + (N + N * K) = slots + N + N * K by omega]; exact X')
  refine ⟨t, step t ?_, b1⟩
  have e9 : T.heap.size = G.2.2 + E.length := by rw [hT]; exact hE.1
  rw [e9]
  exact a1
/-- a constructor called on what was made last -/
theorem bw_call {ν : MInfo} {n idx x : Nat} {P : List va_E} {e0 : va_E} {Ec E1 : List va_E} {As rest : List Value} (hCT : BCT (G.1, G.2.1, G.2.2 + x) l ν (.ref (G.2.2 + x) :: As) e0 Ec) (hcal : CALI ν n) (hd : decode μ.2.1 pc = .ok (.invokespecial idx, 3)) (hli : Cond.methodLink μ.1.cls idx ν.1 ∈ AL) (hx : P.length = x) (hE : E = P ++ [e0]) (hn : As.length = n) (hst : st = As.reverse ++ .ref (G.2.2 + x) :: rest) (hre : (rest.map fun v => v.category).sum ≤ 8)
    (hR : (mRm ν).frames + 1 ≤ (mRm μ).frames ∧ 8 + (ν.2.2.1 + 11) + (mRm ν).locals ≤ (mRm μ).locals) (hf : cells + (mRm ν).cells ≤ (mRm μ).cells ∧ slots + (mRm ν).slots ≤ (mRm μ).slots) (hE1 : P ++ Ec = E1)
    (kk : BLD G l μ Z (pc + 3) L rest E1 (cells + (mRm ν).cells) (slots + (mRm ν).slots)) : BLD G l μ Z pc L st E cells slots := by
  subst hst hE hE1 hx
  intro p e s m args below meth c H locs ls C hl hEH hS hz hq
  have hts : ∀ w ∈ AL, w.before args s = true := C.2.2.2.2.1
  have hK := C.2.2.2.2.2.2.2.1
  obtain ⟨i1, i2, i3, i4, i5, i6⟩ := hcal
  have hsz : H.size = G.2.2 + P.length + 1 := by
    have := hEH.1
    rw [List.length_append] at this
    have h9 : [e0].length = 1 := rfl
    omega
  have hcb := callB_of (R := mRm μ) (s := s) (args := args) (own := μ.1.cls) (index := idx) (y := ν.1) (bytes := ν.2.1) (maxL := ν.2.2.1) (ret := ν.2.2.2.1) (ws := Cond.code ν.1 ν.2.1 ν.2.2.1 ν.2.2.2.1 :: AL) (ws' := AL) (rm := mRm ν) n hts (al_good i1) rfl rfl rfl (hts _ i3) (hts _ hli) i6 hR
  rw [i5] at hcb
  have hM := hCT
  unfold BCT at hM
  rw [i5] at hM
  refine va_callv (va_runI (As := As) (rest := rest) ⟨C.1, C.2.1, C.2.2.1, C.2.2.2.1, hts⟩ hM ⟨hcb, i4, hts _ i2⟩ ⟨bpre_blind, fun U hU hWm => ⟨rfl, ⟨by rw [hU]; exact hsz, fun k e hk => ?_⟩, va_K.moved hWm.alike hK, vAO_moved hWm.alike C.2.2.2.2.2.2.2.2.1⟩⟩ rfl hn hl.1.1 rfl (lv_room hre) hd hf) hS (fun q _ h => by show G.2.2 ≤ q; have h9 : G.2.2 + P.length ≤ q := h; omega) (fun q h => by show G.2.2 ≤ q; have h9 : G.2.2 + P.length ≤ q := h; omega) (fun u t H1 locs1 ht hvm hw hB hz1 hk1 hS1 => ?_)
  · cases k with
    | zero =>
      cases hk
      have := hEH.2 P.length e0 (by rw [List.getElem?_append_right (Nat.le_refl _)]; simp)
      rw [hU]
      exact this
    | succ k => simp at hk
  · rw [ht] at hB
    refine kk p e s m args below meth c H1 locs1 ls C hl ⟨?_, fun k e hk => ?_⟩ hS1 (Nat.le_trans hz hz1) hq
    · have := hB.1
      rw [this, List.length_append]
      show G.2.2 + P.length + Ec.length = _
      omega
    · by_cases q : k < P.length
      · rw [List.getElem?_append_left q] at hk
        refine (hEH.2 k e (by rw [List.getElem?_append_left q]; exact hk)).kept (hk1 _ ?_ ?_)
        · show G.2.2 + k < H.size; omega
        · show ¬ (G.2.2 + P.length ≤ G.2.2 + k); omega
      · rw [List.getElem?_append_right (by omega)] at hk
        have := hB.2 _ e hk
        have e9 : G.2.2 + P.length + (k - P.length) = G.2.2 + k := by omega
        rw [show ((G.1, G.2.1, G.2.2 + P.length) : BPar).2.2 + (k - P.length) = G.2.2 + k from e9] at this
        exact this
theorem bw_ret (hd : decode μ.2.1 pc = .ok (.return_, 1)) (hrt : μ.2.2.2.1 = none) (h1 : cells ≤ (mRm μ).cells) (h2 : slots ≤ (mRm μ).slots) : BLD G l μ (ZI G μ E) pc L [] E cells slots := by
  intro p e s m args below meth c H locs ls C hl hE hS hz hq
  refine W.widen h1 h2 ?_
  exact W.vret C.1 C.2.1 (C.2.2.2.2.2.1.trans hrt) (fun t ht hWt => ⟨⟨(), rfl, trivial, by show EW G.1 G.2.2 E t.heap; rw [ht]; exact hE⟩, hS.F ht⟩) hS.2.2 hd C.2.2.2.2.2.2.1
end BWS
