/-! the memory: ints (and booleans), longs, references by cell and slot; how many cells are made. A judgement V over it, a row an instruction -/
abbrev MemT : Type := (Nat → Nat → Int32) × (Nat → Nat → Int64) × (Nat → Nat → Option Nat) × Nat
abbrev GlT : Type := Launch × va_G × Nat × ClassId × ClassId × ClassId × ClassId
abbrev KT : Type := MethodName × ByteArray × Nat × Option FieldType
abbrev XT : Type := KT × Nat × Nat × Nat
def xA (g : GlT) (k : Nat) : Nat := g.2.2.1 + k
def xFr (g : GlT) : Nat → Prop := fun q => g.2.2.1 ≤ q
theorem xFr_A (g : GlT) (k : Nat) : xFr g (xA g k) := Nat.le_add_right _ _
/-- a slot's value by its type -/
def xF (g : GlT) (M : MemT) (k j : Nat) (ty : FieldType) : Value := match ty with
  | .long => .long (M.2.1 k j)
  | .object _ => va_rf ((M.2.2.1 k j).map (xA g))
  | .array _ => va_rf ((M.2.2.1 k j).map (xA g))
  | _ => .int (M.1 k j)
def xFs (g : GlT) (M : MemT) (k ci : Nat) : List Value := (List.range (xN ci)).map fun j => xF g M k j (xTy ci j)
def xE (g : GlT) (M : MemT) (k : Nat) : va_E := match lay k with
  | (0, ci) => .inr (ci, xFs g M k ci)
  | (1, n) => .inl (g.2.2.2.1, n, .inl (M.1 k))
  | (2, n) => .inl (g.2.2.2.2.1, n, .inl (M.1 k))
  | (3, n) => .inl (g.2.2.2.2.2.1, n, .inr (.inr (.inr (.inr fun j => (M.2.2.1 k j).map (xA g)))))
  | (_, n) => .inl (g.2.2.2.2.2.2, n, .inr (.inr (.inr (.inr fun j => (M.2.2.1 k j).map (xA g)))))
def xW (g : GlT) (M : MemT) : va_W := (List.range M.2.2.2).map fun k => (xA g k, xE g M k)
def xTys (g : GlT) : List (ClassId × FieldType) := [(g.2.2.2.1, .int), (g.2.2.2.2.1, .boolean), (g.2.2.2.2.2.1, .object "ArbitratedBus$Bus"), (g.2.2.2.2.2.2, .object "ArbitratedBus$Node")]
def xP (g : GlT) (M : MemT) (H : Heap) : Prop := (M.2.2.2 < 305 → H.size = xA g M.2.2.2) ∧ va_P g.2.1 xC (xW g M) H
theorem xW_get {g : GlT} {M : MemT} {k : Nat} (h : k < M.2.2.2) : (xW g M)[k]? = some (xA g k, xE g M k) := by simp [xW, h]
theorem xW_in {g : GlT} {M : MemT} {k : Nat} {q : Nat × va_E} (h : (xW g M)[k]? = some q) : k < M.2.2.2 ∧ q = (xA g k, xE g M k) := by
  have hk : k < (xW g M).length := (List.getElem?_eq_some_iff.mp h).1
  have hk : k < M.2.2.2 := by simpa [xW] using hk
  rw [xW_get hk] at h
  exact ⟨hk, (Option.some.inj h).symm⟩
theorem xW_set {g : GlT} {M M' : MemT} {k : Nat} (hn : M'.2.2.2 = M.2.2.2) (h : ∀ j, j ≠ k → xE g M' j = xE g M j) : (xW g M).set k (xA g k, xE g M' k) = xW g M' := by
  apply List.ext_getElem?
  intro i
  rw [List.getElem?_set]
  by_cases hi : k = i
  · subst hi
    rw [if_pos rfl]
    by_cases hk : k < M.2.2.2
    · rw [if_pos (by simpa [xW] using hk), xW_get (by rw [hn]; exact hk)]
    · rw [if_neg (by simpa [xW] using hk)]
      symm
      apply List.getElem?_eq_none
      simp [xW]
      omega
  · rw [if_neg hi]
    by_cases hk : i < M.2.2.2
    · rw [xW_get hk, xW_get (by rw [hn]; exact hk), h i (fun e => hi e.symm)]
    · rw [List.getElem?_eq_none (by simp [xW]; omega), List.getElem?_eq_none (by simp [xW]; omega)]
theorem xW_D (g : GlT) (M : MemT) : va_D (xFr g) (xW g M) := by
  refine ⟨fun i j p q hi hj e => ?_, fun k q h => ?_⟩
  · rw [(xW_in hi).2, (xW_in hj).2] at e
    have e : g.2.2.1 + i = g.2.2.1 + j := e
    omega
  · rw [(xW_in h).2]
    exact xFr_A g k
theorem xE_congr {g : GlT} {M M' : MemT} {k : Nat} (h1 : M'.1 k = M.1 k) (h2 : M'.2.1 k = M.2.1 k) (h3 : M'.2.2.1 k = M.2.2.1 k) : xE g M' k = xE g M k := by
  have hF : ∀ ci, xFs g M' k ci = xFs g M k ci := fun ci => by
    unfold xFs
    apply List.map_congr_left
    intro j _
    unfold xF
    rw [h1, h2, h3]
  unfold xE
  rw [h1, h3]
  split <;> simp only [hF]
theorem xE_obj {g : GlT} {M : MemT} {k ci : Nat} (h : lay k = (0, ci)) : xE g M k = .inr (ci, xFs g M k ci) := by simp [xE, h]
theorem xE_int {g : GlT} {M : MemT} {k n : Nat} (h : lay k = (1, n)) : xE g M k = .inl (g.2.2.2.1, n, .inl (M.1 k)) := by simp [xE, h]
theorem xE_boo {g : GlT} {M : MemT} {k n : Nat} (h : lay k = (2, n)) : xE g M k = .inl (g.2.2.2.2.1, n, .inl (M.1 k)) := by simp [xE, h]
theorem xE_bus {g : GlT} {M : MemT} {k n : Nat} (h : lay k = (3, n)) : xE g M k = .inl (g.2.2.2.2.2.1, n, .inr (.inr (.inr (.inr fun j => (M.2.2.1 k j).map (xA g))))) := by simp [xE, h]
theorem xE_nod {g : GlT} {M : MemT} {k n : Nat} (h : lay k = (4, n)) : xE g M k = .inl (g.2.2.2.2.2.2, n, .inr (.inr (.inr (.inr fun j => (M.2.2.1 k j).map (xA g))))) := by simp [xE, h]
theorem xFs_get {g : GlT} {M : MemT} {k ci j : Nat} (h : j < xN ci) : (xFs g M k ci)[j]? = some (xF g M k j (xTy ci j)) := by simp [xFs, h]
theorem xFs_len {g : GlT} {M : MemT} {k ci : Nat} : (xFs g M k ci).length = xN ci := by simp [xFs]
theorem xFs_set {g : GlT} {M M' : MemT} {k ci j : Nat} {v : Value} (hv : xF g M' k j (xTy ci j) = v) (h : ∀ i, i ≠ j → xF g M' k i (xTy ci i) = xF g M k i (xTy ci i)) : (xFs g M k ci).set j v = xFs g M' k ci := by
  apply List.ext_getElem?
  intro i
  rw [List.getElem?_set]
  by_cases hi : j = i
  · subst hi
    rw [if_pos rfl]
    by_cases hk : j < xN ci
    · rw [if_pos (by rw [xFs_len]; exact hk), xFs_get hk, hv]
    · rw [if_neg (by rw [xFs_len]; exact hk)]
      symm
      apply List.getElem?_eq_none
      rw [xFs_len]; omega
  · rw [if_neg hi]
    by_cases hk : i < xN ci
    · rw [xFs_get hk, xFs_get hk, h i (fun e => hi e.symm)]
    · rw [List.getElem?_eq_none (by rw [xFs_len]; omega), List.getElem?_eq_none (by rw [xFs_len]; omega)]
theorem lay_small (k : Nat) : (lay k).2 < 2 ^ 31 := by
  have h : ∀ q ∈ lyL, q.2 < 2 ^ 31 := by decide +kernel
  unfold lay
  rw [List.getD_eq_getElem?_getD]
  cases hk : lyL[k]? with
  | none => decide
  | some q => exact h q (List.mem_of_getElem? hk)
/-- one int, one long, one reference set -/
def uI (I : Nat → Nat → Int32) (k j : Nat) (x : Int32) : Nat → Nat → Int32 := va_up I k (upd (I k) j x)
def uL (I : Nat → Nat → Int64) (k j : Nat) (x : Int64) : Nat → Nat → Int64 := va_up I k (va_up (I k) j x)
def uR (I : Nat → Nat → Option Nat) (k j : Nat) (x : Option Nat) : Nat → Nat → Option Nat := va_up I k (va_up (I k) j x)
theorem uI_row (I : Nat → Nat → Int32) (k j : Nat) (x : Int32) : uI I k j x k = upd (I k) j x := by simp [uI, va_up]
theorem uI_off (I : Nat → Nat → Int32) {k a : Nat} (j : Nat) (x : Int32) (h : a ≠ k) : uI I k j x a = I a := by simp [uI, va_up, h]
theorem uI_self (I : Nat → Nat → Int32) (k j : Nat) (x : Int32) : uI I k j x k j = x := by simp [uI, va_up, upd]
theorem uI_ne (I : Nat → Nat → Int32) (k : Nat) {j b : Nat} (x : Int32) (h : b ≠ j) : uI I k j x k b = I k b := by simp [uI, va_up, upd, h]
theorem uI_eq (I : Nat → Nat → Int32) (k j a b : Nat) (x : Int32) : uI I k j x a b = if a = k ∧ b = j then x else I a b := by
  by_cases h : a = k
  · subst h
    simp [uI, va_up, upd]
  · simp [uI, va_up, h]
theorem uL_off (I : Nat → Nat → Int64) {k a : Nat} (j : Nat) (x : Int64) (h : a ≠ k) : uL I k j x a = I a := by simp [uL, va_up, h]
theorem uL_self (I : Nat → Nat → Int64) (k j : Nat) (x : Int64) : uL I k j x k j = x := by simp [uL, va_up]
theorem uL_ne (I : Nat → Nat → Int64) (k : Nat) {j b : Nat} (x : Int64) (h : b ≠ j) : uL I k j x k b = I k b := by simp [uL, va_up, h]
theorem uL_eq (I : Nat → Nat → Int64) (k j a b : Nat) (x : Int64) : uL I k j x a b = if a = k ∧ b = j then x else I a b := by
  by_cases h : a = k
  · subst h
    simp [uL, va_up]
  · simp [uL, va_up, h]
theorem uR_off (I : Nat → Nat → Option Nat) {k a : Nat} (j : Nat) (x : Option Nat) (h : a ≠ k) : uR I k j x a = I a := by simp [uR, va_up, h]
theorem uR_self (I : Nat → Nat → Option Nat) (k j : Nat) (x : Option Nat) : uR I k j x k j = x := by simp [uR, va_up]
theorem uR_ne (I : Nat → Nat → Option Nat) (k : Nat) {j b : Nat} (x : Option Nat) (h : b ≠ j) : uR I k j x k b = I k b := by simp [uR, va_up, h]
/-- the tables' facts that a state has -/
def isNest : Cond → Bool
  | .methodLinkNest .. => true
  | _ => false
def xNest : List Cond := lw_tbl.filter isNest
def xK (g : GlT) (U : State) : Prop := va_K g.2.1 xC (xTys g) U ∧ (∀ w ∈ xNest, va_Nw w U) ∧ va_AO "ArbitratedBus$Bus" U ∧ va_AO "ArbitratedBus$Node" U
theorem xK.warm {g : GlT} {s U : State} (hW : s.WarmedH U.vm) (h : xK g s) : xK g U := by
  refine ⟨va_K.moved hW.alike h.1, fun w hw => ?_, va_AO.moved hW.alike h.2.2.1, va_AO.moved hW.alike h.2.2.2⟩
  have h1 := h.2.1 w hw
  have h2 := (List.mem_filter.mp hw).2
  cases w <;> first | exact va_Nw.warmM hW h1 | (simp [isNest] at h2)
theorem xK.same {g : GlT} {s U : State} (hW : s.vm = U.vm) (h : xK g s) : xK g U := by
  have ha : s.vm.Alike U.vm := by rw [hW]; exact Vm.Alike.refl _
  refine ⟨va_K.moved ha h.1, fun w hw => ?_, va_AO.moved ha h.2.2.1, va_AO.moved ha h.2.2.2⟩
  have h1 := h.2.1 w hw
  have h2 := (List.mem_filter.mp hw).2
  cases w <;> first | exact va_Nw.same rfl hW h1 | (simp [isNest] at h2)
/-- room: frames and locals by the depth of the calls -/
def xR (X : XT) : Room := { frames := X.2.1, cells := X.2.2.1, slots := X.2.2.2, locals := 37 * X.2.1 }
def xQ (g : GlT) (Q : Option Value → MemT → Prop) : Array Value → State → Outcome → State → Prop := fun _ st o t => ∃ (r : Option Value) (M : MemT), o = .returned r ∧ Q r M ∧ xP g M t.heap ∧ va_F (xFr g) st t
def xCx (g : GlT) (X : XT) (p : Program) (s : State) (m : MethodId) (args : Array Value) (meth : Method) (c : Code) : Prop :=
  p.tables.exec = Jvm.exec ∧ c.code = X.1.2.1 ∧ c.maxLocals = X.1.2.2.1 ∧ meth.sig.returnType = X.1.2.2.2 ∧ meth.locks = false ∧ s.vm.findClass X.1.1.cls = some m.cls ∧ meth.name = X.1.1.name ∧ (∀ w ∈ xT, w.before args s = true) ∧ xK g s ∧ g.2.2.1 ≤ s.heap.size
/-- the judgement: from this place of the method, with these locals and stack and this memory, it returns with Q -/
def V (g : GlT) (X : XT) (kc ks pc : Nat) (lv : List (Nat × Value)) (st : List Value) (M : MemT) (Q : Option Value → MemT → Prop) : Prop :=
  ∀ (p : Program) (e : Env) (s : State) (m : MethodId) (args : Array Value) (below : List Frame) (meth : Method) (c : Code), xCx g X p s m args meth c →
    ∀ (H : Heap) (locs : List Loc) (ls : Array Slot), xP g M H → va_S (xFr g) s.heap H locs → lv_has ls X.1.2.2.1 lv →
      W p g.1 e (xR X) s m args below meth c H locs kc ks (MQ below (xQ g Q) args s X.2.2.1 X.2.2.2 (xFr g)) (F0 m pc ls st)
/-- a method's contract -/
def Call (g : GlT) (X : XT) (As : List Value) (M : MemT) (Q : Option Value → MemT → Prop) : Prop :=
  Met g.1 X.1.1 (.code X.1.1 X.1.2.1 X.1.2.2.1 X.1.2.2.2 :: xT) (xR X) (va_Pc As fun U => xP g M U.heap ∧ xK g U ∧ g.2.2.1 ≤ U.heap.size) (xQ g Q) X.2.2.1 X.2.2.2 (xFr g)
theorem Call.of {g : GlT} {X : XT} {As : List Value} {M : MemT} {Q : Option Value → MemT → Prop} {lv : List (Nat × Value)} (hy : plainName X.1.1.cls = true) (hlen : (lg_sl As).length ≤ X.1.2.2.1) (hlv : lv_args 0 As = lv) (h : V g X 0 0 0 lv [] M Q) : Call g X As M Q := by
  refine Met.ofW (cc := X.1.2.1) (maxL := X.1.2.2.1) (ret := X.1.2.2.2) hy rfl ?_
  intro p e s m args below meth c s₁ B hml hv
  obtain ⟨rfl, hP, hK, hz⟩ := hv
  have hts := atoms_spec (ws := .code X.1.1 X.1.2.1 X.1.2.2.1 X.1.2.2.2 :: xT) B.pre
  have hl := lv_entry As (n := X.1.2.2.1) hlen
  rw [lg_entry_eq]
  subst hlv
  exact h p e s m _ below meth c ⟨B.exec, B.bytes, hml, B.returns, B.notSynchronized, findClass_of_methodNamed B.named, (name_of_methodNamed B.named B.method).1, fun w hw => hts w (List.mem_cons_of_mem _ hw), hK, hz⟩ s.heap [] _ hP va_S.rf hl
