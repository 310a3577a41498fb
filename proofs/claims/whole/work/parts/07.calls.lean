section VT
variable {g : GlT} {X : XT} {kc ks pc pc1 : Nat} {lv : List (Nat × Value)} {st stk : List Value} {M : MemT} {Q : Option Value → MemT → Prop} {I I1 : Nat → Nat → Int32} {L L1 : Nat → Nat → Int64}
theorem V_geti {RN : (Nat → Nat → Option Nat) × Nat} {k ci j idx : Nat} {x : Int32} (hl0 : lay k = (0, ci)) (hk : k < RN.2) (hf : fOK X.1.1.cls idx ci j) (hty : ∀ M : MemT, xF g M k j (xTy ci j) = .int (M.1 k j)) (hv : I k j = x) (hd : decode X.1.2.1 pc = .ok (.getfield idx, 3)) (hp : pc + 3 = pc1) (kk : V g X kc ks pc1 lv (.int x :: st) (I, L, RN) Q) : V g X kc ks pc lv (.ref (xA g k) :: st) (I, L, RN) Q := V_get hl0 hk hf ((hty _).trans (congrArg Value.int hv)) hd hp kk
theorem V_getl {RN : (Nat → Nat → Option Nat) × Nat} {k ci j idx : Nat} {x : Int64} (hl0 : lay k = (0, ci)) (hk : k < RN.2) (hf : fOK X.1.1.cls idx ci j) (hty : ∀ M : MemT, xF g M k j (xTy ci j) = .long (M.2.1 k j)) (hv : L k j = x) (hd : decode X.1.2.1 pc = .ok (.getfield idx, 3)) (hp : pc + 3 = pc1) (kk : V g X kc ks pc1 lv (.long x :: st) (I, L, RN) Q) : V g X kc ks pc lv (.ref (xA g k) :: st) (I, L, RN) Q := V_get hl0 hk hf ((hty _).trans (congrArg Value.long hv)) hd hp kk
theorem V_getr {R : Nat → Nat → Option Nat} {n k ci j idx t : Nat} (hl0 : lay k = (0, ci)) (hk : k < n) (hf : fOK X.1.1.cls idx ci j) (hty : ∀ M : MemT, xF g M k j (xTy ci j) = va_rf ((M.2.2.1 k j).map (xA g))) (hv : R k j = some t) (hd : decode X.1.2.1 pc = .ok (.getfield idx, 3)) (hp : pc + 3 = pc1) (kk : V g X kc ks pc1 lv (.ref (xA g t) :: st) (I, L, R, n) Q) : V g X kc ks pc lv (.ref (xA g k) :: st) (I, L, R, n) Q := V_get hl0 hk hf ((hty _).trans (by show va_rf ((R k j).map (xA g)) = _; rw [hv]; rfl)) hd hp kk
theorem V_iald2 {RN : (Nat → Nat → Option Nat) × Nat} {k n : Nat} (j : Nat) {i : Int32} (hl0 : lay k = (1, n)) (hk : k < RN.2) (hi : i = nI j) (hj : j < n) {v : Int32} (hv : I k j = v) (hd : decode X.1.2.1 pc = .ok (.iaload, 1)) (hp : pc + 1 = pc1) (kk : V g X kc ks pc1 lv (.int v :: st) (I, L, RN) Q) : V g X kc ks pc lv (.int i :: .ref (xA g k) :: st) (I, L, RN) Q := V_iald j hl0 hk hi hj hv hd hp kk
theorem V_zald2 {RN : (Nat → Nat → Option Nat) × Nat} {k n : Nat} (j : Nat) {i : Int32} (hl0 : lay k = (2, n)) (hk : k < RN.2) (hi : i = nI j) (hj : j < n) {v : Int32} (hv : I k j = v) (hd : decode X.1.2.1 pc = .ok (.baload, 1)) (hp : pc + 1 = pc1) (kk : V g X kc ks pc1 lv (.int v :: st) (I, L, RN) Q) : V g X kc ks pc lv (.int i :: .ref (xA g k) :: st) (I, L, RN) Q := V_zald j hl0 hk hi hj hv hd hp kk
def Qv (I : Nat → Nat → Int32) (L : Nat → Nat → Int64) : Option Value → MemT → Prop := fun r M => r = none ∧ M = (I, L, R0, 305)
def Qi (x : Int32) (I : Nat → Nat → Int32) (L : Nat → Nat → Int64) : Option Value → MemT → Prop := fun r M => r = some (.int x) ∧ M = (I, L, R0, 305)
def Ql (x : Int64) (I : Nat → Nat → Int32) (L : Nat → Nat → Int64) : Option Value → MemT → Prop := fun r M => r = some (.long x) ∧ M = (I, L, R0, 305)
theorem V_any {Y : XT} {r : Option Value} {I1 : Nat → Nat → Int32} {L1 : Nat → Nat → Int64} (hz : Y.2.2 = (0, 0)) (kk : V g X kc ks pc1 lv (r.toList ++ st) (I1, L1, R0, 305) Q) : ∀ (r' : Option Value) (M' : MemT), (r' = r ∧ M' = (I1, L1, R0, 305)) → V g X (kc + Y.2.2.1) (ks + Y.2.2.2) pc1 lv (r'.toList ++ st) M' Q := by
  intro r' M' h
  obtain ⟨rfl, rfl⟩ := h
  rw [hz]
  exact kk
theorem V_vv {Y : XT} {As : List Value} {k ci idx n : Nat} (hc : Call g Y (.ref (xA g k) :: As) (I, L, R0, 305) (Qv I1 L1)) (hl0 : lay k = (0, ci)) (hk : k < 305) (hm : mV Y.1 n ci) (hlk : Cond.methodLink X.1.1.cls idx Y.1.1 ∈ xT) (hn : As.length = n) (hz : Y.2.2 = (0, 0)) (hR : rOK X Y kc ks) (hsum : (st.map fun v => v.category).sum ≤ 8) (hst : stk = As.reverse ++ .ref (xA g k) :: st) (hd : decode X.1.2.1 pc = .ok (.invokevirtual idx, 3)) (hp : pc + 3 = pc1) (kk : V g X kc ks pc1 lv st (I1, L1, R0, 305) Q) : V g X kc ks pc lv stk (I, L, R0, 305) Q := V_callV hc hl0 hk hm hlk hn hR hsum hst hd hp (V_any (r := none) hz kk)
theorem V_sv {Y : XT} {As : List Value} {idx n : Nat} (hc : Call g Y As (I, L, R0, 305) (Qv I1 L1)) (hm : mS Y.1 n) (hlk : Cond.methodLink X.1.1.cls idx Y.1.1 ∈ xT) (hn : As.length = n) (hz : Y.2.2 = (0, 0)) (hR : rOK X Y kc ks) (hsum : (st.map fun v => v.category).sum ≤ 8) (hst : stk = As.reverse ++ st) (hd : decode X.1.2.1 pc = .ok (.invokestatic idx, 3)) (hp : pc + 3 = pc1) (kk : V g X kc ks pc1 lv st (I1, L1, R0, 305) Q) : V g X kc ks pc lv stk (I, L, R0, 305) Q := V_callS hc hm hlk hn hR hsum hst hd hp (V_any (r := none) hz kk)
theorem V_nv {Y : XT} {As : List Value} {idx n : Nat} {host : String} (hc : Call g Y As (I, L, R0, 305) (Qv I1 L1)) (hm : mS Y.1 n) (hlk : Cond.methodLinkNest X.1.1.cls idx Y.1.1 host ∈ xNest) (hn : As.length = n) (hz : Y.2.2 = (0, 0)) (hR : rOK X Y kc ks) (hsum : (st.map fun v => v.category).sum ≤ 8) (hst : stk = As.reverse ++ st) (hd : decode X.1.2.1 pc = .ok (.invokestatic idx, 3)) (hp : pc + 3 = pc1) (kk : V g X kc ks pc1 lv st (I1, L1, R0, 305) Q) : V g X kc ks pc lv stk (I, L, R0, 305) Q := V_callSN hc hm hlk hn hR hsum hst hd hp (V_any (r := none) hz kk)
theorem V_vi {Y : XT} {As : List Value} {k ci idx n : Nat} {x : Int32} (hc : Call g Y (.ref (xA g k) :: As) (I, L, R0, 305) (Qi x I1 L1)) (hl0 : lay k = (0, ci)) (hk : k < 305) (hm : mV Y.1 n ci) (hlk : Cond.methodLink X.1.1.cls idx Y.1.1 ∈ xT) (hn : As.length = n) (hz : Y.2.2 = (0, 0)) (hR : rOK X Y kc ks) (hsum : (st.map fun v => v.category).sum ≤ 8) (hst : stk = As.reverse ++ .ref (xA g k) :: st) (hd : decode X.1.2.1 pc = .ok (.invokevirtual idx, 3)) (hp : pc + 3 = pc1) (kk : V g X kc ks pc1 lv (.int x :: st) (I1, L1, R0, 305) Q) : V g X kc ks pc lv stk (I, L, R0, 305) Q := V_callV hc hl0 hk hm hlk hn hR hsum hst hd hp (V_any (r := some (.int x)) hz kk)
theorem V_si {Y : XT} {As : List Value} {idx n : Nat} {x : Int32} (hc : Call g Y As (I, L, R0, 305) (Qi x I1 L1)) (hm : mS Y.1 n) (hlk : Cond.methodLink X.1.1.cls idx Y.1.1 ∈ xT) (hn : As.length = n) (hz : Y.2.2 = (0, 0)) (hR : rOK X Y kc ks) (hsum : (st.map fun v => v.category).sum ≤ 8) (hst : stk = As.reverse ++ st) (hd : decode X.1.2.1 pc = .ok (.invokestatic idx, 3)) (hp : pc + 3 = pc1) (kk : V g X kc ks pc1 lv (.int x :: st) (I1, L1, R0, 305) Q) : V g X kc ks pc lv stk (I, L, R0, 305) Q := V_callS hc hm hlk hn hR hsum hst hd hp (V_any (r := some (.int x)) hz kk)
theorem V_ni {Y : XT} {As : List Value} {idx n : Nat} {host : String} {x : Int32} (hc : Call g Y As (I, L, R0, 305) (Qi x I1 L1)) (hm : mS Y.1 n) (hlk : Cond.methodLinkNest X.1.1.cls idx Y.1.1 host ∈ xNest) (hn : As.length = n) (hz : Y.2.2 = (0, 0)) (hR : rOK X Y kc ks) (hsum : (st.map fun v => v.category).sum ≤ 8) (hst : stk = As.reverse ++ st) (hd : decode X.1.2.1 pc = .ok (.invokestatic idx, 3)) (hp : pc + 3 = pc1) (kk : V g X kc ks pc1 lv (.int x :: st) (I1, L1, R0, 305) Q) : V g X kc ks pc lv stk (I, L, R0, 305) Q := V_callSN hc hm hlk hn hR hsum hst hd hp (V_any (r := some (.int x)) hz kk)
theorem V_vl {Y : XT} {As : List Value} {k ci idx n : Nat} {x : Int64} (hc : Call g Y (.ref (xA g k) :: As) (I, L, R0, 305) (Ql x I1 L1)) (hl0 : lay k = (0, ci)) (hk : k < 305) (hm : mV Y.1 n ci) (hlk : Cond.methodLink X.1.1.cls idx Y.1.1 ∈ xT) (hn : As.length = n) (hz : Y.2.2 = (0, 0)) (hR : rOK X Y kc ks) (hsum : (st.map fun v => v.category).sum ≤ 8) (hst : stk = As.reverse ++ .ref (xA g k) :: st) (hd : decode X.1.2.1 pc = .ok (.invokevirtual idx, 3)) (hp : pc + 3 = pc1) (kk : V g X kc ks pc1 lv (.long x :: st) (I1, L1, R0, 305) Q) : V g X kc ks pc lv stk (I, L, R0, 305) Q := V_callV hc hl0 hk hm hlk hn hR hsum hst hd hp (V_any (r := some (.long x)) hz kk)
theorem V_sl {Y : XT} {As : List Value} {idx n : Nat} {x : Int64} (hc : Call g Y As (I, L, R0, 305) (Ql x I1 L1)) (hm : mS Y.1 n) (hlk : Cond.methodLink X.1.1.cls idx Y.1.1 ∈ xT) (hn : As.length = n) (hz : Y.2.2 = (0, 0)) (hR : rOK X Y kc ks) (hsum : (st.map fun v => v.category).sum ≤ 8) (hst : stk = As.reverse ++ st) (hd : decode X.1.2.1 pc = .ok (.invokestatic idx, 3)) (hp : pc + 3 = pc1) (kk : V g X kc ks pc1 lv (.long x :: st) (I1, L1, R0, 305) Q) : V g X kc ks pc lv stk (I, L, R0, 305) Q := V_callS hc hm hlk hn hR hsum hst hd hp (V_any (r := some (.long x)) hz kk)
theorem V_nl {Y : XT} {As : List Value} {idx n : Nat} {host : String} {x : Int64} (hc : Call g Y As (I, L, R0, 305) (Ql x I1 L1)) (hm : mS Y.1 n) (hlk : Cond.methodLinkNest X.1.1.cls idx Y.1.1 host ∈ xNest) (hn : As.length = n) (hz : Y.2.2 = (0, 0)) (hR : rOK X Y kc ks) (hsum : (st.map fun v => v.category).sum ≤ 8) (hst : stk = As.reverse ++ st) (hd : decode X.1.2.1 pc = .ok (.invokestatic idx, 3)) (hp : pc + 3 = pc1) (kk : V g X kc ks pc1 lv (.long x :: st) (I1, L1, R0, 305) Q) : V g X kc ks pc lv stk (I, L, R0, 305) Q := V_callSN hc hm hlk hn hR hsum hst hd hp (V_any (r := some (.long x)) hz kk)
/-- a boolean answer -/
def bI (b : Bool) : Int32 := if b = true then 1 else 0
theorem bI_or (b : Bool) : bI b = 0 ∨ bI b = 1 := by cases b <;> simp [bI]
theorem bI_0 {b : Bool} : bI b = 0 ↔ b = false := by cases b <;> simp [bI]
theorem bI_n0 {b : Bool} : ¬ bI b = 0 ↔ b = true := by cases b <;> simp [bI]
theorem bI_ite {c : Prop} [Decidable c] (x y : Bool) : (if c then bI x else bI y) = bI (if c then x else y) := by split <;> rfl
theorem bI_t : (1 : Int32) = bI true := rfl
theorem bI_f : (0 : Int32) = bI false := rfl
theorem V_eq {lv1 : List (Nat × Value)} {st1 : List Value} {M1 : MemT} (h1 : lv1 = lv) (h2 : st1 = st) (h3 : M1 = M) (k : V g X kc ks pc lv1 st1 M1 Q) : V g X kc ks pc lv st M Q := by
  subst h1; subst h2; subst h3; exact k
theorem V_beq {b : Bool} {off : Int} {tgt : Nat} (hd : decode X.1.2.1 pc = .ok (.ifCond .eq off, 3)) (ht : (pc : Int) + off = (tgt : Int)) (hp : pc + 3 = pc1) (kt : ¬ b = true → V g X kc ks tgt lv st M Q) (kf : b = true → V g X kc ks pc1 lv st M Q) : V g X kc ks pc lv (.int (bI b) :: st) M Q := V_if_eq hd ht hp (fun h => kt (by rw [bI_0.mp h]; decide)) (fun h => kf (bI_n0.mp h))
theorem V_bne {b : Bool} {off : Int} {tgt : Nat} (hd : decode X.1.2.1 pc = .ok (.ifCond .ne off, 3)) (ht : (pc : Int) + off = (tgt : Int)) (hp : pc + 3 = pc1) (kt : b = true → V g X kc ks tgt lv st M Q) (kf : ¬ b = true → V g X kc ks pc1 lv st M Q) : V g X kc ks pc lv (.int (bI b) :: st) M Q := V_if_ne hd ht hp (fun h => kt (bI_n0.mp h)) (fun h => kf (by rw [bI_0.mp h]; decide))
theorem ts_ne {x v : Int32} {i : Int} (h : Int32.ofInt i = v) (hn : ¬ x = v) : ¬ x = Int32.ofInt i := by rw [h]; exact hn
/-- fewer locals -/
def lvsub (lv1 lv2 : List (Nat × Value)) : Prop := ∀ q ∈ lv1, q ∈ lv2
theorem lvsub_p {lv1 lv2 : List (Nat × Value)} (ks : List Nat) (h : lv_pick lv2 ks = lv1) : lvsub lv1 lv2 := by
  intro q hq
  rw [← h] at hq
  obtain ⟨k, -, hk⟩ := List.mem_filterMap.mp hq
  exact List.mem_of_getElem? hk
theorem V_lv {lv1 : List (Nat × Value)} (h : lvsub lv1 lv) (k : V g X kc ks pc lv1 st M Q) : V g X kc ks pc lv st M Q := fun p e s m args below meth c hC H locs ls hP hS hl => k p e s m args below meth c hC H locs ls hP hS ⟨hl.1, hl.2.1, fun q hq => hl.2.2 q (h q hq)⟩
end VT
/-! the blocks of cells: nodes with their limits, lists with their capacity, .. -/
def ndL : List (Nat × Nat) := [(4, 2), (20, 2), (36, 2), (52, 2), (75, 73), (91, 73), (107, 73), (123, 73), (147, 145), (163, 145), (179, 145), (195, 145), (218, 216), (234, 216), (250, 216), (266, 216)]
def okN (k l : Nat) : Prop := (k, l) ∈ ndL
def flL : List (Nat × Nat) := [(7, 4), (23, 4), (39, 4), (55, 4), (78, 4), (94, 4), (110, 4), (126, 4), (150, 4), (166, 4), (182, 4), (198, 4), (221, 4), (237, 4), (253, 4), (269, 4), (11, 6), (27, 6), (43, 6), (59, 6), (82, 6), (98, 6), (114, 6), (130, 6), (154, 6), (170, 6), (186, 6), (202, 6), (225, 6), (241, 6), (257, 6), (273, 6), (15, 4), (31, 4), (47, 4), (63, 4), (86, 4), (102, 4), (118, 4), (134, 4), (158, 4), (174, 4), (190, 4), (206, 4), (229, 4), (245, 4), (261, 4), (277, 4)]
def okF (k c : Nat) : Prop := (k, c) ∈ flL
def fbL : List Nat := [19, 35, 51, 67, 90, 106, 122, 138, 162, 178, 194, 210, 233, 249, 265, 281, 287]
def okG (k : Nat) : Prop := k ∈ fbL
def tyL : List Nat := [5, 21, 37, 53, 76, 92, 108, 124, 148, 164, 180, 196, 219, 235, 251, 267]
def okY (k : Nat) : Prop := k ∈ tyL
def lmL : List Nat := [2, 73, 145, 216]
def okL (k : Nat) : Prop := k ∈ lmL
def dsL : List Nat := [68, 139, 211, 282]
def okD (k : Nat) : Prop := k ∈ dsL
def bsL : List Nat := [1, 72, 144, 215]
def okB (k : Nat) : Prop := k ∈ bsL
theorem nd_l0 {k l : Nat} (h : okN k l) : lay (k) = (0, 6) := (by decide +kernel : ∀ q ∈ ndL, lay (q.1) = (0, 6)) (k, l) h
theorem nd_b0 {k l : Nat} (h : okN k l) : k < 305 := (by decide +kernel : ∀ q ∈ ndL, q.1 < 305) (k, l) h
theorem nd_l1 {k l : Nat} (h : okN k l) : lay (k + 1) = (0, 8) := (by decide +kernel : ∀ q ∈ ndL, lay (q.1 + 1) = (0, 8)) (k, l) h
theorem nd_b1 {k l : Nat} (h : okN k l) : k + 1 < 305 := (by decide +kernel : ∀ q ∈ ndL, q.1 + 1 < 305) (k, l) h
theorem nd_l2 {k l : Nat} (h : okN k l) : lay (k + 2) = (1, 6) := (by decide +kernel : ∀ q ∈ ndL, lay (q.1 + 2) = (1, 6)) (k, l) h
theorem nd_b2 {k l : Nat} (h : okN k l) : k + 2 < 305 := (by decide +kernel : ∀ q ∈ ndL, q.1 + 2 < 305) (k, l) h
theorem nd_l3 {k l : Nat} (h : okN k l) : lay (k + 3) = (0, 3) := (by decide +kernel : ∀ q ∈ ndL, lay (q.1 + 3) = (0, 3)) (k, l) h
theorem nd_b3 {k l : Nat} (h : okN k l) : k + 3 < 305 := (by decide +kernel : ∀ q ∈ ndL, q.1 + 3 < 305) (k, l) h
theorem nd_l4 {k l : Nat} (h : okN k l) : lay (k + 4) = (1, 4) := (by decide +kernel : ∀ q ∈ ndL, lay (q.1 + 4) = (1, 4)) (k, l) h
theorem nd_b4 {k l : Nat} (h : okN k l) : k + 4 < 305 := (by decide +kernel : ∀ q ∈ ndL, q.1 + 4 < 305) (k, l) h
theorem nd_l5 {k l : Nat} (h : okN k l) : lay (k + 5) = (1, 4) := (by decide +kernel : ∀ q ∈ ndL, lay (q.1 + 5) = (1, 4)) (k, l) h
theorem nd_b5 {k l : Nat} (h : okN k l) : k + 5 < 305 := (by decide +kernel : ∀ q ∈ ndL, q.1 + 5 < 305) (k, l) h
theorem nd_l6 {k l : Nat} (h : okN k l) : lay (k + 6) = (1, 4) := (by decide +kernel : ∀ q ∈ ndL, lay (q.1 + 6) = (1, 4)) (k, l) h
theorem nd_b6 {k l : Nat} (h : okN k l) : k + 6 < 305 := (by decide +kernel : ∀ q ∈ ndL, q.1 + 6 < 305) (k, l) h
theorem nd_l7 {k l : Nat} (h : okN k l) : lay (k + 7) = (0, 3) := (by decide +kernel : ∀ q ∈ ndL, lay (q.1 + 7) = (0, 3)) (k, l) h
theorem nd_b7 {k l : Nat} (h : okN k l) : k + 7 < 305 := (by decide +kernel : ∀ q ∈ ndL, q.1 + 7 < 305) (k, l) h
theorem nd_l8 {k l : Nat} (h : okN k l) : lay (k + 8) = (1, 6) := (by decide +kernel : ∀ q ∈ ndL, lay (q.1 + 8) = (1, 6)) (k, l) h
theorem nd_b8 {k l : Nat} (h : okN k l) : k + 8 < 305 := (by decide +kernel : ∀ q ∈ ndL, q.1 + 8 < 305) (k, l) h
theorem nd_l9 {k l : Nat} (h : okN k l) : lay (k + 9) = (1, 6) := (by decide +kernel : ∀ q ∈ ndL, lay (q.1 + 9) = (1, 6)) (k, l) h
theorem nd_b9 {k l : Nat} (h : okN k l) : k + 9 < 305 := (by decide +kernel : ∀ q ∈ ndL, q.1 + 9 < 305) (k, l) h
theorem nd_l10 {k l : Nat} (h : okN k l) : lay (k + 10) = (1, 6) := (by decide +kernel : ∀ q ∈ ndL, lay (q.1 + 10) = (1, 6)) (k, l) h
theorem nd_b10 {k l : Nat} (h : okN k l) : k + 10 < 305 := (by decide +kernel : ∀ q ∈ ndL, q.1 + 10 < 305) (k, l) h
theorem nd_l11 {k l : Nat} (h : okN k l) : lay (k + 11) = (0, 3) := (by decide +kernel : ∀ q ∈ ndL, lay (q.1 + 11) = (0, 3)) (k, l) h
theorem nd_b11 {k l : Nat} (h : okN k l) : k + 11 < 305 := (by decide +kernel : ∀ q ∈ ndL, q.1 + 11 < 305) (k, l) h
theorem nd_l12 {k l : Nat} (h : okN k l) : lay (k + 12) = (1, 4) := (by decide +kernel : ∀ q ∈ ndL, lay (q.1 + 12) = (1, 4)) (k, l) h
theorem nd_b12 {k l : Nat} (h : okN k l) : k + 12 < 305 := (by decide +kernel : ∀ q ∈ ndL, q.1 + 12 < 305) (k, l) h
theorem nd_l13 {k l : Nat} (h : okN k l) : lay (k + 13) = (1, 4) := (by decide +kernel : ∀ q ∈ ndL, lay (q.1 + 13) = (1, 4)) (k, l) h
theorem nd_b13 {k l : Nat} (h : okN k l) : k + 13 < 305 := (by decide +kernel : ∀ q ∈ ndL, q.1 + 13 < 305) (k, l) h
theorem nd_l14 {k l : Nat} (h : okN k l) : lay (k + 14) = (1, 4) := (by decide +kernel : ∀ q ∈ ndL, lay (q.1 + 14) = (1, 4)) (k, l) h
theorem nd_b14 {k l : Nat} (h : okN k l) : k + 14 < 305 := (by decide +kernel : ∀ q ∈ ndL, q.1 + 14 < 305) (k, l) h
theorem nd_l15 {k l : Nat} (h : okN k l) : lay (k + 15) = (0, 2) := (by decide +kernel : ∀ q ∈ ndL, lay (q.1 + 15) = (0, 2)) (k, l) h
theorem nd_b15 {k l : Nat} (h : okN k l) : k + 15 < 305 := (by decide +kernel : ∀ q ∈ ndL, q.1 + 15 < 305) (k, l) h
theorem nd_r0_0 {k l : Nat} (h : okN k l) : R0 (k) 0 = some l := (by decide +kernel : ∀ q ∈ ndL, R0 (q.1) 0 = some q.2) (k, l) h
theorem nd_r0_1 {k l : Nat} (h : okN k l) : R0 (k) 1 = some (k + 1) := (by decide +kernel : ∀ q ∈ ndL, R0 (q.1) 1 = some (q.1 + 1)) (k, l) h
theorem nd_r0_2 {k l : Nat} (h : okN k l) : R0 (k) 2 = some (k + 3) := (by decide +kernel : ∀ q ∈ ndL, R0 (q.1) 2 = some (q.1 + 3)) (k, l) h
theorem nd_r0_3 {k l : Nat} (h : okN k l) : R0 (k) 3 = some (k + 7) := (by decide +kernel : ∀ q ∈ ndL, R0 (q.1) 3 = some (q.1 + 7)) (k, l) h
theorem nd_r0_4 {k l : Nat} (h : okN k l) : R0 (k) 4 = some (k + 11) := (by decide +kernel : ∀ q ∈ ndL, R0 (q.1) 4 = some (q.1 + 11)) (k, l) h
theorem nd_r0_5 {k l : Nat} (h : okN k l) : R0 (k) 5 = some (k + 15) := (by decide +kernel : ∀ q ∈ ndL, R0 (q.1) 5 = some (q.1 + 15)) (k, l) h
theorem nd_r1_0 {k l : Nat} (h : okN k l) : R0 (k + 1) 0 = some (k + 2) := (by decide +kernel : ∀ q ∈ ndL, R0 (q.1 + 1) 0 = some (q.1 + 2)) (k, l) h
theorem nd_r3_0 {k l : Nat} (h : okN k l) : R0 (k + 3) 0 = some (k + 4) := (by decide +kernel : ∀ q ∈ ndL, R0 (q.1 + 3) 0 = some (q.1 + 4)) (k, l) h
theorem nd_r3_1 {k l : Nat} (h : okN k l) : R0 (k + 3) 1 = some (k + 5) := (by decide +kernel : ∀ q ∈ ndL, R0 (q.1 + 3) 1 = some (q.1 + 5)) (k, l) h
theorem nd_r3_2 {k l : Nat} (h : okN k l) : R0 (k + 3) 2 = some (k + 6) := (by decide +kernel : ∀ q ∈ ndL, R0 (q.1 + 3) 2 = some (q.1 + 6)) (k, l) h
theorem nd_r7_0 {k l : Nat} (h : okN k l) : R0 (k + 7) 0 = some (k + 8) := (by decide +kernel : ∀ q ∈ ndL, R0 (q.1 + 7) 0 = some (q.1 + 8)) (k, l) h
theorem nd_r7_1 {k l : Nat} (h : okN k l) : R0 (k + 7) 1 = some (k + 9) := (by decide +kernel : ∀ q ∈ ndL, R0 (q.1 + 7) 1 = some (q.1 + 9)) (k, l) h
theorem nd_r7_2 {k l : Nat} (h : okN k l) : R0 (k + 7) 2 = some (k + 10) := (by decide +kernel : ∀ q ∈ ndL, R0 (q.1 + 7) 2 = some (q.1 + 10)) (k, l) h
theorem nd_r11_0 {k l : Nat} (h : okN k l) : R0 (k + 11) 0 = some (k + 12) := (by decide +kernel : ∀ q ∈ ndL, R0 (q.1 + 11) 0 = some (q.1 + 12)) (k, l) h
theorem nd_r11_1 {k l : Nat} (h : okN k l) : R0 (k + 11) 1 = some (k + 13) := (by decide +kernel : ∀ q ∈ ndL, R0 (q.1 + 11) 1 = some (q.1 + 13)) (k, l) h
theorem nd_r11_2 {k l : Nat} (h : okN k l) : R0 (k + 11) 2 = some (k + 14) := (by decide +kernel : ∀ q ∈ ndL, R0 (q.1 + 11) 2 = some (q.1 + 14)) (k, l) h
theorem nd_F3 {k l : Nat} (h : okN k l) : okF (k + 3) 4 := (by decide +kernel : ∀ q ∈ ndL, (q.1 + 3, 4) ∈ flL) (k, l) h
theorem nd_F7 {k l : Nat} (h : okN k l) : okF (k + 7) 6 := (by decide +kernel : ∀ q ∈ ndL, (q.1 + 7, 6) ∈ flL) (k, l) h
theorem nd_F11 {k l : Nat} (h : okN k l) : okF (k + 11) 4 := (by decide +kernel : ∀ q ∈ ndL, (q.1 + 11, 4) ∈ flL) (k, l) h
theorem nd_G15 {k l : Nat} (h : okN k l) : okG (k + 15) := (by decide +kernel : ∀ q ∈ ndL, q.1 + 15 ∈ fbL) (k, l) h
theorem nd_Y1 {k l : Nat} (h : okN k l) : okY (k + 1) := (by decide +kernel : ∀ q ∈ ndL, q.1 + 1 ∈ tyL) (k, l) h
theorem nd_L {k l : Nat} (h : okN k l) : okL l := (by decide +kernel : ∀ q ∈ ndL, q.2 ∈ lmL) (k, l) h
theorem nd_lt {k l : Nat} (h : okN k l) : l < k := (by decide +kernel : ∀ q ∈ ndL, q.2 < q.1) (k, l) h
theorem fl_b0 {k l : Nat} (h : okF k l) : k < 305 := (by decide +kernel : ∀ q ∈ flL, q.1 < 305) (k, l) h
theorem fl_l0 {k l : Nat} (h : okF k l) : lay (k) = (0, 3) := (by decide +kernel : ∀ q ∈ flL, lay (q.1) = (0, 3)) (k, l) h
theorem fl_b1 {k l : Nat} (h : okF k l) : k + 1 < 305 := (by decide +kernel : ∀ q ∈ flL, q.1 + 1 < 305) (k, l) h
theorem fl_l1 {k l : Nat} (h : okF k l) : lay (k + 1) = (1, l) := (by decide +kernel : ∀ q ∈ flL, lay (q.1 + 1) = (1, q.2)) (k, l) h
theorem fl_b2 {k l : Nat} (h : okF k l) : k + 2 < 305 := (by decide +kernel : ∀ q ∈ flL, q.1 + 2 < 305) (k, l) h
theorem fl_l2 {k l : Nat} (h : okF k l) : lay (k + 2) = (1, l) := (by decide +kernel : ∀ q ∈ flL, lay (q.1 + 2) = (1, q.2)) (k, l) h
theorem fl_b3 {k l : Nat} (h : okF k l) : k + 3 < 305 := (by decide +kernel : ∀ q ∈ flL, q.1 + 3 < 305) (k, l) h
theorem fl_l3 {k l : Nat} (h : okF k l) : lay (k + 3) = (1, l) := (by decide +kernel : ∀ q ∈ flL, lay (q.1 + 3) = (1, q.2)) (k, l) h
theorem fl_r0_0 {k l : Nat} (h : okF k l) : R0 k 0 = some (k + 1) := (by decide +kernel : ∀ q ∈ flL, R0 q.1 0 = some (q.1 + 1)) (k, l) h
theorem fl_r0_1 {k l : Nat} (h : okF k l) : R0 k 1 = some (k + 2) := (by decide +kernel : ∀ q ∈ flL, R0 q.1 1 = some (q.1 + 2)) (k, l) h
theorem fl_r0_2 {k l : Nat} (h : okF k l) : R0 k 2 = some (k + 3) := (by decide +kernel : ∀ q ∈ flL, R0 q.1 2 = some (q.1 + 3)) (k, l) h
theorem fl_cap {k l : Nat} (h : okF k l) : 0 < l ∧ l ≤ 6 := (by decide +kernel : ∀ q ∈ flL, 0 < q.2 ∧ q.2 ≤ 6) (k, l) h
theorem fb_l0 {k : Nat} (h : okG k) : lay k = (0, 2) := (by decide +kernel : ∀ q ∈ fbL, lay q = (0, 2)) k h
theorem fb_b0 {k : Nat} (h : okG k) : k < 305 := (by decide +kernel : ∀ q ∈ fbL, q < 305) k h
theorem ty_l0 {k : Nat} (h : okY k) : lay k = (0, 8) := (by decide +kernel : ∀ q ∈ tyL, lay q = (0, 8)) k h
theorem ty_b0 {k : Nat} (h : okY k) : k < 305 := (by decide +kernel : ∀ q ∈ tyL, q < 305) k h
theorem ty_l1 {k : Nat} (h : okY k) : lay (k + 1) = (1, 6) := (by decide +kernel : ∀ q ∈ tyL, lay (q + 1) = (1, 6)) k h
theorem ty_b1 {k : Nat} (h : okY k) : k + 1 < 305 := (by decide +kernel : ∀ q ∈ tyL, q + 1 < 305) k h
theorem ty_r0_0 {k : Nat} (h : okY k) : R0 k 0 = some (k + 1) := (by decide +kernel : ∀ q ∈ tyL, R0 q 0 = some (q + 1)) k h
theorem lm_l0 {k : Nat} (h : okL k) : lay k = (0, 4) := (by decide +kernel : ∀ q ∈ lmL, lay q = (0, 4)) k h
theorem lm_b0 {k : Nat} (h : okL k) : k < 305 := (by decide +kernel : ∀ q ∈ lmL, q < 305) k h
theorem ds_l0 {k : Nat} (h : okD k) : lay (k) = (0, 1) := (by decide +kernel : ∀ q ∈ dsL, lay (q) = (0, 1)) k h
theorem ds_b0 {k : Nat} (h : okD k) : k < 305 := (by decide +kernel : ∀ q ∈ dsL, q < 305) k h
theorem ds_l1 {k : Nat} (h : okD k) : lay (k + 1) = (1, 8) := (by decide +kernel : ∀ q ∈ dsL, lay (q + 1) = (1, 8)) k h
theorem ds_b1 {k : Nat} (h : okD k) : k + 1 < 305 := (by decide +kernel : ∀ q ∈ dsL, q + 1 < 305) k h
theorem ds_l2 {k : Nat} (h : okD k) : lay (k + 2) = (1, 8) := (by decide +kernel : ∀ q ∈ dsL, lay (q + 2) = (1, 8)) k h
theorem ds_b2 {k : Nat} (h : okD k) : k + 2 < 305 := (by decide +kernel : ∀ q ∈ dsL, q + 2 < 305) k h
theorem ds_r0_0 {k : Nat} (h : okD k) : R0 k 0 = some (k + 1) := (by decide +kernel : ∀ q ∈ dsL, R0 q 0 = some (q + 1)) k h
theorem ds_r0_1 {k : Nat} (h : okD k) : R0 k 1 = some (k + 2) := (by decide +kernel : ∀ q ∈ dsL, R0 q 1 = some (q + 2)) k h
theorem bs_l0 {k : Nat} (h : okB k) : lay (k) = (0, 0) := (by decide +kernel : ∀ q ∈ bsL, lay (q) = (0, 0)) k h
theorem bs_b0 {k : Nat} (h : okB k) : k < 305 := (by decide +kernel : ∀ q ∈ bsL, q < 305) k h
theorem bs_l1 {k : Nat} (h : okB k) : lay (k + 1) = (0, 4) := (by decide +kernel : ∀ q ∈ bsL, lay (q + 1) = (0, 4)) k h
theorem bs_b1 {k : Nat} (h : okB k) : k + 1 < 305 := (by decide +kernel : ∀ q ∈ bsL, q + 1 < 305) k h
theorem bs_l2 {k : Nat} (h : okB k) : lay (k + 2) = (4, 4) := (by decide +kernel : ∀ q ∈ bsL, lay (q + 2) = (4, 4)) k h
theorem bs_b2 {k : Nat} (h : okB k) : k + 2 < 305 := (by decide +kernel : ∀ q ∈ bsL, q + 2 < 305) k h
theorem bs_l67 {k : Nat} (h : okB k) : lay (k + 67) = (0, 1) := (by decide +kernel : ∀ q ∈ bsL, lay (q + 67) = (0, 1)) k h
theorem bs_b67 {k : Nat} (h : okB k) : k + 67 < 305 := (by decide +kernel : ∀ q ∈ bsL, q + 67 < 305) k h
theorem bs_l68 {k : Nat} (h : okB k) : lay (k + 68) = (1, 8) := (by decide +kernel : ∀ q ∈ bsL, lay (q + 68) = (1, 8)) k h
theorem bs_b68 {k : Nat} (h : okB k) : k + 68 < 305 := (by decide +kernel : ∀ q ∈ bsL, q + 68 < 305) k h
theorem bs_l69 {k : Nat} (h : okB k) : lay (k + 69) = (1, 8) := (by decide +kernel : ∀ q ∈ bsL, lay (q + 69) = (1, 8)) k h
theorem bs_b69 {k : Nat} (h : okB k) : k + 69 < 305 := (by decide +kernel : ∀ q ∈ bsL, q + 69 < 305) k h
theorem bs_l70 {k : Nat} (h : okB k) : lay (k + 70) = (1, 256) := (by decide +kernel : ∀ q ∈ bsL, lay (q + 70) = (1, 256)) k h
theorem bs_b70 {k : Nat} (h : okB k) : k + 70 < 305 := (by decide +kernel : ∀ q ∈ bsL, q + 70 < 305) k h
theorem bs_l3 {k : Nat} (h : okB k) : lay (k + 3) = (0, 6) := (by decide +kernel : ∀ q ∈ bsL, lay (q + 3) = (0, 6)) k h
theorem bs_b3 {k : Nat} (h : okB k) : k + 3 < 305 := (by decide +kernel : ∀ q ∈ bsL, q + 3 < 305) k h
theorem bs_l19 {k : Nat} (h : okB k) : lay (k + 19) = (0, 6) := (by decide +kernel : ∀ q ∈ bsL, lay (q + 19) = (0, 6)) k h
theorem bs_b19 {k : Nat} (h : okB k) : k + 19 < 305 := (by decide +kernel : ∀ q ∈ bsL, q + 19 < 305) k h
theorem bs_l35 {k : Nat} (h : okB k) : lay (k + 35) = (0, 6) := (by decide +kernel : ∀ q ∈ bsL, lay (q + 35) = (0, 6)) k h
theorem bs_b35 {k : Nat} (h : okB k) : k + 35 < 305 := (by decide +kernel : ∀ q ∈ bsL, q + 35 < 305) k h
theorem bs_l51 {k : Nat} (h : okB k) : lay (k + 51) = (0, 6) := (by decide +kernel : ∀ q ∈ bsL, lay (q + 51) = (0, 6)) k h
theorem bs_b51 {k : Nat} (h : okB k) : k + 51 < 305 := (by decide +kernel : ∀ q ∈ bsL, q + 51 < 305) k h
theorem bs_r0_0 {k : Nat} (h : okB k) : R0 k 0 = some (k + 1) := (by decide +kernel : ∀ q ∈ bsL, R0 q 0 = some (q + 1)) k h
theorem bs_r0_1 {k : Nat} (h : okB k) : R0 k 1 = some (k + 2) := (by decide +kernel : ∀ q ∈ bsL, R0 q 1 = some (q + 2)) k h
theorem bs_r0_2 {k : Nat} (h : okB k) : R0 k 2 = some (k + 67) := (by decide +kernel : ∀ q ∈ bsL, R0 q 2 = some (q + 67)) k h
theorem bs_r0_3 {k : Nat} (h : okB k) : R0 k 3 = some (k + 70) := (by decide +kernel : ∀ q ∈ bsL, R0 q 3 = some (q + 70)) k h
theorem bs_r2_0 {k : Nat} (h : okB k) : R0 (k + 2) 0 = some (k + 3) := (by decide +kernel : ∀ q ∈ bsL, R0 (q + 2) 0 = some (q + 3)) k h
theorem bs_N3 {k : Nat} (h : okB k) : okN (k + 3) (k + 1) := (by decide +kernel : ∀ q ∈ bsL, (q + 3, q + 1) ∈ ndL) k h
theorem bs_r2_1 {k : Nat} (h : okB k) : R0 (k + 2) 1 = some (k + 19) := (by decide +kernel : ∀ q ∈ bsL, R0 (q + 2) 1 = some (q + 19)) k h
theorem bs_N19 {k : Nat} (h : okB k) : okN (k + 19) (k + 1) := (by decide +kernel : ∀ q ∈ bsL, (q + 19, q + 1) ∈ ndL) k h
theorem bs_r2_2 {k : Nat} (h : okB k) : R0 (k + 2) 2 = some (k + 35) := (by decide +kernel : ∀ q ∈ bsL, R0 (q + 2) 2 = some (q + 35)) k h
theorem bs_N35 {k : Nat} (h : okB k) : okN (k + 35) (k + 1) := (by decide +kernel : ∀ q ∈ bsL, (q + 35, q + 1) ∈ ndL) k h
theorem bs_r2_3 {k : Nat} (h : okB k) : R0 (k + 2) 3 = some (k + 51) := (by decide +kernel : ∀ q ∈ bsL, R0 (q + 2) 3 = some (q + 51)) k h
theorem bs_N51 {k : Nat} (h : okB k) : okN (k + 51) (k + 1) := (by decide +kernel : ∀ q ∈ bsL, (q + 51, q + 1) ∈ ndL) k h
theorem bs_L1 {k : Nat} (h : okB k) : okL (k + 1) := (by decide +kernel : ∀ q ∈ bsL, q + 1 ∈ lmL) k h
theorem bs_D67 {k : Nat} (h : okB k) : okD (k + 67) := (by decide +kernel : ∀ q ∈ bsL, q + 67 ∈ dsL) k h
theorem ly0 : lay 0 = (0, 10) := by decide +kernel
theorem ly1 : lay 1 = (0, 0) := by decide +kernel
theorem ly72 : lay 72 = (0, 0) := by decide +kernel
theorem ly143 : lay 143 = (3, 2) := by decide +kernel
theorem ly144 : lay 144 = (0, 0) := by decide +kernel
theorem ly215 : lay 215 = (0, 0) := by decide +kernel
theorem ly286 : lay 286 = (2, 2) := by decide +kernel
theorem ly287 : lay 287 = (0, 2) := by decide +kernel
theorem ly288 : lay 288 = (0, 5) := by decide +kernel
theorem ly289 : lay 289 = (1, 8) := by decide +kernel
theorem ly290 : lay 290 = (1, 8) := by decide +kernel
theorem ly291 : lay 291 = (1, 8) := by decide +kernel
theorem ly292 : lay 292 = (1, 8) := by decide +kernel
theorem ly293 : lay 293 = (0, 9) := by decide +kernel
theorem ly294 : lay 294 = (0, 7) := by decide +kernel
theorem ly295 : lay 295 = (1, 120) := by decide +kernel
theorem ly296 : lay 296 = (0, 11) := by decide +kernel
theorem ly297 : lay 297 = (1, 1310) := by decide +kernel
theorem ly298 : lay 298 = (1, 1310) := by decide +kernel
theorem ly299 : lay 299 = (1, 2620) := by decide +kernel
theorem ly300 : lay 300 = (2, 2) := by decide +kernel
theorem ly301 : lay 301 = (1, 120) := by decide +kernel
theorem ly302 : lay 302 = (1, 32) := by decide +kernel
theorem ly303 : lay 303 = (1, 66) := by decide +kernel
theorem ly304 : lay 304 = (1, 5) := by decide +kernel
theorem ly2 : lay 2 = (0, 4) := by decide +kernel
theorem ly3 : lay 3 = (4, 4) := by decide +kernel
theorem rf0_0 : R0 0 0 = some 1 := by decide +kernel
theorem rf0_1 : R0 0 1 = some 72 := by decide +kernel
theorem rf0_2 : R0 0 2 = some 143 := by decide +kernel
theorem rf0_3 : R0 0 3 = some 286 := by decide +kernel
theorem rf0_4 : R0 0 4 = some 287 := by decide +kernel
theorem rf0_5 : R0 0 5 = some 288 := by decide +kernel
theorem rf0_6 : R0 0 6 = some 293 := by decide +kernel
theorem rf1_0 : R0 1 0 = some 2 := by decide +kernel
theorem rf1_1 : R0 1 1 = some 3 := by decide +kernel
theorem rf1_2 : R0 1 2 = some 68 := by decide +kernel
theorem rf1_3 : R0 1 3 = some 71 := by decide +kernel
theorem rf3_0 : R0 3 0 = some 4 := by decide +kernel
theorem rf3_1 : R0 3 1 = some 20 := by decide +kernel
theorem rf3_2 : R0 3 2 = some 36 := by decide +kernel
theorem rf3_3 : R0 3 3 = some 52 := by decide +kernel
theorem rf143_0 : R0 143 0 = some 144 := by decide +kernel
theorem rf143_1 : R0 143 1 = some 215 := by decide +kernel
theorem rf288_0 : R0 288 0 = some 289 := by decide +kernel
theorem rf288_1 : R0 288 1 = some 290 := by decide +kernel
theorem rf288_2 : R0 288 2 = some 291 := by decide +kernel
theorem rf288_3 : R0 288 3 = some 292 := by decide +kernel
theorem rf293_0 : R0 293 0 = some 294 := by decide +kernel
theorem rf293_1 : R0 293 1 = some 295 := by decide +kernel
theorem rf296_0 : R0 296 0 = some 297 := by decide +kernel
theorem rf296_1 : R0 296 1 = some 298 := by decide +kernel
theorem rf296_2 : R0 296 2 = some 299 := by decide +kernel
theorem rf296_3 : R0 296 3 = some 300 := by decide +kernel
theorem rf296_4 : R0 296 4 = some 301 := by decide +kernel
theorem rf296_6 : R0 296 6 = some 302 := by decide +kernel
theorem rf296_8 : R0 296 8 = some 303 := by decide +kernel
theorem rf296_10 : R0 296 10 = some 304 := by decide +kernel
theorem okB1 : okB 1 := (by decide +kernel : 1 ∈ bsL)
theorem okB72 : okB 72 := (by decide +kernel : 72 ∈ bsL)
theorem okB144 : okB 144 := (by decide +kernel : 144 ∈ bsL)
theorem okB215 : okB 215 := (by decide +kernel : 215 ∈ bsL)
theorem okG287 : okG 287 := (by decide +kernel : 287 ∈ fbL)
theorem lt305 {k : Nat} (h : Nat.blt k 305 = true) : k < 305 := by simpa [Nat.blt_eq] using h
