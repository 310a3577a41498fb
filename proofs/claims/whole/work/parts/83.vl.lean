def R_law : String := "ArbitratedBusLaw"
def lw_P (b : Addr) (xs : List Int32) (args : Array Value) (s : State) : Prop := args = #[.ref b] ∧ s.IntsAt b xs ∧ xs.length ≤ 3072 ∧ (Jvm.Cond.and given_1 narrow_1).before args s = true
def lw_Q (_ : Array Value) (s : State) (o : Outcome) (t : State) : Prop := o = .returned (some (.int 1)) ∧ Framed s o t [] 600000 7302250
def lw_Z (below : List Frame) (a : Array Value) (s : State) : State → Prop := fun t => ∃ o, t.status = .running ∧ Ended t below o ∧ lw_Q a s o t
/-- the law's own end, with 1 on the stack, nothing written that was there before, its room as the claim has it -/
theorem lw_ret {p : Program} {l : Launch} {e : Env} {s : State} {m : MethodId} {below : List Frame} {meth : Method} {c : Code} {b : Nat} (hx : p.tables.exec = Jvm.exec) (hb : c.code = code) (hr : meth.sig.returnType = ret) (hlocks : meth.locks = false) {pc : Nat} {H : Heap} {ls : Array Slot} (hdg : decode code pc = .ok (.ireturn, 1)) : W p l e room_1 s m #[Value.ref b] below meth c H [] 600000 7302250 (lw_Z below #[Value.ref b] s) (F0 m pc ls [.int 1]) := by
  intro T hT X
  obtain ⟨fs, hret, hrun, hended, hW, hframe⟩ := X.leave (v := some (.int 1)) (hlocks := hlocks) (fun h => by rw [hr] at h; cases h)
  have hmeth' : T.vm.method? m = some meth := X.method'
  refine ⟨T.setFrames fs, ?_, .returned (some (.int 1)), hrun, hended, rfl, ⟨_, rfl⟩, hW, hframe⟩
  jvm_step X.here [X.here.top, hx, hb, hdg, hmeth', hr, ret, narrow_b1]
  (try refine ⟨rfl, ?_⟩); (try refine ⟨rfl, ?_⟩)
  first | (intro acts; rw [hret _ acts rfl rfl rfl]) | rw [hret _ _ rfl rfl rfl]
  exact Steps.refl _
/-- what holds at the law's entry: the machine, the code, the tables' words (any of lw_tbl by 'hts w (by decide +kernel)'), the script of L ints xs at the cell b, what the Statement gives of the start (any of its parts by flat_of_before) -/
def lw_At (p : Program) (s : State) (m : MethodId) (meth : Method) (c : Code) (b L : Nat) (xs : Nat → Int32) : Prop :=
  p.tables.exec = Jvm.exec ∧ c.code = code ∧ meth.sig.returnType = ret ∧ c.maxLocals = 4 ∧ s.vm.findClass R_law = some m.cls ∧ (∀ w ∈ lw_tbl, w.before #[Value.ref b] s = true) ∧ va_X b L xs s s.heap ∧ b < s.heap.size ∧ meth.locks = false ∧ (Jvm.Cond.and given_1 narrow_1).before #[Value.ref b] s = true
abbrev CtT : Type := Program × Env × State × MethodId × List Frame × Method × Code × Nat
def VL (g : GlT) (K : CtT) (kc ks pc : Nat) (lv : List (Nat × Value)) (st : List Value) (M : MemT) : Prop :=
  ∀ (H : Heap) (locs : List Loc) (ls : Array Slot), xP g M H → va_S (xFr g) K.2.2.1.heap H locs → lv_has ls 4 lv →
    W K.1 g.1 K.2.1 room_1 K.2.2.1 K.2.2.2.1 #[Value.ref K.2.2.2.2.2.2.2] K.2.2.2.2.1 K.2.2.2.2.2.1 K.2.2.2.2.2.2.1 H locs kc ks (lw_Z K.2.2.2.2.1 #[Value.ref K.2.2.2.2.2.2.2] K.2.2.1) (F0 K.2.2.2.1 pc ls st)
/-- the law's surroundings: what holds at its entry, the tables' facts, the cells made lie behind the old ones -/
def cL (g : GlT) (K : CtT) (n : Nat) (xs : Nat → Int32) : Prop := lw_At K.1 K.2.2.1 K.2.2.2.1 K.2.2.2.2.2.1 K.2.2.2.2.2.2.1 K.2.2.2.2.2.2.2 n xs ∧ xK g K.2.2.1 ∧ g.2.2.1 = K.2.2.1.heap.size
section LR
variable {g : GlT} {K : CtT} {n : Nat} {xs : Nat → Int32} {kc ks pc pc1 : Nat} {lv lv1 : List (Nat × Value)} {st stk : List Value} {M : MemT}
theorem cL.x (h : cL g K n xs) : ∀ w ∈ xT, w.before #[Value.ref K.2.2.2.2.2.2.2] K.2.2.1 = true := fun w hw => h.1.2.2.2.2.2.1 w (List.mem_filter.mp hw).1
theorem cL.b (h : cL g K n xs) : ¬ xFr g K.2.2.2.2.2.2.2 := by
  unfold xFr
  rw [h.2.2]
  exact Nat.not_le.mpr h.1.2.2.2.2.2.2.2.1
theorem L_iconst (hC : cL g K n xs) {m : Int} {v : Int32} (hd : decode code pc = .ok (.iconst m, 1)) (hv : Int32.ofInt m = v) (hp : pc + 1 = pc1) (k : VL g K kc ks pc1 lv (.int v :: st) M) : VL g K kc ks pc lv st M := by
  subst hp
  intro H locs ls hP hS hl
  exact lv_iconst hC.1.1 hC.1.2.1 hd hv (k H locs ls hP hS hl)
theorem L_bipush (hC : cL g K n xs) {m : Int} {v : Int32} (hd : decode code pc = .ok (.bipush m, 2)) (hv : (Int8.ofInt m).toInt32 = v) (hp : pc + 2 = pc1) (k : VL g K kc ks pc1 lv (.int v :: st) M) : VL g K kc ks pc lv st M := by
  subst hp
  intro H locs ls hP hS hl
  exact lv_bipush hC.1.1 hC.1.2.1 hd hv (k H locs ls hP hS hl)
theorem L_iload_n (hC : cL g K n xs) (q : Nat) {k0 : Fin 4} {x : Int32} (hd : decode code pc = .ok (.iload_n k0, 1)) (hq : lv[q]? = some ((k0 : Nat), .int x)) (hp : pc + 1 = pc1) (k : VL g K kc ks pc1 lv (.int x :: st) M) : VL g K kc ks pc lv st M := by
  subst hp
  intro H locs ls hP hS hl
  exact lv_iload_n hC.1.1 hC.1.2.1 hd rfl (lv_at hl q hq) (k H locs ls hP hS hl)
theorem L_istore_n (hC : cL g K n xs) {k0 : Fin 4} {x : Int32} (hd : decode code pc = .ok (.istore_n k0, 1)) (hlv : ((k0 : Nat), Value.int x) :: lv.filter (fun q => !(q.1 == (k0 : Nat)) && !(q.1 + 1 == (k0 : Nat) && q.2.category == 2)) = lv1) (hp : pc + 1 = pc1) (kk : VL g K kc ks pc1 lv1 st M) : VL g K kc ks pc lv (.int x :: st) M := by
  subst hp
  intro H locs ls hP hS hl
  exact lv_istore_n hC.1.1 hC.1.2.1 hd rfl hl k0.isLt hlv fun ls1 hl1 => kk H locs ls1 hP hS hl1
theorem L_aload_n (hC : cL g K n xs) (q : Nat) {k0 : Fin 4} {x : Nat} (hd : decode code pc = .ok (.aload_n k0, 1)) (hq : lv[q]? = some ((k0 : Nat), .ref x)) (hp : pc + 1 = pc1) (k : VL g K kc ks pc1 lv (.ref x :: st) M) : VL g K kc ks pc lv st M := by
  subst hp
  intro H locs ls hP hS hl
  exact lv_aload_n hC.1.1 hC.1.2.1 hd rfl (lv_at hl q hq) (k H locs ls hP hS hl)
theorem L_astore_n (hC : cL g K n xs) {k0 : Fin 4} {x : Nat} (hd : decode code pc = .ok (.astore_n k0, 1)) (hlv : ((k0 : Nat), Value.ref x) :: lv.filter (fun q => !(q.1 == (k0 : Nat)) && !(q.1 + 1 == (k0 : Nat) && q.2.category == 2)) = lv1) (hp : pc + 1 = pc1) (kk : VL g K kc ks pc1 lv1 st M) : VL g K kc ks pc lv (.ref x :: st) M := by
  subst hp
  intro H locs ls hP hS hl
  exact lv_astore_n hC.1.1 hC.1.2.1 hd rfl hl k0.isLt hlv fun ls1 hl1 => kk H locs ls1 hP hS hl1
theorem L_iinc (hC : cL g K n xs) (q : Nat) {i : Nat} {m : Int} {x v : Int32} (hd : decode code pc = .ok (.iinc i m, 3)) (hq : lv[q]? = some (i, .int x)) (hv : x + Int32.ofInt m = v) (hn : i < 4) (hlv : (i, Value.int v) :: lv.filter (fun q => !(q.1 == i) && !(q.1 + 1 == i && q.2.category == 2)) = lv1) (hp : pc + 3 = pc1) (kk : VL g K kc ks pc1 lv1 st M) : VL g K kc ks pc lv st M := by
  subst hp
  intro H locs ls hP hS hl
  exact lv_iinc hC.1.1 hC.1.2.1 hd hl (k := q) hq hv hn hlv fun ls1 hl1 => kk H locs ls1 hP hS hl1
theorem L_dup (hC : cL g K n xs) {v : Value} (hd : decode code pc = .ok (.dup, 1)) (hv : v.category = 1) (hp : pc + 1 = pc1) (k : VL g K kc ks pc1 lv (v :: v :: st) M) : VL g K kc ks pc lv (v :: st) M := by
  subst hp
  intro H locs ls hP hS hl
  exact lv_dup hC.1.1 hC.1.2.1 hd hv (k H locs ls hP hS hl)
theorem L_iadd (hC : cL g K n xs) {x y : Int32} (hd : decode code pc = .ok (.iadd, 1)) (hp : pc + 1 = pc1) (k : VL g K kc ks pc1 lv (.int (x + y) :: st) M) : VL g K kc ks pc lv (.int y :: .int x :: st) M := by
  subst hp
  intro H locs ls hP hS hl
  exact lv_iadd hC.1.1 hC.1.2.1 hd (k H locs ls hP hS hl)
theorem L_isub (hC : cL g K n xs) {x y : Int32} (hd : decode code pc = .ok (.isub, 1)) (hp : pc + 1 = pc1) (k : VL g K kc ks pc1 lv (.int (x - y) :: st) M) : VL g K kc ks pc lv (.int y :: .int x :: st) M := by
  subst hp
  intro H locs ls hP hS hl
  exact lv_isub hC.1.1 hC.1.2.1 hd (k H locs ls hP hS hl)
theorem L_iand (hC : cL g K n xs) {x y : Int32} (hd : decode code pc = .ok (.iand, 1)) (hp : pc + 1 = pc1) (k : VL g K kc ks pc1 lv (.int (x &&& y) :: st) M) : VL g K kc ks pc lv (.int y :: .int x :: st) M := by
  subst hp
  intro H locs ls hP hS hl
  exact lv_iand hC.1.1 hC.1.2.1 hd (k H locs ls hP hS hl)
theorem L_lcmp (hC : cL g K n xs) {x y : Int64} (hd : decode code pc = .ok (.lcmp, 1)) (hp : pc + 1 = pc1) (k : VL g K kc ks pc1 lv (.int (lg_cmp x y) :: st) M) : VL g K kc ks pc lv (.long y :: .long x :: st) M := by
  subst hp
  intro H locs ls hP hS hl
  exact W.lcmp hC.1.1 hC.1.2.1 hd (k H locs ls hP hS hl)
theorem L_icmp_eq (hC : cL g K n xs) {x y : Int32} {off : Int} {tgt : Nat} (hd : decode code pc = .ok (.if_icmp .eq off, 3)) (ht : (pc : Int) + off = (tgt : Int)) (hp : pc + 3 = pc1) (kt : x = y → VL g K kc ks tgt lv st M) (kf : ¬ x = y → VL g K kc ks pc1 lv st M) : VL g K kc ks pc lv (.int y :: .int x :: st) M := by
  subst hp
  intro H locs ls hP hS hl
  exact lv_icmp_eq hC.1.1 hC.1.2.1 hd ht (fun q => kt q H locs ls hP hS hl) (fun q => kf q H locs ls hP hS hl)
theorem L_icmp_gt (hC : cL g K n xs) {x y : Int32} {off : Int} {tgt : Nat} (hd : decode code pc = .ok (.if_icmp .gt off, 3)) (ht : (pc : Int) + off = (tgt : Int)) (hp : pc + 3 = pc1) (kt : y < x → VL g K kc ks tgt lv st M) (kf : ¬ y < x → VL g K kc ks pc1 lv st M) : VL g K kc ks pc lv (.int y :: .int x :: st) M := by
  subst hp
  intro H locs ls hP hS hl
  exact lv_icmp_gt hC.1.1 hC.1.2.1 hd ht (fun q => kt q H locs ls hP hS hl) (fun q => kf q H locs ls hP hS hl)
theorem L_if_eq (hC : cL g K n xs) {x : Int32} {off : Int} {tgt : Nat} (hd : decode code pc = .ok (.ifCond .eq off, 3)) (ht : (pc : Int) + off = (tgt : Int)) (hp : pc + 3 = pc1) (kt : x = 0 → VL g K kc ks tgt lv st M) (kf : ¬ x = 0 → VL g K kc ks pc1 lv st M) : VL g K kc ks pc lv (.int x :: st) M := by
  subst hp
  intro H locs ls hP hS hl
  exact lv_if_eq hC.1.1 hC.1.2.1 hd ht (fun q => kt q H locs ls hP hS hl) (fun q => kf q H locs ls hP hS hl)
theorem L_goto (hC : cL g K n xs) {off : Int} {tgt : Nat} (hd : decode code pc = .ok (.goto off, 3)) (ht : (pc : Int) + off = (tgt : Int)) (k : VL g K kc ks tgt lv st M) : VL g K kc ks pc lv st M := by
  intro H locs ls hP hS hl
  exact lv_goto hC.1.1 hC.1.2.1 hd ht (k H locs ls hP hS hl)
theorem L_tsIn (hC : cL g K n xs) {dflt lo hi : Int} {offs : Array Int} {len : Nat} {x : Int32} {off : Int} {tgt : Nat} (v : Int32) (hx : x = v) (hd : decode code pc = .ok (.tableswitch dflt lo hi offs, len)) (h1 : ¬ v.toInt < lo) (h2 : ¬ hi < v.toInt) (ho : offs[(v.toInt - lo).toNat]? = some off) (ht : (pc : Int) + off = (tgt : Int)) (k : VL g K kc ks tgt lv st M) : VL g K kc ks pc lv (.int x :: st) M := by
  subst hx
  intro H locs ls hP hS hl
  exact lv_tableIn hC.1.1 hC.1.2.1 hd h1 h2 ho ht (k H locs ls hP hS hl)
theorem L_sld (hC : cL g K n xs) (j : Nat) {i : Int32} (hi : i = nI j) (hj : j < n) (hn : n ≤ 3072) (hd : decode code pc = .ok (.iaload, 1)) (hp : pc + 1 = pc1) (k : VL g K kc ks pc1 lv (.int (xs j) :: st) M) : VL g K kc ks pc lv (.int i :: .ref K.2.2.2.2.2.2.2 :: st) M := by
  subst hp; subst hi
  intro H locs ls hP hS hl
  have e : (nI j).toNatClampNeg = j := nI_clamp (by omega)
  refine va_sld hC.1.1 hC.1.2.1 hC.1.2.2.2.2.2.2.1 hC.1.2.2.2.2.2.2.2.1 hC.b hS (vp_in_nI hj (by omega)) hd ?_
  rw [e]
  exact k H locs ls hP hS hl
theorem L_slen (hC : cL g K n xs) (hd : decode code pc = .ok (.arraylength, 1)) (hp : pc + 1 = pc1) (k : VL g K kc ks pc1 lv (.int (nI n) :: st) M) : VL g K kc ks pc lv (.ref K.2.2.2.2.2.2.2 :: st) M := by
  subst hp
  intro H locs ls hP hS hl
  exact va_slen hC.1.1 hC.1.2.1 hC.1.2.2.2.2.2.2.1 hC.1.2.2.2.2.2.2.2.1 hC.b hS hd (k H locs ls hP hS hl)
theorem L_ret (hC : cL g K n xs) (hk : kc ≤ 600000) (hs : ks ≤ 7302250) (hd : decode code pc = .ok (.ireturn, 1)) : VL g K kc ks pc lv [.int 1] M := by
  intro H locs ls hP hS hl
  refine va_forget (fun q hq => by have := hS.2.2 q hq; unfold xFr at this; rw [hC.2.2] at this; exact this) ?_
  refine W.widen hk hs ?_
  exact lw_ret hC.1.1 hC.1.2.1 hC.1.2.2.1 hC.1.2.2.2.2.2.2.2.2.1 hd
theorem L_lv (h : lvsub lv1 lv) (k : VL g K kc ks pc lv1 st M) : VL g K kc ks pc lv st M := fun H locs ls hP hS hl => k H locs ls hP hS ⟨hl.1, hl.2.1, fun q hq => hl.2.2 q (h q hq)⟩
theorem L_run {Y : XT} {Qc : Option Value → MemT → Prop} {a : Array Value} {H : Heap} {locs : List Loc} {ls : Array Slot} (hS : va_S (xFr g) K.2.2.1.heap H locs) (hl : lv_has ls 4 lv)
    (hr : va_Run K.1 g.1 K.2.1 room_1 K.2.2.1 K.2.2.2.1 #[Value.ref K.2.2.2.2.2.2.2] K.2.2.2.2.1 K.2.2.2.2.2.1 K.2.2.2.2.2.2.1 H locs kc ks Y.2.2.1 Y.2.2.2 (F0 K.2.2.2.1 pc ls stk) st (xQ g Qc a) (xFr g)) (kk : ∀ r M', Qc r M' → VL g K (kc + Y.2.2.1) (ks + Y.2.2.2) (pc + 3) lv (r.toList ++ st) M') : W K.1 g.1 K.2.1 room_1 K.2.2.1 K.2.2.2.1 #[Value.ref K.2.2.2.2.2.2.2] K.2.2.2.2.1 K.2.2.2.2.2.1 K.2.2.2.2.2.2.1 H locs kc ks (lw_Z K.2.2.2.2.1 #[Value.ref K.2.2.2.2.2.2.2] K.2.2.1) (F0 K.2.2.2.1 pc ls stk) := by
  intro T hT Y0
  obtain ⟨v, st₀, t, T', L, h0, X', hL, e1, e2, ⟨r, M', hv, hq, hP1, hz, hk⟩, go⟩ := hr T hT Y0
  cases hv
  rw [h0] at hz hk
  obtain ⟨t2, a1, b1⟩ := kk _ M' hq T'.heap (locs ++ L) ls (by rw [e1]; exact hP1) ⟨Nat.le_trans hS.1 (by rw [e1]; exact hz), fun q h1 h2 => by rw [e1, hk q (Nat.lt_of_lt_of_le h1 hS.1) h2]; exact hS.2.1 q h1 h2, fun q hq => by
      rcases List.mem_append.mp hq with h | h
      · exact hS.2.2 q h
      · exact hL q h⟩ hl T' rfl X'
  exact ⟨t2, go t2 a1, b1⟩
/-- the callee's room is within the law's -/
def rL (Y : XT) (kc ks : Nat) : Prop := Y.2.1 + 1 ≤ 11 ∧ 8 + (Y.1.2.2.1 + 11) + 37 * Y.2.1 ≤ 412 ∧ kc + Y.2.2.1 ≤ 600000 ∧ ks + Y.2.2.2 ≤ 7302250
theorem L_callV (hC : cL g K n xs) {Y : XT} {As : List Value} {k ci idx m : Nat} {Qc : Option Value → MemT → Prop} (hc : Call g Y (.ref (xA g k) :: As) M Qc) (hl0 : lay k = (0, ci)) (hk : k < M.2.2.2) (hm : mV Y.1 m ci) (hlk : Cond.methodLink R_law idx Y.1.1 ∈ xT) (hn : As.length = m) (hR : rL Y kc ks) (hsum : (st.map fun v => v.category).sum ≤ 8) (hst : stk = As.reverse ++ .ref (xA g k) :: st) (hd : decode code pc = .ok (.invokevirtual idx, 3)) (hp : pc + 3 = pc1)
    (kk : ∀ r M', Qc r M' → VL g K (kc + Y.2.2.1) (ks + Y.2.2.2) pc1 lv (r.toList ++ st) M') : VL g K kc ks pc lv stk M := by
  subst hp
  intro H locs ls hP hS hl
  obtain ⟨⟨hcode, hini, hd3⟩, hin, hsel, q, hq, hqn⟩ := hm
  obtain ⟨hx, hb, hr, hml, hown, htb, hX, hbl, hlocks, hgv⟩ := id hC.1
  have hts := hC.x
  have hKK := hC.2.1
  refine L_run hS hl (va_runV (C := Y.1.1.cls) (As := As) (rest := st) ⟨hx, hb, hml, hown, hts⟩ hc ⟨callB_of m hts (xGood hcode) rfl rfl rfl (hts _ hini) (hts _ hlk) hd3 ⟨hR.1, hR.2.1⟩, hts _ hin, hts _ hsel⟩ ⟨xBlind, ?_, fun U hU hW => ⟨rfl, by rw [hU]; exact hP, xK.warm hW hKK, by rw [hU]; exact Nat.le_trans (Nat.le_of_eq hC.2.2) hS.1⟩⟩ rfl hn hl.1 hst (lv_room hsum) hd ⟨hR.2.2.1, hR.2.2.2⟩) kk
  obtain ⟨cell, h1, h2, h3⟩ := va_recv hKK.1 hP.2 hq ((xW_get hk).trans (by rw [xE_obj hl0]))
  exact ⟨cell, h1, h2, by rw [← hqn]; exact h3⟩
theorem L_callI (hC : cL g K n xs) {Y : XT} {As : List Value} {b0 idx m : Nat} {Qc : Option Value → MemT → Prop} (hc : Call g Y (.ref b0 :: As) M Qc) (hm : mI Y.1 m) (hlk : Cond.methodLink R_law idx Y.1.1 ∈ xT) (hn : As.length = m) (hR : rL Y kc ks) (hsum : (st.map fun v => v.category).sum ≤ 8) (hst : stk = As.reverse ++ .ref b0 :: st) (hd : decode code pc = .ok (.invokespecial idx, 3)) (hp : pc + 3 = pc1)
    (kk : ∀ r M', Qc r M' → VL g K (kc + Y.2.2.1) (ks + Y.2.2.2) pc1 lv (r.toList ++ st) M') : VL g K kc ks pc lv stk M := by
  subst hp
  intro H locs ls hP hS hl
  obtain ⟨⟨hcode, hini, hd3⟩, hin, hnm, hrt⟩ := hm
  obtain ⟨hexec, hb, hr, hml, hown, htb, hX, hbl, hlocks, hgv⟩ := id hC.1
  have hts := hC.x
  have hKK := hC.2.1
  have hz := Nat.le_of_eq hC.2.2
  obtain ⟨⟨y, bt, mx, rt⟩, d, mc, ms⟩ := Y
  have hrt : rt = none := hrt
  subst hrt
  exact L_run (Y := ((y, bt, mx, none), d, mc, ms)) hS hl (va_runI (As := As) (rest := st) ⟨hexec, hb, hml, hown, hts⟩ hc ⟨callB_of m hts (xGood hcode) rfl rfl rfl (hts _ hini) (hts _ hlk) hd3 ⟨hR.1, hR.2.1⟩, hnm, hts _ hin⟩ ⟨xBlind, fun U hU hW => ⟨rfl, by rw [hU]; exact hP, xK.warm hW hKK, by rw [hU]; exact Nat.le_trans hz hS.1⟩⟩ rfl hn hl.1 hst (lv_room hsum) hd ⟨hR.2.2.1, hR.2.2.2⟩) kk
theorem L_new (hC : cL g K n xs) {N0 ci idx : Nat} {C : String} {F : u_T} {N : Nat} {I : Nat → Nat → Int32} {L : Nat → Nat → Int64} {R : Nat → Nat → Option Nat} (hc : xC[ci]? = some (C, F, N)) (hl0 : lay N0 = (0, ci)) (hn : N0 < 305) (hz : zM N0 I L R) (hcl : Cond.classLink R_law idx C ∈ xT) (hins : Cond.instantiable C N ∈ xT) (hini : Cond.initialized C ∈ xT) (h1 : kc + 1 ≤ 600000) (h2 : ks + N ≤ 7302250) (hd : decode code pc = .ok (.new idx, 3)) (hp : pc + 3 = pc1) (kk : VL g K (kc + 1) (ks + N) pc1 lv (.ref (xA g N0) :: st) (I, L, R, N0 + 1)) : VL g K kc ks pc lv st (I, L, R, N0) := by
  subst hp
  intro H locs ls hP hS hl
  obtain ⟨hexec, hb, hr, hml, hown, htb, hX, hbl, hlocks, hgv⟩ := id hC.1
  have hts := hC.x
  have hKK := hC.2.1
  obtain ⟨h4, hin, hty, -⟩ := xC_ok ci _ hc
  have hKn := hKK.1.1 ci _ hc
  have hsz : H.size = xA g N0 := hP.1 hn
  refine W.newcK hexec hb hown (hts _ hcl) (hts _ hins) (hts _ hini) rfl hd h1 h2 hKn.2.1 hsz fun H1 kC hkC e1 z1 o1 => ?_
  refine kk H1 locs ls (xP_push hn hP z1 o1 ?_) (xS_push hsz z1 o1 hS) hl
  rw [xE_obj hl0]
  refine ⟨_, hc, (u_born (xTy ci) hts hin hKn hkC e1 hty).to (fun j hj => ?_)⟩
  have hj : j < xN ci := by have h4 : N = xN ci := h4; have hj : j < N := hj; omega
  show defaultValue (xTy ci j) = vp_V (xFs g (I, L, R, N0) N0 ci) j
  unfold vp_V
  rw [List.getD_eq_getElem?_getD, xFs_get hj]
  show _ = xF g (I, L, R, N0) N0 j (xTy ci j)
  obtain ⟨zi, zl, zr⟩ := hz N0 (Nat.le_refl _)
  unfold xF
  show _ = match xTy ci j with
    | .long => Value.long (L N0 j)
    | .object _ => va_rf ((R N0 j).map (xA g))
    | .array _ => va_rf ((R N0 j).map (xA g))
    | _ => Value.int (I N0 j)
  rw [zi, zl, zr]
  rcases xTy_5 ci j with q | q | q | ⟨w, q⟩ | ⟨w, q⟩ <;> rw [q] <;> rfl
end LR
