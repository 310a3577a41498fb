/-! rows that make cells -/
section CR
variable {g : GlT} {X : XT} {kc ks pc pc1 : Nat} {lv lv1 : List (Nat × Value)} {st stk : List Value} {Q : Option Value → MemT → Prop} {I : Nat → Nat → Int32} {L : Nat → Nat → Int64} {R : Nat → Nat → Option Nat}
/-- the rows from n on are not made yet: 0 and null -/
def zM (n : Nat) (I : Nat → Nat → Int32) (L : Nat → Nat → Int64) (R : Nat → Nat → Option Nat) : Prop := ∀ a, n ≤ a → I a = (fun _ => 0) ∧ L a = (fun _ => 0) ∧ R a = (fun _ => none)
theorem xW_succ {n : Nat} : xW g (I, L, R, n + 1) = xW g (I, L, R, n) ++ [(xA g n, xE g (I, L, R, n) n)] := by
  unfold xW
  show (List.range (n + 1)).map _ = _
  rw [List.range_succ, List.map_append]
  rfl
theorem xP_push {n : Nat} {H H1 : Heap} (hn : n < 305) (hP : xP g (I, L, R, n) H) (z1 : H1.size = xA g n + 1) (o1 : ∀ q, q < xA g n → H1[q]? = H[q]?) (ha : va_at g.2.1 xC (xA g n, xE g (I, L, R, n) n) H1) : xP g (I, L, R, n + 1) H1 := by
  refine ⟨fun _ => z1, ?_⟩
  rw [xW_succ]
  refine va_P.app (hP.2.kept (fun k q hk => ?_)) (fun k q hk => ?_)
  · obtain ⟨h1, h2⟩ := xW_in hk
    rw [h2]
    exact o1 _ (Nat.add_lt_add_left h1 _)
  · have hz : k < 1 := (List.getElem?_eq_some_iff.mp hk).1
    rw [show k = 0 by omega] at hk
    cases hk
    exact ha
theorem xS_push {n : Nat} {s : State} {H H1 : Heap} {locs : List Loc} (hP : H.size = xA g n) (z1 : H1.size = xA g n + 1) (o1 : ∀ q, q < xA g n → H1[q]? = H[q]?) (hS : va_S (xFr g) s.heap H locs) : va_S (xFr g) s.heap H1 locs := ⟨Nat.le_trans hS.1 (by omega), fun q h1 h2 => (o1 q (by have := hS.1; omega)).trans (hS.2.1 q h1 h2), hS.2.2⟩
theorem xTy_5 (ci j : Nat) : xTy ci j = .int ∨ xTy ci j = .boolean ∨ xTy ci j = .long ∨ (∃ c, xTy ci j = .object c) ∨ ∃ c, xTy ci j = .array c := by
  unfold xTy
  split
  all_goals
    first
    | unfold zY0 | unfold zY1 | unfold zY2 | unfold zY3 | unfold zY4 | unfold zY5 | unfold zY6 | unfold zY7 | unfold zY8 | unfold zY9 | unfold zY10 | unfold zY11
    try split
    all_goals first | exact .inl rfl | exact .inr (.inl rfl) | exact .inr (.inr (.inl rfl)) | exact .inr (.inr (.inr (.inl ⟨_, rfl⟩))) | exact .inr (.inr (.inr (.inr ⟨_, rfl⟩)))
theorem V_new {n ci idx : Nat} {C : String} {T : u_T} {N : Nat} (hc : xC[ci]? = some (C, T, N)) (hl0 : lay n = (0, ci)) (hn : n < 305) (hz : zM n I L R) (hcl : Cond.classLink X.1.1.cls idx C ∈ xT) (hins : Cond.instantiable C N ∈ xT) (hini : Cond.initialized C ∈ xT) (h1 : kc + 1 ≤ X.2.2.1) (h2 : ks + N ≤ X.2.2.2) (hd : decode X.1.2.1 pc = .ok (.new idx, 3)) (hp : pc + 3 = pc1) (kk : V g X (kc + 1) (ks + N) pc1 lv (.ref (xA g n) :: st) (I, L, R, n + 1) Q) : V g X kc ks pc lv st (I, L, R, n) Q := by
  subst hp
  intro p e s m args below meth c hC H locs ls hP hS hl
  obtain ⟨hexec, hb, hml, -, -, hown, -, hts, hKK, hz0⟩ := id hC
  obtain ⟨h4, hin, hty, -⟩ := xC_ok ci _ hc
  have hKn := hKK.1.1 ci _ hc
  have hsz : H.size = xA g n := hP.1 hn
  refine W.newcK hexec hb hown (hts _ hcl) (hts _ hins) (hts _ hini) rfl hd h1 h2 hKn.2.1 hsz fun H1 kC hkC e1 z1 o1 => ?_
  refine kk p e s m args below meth c hC H1 locs ls (xP_push hn hP z1 o1 ?_) (xS_push hsz z1 o1 hS) hl
  rw [xE_obj hl0]
  refine ⟨_, hc, (u_born (xTy ci) hts hin hKn hkC e1 hty).to (fun j hj => ?_)⟩
  have hj : j < xN ci := by have h4 : N = xN ci := h4; have hj : j < N := hj; omega
  show defaultValue (xTy ci j) = vp_V (xFs g (I, L, R, n) n ci) j
  unfold vp_V
  rw [List.getD_eq_getElem?_getD, xFs_get hj]
  show _ = xF g (I, L, R, n) n j (xTy ci j)
  obtain ⟨zi, zl, zr⟩ := hz n (Nat.le_refl _)
  unfold xF
  show _ = match xTy ci j with
    | .long => Value.long (L n j)
    | .object _ => va_rf ((R n j).map (xA g))
    | .array _ => va_rf ((R n j).map (xA g))
    | _ => Value.int (I n j)
  rw [zi, zl, zr]
  have hk : xTy ci j = .int ∨ xTy ci j = .boolean ∨ xTy ci j = .long ∨ (∃ c, xTy ci j = .object c) ∨ ∃ c, xTy ci j = .array c := xTy_5 ci j
  rcases hk with q | q | q | ⟨w, q⟩ | ⟨w, q⟩ <;> rw [q] <;> rfl
theorem V_newi {n N : Nat} {i : Int32} (hl0 : lay n = (1, N)) (hn : n < 305) (hz : zM n I L R) (hi : i = nI N) (harr : Cond.arrayClass .int ∈ xT) (h1 : kc + 1 ≤ X.2.2.1) (h2 : ks + N ≤ X.2.2.2) (hd : decode X.1.2.1 pc = .ok (.newarray .int, 2)) (hp : pc + 2 = pc1) (hN : N ≤ 3000) (kk : V g X (kc + 1) (ks + N) pc1 lv (.ref (xA g n) :: st) (I, L, R, n + 1) Q) : V g X kc ks pc lv (.int i :: st) (I, L, R, n) Q := by
  subst hp; subst hi
  intro p e s m args below meth c hC H locs ls hP hS hl
  obtain ⟨hexec, hb, hml, -, -, hown, -, hts, hKK, hz0⟩ := id hC
  have hsz : H.size = xA g n := hP.1 hn
  refine va_newaK (atype := .int) hexec hb (hts _ harr) rfl hd rfl (nI_pos (by omega)) (nI_clamp (by omega)) (by show N * 4 ≤ _; omega) h1 h2 hsz fun H1 cA e1 z1 o1 hAr hNm => ?_
  refine kk p e s m args below meth c hC H1 locs ls (xP_push hn hP z1 o1 ?_) (xS_push hsz z1 o1 hS) hl
  have hcA : cA = g.2.2.2.1 := Option.some.inj (hNm.symm.trans (hKK.1.2 0 _ rfl).2)
  subst hcA
  rw [xE_int hl0]
  show H1[xA g n]? = some (vp_cell _ _)
  rw [e1, vp_cell_i]
  show some (arrV _ N (fun _ => Value.int 0)) = some (arrV _ N (fun j => Value.int (I n j)))
  rw [(hz n (Nat.le_refl _)).1]
theorem V_newz {n N : Nat} {i : Int32} (hl0 : lay n = (2, N)) (hn : n < 305) (hz : zM n I L R) (hi : i = nI N) (harr : Cond.arrayClass .boolean ∈ xT) (h1 : kc + 1 ≤ X.2.2.1) (h2 : ks + N ≤ X.2.2.2) (hd : decode X.1.2.1 pc = .ok (.newarray .boolean, 2)) (hp : pc + 2 = pc1) (hN : N ≤ 3000) (kk : V g X (kc + 1) (ks + N) pc1 lv (.ref (xA g n) :: st) (I, L, R, n + 1) Q) : V g X kc ks pc lv (.int i :: st) (I, L, R, n) Q := by
  subst hp; subst hi
  intro p e s m args below meth c hC H locs ls hP hS hl
  obtain ⟨hexec, hb, hml, -, -, hown, -, hts, hKK, hz0⟩ := id hC
  have hsz : H.size = xA g n := hP.1 hn
  refine va_newaK (atype := .boolean) hexec hb (hts _ harr) rfl hd rfl (nI_pos (by omega)) (nI_clamp (by omega)) (by show N * 1 ≤ _; omega) h1 h2 hsz fun H1 cA e1 z1 o1 hAr hNm => ?_
  refine kk p e s m args below meth c hC H1 locs ls (xP_push hn hP z1 o1 ?_) (xS_push hsz z1 o1 hS) hl
  have hcA : cA = g.2.2.2.2.1 := Option.some.inj (hNm.symm.trans (hKK.1.2 1 _ rfl).2)
  subst hcA
  rw [xE_boo hl0]
  show H1[xA g n]? = some (vp_cell _ _)
  rw [e1, vp_cell_i]
  show some (arrV _ N (fun _ => Value.int 0)) = some (arrV _ N (fun j => Value.int (I n j)))
  rw [(hz n (Nat.le_refl _)).1]
theorem V_newq {n N a idx : Nat} {i : Int32} {C : String} (hl0 : lay n = (a, N)) (ha : (a = 3 ∧ C = "ArbitratedBus$Bus") ∨ (a = 4 ∧ C = "ArbitratedBus$Node")) (hn : n < 305) (hz : zM n I L R) (hi : i = nI N) (hcl : Cond.classLink X.1.1.cls idx C ∈ xT) (h1 : kc + 1 ≤ X.2.2.1) (h2 : ks + N ≤ X.2.2.2) (hd : decode X.1.2.1 pc = .ok (.anewarray idx, 3)) (hp : pc + 3 = pc1) (hN : N ≤ 3000) (kk : V g X (kc + 1) (ks + N) pc1 lv (.ref (xA g n) :: st) (I, L, R, n + 1) Q) : V g X kc ks pc lv (.int i :: st) (I, L, R, n) Q := by
  subst hp; subst hi
  intro p e s m args below meth c hC H locs ls hP hS hl
  obtain ⟨hexec, hb, hml, -, -, hown, -, hts, hKK, hz0⟩ := id hC
  have hsz : H.size = xA g n := hP.1 hn
  have hcn : (nI N).toNatClampNeg = N := nI_clamp (by omega)
  have hover : va_AO C s := by
    rcases ha with ⟨-, q⟩ | ⟨-, q⟩ <;> rw [q]
    · exact hKK.2.2.1
    · exact hKK.2.2.2
  refine W.anew hexec hb hown (hts _ hcl) (va_AO.use hover) rfl hd rfl (nI_pos (by omega)) (by rw [hcn]; omega) h1 (by rw [hcn]; exact h2) fun cA kA comp f1 f2 f3 f4 => ?_
  rw [hcn, hsz]
  generalize hH1 : H.push ({ cls := cA, slots := Array.replicate N .null, vm := .none } : Cell) = H1
  have z1 : H1.size = xA g n + 1 := by rw [← hH1, Array.size_push, hsz]
  have e1 : H1[xA g n]? = some (arrV cA N (fun _ => .null)) := by rw [← hH1, ← hsz, Array.getElem?_push_size, ← arrV_new]
  have o1 : ∀ q : Nat, q < xA g n → H1[q]? = H[q]? := fun q hq => by rw [← hH1, Array.getElem?_push, if_neg (by omega)]
  refine kk p e s m args below meth c hC H1 locs ls (xP_push hn hP z1 o1 ?_) (xS_push hsz z1 o1 hS) hl
  have zr := (hz n (Nat.le_refl _)).2.2
  rcases ha with ⟨q, qC⟩ | ⟨q, qC⟩ <;> subst q <;> subst qC
  · obtain ⟨kA', comp', -, -, -, f5⟩ := (hKK.1.2 2 _ rfl).2
    have hcA : cA = g.2.2.2.2.2.1 := Option.some.inj (f1.symm.trans f5)
    subst hcA
    rw [xE_bus hl0]
    show H1[xA g n]? = some (vp_cell _ _)
    rw [e1, vp_cell_q]
    show some (arrV _ N (fun _ => Value.null)) = some (arrV _ N (fun j => va_rf ((R n j).map (xA g))))
    rw [zr]
    rfl
  · obtain ⟨kA', comp', -, -, -, f5⟩ := (hKK.1.2 3 _ rfl).2
    have hcA : cA = g.2.2.2.2.2.2 := Option.some.inj (f1.symm.trans f5)
    subst hcA
    rw [xE_nod hl0]
    show H1[xA g n]? = some (vp_cell _ _)
    rw [e1, vp_cell_q]
    show some (arrV _ N (fun _ => Value.null)) = some (arrV _ N (fun j => va_rf ((R n j).map (xA g))))
    rw [zr]
    rfl
theorem V_aast {n k t N a ci : Nat} (j : Nat) {i : Int32} (hl0 : lay k = (a, N)) (ha : (a = 3 ∧ ci = 0) ∨ (a = 4 ∧ ci = 6)) (hk : k < n) (hlt : lay t = (0, ci)) (ht : t < n) (hi : i = nI j) (hj : j < N) (hN : N ≤ 3000) (hd : decode X.1.2.1 pc = .ok (.aastore, 1)) (hp : pc + 1 = pc1) (kk : V g X kc ks pc1 lv st (I, L, uR R k j (some t), n) Q) : V g X kc ks pc lv (.ref (xA g t) :: .int i :: .ref (xA g k) :: st) (I, L, R, n) Q := by
  subst hp; subst hi
  intro p e s m args below meth c hC H locs ls hP hS hl
  obtain ⟨hexec, hb, hml, -, -, hown, -, hts, hKK, hz0⟩ := id hC
  have hcn : (nI j).toNatClampNeg = j := nI_clamp (by omega)
  have hv : (xW g (I, L, R, n))[t]? = some (xA g t, .inr (ci, xFs g (I, L, R, n) t ci)) := (xW_get ht).trans (by rw [xE_obj hlt])
  obtain ⟨r', hr', cellV, g1, g2, g3, -⟩ := hP.2 t _ hv
  have hcls := (hKK.1.1 ci r' hr').2
  obtain ⟨kC, hkC, -⟩ := hcls.2
  have fin : ∀ (cA : ClassId) (kA : Class) (comp : ClassId) (C : String) (cell : Cell), H[xA g k]? = some cell → cell = vp_cell cA (N, .inr (.inr (.inr (.inr fun j => (R k j).map (xA g))))) → s.vm.classes[cA]? = some kA → kA.kind = .array comp (.object C) → comp = g.2.1.1 ci → xE g (I, L, R, n) k = .inl (cA, N, .inr (.inr (.inr (.inr fun j => (R k j).map (xA g))))) → xE g (I, L, uR R k j (some t), n) k = .inl (cA, N, .inr (.inr (.inr (.inr fun q => (uR R k j (some t) k q).map (xA g))))) → W p g.1 e (xR X) s m args below meth c H locs kc ks (MQ below (xQ g Q) args s X.2.2.1 X.2.2.2 (xFr g)) (F0 m pc ls (.ref (xA g t) :: .int (nI j) :: .ref (xA g k) :: st)) := by
    intro cA kA comp C cell hcell hce k1 k2 hcomp hE hE'
    subst hcomp
    subst hce
    refine W.aast hexec hb hcell (fun q h => by cases h) (fun h => by cases h) k1 k2 rfl hkC ⟨nI_pos (by omega), by show _ < (arrV _ _ _).slots.size; rw [arrV_size, hcn]; exact hj⟩ g1 (fun q h => by rw [g3] at h; cases h) (by rw [g2]; exact hkC) (by rw [g2]; exact va_assign hcls) rfl rfl hd fun H1 e1 z oq => ?_
    refine kk p e s m args below meth c hC H1 _ ls (xP_set (M' := (I, L, uR R k j (some t), n)) (e0 := .inr (0, [])) hP hk rfl (fun i hi => xE_congr rfl rfl (uR_off R j _ hi)) ?_ z oq) (hS.put z oq (xFr_A g k)) hl
    rw [hE']
    show H1[xA g k]? = some (vp_cell _ _)
    rw [e1, vp_cell_q, vp_cell_q, arrV_store, hcn]
    congr 2
    funext q
    by_cases hq : q = j
    · subst hq
      simp [updV, uR_self, va_rf]
    · simp [updV, hq, uR_ne R k (some t) hq]
  have ha0 := hP.2 k _ (xW_get hk)
  rcases ha with ⟨q, qc⟩ | ⟨q, qc⟩ <;> subst q <;> subst qc
  · rw [xE_bus hl0] at ha0
    obtain ⟨kA, comp, k1, k2, k3, -⟩ := (hKK.1.2 2 _ rfl).2
    exact fin _ kA comp _ _ ha0 rfl k1 k2 (Option.some.inj (k3.symm.trans (hKK.1.1 0 _ rfl).2.1)) (xE_bus hl0) (xE_bus hl0)
  · rw [xE_nod hl0] at ha0
    obtain ⟨kA, comp, k1, k2, k3, -⟩ := (hKK.1.2 3 _ rfl).2
    exact fin _ kA comp _ _ ha0 rfl k1 k2 (Option.some.inj (k3.symm.trans (hKK.1.1 6 _ rfl).2.1)) (xE_nod hl0) (xE_nod hl0)
end CR
