section CN
variable {g : GlT} {X : XT} {kc ks kc1 ks1 pc pc1 : Nat} {lv lv1 : List (Nat × Value)} {st stk : List Value} {Q : Option Value → MemT → Prop} {I I1 : Nat → Nat → Int32} {L L1 : Nat → Nat → Int64} {R R1 : Nat → Nat → Option Nat}
theorem zM.i {n k j : Nat} {x : Int32} (h : zM n I L R) (hk : k < n) : zM n (uI I k j x) L R := fun a ha => ⟨(uI_off I j x (by omega)).trans (h a ha).1, (h a ha).2.1, (h a ha).2.2⟩
theorem zM.r {n k j : Nat} {x : Option Nat} (h : zM n I L R) (hk : k < n) : zM n I L (uR R k j x) := fun a ha => ⟨(h a ha).1, (h a ha).2.1, (uR_off R j x (by omega)).trans (h a ha).2.2⟩
theorem zM.up {n m : Nat} (h : zM n I L R) (hk : n ≤ m) : zM m I L R := fun a ha => h a (Nat.le_trans hk ha)
def Qm (I : Nat → Nat → Int32) (L : Nat → Nat → Int64) (R : Nat → Nat → Option Nat) (n : Nat) : Option Value → MemT → Prop := fun r M => r = none ∧ M = (I, L, R, n)
theorem V_newW {n n1 ci idx : Nat} {C : String} {T : u_T} {N : Nat} (hz : zM n I L R) (hc : xC[ci]? = some (C, T, N)) (hl0 : lay n = (0, ci)) (hn : n < 305) (hcl : Cond.classLink X.1.1.cls idx C ∈ xT) (hins : Cond.instantiable C N ∈ xT) (hini : Cond.initialized C ∈ xT) (h1 : kc + 1 ≤ X.2.2.1) (h2 : ks + N ≤ X.2.2.2) (hd : decode X.1.2.1 pc = .ok (.new idx, 3)) (hp : pc + 3 = pc1) (hn1 : n + 1 = n1) (hk1 : kc + 1 = kc1) (hs1 : ks + N = ks1) (kk : V g X kc1 ks1 pc1 lv (.ref (xA g n) :: st) (I, L, R, n1) Q) : V g X kc ks pc lv st (I, L, R, n) Q := by
  subst hn1; subst hk1; subst hs1
  exact V_new hc hl0 hn hz hcl hins hini h1 h2 hd hp kk
theorem V_newiW {n n1 N : Nat} {i : Int32} (hz : zM n I L R) (hl0 : lay n = (1, N)) (hn : n < 305) (hi : i = nI N) (h1 : kc + 1 ≤ X.2.2.1) (h2 : ks + N ≤ X.2.2.2) (hd : decode X.1.2.1 pc = .ok (.newarray .int, 2)) (hp : pc + 2 = pc1) (hN : N ≤ 3000) (hn1 : n + 1 = n1) (hk1 : kc + 1 = kc1) (hs1 : ks + N = ks1) (kk : V g X kc1 ks1 pc1 lv (.ref (xA g n) :: st) (I, L, R, n1) Q) : V g X kc ks pc lv (.int i :: st) (I, L, R, n) Q := by
  subst hn1; subst hk1; subst hs1
  exact V_newi hl0 hn hz hi jarrI h1 h2 hd hp hN kk
theorem V_newzW {n n1 N : Nat} {i : Int32} (hz : zM n I L R) (hl0 : lay n = (2, N)) (hn : n < 305) (hi : i = nI N) (h1 : kc + 1 ≤ X.2.2.1) (h2 : ks + N ≤ X.2.2.2) (hd : decode X.1.2.1 pc = .ok (.newarray .boolean, 2)) (hp : pc + 2 = pc1) (hN : N ≤ 3000) (hn1 : n + 1 = n1) (hk1 : kc + 1 = kc1) (hs1 : ks + N = ks1) (kk : V g X kc1 ks1 pc1 lv (.ref (xA g n) :: st) (I, L, R, n1) Q) : V g X kc ks pc lv (.int i :: st) (I, L, R, n) Q := by
  subst hn1; subst hk1; subst hs1
  exact V_newz hl0 hn hz hi jarrZ h1 h2 hd hp hN kk
theorem V_newqW {n n1 N a idx : Nat} {i : Int32} {C : String} (hz : zM n I L R) (hl0 : lay n = (a, N)) (ha : (a = 3 ∧ C = "ArbitratedBus$Bus") ∨ (a = 4 ∧ C = "ArbitratedBus$Node")) (hn : n < 305) (hi : i = nI N) (hcl : Cond.classLink X.1.1.cls idx C ∈ xT) (h1 : kc + 1 ≤ X.2.2.1) (h2 : ks + N ≤ X.2.2.2) (hd : decode X.1.2.1 pc = .ok (.anewarray idx, 3)) (hp : pc + 3 = pc1) (hN : N ≤ 3000) (hn1 : n + 1 = n1) (hk1 : kc + 1 = kc1) (hs1 : ks + N = ks1) (kk : V g X kc1 ks1 pc1 lv (.ref (xA g n) :: st) (I, L, R, n1) Q) : V g X kc ks pc lv (.int i :: st) (I, L, R, n) Q := by
  subst hn1; subst hk1; subst hs1
  exact V_newq hl0 ha hn hz hi hcl h1 h2 hd hp hN kk
theorem V_ci {Y : XT} {As : List Value} {b idx n n0 n1 : Nat} (hc : Call g Y (.ref b :: As) (I, L, R, n0) (Qm I1 L1 R1 n1)) (hm : mI Y.1 n) (hlk : Cond.methodLink X.1.1.cls idx Y.1.1 ∈ xT) (hn : As.length = n) (hR : rOK X Y kc ks) (hsum : (st.map fun v => v.category).sum ≤ 8) (hst : stk = As.reverse ++ .ref b :: st) (hd : decode X.1.2.1 pc = .ok (.invokespecial idx, 3)) (hp : pc + 3 = pc1) (hk1 : kc + Y.2.2.1 = kc1) (hs1 : ks + Y.2.2.2 = ks1)
    (kk : V g X kc1 ks1 pc1 lv st (I1, L1, R1, n1) Q) : V g X kc ks pc lv stk (I, L, R, n0) Q := by
  subst hk1; subst hs1
  refine V_callI hc hm hlk hn hR hsum hst hd hp fun r M' h => ?_
  obtain ⟨rfl, rfl⟩ := h
  exact kk
theorem V_ciN {Y : XT} {As : List Value} {b idx n n0 n1 : Nat} {host : String} (hc : Call g Y (.ref b :: As) (I, L, R, n0) (Qm I1 L1 R1 n1)) (hm : mI Y.1 n) (hlk : Cond.methodLinkNest X.1.1.cls idx Y.1.1 host ∈ xNest) (hn : As.length = n) (hR : rOK X Y kc ks) (hsum : (st.map fun v => v.category).sum ≤ 8) (hst : stk = As.reverse ++ .ref b :: st) (hd : decode X.1.2.1 pc = .ok (.invokespecial idx, 3)) (hp : pc + 3 = pc1) (hk1 : kc + Y.2.2.1 = kc1) (hs1 : ks + Y.2.2.2 = ks1)
    (kk : V g X kc1 ks1 pc1 lv st (I1, L1, R1, n1) Q) : V g X kc ks pc lv stk (I, L, R, n0) Q := by
  subst hk1; subst hs1
  refine V_callIN hc hm hlk hn hR hsum hst hd hp fun r M' h => ?_
  obtain ⟨rfl, rfl⟩ := h
  exact kk
theorem fl_max {k c : Nat} (h : okF k c) : (if (0 : Int32) < nI c then nI c else 0) = nI c := by
  have h1 : c = 4 ∨ c = 6 := (by decide +kernel : ∀ q ∈ flL, q.2 = 4 ∨ q.2 = 6) (k, c) h
  rcases h1 with rfl | rfl <;> decide
end CN
def iC4 (k : Nat) (I : Nat → Nat → Int32) : Nat → Nat → Int32 := uI (uI (uI I k 0 128) k 1 256) k 2 4
theorem vC4 (g : GlT) {k : Nat} (hk : okL k) (I : Nat → Nat → Int32) (L : Nat → Nat → Int64) (R : Nat → Nat → Option Nat) (hz : zM (k + 1) I L R) (Q : Option Value → MemT → Prop) (hq : Q none (uI (uI (uI I k 0 128) k 1 256) k 2 4, L, R, k + 1)) : V g (k4_init, 1, 0, 0) 0 0 0 [(0, .ref (xA g k))] [] (I, L, R, k + 1) Q := by
  have z0 := hz
  refine V_aload_n (pc1 := 1) 0 d4_init_0 rfl rfl ?_
  refine V_obj (pc1 := 4) l4_1 jobjI jobjC (Nat.le_of_ble_eq_true rfl) (Nat.le_of_ble_eq_true rfl) d4_init_1 rfl ?_
  refine V_aload_n (pc1 := 5) 0 d4_init_4 rfl rfl ?_
  refine V_sipush (pc1 := 8) d4_init_5 vs_128 rfl ?_
  refine V_puti (pc1 := 11) (lm_l0 hk) (by omega) f4_7 rfl rfl d4_init_8 rfl ?_
  have z1 := z0.i (k := k) (j := 0) (x := 128) (by omega)
  refine V_aload_n (pc1 := 12) 0 d4_init_11 rfl rfl ?_
  refine V_sipush (pc1 := 15) d4_init_12 vs_256 rfl ?_
  refine V_puti (pc1 := 18) (lm_l0 hk) (by omega) f4_13 rfl rfl d4_init_15 rfl ?_
  have z2 := z1.i (k := k) (j := 1) (x := 256) (by omega)
  refine V_aload_n (pc1 := 19) 0 d4_init_18 rfl rfl ?_
  refine V_iconst (pc1 := 20) d4_init_19 vc_4 rfl ?_
  refine V_puti (pc1 := 23) (lm_l0 hk) (by omega) f4_16 rfl rfl d4_init_20 rfl ?_
  have z3 := z2.i (k := k) (j := 2) (x := 4) (by omega)
  exact V_vret rfl d4_init_23 (Nat.le_refl _) (Nat.le_refl _) hq
theorem wC4 (g : GlT) {k : Nat} (hk : okL k) {I : Nat → Nat → Int32} {L : Nat → Nat → Int64} {R : Nat → Nat → Option Nat} (hz : zM (k + 1) I L R) : Call g (k4_init, 1, 0, 0) [.ref (xA g k)] (I, L, R, k + 1) (Qm (iC4 k I) L (R) (k + 1)) := Call.of (show plainName k4_init.1.cls = true by decide) (Nat.le_of_ble_eq_true rfl) rfl (vC4 g hk I L R hz _ (And.intro rfl rfl))
theorem zC4 {k : Nat} (hk : okL k) {I : Nat → Nat → Int32} {L : Nat → Nat → Int64} {R : Nat → Nat → Option Nat} (hz : zM (k + 1) I L R) : zM (k + 1) (iC4 k I) L (R) := by
  have z0 := hz
  have z1 := z0.i (k := k) (j := 0) (x := 128) (by omega)
  have z2 := z1.i (k := k) (j := 1) (x := 256) (by omega)
  have z3 := z2.i (k := k) (j := 2) (x := 4) (by omega)
  exact z3
theorem vC2 (g : GlT) {k : Nat} (hk : okG k) (I : Nat → Nat → Int32) (L : Nat → Nat → Int64) (R : Nat → Nat → Option Nat) (hz : zM (k + 1) I L R) (Q : Option Value → MemT → Prop) (hq : Q none (I, L, R, k + 1)) : V g (k2_init, 1, 0, 0) 0 0 0 [(0, .ref (xA g k))] [] (I, L, R, k + 1) Q := by
  have z0 := hz
  refine V_aload_n (pc1 := 1) 0 d2_init_0 rfl rfl ?_
  refine V_obj (pc1 := 4) l2_3 jobjI jobjC (Nat.le_of_ble_eq_true rfl) (Nat.le_of_ble_eq_true rfl) d2_init_1 rfl ?_
  exact V_vret rfl d2_init_4 (Nat.le_refl _) (Nat.le_refl _) hq
theorem wC2 (g : GlT) {k : Nat} (hk : okG k) {I : Nat → Nat → Int32} {L : Nat → Nat → Int64} {R : Nat → Nat → Option Nat} (hz : zM (k + 1) I L R) : Call g (k2_init, 1, 0, 0) [.ref (xA g k)] (I, L, R, k + 1) (Qm (I) L (R) (k + 1)) := Call.of (show plainName k2_init.1.cls = true by decide) (Nat.le_of_ble_eq_true rfl) rfl (vC2 g hk I L R hz _ (And.intro rfl rfl))
theorem zC2 {k : Nat} (hk : okG k) {I : Nat → Nat → Int32} {L : Nat → Nat → Int64} {R : Nat → Nat → Option Nat} (hz : zM (k + 1) I L R) : zM (k + 1) (I) L (R) := by
  have z0 := hz
  exact z0
theorem vC7 (g : GlT)  (I : Nat → Nat → Int32) (L : Nat → Nat → Int64) (R : Nat → Nat → Option Nat) (hz : zM (295) I L R) (Q : Option Value → MemT → Prop) (hq : Q none (I, L, R, 295)) : V g (k7_init, 1, 0, 0) 0 0 0 [(0, .ref (xA g 294))] [] (I, L, R, 295) Q := by
  have z0 := hz
  refine V_aload_n (pc1 := 1) 0 d7_init_0 rfl rfl ?_
  refine V_obj (pc1 := 4) l7_1 jobjI jobjC (Nat.le_of_ble_eq_true rfl) (Nat.le_of_ble_eq_true rfl) d7_init_1 rfl ?_
  exact V_vret rfl d7_init_4 (Nat.le_refl _) (Nat.le_refl _) hq
theorem wC7 (g : GlT)  {I : Nat → Nat → Int32} {L : Nat → Nat → Int64} {R : Nat → Nat → Option Nat} (hz : zM (295) I L R) : Call g (k7_init, 1, 0, 0) [.ref (xA g 294)] (I, L, R, 295) (Qm (I) L (R) (295)) := Call.of (show plainName k7_init.1.cls = true by decide) (Nat.le_of_ble_eq_true rfl) rfl (vC7 g I L R hz _ (And.intro rfl rfl))
theorem zC7  {I : Nat → Nat → Int32} {L : Nat → Nat → Int64} {R : Nat → Nat → Option Nat} (hz : zM (295) I L R) : zM (295) (I) L (R) := by
  have z0 := hz
  exact z0
def iC8 (k : Nat) (I : Nat → Nat → Int32) : Nat → Nat → Int32 := uI I k 1 (-5)
def rC8 (k : Nat) (R : Nat → Nat → Option Nat) : Nat → Nat → Option Nat := uR R k 0 (some (k + 1))
theorem fC8 {k : Nat} {R : Nat → Nat → Option Nat} {a : Nat} (h : a < k) : rC8 k R a = R a := (uR_off _ _ _ (show (a : Nat) ≠ k by omega))
theorem vC8 (g : GlT) {k : Nat} (hk : okY k) (I : Nat → Nat → Int32) (L : Nat → Nat → Int64) (R : Nat → Nat → Option Nat) (hz : zM (k + 1) I L R) (Q : Option Value → MemT → Prop) (hq : Q none (uI I k 1 (-5), L, uR R k 0 (some (k + 1)), k + 2)) : V g (k8_init, 1, 1, 6) 0 0 0 [(0, .ref (xA g k))] [] (I, L, R, k + 1) Q := by
  have z0 := hz
  refine V_aload_n (pc1 := 1) 0 d8_init_0 rfl rfl ?_
  refine V_obj (pc1 := 4) l8_3 jobjI jobjC (Nat.le_of_ble_eq_true rfl) (Nat.le_of_ble_eq_true rfl) d8_init_1 rfl ?_
  refine V_aload_n (pc1 := 5) 0 d8_init_4 rfl rfl ?_
  refine V_bipush (pc1 := 7) d8_init_5 vb_6 rfl ?_
  refine V_newiW (pc1 := 9) (n1 := k + 2) (kc1 := 1) (ks1 := 6) z0 (ty_l1 hk) (ty_b1 hk) rfl (Nat.le_of_ble_eq_true rfl) (Nat.le_of_ble_eq_true rfl) d8_init_7 rfl (by decide) rfl rfl rfl ?_
  have z1 := z0.up (m := k + 2) (by omega)
  refine V_putr (pc1 := 12) (ty_l0 hk) (by omega) f8_11 ⟨rfl, rfl, rfl⟩ (fun _ _ => Or.inr ⟨_, rfl⟩) d8_init_9 rfl ?_
  have z2 := z1.r (k := k) (j := 0) (x := some (k + 1)) (by omega)
  refine V_aload_n (pc1 := 13) 0 d8_init_12 rfl rfl ?_
  refine V_bipush (pc1 := 15) d8_init_13 vb_m5 rfl ?_
  refine V_puti (pc1 := 18) (ty_l0 hk) (by omega) f8_15 rfl rfl d8_init_15 rfl ?_
  have z3 := z2.i (k := k) (j := 1) (x := (-5)) (by omega)
  exact V_vret rfl d8_init_18 (Nat.le_refl _) (Nat.le_refl _) hq
theorem wC8 (g : GlT) {k : Nat} (hk : okY k) {I : Nat → Nat → Int32} {L : Nat → Nat → Int64} {R : Nat → Nat → Option Nat} (hz : zM (k + 1) I L R) : Call g (k8_init, 1, 1, 6) [.ref (xA g k)] (I, L, R, k + 1) (Qm (iC8 k I) L (rC8 k R) (k + 2)) := Call.of (show plainName k8_init.1.cls = true by decide) (Nat.le_of_ble_eq_true rfl) rfl (vC8 g hk I L R hz _ (And.intro rfl rfl))
theorem zC8 {k : Nat} (hk : okY k) {I : Nat → Nat → Int32} {L : Nat → Nat → Int64} {R : Nat → Nat → Option Nat} (hz : zM (k + 1) I L R) : zM (k + 2) (iC8 k I) L (rC8 k R) := by
  have z0 := hz
  have z1 := z0.up (m := k + 2) (by omega)
  have z2 := z1.r (k := k) (j := 0) (x := some (k + 1)) (by omega)
  have z3 := z2.i (k := k) (j := 1) (x := (-5)) (by omega)
  exact z3
def rC1 (k : Nat) (R : Nat → Nat → Option Nat) : Nat → Nat → Option Nat := uR (uR R k 0 (some (k + 1))) k 1 (some (k + 2))
theorem fC1 {k : Nat} {R : Nat → Nat → Option Nat} {a : Nat} (h : a < k) : rC1 k R a = R a := ((uR_off _ _ _ (show (a : Nat) ≠ k by omega)).trans (uR_off _ _ _ (show (a : Nat) ≠ k by omega)))
theorem vC1 (g : GlT) {k : Nat} (hk : okD k) (I : Nat → Nat → Int32) (L : Nat → Nat → Int64) (R : Nat → Nat → Option Nat) (hz : zM (k + 1) I L R) (Q : Option Value → MemT → Prop) (hq : Q none (I, L, uR (uR R k 0 (some (k + 1))) k 1 (some (k + 2)), k + 3)) : V g (k1_init, 1, 2, 16) 0 0 0 [(0, .ref (xA g k))] [] (I, L, R, k + 1) Q := by
  have z0 := hz
  refine V_aload_n (pc1 := 1) 0 d1_init_0 rfl rfl ?_
  refine V_obj (pc1 := 4) l1_1 jobjI jobjC (Nat.le_of_ble_eq_true rfl) (Nat.le_of_ble_eq_true rfl) d1_init_1 rfl ?_
  refine V_aload_n (pc1 := 5) 0 d1_init_4 rfl rfl ?_
  refine V_bipush (pc1 := 7) d1_init_5 vb_8 rfl ?_
  refine V_newiW (pc1 := 9) (n1 := k + 2) (kc1 := 1) (ks1 := 8) z0 (ds_l1 hk) (ds_b1 hk) rfl (Nat.le_of_ble_eq_true rfl) (Nat.le_of_ble_eq_true rfl) d1_init_7 rfl (by decide) rfl rfl rfl ?_
  have z1 := z0.up (m := k + 2) (by omega)
  refine V_putr (pc1 := 12) (ds_l0 hk) (by omega) f1_9 ⟨rfl, rfl, rfl⟩ (fun _ _ => Or.inr ⟨_, rfl⟩) d1_init_9 rfl ?_
  have z2 := z1.r (k := k) (j := 0) (x := some (k + 1)) (by omega)
  refine V_aload_n (pc1 := 13) 0 d1_init_12 rfl rfl ?_
  refine V_bipush (pc1 := 15) d1_init_13 vb_8 rfl ?_
  refine V_newiW (pc1 := 17) (n1 := k + 3) (kc1 := 2) (ks1 := 16) z2 (ds_l2 hk) (ds_b2 hk) rfl (Nat.le_of_ble_eq_true rfl) (Nat.le_of_ble_eq_true rfl) d1_init_15 rfl (by decide) rfl rfl rfl ?_
  have z3 := z2.up (m := k + 3) (by omega)
  refine V_putr (pc1 := 20) (ds_l0 hk) (by omega) f1_13 ⟨rfl, rfl, rfl⟩ (fun _ _ => Or.inr ⟨_, rfl⟩) d1_init_17 rfl ?_
  have z4 := z3.r (k := k) (j := 1) (x := some (k + 2)) (by omega)
  exact V_vret rfl d1_init_20 (Nat.le_refl _) (Nat.le_refl _) hq
theorem wC1 (g : GlT) {k : Nat} (hk : okD k) {I : Nat → Nat → Int32} {L : Nat → Nat → Int64} {R : Nat → Nat → Option Nat} (hz : zM (k + 1) I L R) : Call g (k1_init, 1, 2, 16) [.ref (xA g k)] (I, L, R, k + 1) (Qm (I) L (rC1 k R) (k + 3)) := Call.of (show plainName k1_init.1.cls = true by decide) (Nat.le_of_ble_eq_true rfl) rfl (vC1 g hk I L R hz _ (And.intro rfl rfl))
theorem zC1 {k : Nat} (hk : okD k) {I : Nat → Nat → Int32} {L : Nat → Nat → Int64} {R : Nat → Nat → Option Nat} (hz : zM (k + 1) I L R) : zM (k + 3) (I) L (rC1 k R) := by
  have z0 := hz
  have z1 := z0.up (m := k + 2) (by omega)
  have z2 := z1.r (k := k) (j := 0) (x := some (k + 1)) (by omega)
  have z3 := z2.up (m := k + 3) (by omega)
  have z4 := z3.r (k := k) (j := 1) (x := some (k + 2)) (by omega)
  exact z4
def rC5  (R : Nat → Nat → Option Nat) : Nat → Nat → Option Nat := uR (uR (uR (uR R 288 0 (some 289)) 288 1 (some 290)) 288 2 (some 291)) 288 3 (some 292)
theorem vC5 (g : GlT)  (I : Nat → Nat → Int32) (L : Nat → Nat → Int64) (R : Nat → Nat → Option Nat) (hz : zM (289) I L R) (Q : Option Value → MemT → Prop) (hq : Q none (I, L, uR (uR (uR (uR R 288 0 (some 289)) 288 1 (some 290)) 288 2 (some 291)) 288 3 (some 292), 293)) : V g (k5_init, 1, 4, 32) 0 0 0 [(0, .ref (xA g 288))] [] (I, L, R, 289) Q := by
  have z0 := hz
  refine V_aload_n (pc1 := 1) 0 d5_init_0 rfl rfl ?_
  refine V_obj (pc1 := 4) l5_3 jobjI jobjC (Nat.le_of_ble_eq_true rfl) (Nat.le_of_ble_eq_true rfl) d5_init_1 rfl ?_
  refine V_aload_n (pc1 := 5) 0 d5_init_4 rfl rfl ?_
  refine V_bipush (pc1 := 7) d5_init_5 vb_8 rfl ?_
  refine V_newiW (pc1 := 9) (n1 := 290) (kc1 := 1) (ks1 := 8) z0 ly289 (by decide) rfl (Nat.le_of_ble_eq_true rfl) (Nat.le_of_ble_eq_true rfl) d5_init_7 rfl (by decide) rfl rfl rfl ?_
  have z1 := z0.up (m := 290) (by omega)
  refine V_putr (pc1 := 12) ly288 (by omega) f5_11 ⟨rfl, rfl, rfl⟩ (fun _ _ => Or.inr ⟨_, rfl⟩) d5_init_9 rfl ?_
  have z2 := z1.r (k := 288) (j := 0) (x := some 289) (by omega)
  refine V_aload_n (pc1 := 13) 0 d5_init_12 rfl rfl ?_
  refine V_bipush (pc1 := 15) d5_init_13 vb_8 rfl ?_
  refine V_newiW (pc1 := 17) (n1 := 291) (kc1 := 2) (ks1 := 16) z2 ly290 (by decide) rfl (Nat.le_of_ble_eq_true rfl) (Nat.le_of_ble_eq_true rfl) d5_init_15 rfl (by decide) rfl rfl rfl ?_
  have z3 := z2.up (m := 291) (by omega)
  refine V_putr (pc1 := 20) ly288 (by omega) f5_15 ⟨rfl, rfl, rfl⟩ (fun _ _ => Or.inr ⟨_, rfl⟩) d5_init_17 rfl ?_
  have z4 := z3.r (k := 288) (j := 1) (x := some 290) (by omega)
  refine V_aload_n (pc1 := 21) 0 d5_init_20 rfl rfl ?_
  refine V_bipush (pc1 := 23) d5_init_21 vb_8 rfl ?_
  refine V_newiW (pc1 := 25) (n1 := 292) (kc1 := 3) (ks1 := 24) z4 ly291 (by decide) rfl (Nat.le_of_ble_eq_true rfl) (Nat.le_of_ble_eq_true rfl) d5_init_23 rfl (by decide) rfl rfl rfl ?_
  have z5 := z4.up (m := 292) (by omega)
  refine V_putr (pc1 := 28) ly288 (by omega) f5_18 ⟨rfl, rfl, rfl⟩ (fun _ _ => Or.inr ⟨_, rfl⟩) d5_init_25 rfl ?_
  have z6 := z5.r (k := 288) (j := 2) (x := some 291) (by omega)
  refine V_aload_n (pc1 := 29) 0 d5_init_28 rfl rfl ?_
  refine V_bipush (pc1 := 31) d5_init_29 vb_8 rfl ?_
  refine V_newiW (pc1 := 33) (n1 := 293) (kc1 := 4) (ks1 := 32) z6 ly292 (by decide) rfl (Nat.le_of_ble_eq_true rfl) (Nat.le_of_ble_eq_true rfl) d5_init_31 rfl (by decide) rfl rfl rfl ?_
  have z7 := z6.up (m := 293) (by omega)
  refine V_putr (pc1 := 36) ly288 (by omega) f5_21 ⟨rfl, rfl, rfl⟩ (fun _ _ => Or.inr ⟨_, rfl⟩) d5_init_33 rfl ?_
  have z8 := z7.r (k := 288) (j := 3) (x := some 292) (by omega)
  exact V_vret rfl d5_init_36 (Nat.le_refl _) (Nat.le_refl _) hq
theorem wC5 (g : GlT)  {I : Nat → Nat → Int32} {L : Nat → Nat → Int64} {R : Nat → Nat → Option Nat} (hz : zM (289) I L R) : Call g (k5_init, 1, 4, 32) [.ref (xA g 288)] (I, L, R, 289) (Qm (I) L (rC5  R) (293)) := Call.of (show plainName k5_init.1.cls = true by decide) (Nat.le_of_ble_eq_true rfl) rfl (vC5 g I L R hz _ (And.intro rfl rfl))
theorem zC5  {I : Nat → Nat → Int32} {L : Nat → Nat → Int64} {R : Nat → Nat → Option Nat} (hz : zM (289) I L R) : zM (293) (I) L (rC5  R) := by
  have z0 := hz
  have z1 := z0.up (m := 290) (by omega)
  have z2 := z1.r (k := 288) (j := 0) (x := some 289) (by omega)
  have z3 := z2.up (m := 291) (by omega)
  have z4 := z3.r (k := 288) (j := 1) (x := some 290) (by omega)
  have z5 := z4.up (m := 292) (by omega)
  have z6 := z5.r (k := 288) (j := 2) (x := some 291) (by omega)
  have z7 := z6.up (m := 293) (by omega)
  have z8 := z7.r (k := 288) (j := 3) (x := some 292) (by omega)
  exact z8
def rC3 (k : Nat) (R : Nat → Nat → Option Nat) : Nat → Nat → Option Nat := uR (uR (uR R k 0 (some (k + 1))) k 1 (some (k + 2))) k 2 (some (k + 3))
theorem fC3 {k : Nat} {R : Nat → Nat → Option Nat} {a : Nat} (h : a < k) : rC3 k R a = R a := ((uR_off _ _ _ (show (a : Nat) ≠ k by omega)).trans ((uR_off _ _ _ (show (a : Nat) ≠ k by omega)).trans (uR_off _ _ _ (show (a : Nat) ≠ k by omega))))
theorem vC3 (g : GlT) {k c : Nat} (hk : okF k c) (I : Nat → Nat → Int32) (L : Nat → Nat → Int64) (R : Nat → Nat → Option Nat) (hz : zM (k + 1) I L R) (Q : Option Value → MemT → Prop) (hq : Q none (I, L, uR (uR (uR R k 0 (some (k + 1))) k 1 (some (k + 2))) k 2 (some (k + 3)), k + 4)) : V g (k3_init, 1, 3, c + c + c) 0 0 0 [(0, .ref (xA g k)), (1, .int (nI c))] [] (I, L, R, k + 1) Q := by
  have z0 := hz
  refine V_aload_n (pc1 := 1) 0 d3_init_0 rfl rfl ?_
  refine V_obj (pc1 := 4) l3_3 jobjI jobjC (Nat.le_of_ble_eq_true rfl) (Nat.le_of_ble_eq_true rfl) d3_init_1 rfl ?_
  refine V_iconst (pc1 := 5) d3_init_4 vc_0 rfl ?_
  refine V_iload_n (pc1 := 6) 1 d3_init_5 rfl rfl ?_
  refine V_max (pc1 := 9) l3_9 jmaxS jmthI jmaxC (Nat.le_of_ble_eq_true rfl) (Nat.zero_le _) (Nat.zero_le _) (Nat.le_of_ble_eq_true rfl) d3_init_6 rfl ?_
  rw [fl_max hk]
  refine V_istore_n (pc1 := 10) d3_init_9 (Nat.le_of_ble_eq_true rfl) rfl rfl ?_
  refine V_aload_n (pc1 := 11) 1 d3_init_10 rfl rfl ?_
  refine V_iload_n (pc1 := 12) 0 d3_init_11 rfl rfl ?_
  refine V_newiW (pc1 := 14) (n1 := k + 2) (kc1 := 1) (ks1 := c) z0 (fl_l1 hk) (fl_b1 hk) rfl (Nat.le_of_ble_eq_true rfl) (by show 0 + c ≤ c + c + c; omega) d3_init_12 rfl (by have := fl_cap hk; omega) rfl rfl (Nat.zero_add _) ?_
  have z1 := z0.up (m := k + 2) (by omega)
  refine V_putr (pc1 := 17) (fl_l0 hk) (by omega) f3_15 ⟨rfl, rfl, rfl⟩ (fun _ _ => Or.inr ⟨_, rfl⟩) d3_init_14 rfl ?_
  have z2 := z1.r (k := k) (j := 0) (x := some (k + 1)) (by omega)
  refine V_aload_n (pc1 := 18) 1 d3_init_17 rfl rfl ?_
  refine V_iload_n (pc1 := 19) 0 d3_init_18 rfl rfl ?_
  refine V_newiW (pc1 := 21) (n1 := k + 3) (kc1 := 2) (ks1 := c + c) z2 (fl_l2 hk) (fl_b2 hk) rfl (Nat.le_of_ble_eq_true rfl) (by show c + c ≤ c + c + c; omega) d3_init_19 rfl (by have := fl_cap hk; omega) rfl rfl rfl ?_
  have z3 := z2.up (m := k + 3) (by omega)
  refine V_putr (pc1 := 24) (fl_l0 hk) (by omega) f3_21 ⟨rfl, rfl, rfl⟩ (fun _ _ => Or.inr ⟨_, rfl⟩) d3_init_21 rfl ?_
  have z4 := z3.r (k := k) (j := 1) (x := some (k + 2)) (by omega)
  refine V_aload_n (pc1 := 25) 1 d3_init_24 rfl rfl ?_
  refine V_iload_n (pc1 := 26) 0 d3_init_25 rfl rfl ?_
  refine V_newiW (pc1 := 28) (n1 := k + 4) (kc1 := 3) (ks1 := c + c + c) z4 (fl_l3 hk) (fl_b3 hk) rfl (Nat.le_of_ble_eq_true rfl) (by show c + c + c ≤ c + c + c; omega) d3_init_26 rfl (by have := fl_cap hk; omega) rfl rfl rfl ?_
  have z5 := z4.up (m := k + 4) (by omega)
  refine V_putr (pc1 := 31) (fl_l0 hk) (by omega) f3_24 ⟨rfl, rfl, rfl⟩ (fun _ _ => Or.inr ⟨_, rfl⟩) d3_init_28 rfl ?_
  have z6 := z5.r (k := k) (j := 2) (x := some (k + 3)) (by omega)
  exact V_vret rfl d3_init_31 (Nat.le_refl _) (Nat.le_refl _) hq
theorem wC3 (g : GlT) {k c : Nat} (hk : okF k c) {I : Nat → Nat → Int32} {L : Nat → Nat → Int64} {R : Nat → Nat → Option Nat} (hz : zM (k + 1) I L R) : Call g (k3_init, 1, 3, c + c + c) [.ref (xA g k), .int (nI c)] (I, L, R, k + 1) (Qm (I) L (rC3 k R) (k + 4)) := Call.of (show plainName k3_init.1.cls = true by decide) (Nat.le_of_ble_eq_true rfl) rfl (vC3 g hk I L R hz _ (And.intro rfl rfl))
theorem zC3 {k c : Nat} (hk : okF k c) {I : Nat → Nat → Int32} {L : Nat → Nat → Int64} {R : Nat → Nat → Option Nat} (hz : zM (k + 1) I L R) : zM (k + 4) (I) L (rC3 k R) := by
  have z0 := hz
  have z1 := z0.up (m := k + 2) (by omega)
  have z2 := z1.r (k := k) (j := 0) (x := some (k + 1)) (by omega)
  have z3 := z2.up (m := k + 3) (by omega)
  have z4 := z3.r (k := k) (j := 1) (x := some (k + 2)) (by omega)
  have z5 := z4.up (m := k + 4) (by omega)
  have z6 := z5.r (k := k) (j := 2) (x := some (k + 3)) (by omega)
  exact z6
def rC9  (R : Nat → Nat → Option Nat) : Nat → Nat → Option Nat := uR (uR R 293 0 (some 294)) 293 1 (some 295)
theorem vC9 (g : GlT)  (I : Nat → Nat → Int32) (L : Nat → Nat → Int64) (R : Nat → Nat → Option Nat) (hz : zM (294) I L R) (Q : Option Value → MemT → Prop) (hq : Q none (I, L, uR (uR R 293 0 (some 294)) 293 1 (some 295), 296)) : V g (k9_init, 2, 2, 126) 0 0 0 [(0, .ref (xA g 293))] [] (I, L, R, 294) Q := by
  have z0 := hz
  refine V_aload_n (pc1 := 1) 0 d9_init_0 rfl rfl ?_
  refine V_obj (pc1 := 4) l9_3 jobjI jobjC (Nat.le_of_ble_eq_true rfl) (Nat.le_of_ble_eq_true rfl) d9_init_1 rfl ?_
  refine V_aload_n (pc1 := 5) 0 d9_init_4 rfl rfl ?_
  refine V_newW (pc1 := 8) (n1 := 295) (kc1 := 1) (ks1 := 6) z0 (ci := 7) rfl ly294 (by decide) c9_9 n7_ n7_i (Nat.le_of_ble_eq_true rfl) (Nat.le_of_ble_eq_true rfl) d9_init_5 rfl rfl rfl rfl ?_
  have z1 := z0.up (m := 295) (by omega)
  refine V_dup (pc1 := 9) d9_init_8 rfl rfl ?_
  refine V_ciN (pc1 := 12) (kc1 := 1) (ks1 := 6) (wC7 g  (z1) ) s7_init l9_11 rfl ⟨Nat.le_of_ble_eq_true rfl, Nat.le_of_ble_eq_true rfl, Nat.le_of_ble_eq_true rfl, Nat.le_of_ble_eq_true rfl⟩ (Nat.le_of_ble_eq_true rfl) rfl d9_init_9 rfl rfl rfl ?_
  have z2 := zC7  z1
  refine V_putr (pc1 := 15) ly293 (by omega) f9_12 ⟨rfl, rfl, rfl⟩ (fun _ _ => Or.inl ⟨_, rfl⟩) d9_init_12 rfl ?_
  have z3 := z2.r (k := 293) (j := 0) (x := some 294) (by omega)
  refine V_aload_n (pc1 := 16) 0 d9_init_15 rfl rfl ?_
  refine V_bipush (pc1 := 18) d9_init_16 vb_120 rfl ?_
  refine V_newiW (pc1 := 20) (n1 := 296) (kc1 := 2) (ks1 := 126) z3 ly295 (by decide) rfl (Nat.le_of_ble_eq_true rfl) (Nat.le_of_ble_eq_true rfl) d9_init_18 rfl (by decide) rfl rfl rfl ?_
  have z4 := z3.up (m := 296) (by omega)
  refine V_putr (pc1 := 23) ly293 (by omega) f9_18 ⟨rfl, rfl, rfl⟩ (fun _ _ => Or.inr ⟨_, rfl⟩) d9_init_20 rfl ?_
  have z5 := z4.r (k := 293) (j := 1) (x := some 295) (by omega)
  exact V_vret rfl d9_init_23 (Nat.le_refl _) (Nat.le_refl _) hq
theorem wC9 (g : GlT)  {I : Nat → Nat → Int32} {L : Nat → Nat → Int64} {R : Nat → Nat → Option Nat} (hz : zM (294) I L R) : Call g (k9_init, 2, 2, 126) [.ref (xA g 293)] (I, L, R, 294) (Qm (I) L (rC9  R) (296)) := Call.of (show plainName k9_init.1.cls = true by decide) (Nat.le_of_ble_eq_true rfl) rfl (vC9 g I L R hz _ (And.intro rfl rfl))
theorem zC9  {I : Nat → Nat → Int32} {L : Nat → Nat → Int64} {R : Nat → Nat → Option Nat} (hz : zM (294) I L R) : zM (296) (I) L (rC9  R) := by
  have z0 := hz
  have z1 := z0.up (m := 295) (by omega)
  have z2 := zC7  z1
  have z3 := z2.r (k := 293) (j := 0) (x := some 294) (by omega)
  have z4 := z3.up (m := 296) (by omega)
  have z5 := z4.r (k := 293) (j := 1) (x := some 295) (by omega)
  exact z5
def iC6 (k l : Nat) (I : Nat → Nat → Int32) : Nat → Nat → Int32 := uI (uI (uI (iC8 (k + 1) I) k 8 3) k 16 1) k 17 (-1)
def rC6 (k l : Nat) (R : Nat → Nat → Option Nat) : Nat → Nat → Option Nat := uR (uR (uR (rC3 (k + 11) (uR (rC3 (k + 7) (uR (rC3 (k + 3) (uR (rC8 (k + 1) R) k 1 (some (k + 1)))) k 2 (some (k + 3)))) k 3 (some (k + 7)))) k 4 (some (k + 11))) k 5 (some (k + 15))) k 0 (some l)
theorem fC6 {k l : Nat} {R : Nat → Nat → Option Nat} {a : Nat} (h : a < k) : rC6 k l R a = R a := ((uR_off _ _ _ (show (a : Nat) ≠ k by omega)).trans ((uR_off _ _ _ (show (a : Nat) ≠ k by omega)).trans ((uR_off _ _ _ (show (a : Nat) ≠ k by omega)).trans ((fC3 (show (a : Nat) < k + 11 by omega)).trans ((uR_off _ _ _ (show (a : Nat) ≠ k by omega)).trans ((fC3 (show (a : Nat) < k + 7 by omega)).trans ((uR_off _ _ _ (show (a : Nat) ≠ k by omega)).trans ((fC3 (show (a : Nat) < k + 3 by omega)).trans ((uR_off _ _ _ (show (a : Nat) ≠ k by omega)).trans (fC8 (show (a : Nat) < k + 1 by omega)))))))))))
theorem vC6 (g : GlT) {k l : Nat} (hk : okN k l) (I : Nat → Nat → Int32) (L : Nat → Nat → Int64) (R : Nat → Nat → Option Nat) (hz : zM (k + 1) I L R) (Q : Option Value → MemT → Prop) (hq : Q none (uI (uI (uI (iC8 (k + 1) I) k 8 3) k 16 1) k 17 (-1), L, uR (uR (uR (rC3 (k + 11) (uR (rC3 (k + 7) (uR (rC3 (k + 3) (uR (rC8 (k + 1) R) k 1 (some (k + 1)))) k 2 (some (k + 3)))) k 3 (some (k + 7)))) k 4 (some (k + 11))) k 5 (some (k + 15))) k 0 (some l), k + 16)) : V g (k6_init, 2, 15, 75) 0 0 0 [(0, .ref (xA g k)), (1, .ref (xA g l))] [] (I, L, R, k + 1) Q := by
  have hlt := nd_lt hk
  have z0 := hz
  refine V_aload_n (pc1 := 1) 0 d6_init_0 rfl rfl ?_
  refine V_obj (pc1 := 4) l6_3 jobjI jobjC (Nat.le_of_ble_eq_true rfl) (Nat.le_of_ble_eq_true rfl) d6_init_1 rfl ?_
  refine V_aload_n (pc1 := 5) 0 d6_init_4 rfl rfl ?_
  refine V_newW (pc1 := 8) (n1 := k + 2) (kc1 := 1) (ks1 := 6) z0 (ci := 8) rfl (nd_l1 hk) (nd_b1 hk) c6_9 n8_ n8_i (Nat.le_of_ble_eq_true rfl) (Nat.le_of_ble_eq_true rfl) d6_init_5 rfl rfl rfl rfl ?_
  have z1 := z0.up (m := k + 2) (by omega)
  refine V_dup (pc1 := 9) d6_init_8 rfl rfl ?_
  refine V_ciN (pc1 := 12) (kc1 := 2) (ks1 := 12) (wC8 g (nd_Y1 hk) (z1) ) s8_init l6_11 rfl ⟨Nat.le_of_ble_eq_true rfl, Nat.le_of_ble_eq_true rfl, Nat.le_of_ble_eq_true rfl, Nat.le_of_ble_eq_true rfl⟩ (Nat.le_of_ble_eq_true rfl) rfl d6_init_9 rfl rfl rfl ?_
  have z2 := zC8 (nd_Y1 hk) z1
  refine V_putr (pc1 := 15) (nd_l0 hk) (by omega) f6_12 ⟨rfl, rfl, rfl⟩ (fun _ _ => Or.inl ⟨_, rfl⟩) d6_init_12 rfl ?_
  have z3 := z2.r (k := k) (j := 1) (x := some (k + 1)) (by omega)
  refine V_aload_n (pc1 := 16) 0 d6_init_15 rfl rfl ?_
  refine V_newW (pc1 := 19) (n1 := k + 4) (kc1 := 3) (ks1 := 16) z3 (ci := 3) rfl (nd_l3 hk) (nd_b3 hk) c6_18 n3_ n3_i (Nat.le_of_ble_eq_true rfl) (Nat.le_of_ble_eq_true rfl) d6_init_16 rfl rfl rfl rfl ?_
  have z4 := z3.up (m := k + 4) (by omega)
  refine V_dup (pc1 := 20) d6_init_19 rfl rfl ?_
  refine V_iconst (pc1 := 21) d6_init_20 vc_4 rfl ?_
  refine V_ci (pc1 := 24) (kc1 := 6) (ks1 := 28) (wC3 g (nd_F3 hk) (z4) ) s3_init l6_20 rfl ⟨Nat.le_of_ble_eq_true rfl, Nat.le_of_ble_eq_true rfl, Nat.le_of_ble_eq_true rfl, Nat.le_of_ble_eq_true rfl⟩ (Nat.le_of_ble_eq_true rfl) rfl d6_init_21 rfl rfl rfl ?_
  have z5 := zC3 (nd_F3 hk) z4
  refine V_putr (pc1 := 27) (nd_l0 hk) (by omega) f6_23 ⟨rfl, rfl, rfl⟩ (fun _ _ => Or.inl ⟨_, rfl⟩) d6_init_24 rfl ?_
  have z6 := z5.r (k := k) (j := 2) (x := some (k + 3)) (by omega)
  refine V_aload_n (pc1 := 28) 0 d6_init_27 rfl rfl ?_
  refine V_newW (pc1 := 31) (n1 := k + 8) (kc1 := 7) (ks1 := 32) z6 (ci := 3) rfl (nd_l7 hk) (nd_b7 hk) c6_18 n3_ n3_i (Nat.le_of_ble_eq_true rfl) (Nat.le_of_ble_eq_true rfl) d6_init_28 rfl rfl rfl rfl ?_
  have z7 := z6.up (m := k + 8) (by omega)
  refine V_dup (pc1 := 32) d6_init_31 rfl rfl ?_
  refine V_bipush (pc1 := 34) d6_init_32 vb_6 rfl ?_
  refine V_ci (pc1 := 37) (kc1 := 10) (ks1 := 50) (wC3 g (nd_F7 hk) (z7) ) s3_init l6_20 rfl ⟨Nat.le_of_ble_eq_true rfl, Nat.le_of_ble_eq_true rfl, Nat.le_of_ble_eq_true rfl, Nat.le_of_ble_eq_true rfl⟩ (Nat.le_of_ble_eq_true rfl) rfl d6_init_34 rfl rfl rfl ?_
  have z8 := zC3 (nd_F7 hk) z7
  refine V_putr (pc1 := 40) (nd_l0 hk) (by omega) f6_27 ⟨rfl, rfl, rfl⟩ (fun _ _ => Or.inl ⟨_, rfl⟩) d6_init_37 rfl ?_
  have z9 := z8.r (k := k) (j := 3) (x := some (k + 7)) (by omega)
  refine V_aload_n (pc1 := 41) 0 d6_init_40 rfl rfl ?_
  refine V_newW (pc1 := 44) (n1 := k + 12) (kc1 := 11) (ks1 := 54) z9 (ci := 3) rfl (nd_l11 hk) (nd_b11 hk) c6_18 n3_ n3_i (Nat.le_of_ble_eq_true rfl) (Nat.le_of_ble_eq_true rfl) d6_init_41 rfl rfl rfl rfl ?_
  have z10 := z9.up (m := k + 12) (by omega)
  refine V_dup (pc1 := 45) d6_init_44 rfl rfl ?_
  refine V_iconst (pc1 := 46) d6_init_45 vc_4 rfl ?_
  refine V_ci (pc1 := 49) (kc1 := 14) (ks1 := 66) (wC3 g (nd_F11 hk) (z10) ) s3_init l6_20 rfl ⟨Nat.le_of_ble_eq_true rfl, Nat.le_of_ble_eq_true rfl, Nat.le_of_ble_eq_true rfl, Nat.le_of_ble_eq_true rfl⟩ (Nat.le_of_ble_eq_true rfl) rfl d6_init_46 rfl rfl rfl ?_
  have z11 := zC3 (nd_F11 hk) z10
  refine V_putr (pc1 := 52) (nd_l0 hk) (by omega) f6_30 ⟨rfl, rfl, rfl⟩ (fun _ _ => Or.inl ⟨_, rfl⟩) d6_init_49 rfl ?_
  have z12 := z11.r (k := k) (j := 4) (x := some (k + 11)) (by omega)
  refine V_aload_n (pc1 := 53) 0 d6_init_52 rfl rfl ?_
  refine V_newW (pc1 := 56) (n1 := k + 16) (kc1 := 15) (ks1 := 75) z12 (ci := 2) rfl (nd_l15 hk) (nd_b15 hk) c6_33 n2_ n2_i (Nat.le_of_ble_eq_true rfl) (Nat.le_of_ble_eq_true rfl) d6_init_53 rfl rfl rfl rfl ?_
  have z13 := z12.up (m := k + 16) (by omega)
  refine V_dup (pc1 := 57) d6_init_56 rfl rfl ?_
  refine V_ciN (pc1 := 60) (kc1 := 15) (ks1 := 75) (wC2 g (nd_G15 hk) (z13) ) s2_init l6_35 rfl ⟨Nat.le_of_ble_eq_true rfl, Nat.le_of_ble_eq_true rfl, Nat.le_of_ble_eq_true rfl, Nat.le_of_ble_eq_true rfl⟩ (Nat.le_of_ble_eq_true rfl) rfl d6_init_57 rfl rfl rfl ?_
  have z14 := zC2 (nd_G15 hk) z13
  refine V_putr (pc1 := 63) (nd_l0 hk) (by omega) f6_36 ⟨rfl, rfl, rfl⟩ (fun _ _ => Or.inl ⟨_, rfl⟩) d6_init_60 rfl ?_
  have z15 := z14.r (k := k) (j := 5) (x := some (k + 15)) (by omega)
  refine V_aload_n (pc1 := 64) 0 d6_init_63 rfl rfl ?_
  refine V_iconst (pc1 := 65) d6_init_64 vc_3 rfl ?_
  refine V_puti (pc1 := 68) (nd_l0 hk) (by omega) f6_40 rfl rfl d6_init_65 rfl ?_
  have z16 := z15.i (k := k) (j := 8) (x := 3) (by omega)
  refine V_aload_n (pc1 := 69) 0 d6_init_68 rfl rfl ?_
  refine V_iconst (pc1 := 70) d6_init_69 vc_1 rfl ?_
  refine V_puti (pc1 := 73) (nd_l0 hk) (by omega) f6_44 rfl rfl d6_init_70 rfl ?_
  have z17 := z16.i (k := k) (j := 16) (x := 1) (by omega)
  refine V_aload_n (pc1 := 74) 0 d6_init_73 rfl rfl ?_
  refine V_iconst (pc1 := 75) d6_init_74 vc_m1 rfl ?_
  refine V_puti (pc1 := 78) (nd_l0 hk) (by omega) f6_47 rfl rfl d6_init_75 rfl ?_
  have z18 := z17.i (k := k) (j := 17) (x := (-1)) (by omega)
  refine V_aload_n (pc1 := 79) 0 d6_init_78 rfl rfl ?_
  refine V_aload_n (pc1 := 80) 1 d6_init_79 rfl rfl ?_
  refine V_putr (pc1 := 83) (nd_l0 hk) (by omega) f6_50 ⟨rfl, rfl, rfl⟩ (fun _ _ => Or.inl ⟨_, rfl⟩) d6_init_80 rfl ?_
  have z19 := z18.r (k := k) (j := 0) (x := some l) (by omega)
  exact V_vret rfl d6_init_83 (Nat.le_refl _) (Nat.le_refl _) hq
theorem wC6 (g : GlT) {k l : Nat} (hk : okN k l) {I : Nat → Nat → Int32} {L : Nat → Nat → Int64} {R : Nat → Nat → Option Nat} (hz : zM (k + 1) I L R) : Call g (k6_init, 2, 15, 75) [.ref (xA g k), .ref (xA g l)] (I, L, R, k + 1) (Qm (iC6 k l I) L (rC6 k l R) (k + 16)) := Call.of (show plainName k6_init.1.cls = true by decide) (Nat.le_of_ble_eq_true rfl) rfl (vC6 g hk I L R hz _ (And.intro rfl rfl))
theorem zC6 {k l : Nat} (hk : okN k l) {I : Nat → Nat → Int32} {L : Nat → Nat → Int64} {R : Nat → Nat → Option Nat} (hz : zM (k + 1) I L R) : zM (k + 16) (iC6 k l I) L (rC6 k l R) := by
  have hlt := nd_lt hk
  have z0 := hz
  have z1 := z0.up (m := k + 2) (by omega)
  have z2 := zC8 (nd_Y1 hk) z1
  have z3 := z2.r (k := k) (j := 1) (x := some (k + 1)) (by omega)
  have z4 := z3.up (m := k + 4) (by omega)
  have z5 := zC3 (nd_F3 hk) z4
  have z6 := z5.r (k := k) (j := 2) (x := some (k + 3)) (by omega)
  have z7 := z6.up (m := k + 8) (by omega)
  have z8 := zC3 (nd_F7 hk) z7
  have z9 := z8.r (k := k) (j := 3) (x := some (k + 7)) (by omega)
  have z10 := z9.up (m := k + 12) (by omega)
  have z11 := zC3 (nd_F11 hk) z10
  have z12 := z11.r (k := k) (j := 4) (x := some (k + 11)) (by omega)
  have z13 := z12.up (m := k + 16) (by omega)
  have z14 := zC2 (nd_G15 hk) z13
  have z15 := z14.r (k := k) (j := 5) (x := some (k + 15)) (by omega)
  have z16 := z15.i (k := k) (j := 8) (x := 3) (by omega)
  have z17 := z16.i (k := k) (j := 16) (x := 1) (by omega)
  have z18 := z17.i (k := k) (j := 17) (x := (-1)) (by omega)
  have z19 := z18.r (k := k) (j := 0) (x := some l) (by omega)
  exact z19
def iC0 (k : Nat) (I : Nat → Nat → Int32) : Nat → Nat → Int32 := iC6 (k + 51) (k + 1) (iC6 (k + 35) (k + 1) (iC6 (k + 19) (k + 1) (iC6 (k + 3) (k + 1) (iC4 (k + 1) I))))
def rC0 (k : Nat) (R : Nat → Nat → Option Nat) : Nat → Nat → Option Nat := uR (uR (rC1 (k + 67) (uR (rC6 (k + 51) (k + 1) (uR (rC6 (k + 35) (k + 1) (uR (rC6 (k + 19) (k + 1) (uR (rC6 (k + 3) (k + 1) (uR (uR R k 0 (some (k + 1))) k 1 (some (k + 2)))) (k + 2) 0 (some (k + 3)))) (k + 2) 1 (some (k + 19)))) (k + 2) 2 (some (k + 35)))) (k + 2) 3 (some (k + 51)))) k 2 (some (k + 67))) k 3 (some (k + 70))
theorem fC0 {k : Nat} {R : Nat → Nat → Option Nat} {a : Nat} (h : a < k) : rC0 k R a = R a := ((uR_off _ _ _ (show (a : Nat) ≠ k by omega)).trans ((uR_off _ _ _ (show (a : Nat) ≠ k by omega)).trans ((fC1 (show (a : Nat) < k + 67 by omega)).trans ((uR_off _ _ _ (show (a : Nat) ≠ k + 2 by omega)).trans ((fC6 (show (a : Nat) < k + 51 by omega)).trans ((uR_off _ _ _ (show (a : Nat) ≠ k + 2 by omega)).trans ((fC6 (show (a : Nat) < k + 35 by omega)).trans ((uR_off _ _ _ (show (a : Nat) ≠ k + 2 by omega)).trans ((fC6 (show (a : Nat) < k + 19 by omega)).trans ((uR_off _ _ _ (show (a : Nat) ≠ k + 2 by omega)).trans ((fC6 (show (a : Nat) < k + 3 by omega)).trans ((uR_off _ _ _ (show (a : Nat) ≠ k by omega)).trans (uR_off _ _ _ (show (a : Nat) ≠ k by omega))))))))))))))
theorem vC0 (g : GlT) {k : Nat} (hk : okB k) (I : Nat → Nat → Int32) (L : Nat → Nat → Int64) (R : Nat → Nat → Option Nat) (hz : zM (k + 1) I L R) (Q : Option Value → MemT → Prop) (hq : Q none (iC6 (k + 51) (k + 1) (iC6 (k + 35) (k + 1) (iC6 (k + 19) (k + 1) (iC6 (k + 3) (k + 1) (iC4 (k + 1) I)))), L, uR (uR (rC1 (k + 67) (uR (rC6 (k + 51) (k + 1) (uR (rC6 (k + 35) (k + 1) (uR (rC6 (k + 19) (k + 1) (uR (rC6 (k + 3) (k + 1) (uR (uR R k 0 (some (k + 1))) k 1 (some (k + 2)))) (k + 2) 0 (some (k + 3)))) (k + 2) 1 (some (k + 19)))) (k + 2) 2 (some (k + 35)))) (k + 2) 3 (some (k + 51)))) k 2 (some (k + 67))) k 3 (some (k + 70)), k + 71)) : V g (k0_init, 3, 70, 658) 0 0 0 [(0, .ref (xA g k))] [] (I, L, R, k + 1) Q := by
  have z0 := hz
  refine V_aload_n (pc1 := 1) 0 d0_init_0 rfl rfl ?_
  refine V_obj (pc1 := 4) l0_3 jobjI jobjC (Nat.le_of_ble_eq_true rfl) (Nat.le_of_ble_eq_true rfl) d0_init_1 rfl ?_
  refine V_aload_n (pc1 := 5) 0 d0_init_4 rfl rfl ?_
  refine V_newW (pc1 := 8) (n1 := k + 2) (kc1 := 1) (ks1 := 3) z0 (ci := 4) rfl (bs_l1 hk) (bs_b1 hk) c0_9 n4_ n4_i (Nat.le_of_ble_eq_true rfl) (Nat.le_of_ble_eq_true rfl) d0_init_5 rfl rfl rfl rfl ?_
  have z1 := z0.up (m := k + 2) (by omega)
  refine V_dup (pc1 := 9) d0_init_8 rfl rfl ?_
  refine V_ciN (pc1 := 12) (kc1 := 1) (ks1 := 3) (wC4 g (bs_L1 hk) (z1) ) s4_init l0_11 rfl ⟨Nat.le_of_ble_eq_true rfl, Nat.le_of_ble_eq_true rfl, Nat.le_of_ble_eq_true rfl, Nat.le_of_ble_eq_true rfl⟩ (Nat.le_of_ble_eq_true rfl) rfl d0_init_9 rfl rfl rfl ?_
  have z2 := zC4 (bs_L1 hk) z1
  refine V_putr (pc1 := 15) (bs_l0 hk) (by omega) f0_12 ⟨rfl, rfl, rfl⟩ (fun _ _ => Or.inl ⟨_, rfl⟩) d0_init_12 rfl ?_
  have z3 := z2.r (k := k) (j := 0) (x := some (k + 1)) (by omega)
  refine V_aload_n (pc1 := 16) 0 d0_init_15 rfl rfl ?_
  refine V_iconst (pc1 := 17) d0_init_16 vc_4 rfl ?_
  refine V_newqW (pc1 := 20) (n1 := k + 3) (kc1 := 2) (ks1 := 7) z3 (bs_l2 hk) (Or.inr ⟨rfl, rfl⟩) (bs_b2 hk) rfl c0_18 (Nat.le_of_ble_eq_true rfl) (Nat.le_of_ble_eq_true rfl) d0_init_17 rfl (by decide) rfl rfl rfl ?_
  have z4 := z3.up (m := k + 3) (by omega)
  refine V_putr (pc1 := 23) (bs_l0 hk) (by omega) f0_20 ⟨rfl, rfl, rfl⟩ (fun _ _ => Or.inr ⟨_, rfl⟩) d0_init_20 rfl ?_
  have z5 := z4.r (k := k) (j := 1) (x := some (k + 2)) (by omega)
  refine V_iconst (pc1 := 24) d0_init_23 vc_0 rfl ?_
  refine V_istore_n (pc1 := 25) d0_init_24 (Nat.le_of_ble_eq_true rfl) rfl rfl ?_
  refine V_iload_n (pc1 := 26) 0 d0_init_25 rfl rfl ?_
  refine V_iconst (pc1 := 27) d0_init_26 vc_4 rfl ?_
  refine V_icmp_ge (tgt := 53) (pc1 := 30) d0_init_27 (by decide) rfl (fun h => absurd h (show ¬ (4 : Int32) ≤ 0 by decide)) (fun _ => ?_)
  refine V_aload_n (pc1 := 31) 1 d0_init_30 rfl rfl ?_
  refine V_getr (pc1 := 34) (bs_l0 hk) (by omega) f0_20 (fun _ => rfl) (uR_self _ _ _ _) d0_init_31 rfl ?_
  refine V_iload_n (pc1 := 35) 0 d0_init_34 rfl rfl ?_
  refine V_newW (pc1 := 38) (n1 := k + 4) (kc1 := 3) (ks1 := 26) z5 (ci := 6) rfl (bs_l3 hk) (bs_b3 hk) c0_18 n6_ n6_i (Nat.le_of_ble_eq_true rfl) (Nat.le_of_ble_eq_true rfl) d0_init_35 rfl rfl rfl rfl ?_
  have z6 := z5.up (m := k + 4) (by omega)
  refine V_dup (pc1 := 39) d0_init_38 rfl rfl ?_
  refine V_aload_n (pc1 := 40) 1 d0_init_39 rfl rfl ?_
  refine V_getr (pc1 := 43) (bs_l0 hk) (by omega) f0_12 (fun _ => rfl) ((uR_ne _ _ _ (show (0 : Nat) ≠ 1 by decide)).trans (uR_self _ _ _ _)) d0_init_40 rfl ?_
  refine V_ci (pc1 := 46) (kc1 := 18) (ks1 := 101) (wC6 g (bs_N3 hk) (z6) ) s6_init l0_24 rfl ⟨Nat.le_of_ble_eq_true rfl, Nat.le_of_ble_eq_true rfl, Nat.le_of_ble_eq_true rfl, Nat.le_of_ble_eq_true rfl⟩ (Nat.le_of_ble_eq_true rfl) rfl d0_init_43 rfl rfl rfl ?_
  have z7 := zC6 (bs_N3 hk) z6
  refine V_aast (pc1 := 47) 0 (bs_l2 hk) (Or.inr ⟨rfl, rfl⟩) (by omega) (bs_l3 hk) (by omega) rfl (by decide) (by decide) d0_init_46 rfl ?_
  have z8 := z7.r (k := k + 2) (j := 0) (x := some (k + 3)) (by omega)
  refine V_iinc (pc1 := 50) 0 (v := 1) d0_init_47 rfl (by decide) (Nat.le_of_ble_eq_true rfl) rfl rfl ?_
  refine V_goto (tgt := 25) d0_init_50 (by decide) ?_
  refine V_iload_n (pc1 := 26) 0 d0_init_25 rfl rfl ?_
  refine V_iconst (pc1 := 27) d0_init_26 vc_4 rfl ?_
  refine V_icmp_ge (tgt := 53) (pc1 := 30) d0_init_27 (by decide) rfl (fun h => absurd h (show ¬ (4 : Int32) ≤ 1 by decide)) (fun _ => ?_)
  refine V_aload_n (pc1 := 31) 1 d0_init_30 rfl rfl ?_
  refine V_getr (pc1 := 34) (bs_l0 hk) (by omega) f0_20 (fun _ => rfl) ((congrFun (uR_off _ _ _ (show (k : Nat) ≠ k + 2 by omega)) _).trans ((congrFun (fC6 (show (k : Nat) < k + 3 by omega)) _).trans (uR_self _ _ _ _))) d0_init_31 rfl ?_
  refine V_iload_n (pc1 := 35) 0 d0_init_34 rfl rfl ?_
  refine V_newW (pc1 := 38) (n1 := k + 20) (kc1 := 19) (ks1 := 120) z8 (ci := 6) rfl (bs_l19 hk) (bs_b19 hk) c0_18 n6_ n6_i (Nat.le_of_ble_eq_true rfl) (Nat.le_of_ble_eq_true rfl) d0_init_35 rfl rfl rfl rfl ?_
  have z9 := z8.up (m := k + 20) (by omega)
  refine V_dup (pc1 := 39) d0_init_38 rfl rfl ?_
  refine V_aload_n (pc1 := 40) 1 d0_init_39 rfl rfl ?_
  refine V_getr (pc1 := 43) (bs_l0 hk) (by omega) f0_12 (fun _ => rfl) ((congrFun (uR_off _ _ _ (show (k : Nat) ≠ k + 2 by omega)) _).trans ((congrFun (fC6 (show (k : Nat) < k + 3 by omega)) _).trans ((uR_ne _ _ _ (show (0 : Nat) ≠ 1 by decide)).trans (uR_self _ _ _ _)))) d0_init_40 rfl ?_
  refine V_ci (pc1 := 46) (kc1 := 34) (ks1 := 195) (wC6 g (bs_N19 hk) (z9) ) s6_init l0_24 rfl ⟨Nat.le_of_ble_eq_true rfl, Nat.le_of_ble_eq_true rfl, Nat.le_of_ble_eq_true rfl, Nat.le_of_ble_eq_true rfl⟩ (Nat.le_of_ble_eq_true rfl) rfl d0_init_43 rfl rfl rfl ?_
  have z10 := zC6 (bs_N19 hk) z9
  refine V_aast (pc1 := 47) 1 (bs_l2 hk) (Or.inr ⟨rfl, rfl⟩) (by omega) (bs_l19 hk) (by omega) rfl (by decide) (by decide) d0_init_46 rfl ?_
  have z11 := z10.r (k := k + 2) (j := 1) (x := some (k + 19)) (by omega)
  refine V_iinc (pc1 := 50) 0 (v := 2) d0_init_47 rfl (by decide) (Nat.le_of_ble_eq_true rfl) rfl rfl ?_
  refine V_goto (tgt := 25) d0_init_50 (by decide) ?_
  refine V_iload_n (pc1 := 26) 0 d0_init_25 rfl rfl ?_
  refine V_iconst (pc1 := 27) d0_init_26 vc_4 rfl ?_
  refine V_icmp_ge (tgt := 53) (pc1 := 30) d0_init_27 (by decide) rfl (fun h => absurd h (show ¬ (4 : Int32) ≤ 2 by decide)) (fun _ => ?_)
  refine V_aload_n (pc1 := 31) 1 d0_init_30 rfl rfl ?_
  refine V_getr (pc1 := 34) (bs_l0 hk) (by omega) f0_20 (fun _ => rfl) ((congrFun (uR_off _ _ _ (show (k : Nat) ≠ k + 2 by omega)) _).trans ((congrFun (fC6 (show (k : Nat) < k + 19 by omega)) _).trans ((congrFun (uR_off _ _ _ (show (k : Nat) ≠ k + 2 by omega)) _).trans ((congrFun (fC6 (show (k : Nat) < k + 3 by omega)) _).trans (uR_self _ _ _ _))))) d0_init_31 rfl ?_
  refine V_iload_n (pc1 := 35) 0 d0_init_34 rfl rfl ?_
  refine V_newW (pc1 := 38) (n1 := k + 36) (kc1 := 35) (ks1 := 214) z11 (ci := 6) rfl (bs_l35 hk) (bs_b35 hk) c0_18 n6_ n6_i (Nat.le_of_ble_eq_true rfl) (Nat.le_of_ble_eq_true rfl) d0_init_35 rfl rfl rfl rfl ?_
  have z12 := z11.up (m := k + 36) (by omega)
  refine V_dup (pc1 := 39) d0_init_38 rfl rfl ?_
  refine V_aload_n (pc1 := 40) 1 d0_init_39 rfl rfl ?_
  refine V_getr (pc1 := 43) (bs_l0 hk) (by omega) f0_12 (fun _ => rfl) ((congrFun (uR_off _ _ _ (show (k : Nat) ≠ k + 2 by omega)) _).trans ((congrFun (fC6 (show (k : Nat) < k + 19 by omega)) _).trans ((congrFun (uR_off _ _ _ (show (k : Nat) ≠ k + 2 by omega)) _).trans ((congrFun (fC6 (show (k : Nat) < k + 3 by omega)) _).trans ((uR_ne _ _ _ (show (0 : Nat) ≠ 1 by decide)).trans (uR_self _ _ _ _)))))) d0_init_40 rfl ?_
  refine V_ci (pc1 := 46) (kc1 := 50) (ks1 := 289) (wC6 g (bs_N35 hk) (z12) ) s6_init l0_24 rfl ⟨Nat.le_of_ble_eq_true rfl, Nat.le_of_ble_eq_true rfl, Nat.le_of_ble_eq_true rfl, Nat.le_of_ble_eq_true rfl⟩ (Nat.le_of_ble_eq_true rfl) rfl d0_init_43 rfl rfl rfl ?_
  have z13 := zC6 (bs_N35 hk) z12
  refine V_aast (pc1 := 47) 2 (bs_l2 hk) (Or.inr ⟨rfl, rfl⟩) (by omega) (bs_l35 hk) (by omega) rfl (by decide) (by decide) d0_init_46 rfl ?_
  have z14 := z13.r (k := k + 2) (j := 2) (x := some (k + 35)) (by omega)
  refine V_iinc (pc1 := 50) 0 (v := 3) d0_init_47 rfl (by decide) (Nat.le_of_ble_eq_true rfl) rfl rfl ?_
  refine V_goto (tgt := 25) d0_init_50 (by decide) ?_
  refine V_iload_n (pc1 := 26) 0 d0_init_25 rfl rfl ?_
  refine V_iconst (pc1 := 27) d0_init_26 vc_4 rfl ?_
  refine V_icmp_ge (tgt := 53) (pc1 := 30) d0_init_27 (by decide) rfl (fun h => absurd h (show ¬ (4 : Int32) ≤ 3 by decide)) (fun _ => ?_)
  refine V_aload_n (pc1 := 31) 1 d0_init_30 rfl rfl ?_
  refine V_getr (pc1 := 34) (bs_l0 hk) (by omega) f0_20 (fun _ => rfl) ((congrFun (uR_off _ _ _ (show (k : Nat) ≠ k + 2 by omega)) _).trans ((congrFun (fC6 (show (k : Nat) < k + 35 by omega)) _).trans ((congrFun (uR_off _ _ _ (show (k : Nat) ≠ k + 2 by omega)) _).trans ((congrFun (fC6 (show (k : Nat) < k + 19 by omega)) _).trans ((congrFun (uR_off _ _ _ (show (k : Nat) ≠ k + 2 by omega)) _).trans ((congrFun (fC6 (show (k : Nat) < k + 3 by omega)) _).trans (uR_self _ _ _ _))))))) d0_init_31 rfl ?_
  refine V_iload_n (pc1 := 35) 0 d0_init_34 rfl rfl ?_
  refine V_newW (pc1 := 38) (n1 := k + 52) (kc1 := 51) (ks1 := 308) z14 (ci := 6) rfl (bs_l51 hk) (bs_b51 hk) c0_18 n6_ n6_i (Nat.le_of_ble_eq_true rfl) (Nat.le_of_ble_eq_true rfl) d0_init_35 rfl rfl rfl rfl ?_
  have z15 := z14.up (m := k + 52) (by omega)
  refine V_dup (pc1 := 39) d0_init_38 rfl rfl ?_
  refine V_aload_n (pc1 := 40) 1 d0_init_39 rfl rfl ?_
  refine V_getr (pc1 := 43) (bs_l0 hk) (by omega) f0_12 (fun _ => rfl) ((congrFun (uR_off _ _ _ (show (k : Nat) ≠ k + 2 by omega)) _).trans ((congrFun (fC6 (show (k : Nat) < k + 35 by omega)) _).trans ((congrFun (uR_off _ _ _ (show (k : Nat) ≠ k + 2 by omega)) _).trans ((congrFun (fC6 (show (k : Nat) < k + 19 by omega)) _).trans ((congrFun (uR_off _ _ _ (show (k : Nat) ≠ k + 2 by omega)) _).trans ((congrFun (fC6 (show (k : Nat) < k + 3 by omega)) _).trans ((uR_ne _ _ _ (show (0 : Nat) ≠ 1 by decide)).trans (uR_self _ _ _ _)))))))) d0_init_40 rfl ?_
  refine V_ci (pc1 := 46) (kc1 := 66) (ks1 := 383) (wC6 g (bs_N51 hk) (z15) ) s6_init l0_24 rfl ⟨Nat.le_of_ble_eq_true rfl, Nat.le_of_ble_eq_true rfl, Nat.le_of_ble_eq_true rfl, Nat.le_of_ble_eq_true rfl⟩ (Nat.le_of_ble_eq_true rfl) rfl d0_init_43 rfl rfl rfl ?_
  have z16 := zC6 (bs_N51 hk) z15
  refine V_aast (pc1 := 47) 3 (bs_l2 hk) (Or.inr ⟨rfl, rfl⟩) (by omega) (bs_l51 hk) (by omega) rfl (by decide) (by decide) d0_init_46 rfl ?_
  have z17 := z16.r (k := k + 2) (j := 3) (x := some (k + 51)) (by omega)
  refine V_iinc (pc1 := 50) 0 (v := 4) d0_init_47 rfl (by decide) (Nat.le_of_ble_eq_true rfl) rfl rfl ?_
  refine V_goto (tgt := 25) d0_init_50 (by decide) ?_
  refine V_iload_n (pc1 := 26) 0 d0_init_25 rfl rfl ?_
  refine V_iconst (pc1 := 27) d0_init_26 vc_4 rfl ?_
  refine V_icmp_ge (tgt := 53) (pc1 := 30) d0_init_27 (by decide) rfl (fun _ => ?_) (fun h => absurd (show (4 : Int32) ≤ 4 by decide) h)
  refine V_aload_n (pc1 := 54) 1 d0_init_53 rfl rfl ?_
  refine V_newW (pc1 := 57) (n1 := k + 68) (kc1 := 67) (ks1 := 386) z17 (ci := 1) rfl (bs_l67 hk) (bs_b67 hk) c0_27 n1_ n1_i (Nat.le_of_ble_eq_true rfl) (Nat.le_of_ble_eq_true rfl) d0_init_54 rfl rfl rfl rfl ?_
  have z18 := z17.up (m := k + 68) (by omega)
  refine V_dup (pc1 := 58) d0_init_57 rfl rfl ?_
  refine V_ciN (pc1 := 61) (kc1 := 69) (ks1 := 402) (wC1 g (bs_D67 hk) (z18) ) s1_init l0_29 rfl ⟨Nat.le_of_ble_eq_true rfl, Nat.le_of_ble_eq_true rfl, Nat.le_of_ble_eq_true rfl, Nat.le_of_ble_eq_true rfl⟩ (Nat.le_of_ble_eq_true rfl) rfl d0_init_58 rfl rfl rfl ?_
  have z19 := zC1 (bs_D67 hk) z18
  refine V_putr (pc1 := 64) (bs_l0 hk) (by omega) f0_30 ⟨rfl, rfl, rfl⟩ (fun _ _ => Or.inl ⟨_, rfl⟩) d0_init_61 rfl ?_
  have z20 := z19.r (k := k) (j := 2) (x := some (k + 67)) (by omega)
  refine V_aload_n (pc1 := 65) 1 d0_init_64 rfl rfl ?_
  refine V_sipush (pc1 := 68) d0_init_65 vs_256 rfl ?_
  refine V_newiW (pc1 := 70) (n1 := k + 71) (kc1 := 70) (ks1 := 658) z20 (bs_l70 hk) (bs_b70 hk) rfl (Nat.le_of_ble_eq_true rfl) (Nat.le_of_ble_eq_true rfl) d0_init_68 rfl (by decide) rfl rfl rfl ?_
  have z21 := z20.up (m := k + 71) (by omega)
  refine V_putr (pc1 := 73) (bs_l0 hk) (by omega) f0_34 ⟨rfl, rfl, rfl⟩ (fun _ _ => Or.inr ⟨_, rfl⟩) d0_init_70 rfl ?_
  have z22 := z21.r (k := k) (j := 3) (x := some (k + 70)) (by omega)
  exact V_vret rfl d0_init_73 (Nat.le_refl _) (Nat.le_refl _) hq
theorem wC0 (g : GlT) {k : Nat} (hk : okB k) {I : Nat → Nat → Int32} {L : Nat → Nat → Int64} {R : Nat → Nat → Option Nat} (hz : zM (k + 1) I L R) : Call g (k0_init, 3, 70, 658) [.ref (xA g k)] (I, L, R, k + 1) (Qm (iC0 k I) L (rC0 k R) (k + 71)) := Call.of (show plainName k0_init.1.cls = true by decide) (Nat.le_of_ble_eq_true rfl) rfl (vC0 g hk I L R hz _ (And.intro rfl rfl))
theorem zC0 {k : Nat} (hk : okB k) {I : Nat → Nat → Int32} {L : Nat → Nat → Int64} {R : Nat → Nat → Option Nat} (hz : zM (k + 1) I L R) : zM (k + 71) (iC0 k I) L (rC0 k R) := by
  have z0 := hz
  have z1 := z0.up (m := k + 2) (by omega)
  have z2 := zC4 (bs_L1 hk) z1
  have z3 := z2.r (k := k) (j := 0) (x := some (k + 1)) (by omega)
  have z4 := z3.up (m := k + 3) (by omega)
  have z5 := z4.r (k := k) (j := 1) (x := some (k + 2)) (by omega)
  have z6 := z5.up (m := k + 4) (by omega)
  have z7 := zC6 (bs_N3 hk) z6
  have z8 := z7.r (k := k + 2) (j := 0) (x := some (k + 3)) (by omega)
  have z9 := z8.up (m := k + 20) (by omega)
  have z10 := zC6 (bs_N19 hk) z9
  have z11 := z10.r (k := k + 2) (j := 1) (x := some (k + 19)) (by omega)
  have z12 := z11.up (m := k + 36) (by omega)
  have z13 := zC6 (bs_N35 hk) z12
  have z14 := z13.r (k := k + 2) (j := 2) (x := some (k + 35)) (by omega)
  have z15 := z14.up (m := k + 52) (by omega)
  have z16 := zC6 (bs_N51 hk) z15
  have z17 := z16.r (k := k + 2) (j := 3) (x := some (k + 51)) (by omega)
  have z18 := z17.up (m := k + 68) (by omega)
  have z19 := zC1 (bs_D67 hk) z18
  have z20 := z19.r (k := k) (j := 2) (x := some (k + 67)) (by omega)
  have z21 := z20.up (m := k + 71) (by omega)
  have z22 := z21.r (k := k) (j := 3) (x := some (k + 70)) (by omega)
  exact z22
def iC10  (I : Nat → Nat → Int32) : Nat → Nat → Int32 := iC0 215 (iC0 144 (iC0 72 (iC0 1 I)))
def rC10  (R : Nat → Nat → Option Nat) : Nat → Nat → Option Nat := uR (rC9  (uR (rC5  (uR (uR (uR (rC0 215 (uR (rC0 144 (uR (uR (rC0 72 (uR (rC0 1 R) 0 0 (some 1))) 0 1 (some 72)) 0 2 (some 143))) 143 0 (some 144))) 143 1 (some 215)) 0 3 (some 286)) 0 4 (some 287))) 0 5 (some 288))) 0 6 (some 293)
theorem vC10 (g : GlT)  (I : Nat → Nat → Int32) (L : Nat → Nat → Int64) (R : Nat → Nat → Option Nat) (hz : zM (1) I L R) (Q : Option Value → MemT → Prop) (hq : Q none (iC0 215 (iC0 144 (iC0 72 (iC0 1 I))), L, uR (rC9  (uR (rC5  (uR (uR (uR (rC0 215 (uR (rC0 144 (uR (uR (rC0 72 (uR (rC0 1 R) 0 0 (some 1))) 0 1 (some 72)) 0 2 (some 143))) 143 0 (some 144))) 143 1 (some 215)) 0 3 (some 286)) 0 4 (some 287))) 0 5 (some 288))) 0 6 (some 293), 296)) : V g (k10_init, 4, 295, 2831) 0 0 0 [(0, .ref (xA g 0))] [] (I, L, R, 1) Q := by
  have z0 := hz
  refine V_aload_n (pc1 := 1) 0 d10_init_0 rfl rfl ?_
  refine V_obj (pc1 := 4) l10_1 jobjI jobjC (Nat.le_of_ble_eq_true rfl) (Nat.le_of_ble_eq_true rfl) d10_init_1 rfl ?_
  refine V_aload_n (pc1 := 5) 0 d10_init_4 rfl rfl ?_
  refine V_newW (pc1 := 8) (n1 := 2) (kc1 := 1) (ks1 := 5) z0 (ci := 0) rfl ly1 (by decide) c10_7 n0_ n0_i (Nat.le_of_ble_eq_true rfl) (Nat.le_of_ble_eq_true rfl) d10_init_5 rfl rfl rfl rfl ?_
  have z1 := z0.up (m := 2) (by omega)
  refine V_dup (pc1 := 9) d10_init_8 rfl rfl ?_
  refine V_ci (pc1 := 12) (kc1 := 71) (ks1 := 663) (wC0 g okB1 (z1) ) s0_init l10_9 rfl ⟨Nat.le_of_ble_eq_true rfl, Nat.le_of_ble_eq_true rfl, Nat.le_of_ble_eq_true rfl, Nat.le_of_ble_eq_true rfl⟩ (Nat.le_of_ble_eq_true rfl) rfl d10_init_9 rfl rfl rfl ?_
  have z2 := zC0 okB1 z1
  refine V_putr (pc1 := 15) ly0 (by omega) f10_10 ⟨rfl, rfl, rfl⟩ (fun _ _ => Or.inl ⟨_, rfl⟩) d10_init_12 rfl ?_
  have z3 := z2.r (k := 0) (j := 0) (x := some 1) (by omega)
  refine V_aload_n (pc1 := 16) 0 d10_init_15 rfl rfl ?_
  refine V_newW (pc1 := 19) (n1 := 73) (kc1 := 72) (ks1 := 668) z3 (ci := 0) rfl ly72 (by decide) c10_7 n0_ n0_i (Nat.le_of_ble_eq_true rfl) (Nat.le_of_ble_eq_true rfl) d10_init_16 rfl rfl rfl rfl ?_
  have z4 := z3.up (m := 73) (by omega)
  refine V_dup (pc1 := 20) d10_init_19 rfl rfl ?_
  refine V_ci (pc1 := 23) (kc1 := 142) (ks1 := 1326) (wC0 g okB72 (z4) ) s0_init l10_9 rfl ⟨Nat.le_of_ble_eq_true rfl, Nat.le_of_ble_eq_true rfl, Nat.le_of_ble_eq_true rfl, Nat.le_of_ble_eq_true rfl⟩ (Nat.le_of_ble_eq_true rfl) rfl d10_init_20 rfl rfl rfl ?_
  have z5 := zC0 okB72 z4
  refine V_putr (pc1 := 26) ly0 (by omega) f10_16 ⟨rfl, rfl, rfl⟩ (fun _ _ => Or.inl ⟨_, rfl⟩) d10_init_23 rfl ?_
  have z6 := z5.r (k := 0) (j := 1) (x := some 72) (by omega)
  refine V_aload_n (pc1 := 27) 0 d10_init_26 rfl rfl ?_
  refine V_iconst (pc1 := 28) d10_init_27 vc_2 rfl ?_
  refine V_newqW (pc1 := 31) (n1 := 144) (kc1 := 143) (ks1 := 1328) z6 ly143 (Or.inl ⟨rfl, rfl⟩) (by decide) rfl c10_7 (Nat.le_of_ble_eq_true rfl) (Nat.le_of_ble_eq_true rfl) d10_init_28 rfl (by decide) rfl rfl rfl ?_
  have z7 := z6.up (m := 144) (by omega)
  refine V_putr (pc1 := 34) ly0 (by omega) f10_19 ⟨rfl, rfl, rfl⟩ (fun _ _ => Or.inr ⟨_, rfl⟩) d10_init_31 rfl ?_
  have z8 := z7.r (k := 0) (j := 2) (x := some 143) (by omega)
  refine V_iconst (pc1 := 35) d10_init_34 vc_0 rfl ?_
  refine V_istore_n (pc1 := 36) d10_init_35 (Nat.le_of_ble_eq_true rfl) rfl rfl ?_
  refine V_iload_n (pc1 := 37) 0 d10_init_36 rfl rfl ?_
  refine V_iconst (pc1 := 38) d10_init_37 vc_2 rfl ?_
  refine V_icmp_ge (tgt := 60) (pc1 := 41) d10_init_38 (by decide) rfl (fun h => absurd h (show ¬ (2 : Int32) ≤ 0 by decide)) (fun _ => ?_)
  refine V_aload_n (pc1 := 42) 1 d10_init_41 rfl rfl ?_
  refine V_getr (pc1 := 45) ly0 (by omega) f10_19 (fun _ => rfl) (uR_self _ _ _ _) d10_init_42 rfl ?_
  refine V_iload_n (pc1 := 46) 0 d10_init_45 rfl rfl ?_
  refine V_newW (pc1 := 49) (n1 := 145) (kc1 := 144) (ks1 := 1333) z8 (ci := 0) rfl ly144 (by decide) c10_7 n0_ n0_i (Nat.le_of_ble_eq_true rfl) (Nat.le_of_ble_eq_true rfl) d10_init_46 rfl rfl rfl rfl ?_
  have z9 := z8.up (m := 145) (by omega)
  refine V_dup (pc1 := 50) d10_init_49 rfl rfl ?_
  refine V_ci (pc1 := 53) (kc1 := 214) (ks1 := 1991) (wC0 g okB144 (z9) ) s0_init l10_9 rfl ⟨Nat.le_of_ble_eq_true rfl, Nat.le_of_ble_eq_true rfl, Nat.le_of_ble_eq_true rfl, Nat.le_of_ble_eq_true rfl⟩ (Nat.le_of_ble_eq_true rfl) rfl d10_init_50 rfl rfl rfl ?_
  have z10 := zC0 okB144 z9
  refine V_aast (pc1 := 54) 0 ly143 (Or.inl ⟨rfl, rfl⟩) (by omega) ly144 (by omega) rfl (by decide) (by decide) d10_init_53 rfl ?_
  have z11 := z10.r (k := 143) (j := 0) (x := some 144) (by omega)
  refine V_iinc (pc1 := 57) 0 (v := 1) d10_init_54 rfl (by decide) (Nat.le_of_ble_eq_true rfl) rfl rfl ?_
  refine V_goto (tgt := 36) d10_init_57 (by decide) ?_
  refine V_iload_n (pc1 := 37) 0 d10_init_36 rfl rfl ?_
  refine V_iconst (pc1 := 38) d10_init_37 vc_2 rfl ?_
  refine V_icmp_ge (tgt := 60) (pc1 := 41) d10_init_38 (by decide) rfl (fun h => absurd h (show ¬ (2 : Int32) ≤ 1 by decide)) (fun _ => ?_)
  refine V_aload_n (pc1 := 42) 1 d10_init_41 rfl rfl ?_
  refine V_getr (pc1 := 45) ly0 (by omega) f10_19 (fun _ => rfl) ((congrFun (uR_off _ _ _ (show (0 : Nat) ≠ 143 by omega)) _).trans ((congrFun (fC0 (show (0 : Nat) < 144 by omega)) _).trans (uR_self _ _ _ _))) d10_init_42 rfl ?_
  refine V_iload_n (pc1 := 46) 0 d10_init_45 rfl rfl ?_
  refine V_newW (pc1 := 49) (n1 := 216) (kc1 := 215) (ks1 := 1996) z11 (ci := 0) rfl ly215 (by decide) c10_7 n0_ n0_i (Nat.le_of_ble_eq_true rfl) (Nat.le_of_ble_eq_true rfl) d10_init_46 rfl rfl rfl rfl ?_
  have z12 := z11.up (m := 216) (by omega)
  refine V_dup (pc1 := 50) d10_init_49 rfl rfl ?_
  refine V_ci (pc1 := 53) (kc1 := 285) (ks1 := 2654) (wC0 g okB215 (z12) ) s0_init l10_9 rfl ⟨Nat.le_of_ble_eq_true rfl, Nat.le_of_ble_eq_true rfl, Nat.le_of_ble_eq_true rfl, Nat.le_of_ble_eq_true rfl⟩ (Nat.le_of_ble_eq_true rfl) rfl d10_init_50 rfl rfl rfl ?_
  have z13 := zC0 okB215 z12
  refine V_aast (pc1 := 54) 1 ly143 (Or.inl ⟨rfl, rfl⟩) (by omega) ly215 (by omega) rfl (by decide) (by decide) d10_init_53 rfl ?_
  have z14 := z13.r (k := 143) (j := 1) (x := some 215) (by omega)
  refine V_iinc (pc1 := 57) 0 (v := 2) d10_init_54 rfl (by decide) (Nat.le_of_ble_eq_true rfl) rfl rfl ?_
  refine V_goto (tgt := 36) d10_init_57 (by decide) ?_
  refine V_iload_n (pc1 := 37) 0 d10_init_36 rfl rfl ?_
  refine V_iconst (pc1 := 38) d10_init_37 vc_2 rfl ?_
  refine V_icmp_ge (tgt := 60) (pc1 := 41) d10_init_38 (by decide) rfl (fun _ => ?_) (fun h => absurd (show (2 : Int32) ≤ 2 by decide) h)
  refine V_aload_n (pc1 := 61) 1 d10_init_60 rfl rfl ?_
  refine V_iconst (pc1 := 62) d10_init_61 vc_2 rfl ?_
  refine V_newzW (pc1 := 64) (n1 := 287) (kc1 := 286) (ks1 := 2656) z14 ly286 (by decide) rfl (Nat.le_of_ble_eq_true rfl) (Nat.le_of_ble_eq_true rfl) d10_init_62 rfl (by decide) rfl rfl rfl ?_
  have z15 := z14.up (m := 287) (by omega)
  refine V_putr (pc1 := 67) ly0 (by omega) f10_23 ⟨rfl, rfl, rfl⟩ (fun _ _ => Or.inr ⟨_, rfl⟩) d10_init_64 rfl ?_
  have z16 := z15.r (k := 0) (j := 3) (x := some 286) (by omega)
  refine V_aload_n (pc1 := 68) 1 d10_init_67 rfl rfl ?_
  refine V_newW (pc1 := 71) (n1 := 288) (kc1 := 287) (ks1 := 2665) z16 (ci := 2) rfl ly287 (by decide) c10_27 n2_ n2_i (Nat.le_of_ble_eq_true rfl) (Nat.le_of_ble_eq_true rfl) d10_init_68 rfl rfl rfl rfl ?_
  have z17 := z16.up (m := 288) (by omega)
  refine V_dup (pc1 := 72) d10_init_71 rfl rfl ?_
  refine V_ciN (pc1 := 75) (kc1 := 287) (ks1 := 2665) (wC2 g okG287 (z17) ) s2_init l10_29 rfl ⟨Nat.le_of_ble_eq_true rfl, Nat.le_of_ble_eq_true rfl, Nat.le_of_ble_eq_true rfl, Nat.le_of_ble_eq_true rfl⟩ (Nat.le_of_ble_eq_true rfl) rfl d10_init_72 rfl rfl rfl ?_
  have z18 := zC2 okG287 z17
  refine V_putr (pc1 := 78) ly0 (by omega) f10_30 ⟨rfl, rfl, rfl⟩ (fun _ _ => Or.inl ⟨_, rfl⟩) d10_init_75 rfl ?_
  have z19 := z18.r (k := 0) (j := 4) (x := some 287) (by omega)
  refine V_aload_n (pc1 := 79) 1 d10_init_78 rfl rfl ?_
  refine V_newW (pc1 := 82) (n1 := 289) (kc1 := 288) (ks1 := 2670) z19 (ci := 5) rfl ly288 (by decide) c10_34 n5_ n5_i (Nat.le_of_ble_eq_true rfl) (Nat.le_of_ble_eq_true rfl) d10_init_79 rfl rfl rfl rfl ?_
  have z20 := z19.up (m := 289) (by omega)
  refine V_dup (pc1 := 83) d10_init_82 rfl rfl ?_
  refine V_ciN (pc1 := 86) (kc1 := 292) (ks1 := 2702) (wC5 g  (z20) ) s5_init l10_36 rfl ⟨Nat.le_of_ble_eq_true rfl, Nat.le_of_ble_eq_true rfl, Nat.le_of_ble_eq_true rfl, Nat.le_of_ble_eq_true rfl⟩ (Nat.le_of_ble_eq_true rfl) rfl d10_init_83 rfl rfl rfl ?_
  have z21 := zC5  z20
  refine V_putr (pc1 := 89) ly0 (by omega) f10_37 ⟨rfl, rfl, rfl⟩ (fun _ _ => Or.inl ⟨_, rfl⟩) d10_init_86 rfl ?_
  have z22 := z21.r (k := 0) (j := 5) (x := some 288) (by omega)
  refine V_aload_n (pc1 := 90) 1 d10_init_89 rfl rfl ?_
  refine V_newW (pc1 := 93) (n1 := 294) (kc1 := 293) (ks1 := 2705) z22 (ci := 9) rfl ly293 (by decide) c10_41 n9_ n9_i (Nat.le_of_ble_eq_true rfl) (Nat.le_of_ble_eq_true rfl) d10_init_90 rfl rfl rfl rfl ?_
  have z23 := z22.up (m := 294) (by omega)
  refine V_dup (pc1 := 94) d10_init_93 rfl rfl ?_
  refine V_ciN (pc1 := 97) (kc1 := 295) (ks1 := 2831) (wC9 g  (z23) ) s9_init l10_43 rfl ⟨Nat.le_of_ble_eq_true rfl, Nat.le_of_ble_eq_true rfl, Nat.le_of_ble_eq_true rfl, Nat.le_of_ble_eq_true rfl⟩ (Nat.le_of_ble_eq_true rfl) rfl d10_init_94 rfl rfl rfl ?_
  have z24 := zC9  z23
  refine V_putr (pc1 := 100) ly0 (by omega) f10_44 ⟨rfl, rfl, rfl⟩ (fun _ _ => Or.inl ⟨_, rfl⟩) d10_init_97 rfl ?_
  have z25 := z24.r (k := 0) (j := 6) (x := some 293) (by omega)
  exact V_vret rfl d10_init_100 (Nat.le_refl _) (Nat.le_refl _) hq
theorem wC10 (g : GlT)  {I : Nat → Nat → Int32} {L : Nat → Nat → Int64} {R : Nat → Nat → Option Nat} (hz : zM (1) I L R) : Call g (k10_init, 4, 295, 2831) [.ref (xA g 0)] (I, L, R, 1) (Qm (iC10  I) L (rC10  R) (296)) := Call.of (show plainName k10_init.1.cls = true by decide) (Nat.le_of_ble_eq_true rfl) rfl (vC10 g I L R hz _ (And.intro rfl rfl))
theorem zC10  {I : Nat → Nat → Int32} {L : Nat → Nat → Int64} {R : Nat → Nat → Option Nat} (hz : zM (1) I L R) : zM (296) (iC10  I) L (rC10  R) := by
  have z0 := hz
  have z1 := z0.up (m := 2) (by omega)
  have z2 := zC0 okB1 z1
  have z3 := z2.r (k := 0) (j := 0) (x := some 1) (by omega)
  have z4 := z3.up (m := 73) (by omega)
  have z5 := zC0 okB72 z4
  have z6 := z5.r (k := 0) (j := 1) (x := some 72) (by omega)
  have z7 := z6.up (m := 144) (by omega)
  have z8 := z7.r (k := 0) (j := 2) (x := some 143) (by omega)
  have z9 := z8.up (m := 145) (by omega)
  have z10 := zC0 okB144 z9
  have z11 := z10.r (k := 143) (j := 0) (x := some 144) (by omega)
  have z12 := z11.up (m := 216) (by omega)
  have z13 := zC0 okB215 z12
  have z14 := z13.r (k := 143) (j := 1) (x := some 215) (by omega)
  have z15 := z14.up (m := 287) (by omega)
  have z16 := z15.r (k := 0) (j := 3) (x := some 286) (by omega)
  have z17 := z16.up (m := 288) (by omega)
  have z18 := zC2 okG287 z17
  have z19 := z18.r (k := 0) (j := 4) (x := some 287) (by omega)
  have z20 := z19.up (m := 289) (by omega)
  have z21 := zC5  z20
  have z22 := z21.r (k := 0) (j := 5) (x := some 288) (by omega)
  have z23 := z22.up (m := 294) (by omega)
  have z24 := zC9  z23
  have z25 := z24.r (k := 0) (j := 6) (x := some 293) (by omega)
  exact z25
def rC11 (R : Nat → Nat → Option Nat) : Nat → Nat → Option Nat := uR (uR (uR (uR (uR (uR (uR (uR R 296 0 (some 297)) 296 1 (some 298)) 296 2 (some 299)) 296 3 (some 300)) 296 4 (some 301)) 296 6 (some 302)) 296 8 (some 303)) 296 10 (some 304)
/-- no reference out of the table -/
def bR (R : Nat → Nat → Option Nat) : Prop := ∀ a b, (305 ≤ a ∨ 11 ≤ b) → R a b = none
theorem bR.u {R : Nat → Nat → Option Nat} {k j : Nat} {x : Option Nat} (h : bR R) (hk : k < 305) (hj : j < 11) : bR (uR R k j x) := fun a b hab => by
  by_cases h1 : a = k
  · subst h1
    rw [uR_ne R a x (by omega)]
    exact h _ _ hab
  · rw [uR_off R j x h1]
    exact h _ _ hab
theorem bC3 {k : Nat} {R : Nat → Nat → Option Nat} (hk : k < 305) (h : bR R) : bR (rC3 k R) := (bR.u (bR.u (bR.u h (show (k : Nat) < 305 by omega) (by decide)) (show (k : Nat) < 305 by omega) (by decide)) (show (k : Nat) < 305 by omega) (by decide))
theorem bC8 {k : Nat} {R : Nat → Nat → Option Nat} (hk : k < 305) (h : bR R) : bR (rC8 k R) := (bR.u h (show (k : Nat) < 305 by omega) (by decide))
theorem bC1 {k : Nat} {R : Nat → Nat → Option Nat} (hk : k < 305) (h : bR R) : bR (rC1 k R) := (bR.u (bR.u h (show (k : Nat) < 305 by omega) (by decide)) (show (k : Nat) < 305 by omega) (by decide))
theorem bC5  {R : Nat → Nat → Option Nat} (h : bR R) : bR (rC5  R) := (bR.u (bR.u (bR.u (bR.u h (show (288 : Nat) < 305 by omega) (by decide)) (show (288 : Nat) < 305 by omega) (by decide)) (show (288 : Nat) < 305 by omega) (by decide)) (show (288 : Nat) < 305 by omega) (by decide))
theorem bC9  {R : Nat → Nat → Option Nat} (h : bR R) : bR (rC9  R) := (bR.u (bR.u h (show (293 : Nat) < 305 by omega) (by decide)) (show (293 : Nat) < 305 by omega) (by decide))
theorem bC6 {k l : Nat} {R : Nat → Nat → Option Nat} (hk : k < 290) (h : bR R) : bR (rC6 k l R) := (bR.u (bR.u (bR.u (bC3 (by omega) (bR.u (bC3 (by omega) (bR.u (bC3 (by omega) (bR.u (bC8 (by omega) h) (show (k : Nat) < 305 by omega) (by decide))) (show (k : Nat) < 305 by omega) (by decide))) (show (k : Nat) < 305 by omega) (by decide))) (show (k : Nat) < 305 by omega) (by decide)) (show (k : Nat) < 305 by omega) (by decide)) (show (k : Nat) < 305 by omega) (by decide))
theorem bC0 {k : Nat} {R : Nat → Nat → Option Nat} (hk : k < 230) (h : bR R) : bR (rC0 k R) := (bR.u (bR.u (bC1 (by omega) (bR.u (bC6 (by omega) (bR.u (bC6 (by omega) (bR.u (bC6 (by omega) (bR.u (bC6 (by omega) (bR.u (bR.u h (show (k : Nat) < 305 by omega) (by decide)) (show (k : Nat) < 305 by omega) (by decide))) (show (k + 2 : Nat) < 305 by omega) (by decide))) (show (k + 2 : Nat) < 305 by omega) (by decide))) (show (k + 2 : Nat) < 305 by omega) (by decide))) (show (k + 2 : Nat) < 305 by omega) (by decide))) (show (k : Nat) < 305 by omega) (by decide)) (show (k : Nat) < 305 by omega) (by decide))
theorem bC10  {R : Nat → Nat → Option Nat} (h : bR R) : bR (rC10  R) := (bR.u (bC9 (bR.u (bC5 (bR.u (bR.u (bR.u (bC0 (by omega) (bR.u (bC0 (by omega) (bR.u (bR.u (bC0 (by omega) (bR.u (bC0 (by omega) h) (show (0 : Nat) < 305 by omega) (by decide))) (show (0 : Nat) < 305 by omega) (by decide)) (show (0 : Nat) < 305 by omega) (by decide))) (show (143 : Nat) < 305 by omega) (by decide))) (show (143 : Nat) < 305 by omega) (by decide)) (show (0 : Nat) < 305 by omega) (by decide)) (show (0 : Nat) < 305 by omega) (by decide))) (show (0 : Nat) < 305 by omega) (by decide))) (show (0 : Nat) < 305 by omega) (by decide))
theorem bC11  {R : Nat → Nat → Option Nat} (h : bR R) : bR (rC11  R) := (bR.u (bR.u (bR.u (bR.u (bR.u (bR.u (bR.u (bR.u h (show (296 : Nat) < 305 by omega) (by decide)) (show (296 : Nat) < 305 by omega) (by decide)) (show (296 : Nat) < 305 by omega) (by decide)) (show (296 : Nat) < 305 by omega) (by decide)) (show (296 : Nat) < 305 by omega) (by decide)) (show (296 : Nat) < 305 by omega) (by decide)) (show (296 : Nat) < 305 by omega) (by decide)) (show (296 : Nat) < 305 by omega) (by decide))
theorem R0_out : bR R0 := fun a b hab => by
  unfold R0
  rw [List.getD_eq_getElem?_getD, List.getD_eq_getElem?_getD]
  have h : ∀ q ∈ R0L, q.length ≤ 11 := by decide +kernel
  have h2 : R0L.length = 305 := by decide +kernel
  rcases hab with h1 | h1
  · rw [List.getElem?_eq_none (l := R0L) (i := a) (by omega)]
    rfl
  · cases hk : R0L[a]? with
    | none => rfl
    | some q =>
      have := h q (List.mem_of_getElem? hk)
      rw [Option.getD_some, List.getElem?_eq_none (by omega)]
      rfl
theorem R0_e0 : ∀ a, a < 15 → ∀ b, b < 11 → rC11 (rC10 (fun _ _ => none)) (0 + a) b = R0 (0 + a) b := by decide +kernel
theorem R0_e1 : ∀ a, a < 15 → ∀ b, b < 11 → rC11 (rC10 (fun _ _ => none)) (15 + a) b = R0 (15 + a) b := by decide +kernel
theorem R0_e2 : ∀ a, a < 15 → ∀ b, b < 11 → rC11 (rC10 (fun _ _ => none)) (30 + a) b = R0 (30 + a) b := by decide +kernel
theorem R0_e3 : ∀ a, a < 15 → ∀ b, b < 11 → rC11 (rC10 (fun _ _ => none)) (45 + a) b = R0 (45 + a) b := by decide +kernel
theorem R0_e4 : ∀ a, a < 15 → ∀ b, b < 11 → rC11 (rC10 (fun _ _ => none)) (60 + a) b = R0 (60 + a) b := by decide +kernel
theorem R0_e5 : ∀ a, a < 15 → ∀ b, b < 11 → rC11 (rC10 (fun _ _ => none)) (75 + a) b = R0 (75 + a) b := by decide +kernel
theorem R0_e6 : ∀ a, a < 15 → ∀ b, b < 11 → rC11 (rC10 (fun _ _ => none)) (90 + a) b = R0 (90 + a) b := by decide +kernel
theorem R0_e7 : ∀ a, a < 15 → ∀ b, b < 11 → rC11 (rC10 (fun _ _ => none)) (105 + a) b = R0 (105 + a) b := by decide +kernel
theorem R0_e8 : ∀ a, a < 15 → ∀ b, b < 11 → rC11 (rC10 (fun _ _ => none)) (120 + a) b = R0 (120 + a) b := by decide +kernel
theorem R0_e9 : ∀ a, a < 15 → ∀ b, b < 11 → rC11 (rC10 (fun _ _ => none)) (135 + a) b = R0 (135 + a) b := by decide +kernel
theorem R0_e10 : ∀ a, a < 15 → ∀ b, b < 11 → rC11 (rC10 (fun _ _ => none)) (150 + a) b = R0 (150 + a) b := by decide +kernel
theorem R0_e11 : ∀ a, a < 15 → ∀ b, b < 11 → rC11 (rC10 (fun _ _ => none)) (165 + a) b = R0 (165 + a) b := by decide +kernel
theorem R0_e12 : ∀ a, a < 15 → ∀ b, b < 11 → rC11 (rC10 (fun _ _ => none)) (180 + a) b = R0 (180 + a) b := by decide +kernel
theorem R0_e13 : ∀ a, a < 15 → ∀ b, b < 11 → rC11 (rC10 (fun _ _ => none)) (195 + a) b = R0 (195 + a) b := by decide +kernel
theorem R0_e14 : ∀ a, a < 15 → ∀ b, b < 11 → rC11 (rC10 (fun _ _ => none)) (210 + a) b = R0 (210 + a) b := by decide +kernel
theorem R0_e15 : ∀ a, a < 15 → ∀ b, b < 11 → rC11 (rC10 (fun _ _ => none)) (225 + a) b = R0 (225 + a) b := by decide +kernel
theorem R0_e16 : ∀ a, a < 15 → ∀ b, b < 11 → rC11 (rC10 (fun _ _ => none)) (240 + a) b = R0 (240 + a) b := by decide +kernel
theorem R0_e17 : ∀ a, a < 15 → ∀ b, b < 11 → rC11 (rC10 (fun _ _ => none)) (255 + a) b = R0 (255 + a) b := by decide +kernel
theorem R0_e18 : ∀ a, a < 15 → ∀ b, b < 11 → rC11 (rC10 (fun _ _ => none)) (270 + a) b = R0 (270 + a) b := by decide +kernel
theorem R0_e19 : ∀ a, a < 15 → ∀ b, b < 11 → rC11 (rC10 (fun _ _ => none)) (285 + a) b = R0 (285 + a) b := by decide +kernel
theorem R0_e20 : ∀ a, a < 15 → ∀ b, b < 11 → rC11 (rC10 (fun _ _ => none)) (300 + a) b = R0 (300 + a) b := by decide +kernel
theorem R0_eq : rC11 (rC10 (fun _ _ => none)) = R0 := by
  have h : ∀ a, a < 305 → ∀ b, b < 11 → rC11 (rC10 (fun _ _ => none)) a b = R0 a b := by
    intro a ha b hb
    have h1 : a / 15 < 21 := by omega
    have h2 : a = 15 * (a / 15) + a % 15 := by omega
    have h3 : a % 15 < 15 := by omega
    generalize a / 15 = q at h1 h2
    generalize a % 15 = r at h2 h3
    rw [h2]
    match q, h1 with
    | 0, _ => exact R0_e0 r h3 b hb
    | 1, _ => exact R0_e1 r h3 b hb
    | 2, _ => exact R0_e2 r h3 b hb
    | 3, _ => exact R0_e3 r h3 b hb
    | 4, _ => exact R0_e4 r h3 b hb
    | 5, _ => exact R0_e5 r h3 b hb
    | 6, _ => exact R0_e6 r h3 b hb
    | 7, _ => exact R0_e7 r h3 b hb
    | 8, _ => exact R0_e8 r h3 b hb
    | 9, _ => exact R0_e9 r h3 b hb
    | 10, _ => exact R0_e10 r h3 b hb
    | 11, _ => exact R0_e11 r h3 b hb
    | 12, _ => exact R0_e12 r h3 b hb
    | 13, _ => exact R0_e13 r h3 b hb
    | 14, _ => exact R0_e14 r h3 b hb
    | 15, _ => exact R0_e15 r h3 b hb
    | 16, _ => exact R0_e16 r h3 b hb
    | 17, _ => exact R0_e17 r h3 b hb
    | 18, _ => exact R0_e18 r h3 b hb
    | 19, _ => exact R0_e19 r h3 b hb
    | 20, _ => exact R0_e20 r h3 b hb
    | n + 21, h => omega
  funext a b
  by_cases h1 : a < 305
  · by_cases h2 : b < 11
    · exact h a h1 b h2
    · rw [bC11 (bC10 fun _ _ _ => rfl) a b (Or.inr (by omega)), R0_out a b (Or.inr (by omega))]
  · rw [bC11 (bC10 fun _ _ _ => rfl) a b (Or.inl (by omega)), R0_out a b (Or.inl (by omega))]
def iC11  (I : Nat → Nat → Int32) : Nat → Nat → Int32 := uI (uI (uI (uI (uI (uI (uI I 297 1025 128) 297 1026 256) 297 1027 4) 297 0 3) 297 256 3) 297 512 3) 297 768 3
theorem vC11 (g : GlT)  (I : Nat → Nat → Int32) (L : Nat → Nat → Int64) (hz : zM (297) I L (rC10 (fun _ _ => none))) (Q : Option Value → MemT → Prop) (hq : Q none (uI (uI (uI (uI (uI (uI (uI I 297 1025 128) 297 1026 256) 297 1027 4) 297 0 3) 297 256 3) 297 512 3) 297 768 3, L, R0, 305)) : V g (k11_init, 2, 8, 5465) 0 0 0 [(0, .ref (xA g 296))] [] (I, L, (rC10 (fun _ _ => none)), 297) Q := by
  have z0 := hz
  refine V_aload_n (pc1 := 1) 0 d11_init_0 rfl rfl ?_
  refine V_obj (pc1 := 4) l11_1 jobjI jobjC (Nat.le_of_ble_eq_true rfl) (Nat.le_of_ble_eq_true rfl) d11_init_1 rfl ?_
  refine V_aload_n (pc1 := 5) 0 d11_init_4 rfl rfl ?_
  refine V_sipush (pc1 := 8) d11_init_5 vs_1310 rfl ?_
  refine V_newiW (pc1 := 10) (n1 := 298) (kc1 := 1) (ks1 := 1310) z0 ly297 (by decide) rfl (Nat.le_of_ble_eq_true rfl) (Nat.le_of_ble_eq_true rfl) d11_init_8 rfl (by decide) rfl rfl rfl ?_
  have z1 := z0.up (m := 298) (by omega)
  refine V_putr (pc1 := 13) ly296 (by omega) f11_7 ⟨rfl, rfl, rfl⟩ (fun _ _ => Or.inr ⟨_, rfl⟩) d11_init_10 rfl ?_
  have z2 := z1.r (k := 296) (j := 0) (x := some 297) (by omega)
  refine V_aload_n (pc1 := 14) 0 d11_init_13 rfl rfl ?_
  refine V_sipush (pc1 := 17) d11_init_14 vs_1310 rfl ?_
  refine V_newiW (pc1 := 19) (n1 := 299) (kc1 := 2) (ks1 := 2620) z2 ly298 (by decide) rfl (Nat.le_of_ble_eq_true rfl) (Nat.le_of_ble_eq_true rfl) d11_init_17 rfl (by decide) rfl rfl rfl ?_
  have z3 := z2.up (m := 299) (by omega)
  refine V_putr (pc1 := 22) ly296 (by omega) f11_13 ⟨rfl, rfl, rfl⟩ (fun _ _ => Or.inr ⟨_, rfl⟩) d11_init_19 rfl ?_
  have z4 := z3.r (k := 296) (j := 1) (x := some 298) (by omega)
  refine V_aload_n (pc1 := 23) 0 d11_init_22 rfl rfl ?_
  refine V_sipush (pc1 := 26) d11_init_23 vs_2620 rfl ?_
  refine V_newiW (pc1 := 28) (n1 := 300) (kc1 := 3) (ks1 := 5240) z4 ly299 (by decide) rfl (Nat.le_of_ble_eq_true rfl) (Nat.le_of_ble_eq_true rfl) d11_init_26 rfl (by decide) rfl rfl rfl ?_
  have z5 := z4.up (m := 300) (by omega)
  refine V_putr (pc1 := 31) ly296 (by omega) f11_16 ⟨rfl, rfl, rfl⟩ (fun _ _ => Or.inr ⟨_, rfl⟩) d11_init_28 rfl ?_
  have z6 := z5.r (k := 296) (j := 2) (x := some 299) (by omega)
  refine V_aload_n (pc1 := 32) 0 d11_init_31 rfl rfl ?_
  refine V_iconst (pc1 := 33) d11_init_32 vc_2 rfl ?_
  refine V_newzW (pc1 := 35) (n1 := 301) (kc1 := 4) (ks1 := 5242) z6 ly300 (by decide) rfl (Nat.le_of_ble_eq_true rfl) (Nat.le_of_ble_eq_true rfl) d11_init_33 rfl (by decide) rfl rfl rfl ?_
  have z7 := z6.up (m := 301) (by omega)
  refine V_putr (pc1 := 38) ly296 (by omega) f11_19 ⟨rfl, rfl, rfl⟩ (fun _ _ => Or.inr ⟨_, rfl⟩) d11_init_35 rfl ?_
  have z8 := z7.r (k := 296) (j := 3) (x := some 300) (by omega)
  refine V_aload_n (pc1 := 39) 0 d11_init_38 rfl rfl ?_
  refine V_bipush (pc1 := 41) d11_init_39 vb_120 rfl ?_
  refine V_newiW (pc1 := 43) (n1 := 302) (kc1 := 5) (ks1 := 5362) z8 ly301 (by decide) rfl (Nat.le_of_ble_eq_true rfl) (Nat.le_of_ble_eq_true rfl) d11_init_41 rfl (by decide) rfl rfl rfl ?_
  have z9 := z8.up (m := 302) (by omega)
  refine V_putr (pc1 := 46) ly296 (by omega) f11_23 ⟨rfl, rfl, rfl⟩ (fun _ _ => Or.inr ⟨_, rfl⟩) d11_init_43 rfl ?_
  have z10 := z9.r (k := 296) (j := 4) (x := some 301) (by omega)
  refine V_aload_n (pc1 := 47) 0 d11_init_46 rfl rfl ?_
  refine V_bipush (pc1 := 49) d11_init_47 vb_32 rfl ?_
  refine V_newiW (pc1 := 51) (n1 := 303) (kc1 := 6) (ks1 := 5394) z10 ly302 (by decide) rfl (Nat.le_of_ble_eq_true rfl) (Nat.le_of_ble_eq_true rfl) d11_init_49 rfl (by decide) rfl rfl rfl ?_
  have z11 := z10.up (m := 303) (by omega)
  refine V_putr (pc1 := 54) ly296 (by omega) f11_26 ⟨rfl, rfl, rfl⟩ (fun _ _ => Or.inr ⟨_, rfl⟩) d11_init_51 rfl ?_
  have z12 := z11.r (k := 296) (j := 6) (x := some 302) (by omega)
  refine V_aload_n (pc1 := 55) 0 d11_init_54 rfl rfl ?_
  refine V_bipush (pc1 := 57) d11_init_55 vb_66 rfl ?_
  refine V_newiW (pc1 := 59) (n1 := 304) (kc1 := 7) (ks1 := 5460) z12 ly303 (by decide) rfl (Nat.le_of_ble_eq_true rfl) (Nat.le_of_ble_eq_true rfl) d11_init_57 rfl (by decide) rfl rfl rfl ?_
  have z13 := z12.up (m := 304) (by omega)
  refine V_putr (pc1 := 62) ly296 (by omega) f11_29 ⟨rfl, rfl, rfl⟩ (fun _ _ => Or.inr ⟨_, rfl⟩) d11_init_59 rfl ?_
  have z14 := z13.r (k := 296) (j := 8) (x := some 303) (by omega)
  refine V_aload_n (pc1 := 63) 0 d11_init_62 rfl rfl ?_
  refine V_iconst (pc1 := 64) d11_init_63 vc_5 rfl ?_
  refine V_newiW (pc1 := 66) (n1 := 305) (kc1 := 8) (ks1 := 5465) z14 ly304 (by decide) rfl (Nat.le_of_ble_eq_true rfl) (Nat.le_of_ble_eq_true rfl) d11_init_64 rfl (by decide) rfl rfl rfl ?_
  have z15 := z14.up (m := 305) (by omega)
  refine V_putr (pc1 := 69) ly296 (by omega) f11_32 ⟨rfl, rfl, rfl⟩ (fun _ _ => Or.inr ⟨_, rfl⟩) d11_init_66 rfl ?_
  have z16 := z15.r (k := 296) (j := 10) (x := some 304) (by omega)
  refine V_eq (M1 := (I, L, R0, 305)) rfl rfl (show ((I, L, R0, 305) : MemT) = (I, L, rC11 (rC10 fun _ _ => none), 305) by rw [R0_eq]) ?_
  refine V_aload_n (pc1 := 70) 0 d11_init_69 rfl rfl ?_
  refine V_getr (pc1 := 73) ly296 (by omega) f11_7 (fun _ => rfl) rf296_0 d11_init_70 rfl ?_
  refine V_sipush (pc1 := 76) d11_init_73 vs_1025 rfl ?_
  refine V_sipush (pc1 := 79) d11_init_76 vs_128 rfl ?_
  refine V_iast (pc1 := 80) 1025 ly297 (by decide) rfl (by decide) d11_init_79 rfl ?_
  refine V_aload_n (pc1 := 81) 0 d11_init_80 rfl rfl ?_
  refine V_getr (pc1 := 84) ly296 (by omega) f11_7 (fun _ => rfl) rf296_0 d11_init_81 rfl ?_
  refine V_sipush (pc1 := 87) d11_init_84 vs_1026 rfl ?_
  refine V_sipush (pc1 := 90) d11_init_87 vs_256 rfl ?_
  refine V_iast (pc1 := 91) 1026 ly297 (by decide) rfl (by decide) d11_init_90 rfl ?_
  refine V_aload_n (pc1 := 92) 0 d11_init_91 rfl rfl ?_
  refine V_getr (pc1 := 95) ly296 (by omega) f11_7 (fun _ => rfl) rf296_0 d11_init_92 rfl ?_
  refine V_sipush (pc1 := 98) d11_init_95 vs_1027 rfl ?_
  refine V_iconst (pc1 := 99) d11_init_98 vc_4 rfl ?_
  refine V_iast (pc1 := 100) 1027 ly297 (by decide) rfl (by decide) d11_init_99 rfl ?_
  refine V_iconst (pc1 := 101) d11_init_100 vc_0 rfl ?_
  refine V_istore_n (pc1 := 102) d11_init_101 (Nat.le_of_ble_eq_true rfl) rfl rfl ?_
  refine V_iload_n (pc1 := 103) 0 d11_init_102 rfl rfl ?_
  refine V_iconst (pc1 := 104) d11_init_103 vc_4 rfl ?_
  refine V_icmp_ge (tgt := 124) (pc1 := 107) d11_init_104 (by decide) rfl (fun h => absurd h (show ¬ (4 : Int32) ≤ 0 by decide)) (fun _ => ?_)
  refine V_aload_n (pc1 := 108) 1 d11_init_107 rfl rfl ?_
  refine V_getr (pc1 := 111) ly296 (by omega) f11_7 (fun _ => rfl) rf296_0 d11_init_108 rfl ?_
  refine V_iload_n (pc1 := 112) 0 d11_init_111 rfl rfl ?_
  refine V_iconst (pc1 := 113) d11_init_112 vc_0 rfl ?_
  refine V_si (pc1 := 116) (x := nI 0) (w11_at g 0 0 _ _) s11_at l11_35 rfl rfl ⟨Nat.le_of_ble_eq_true rfl, Nat.le_of_ble_eq_true rfl, Nat.le_of_ble_eq_true rfl, Nat.le_of_ble_eq_true rfl⟩ (Nat.le_of_ble_eq_true rfl) rfl d11_init_113 rfl ?_
  refine V_iconst (pc1 := 117) d11_init_116 vc_3 rfl ?_
  refine V_iast (pc1 := 118) 0 ly297 (by decide) rfl (by decide) d11_init_117 rfl ?_
  refine V_iinc (pc1 := 121) 0 (v := 1) d11_init_118 rfl (by decide) (Nat.le_of_ble_eq_true rfl) rfl rfl ?_
  refine V_goto (tgt := 102) d11_init_121 (by decide) ?_
  refine V_iload_n (pc1 := 103) 0 d11_init_102 rfl rfl ?_
  refine V_iconst (pc1 := 104) d11_init_103 vc_4 rfl ?_
  refine V_icmp_ge (tgt := 124) (pc1 := 107) d11_init_104 (by decide) rfl (fun h => absurd h (show ¬ (4 : Int32) ≤ 1 by decide)) (fun _ => ?_)
  refine V_aload_n (pc1 := 108) 1 d11_init_107 rfl rfl ?_
  refine V_getr (pc1 := 111) ly296 (by omega) f11_7 (fun _ => rfl) rf296_0 d11_init_108 rfl ?_
  refine V_iload_n (pc1 := 112) 0 d11_init_111 rfl rfl ?_
  refine V_iconst (pc1 := 113) d11_init_112 vc_0 rfl ?_
  refine V_si (pc1 := 116) (x := nI 256) (w11_at g 1 0 _ _) s11_at l11_35 rfl rfl ⟨Nat.le_of_ble_eq_true rfl, Nat.le_of_ble_eq_true rfl, Nat.le_of_ble_eq_true rfl, Nat.le_of_ble_eq_true rfl⟩ (Nat.le_of_ble_eq_true rfl) rfl d11_init_113 rfl ?_
  refine V_iconst (pc1 := 117) d11_init_116 vc_3 rfl ?_
  refine V_iast (pc1 := 118) 256 ly297 (by decide) rfl (by decide) d11_init_117 rfl ?_
  refine V_iinc (pc1 := 121) 0 (v := 2) d11_init_118 rfl (by decide) (Nat.le_of_ble_eq_true rfl) rfl rfl ?_
  refine V_goto (tgt := 102) d11_init_121 (by decide) ?_
  refine V_iload_n (pc1 := 103) 0 d11_init_102 rfl rfl ?_
  refine V_iconst (pc1 := 104) d11_init_103 vc_4 rfl ?_
  refine V_icmp_ge (tgt := 124) (pc1 := 107) d11_init_104 (by decide) rfl (fun h => absurd h (show ¬ (4 : Int32) ≤ 2 by decide)) (fun _ => ?_)
  refine V_aload_n (pc1 := 108) 1 d11_init_107 rfl rfl ?_
  refine V_getr (pc1 := 111) ly296 (by omega) f11_7 (fun _ => rfl) rf296_0 d11_init_108 rfl ?_
  refine V_iload_n (pc1 := 112) 0 d11_init_111 rfl rfl ?_
  refine V_iconst (pc1 := 113) d11_init_112 vc_0 rfl ?_
  refine V_si (pc1 := 116) (x := nI 512) (w11_at g 2 0 _ _) s11_at l11_35 rfl rfl ⟨Nat.le_of_ble_eq_true rfl, Nat.le_of_ble_eq_true rfl, Nat.le_of_ble_eq_true rfl, Nat.le_of_ble_eq_true rfl⟩ (Nat.le_of_ble_eq_true rfl) rfl d11_init_113 rfl ?_
  refine V_iconst (pc1 := 117) d11_init_116 vc_3 rfl ?_
  refine V_iast (pc1 := 118) 512 ly297 (by decide) rfl (by decide) d11_init_117 rfl ?_
  refine V_iinc (pc1 := 121) 0 (v := 3) d11_init_118 rfl (by decide) (Nat.le_of_ble_eq_true rfl) rfl rfl ?_
  refine V_goto (tgt := 102) d11_init_121 (by decide) ?_
  refine V_iload_n (pc1 := 103) 0 d11_init_102 rfl rfl ?_
  refine V_iconst (pc1 := 104) d11_init_103 vc_4 rfl ?_
  refine V_icmp_ge (tgt := 124) (pc1 := 107) d11_init_104 (by decide) rfl (fun h => absurd h (show ¬ (4 : Int32) ≤ 3 by decide)) (fun _ => ?_)
  refine V_aload_n (pc1 := 108) 1 d11_init_107 rfl rfl ?_
  refine V_getr (pc1 := 111) ly296 (by omega) f11_7 (fun _ => rfl) rf296_0 d11_init_108 rfl ?_
  refine V_iload_n (pc1 := 112) 0 d11_init_111 rfl rfl ?_
  refine V_iconst (pc1 := 113) d11_init_112 vc_0 rfl ?_
  refine V_si (pc1 := 116) (x := nI 768) (w11_at g 3 0 _ _) s11_at l11_35 rfl rfl ⟨Nat.le_of_ble_eq_true rfl, Nat.le_of_ble_eq_true rfl, Nat.le_of_ble_eq_true rfl, Nat.le_of_ble_eq_true rfl⟩ (Nat.le_of_ble_eq_true rfl) rfl d11_init_113 rfl ?_
  refine V_iconst (pc1 := 117) d11_init_116 vc_3 rfl ?_
  refine V_iast (pc1 := 118) 768 ly297 (by decide) rfl (by decide) d11_init_117 rfl ?_
  refine V_iinc (pc1 := 121) 0 (v := 4) d11_init_118 rfl (by decide) (Nat.le_of_ble_eq_true rfl) rfl rfl ?_
  refine V_goto (tgt := 102) d11_init_121 (by decide) ?_
  refine V_iload_n (pc1 := 103) 0 d11_init_102 rfl rfl ?_
  refine V_iconst (pc1 := 104) d11_init_103 vc_4 rfl ?_
  refine V_icmp_ge (tgt := 124) (pc1 := 107) d11_init_104 (by decide) rfl (fun _ => ?_) (fun h => absurd (show (4 : Int32) ≤ 4 by decide) h)
  exact V_vret rfl d11_init_124 (Nat.le_refl _) (Nat.le_refl _) hq
theorem wC11 (g : GlT)  {I : Nat → Nat → Int32} {L : Nat → Nat → Int64} (hz : zM (297) I L (rC10 (fun _ _ => none))) : Call g (k11_init, 2, 8, 5465) [.ref (xA g 296)] (I, L, (rC10 (fun _ _ => none)), 297) (Qm (iC11  I) L (R0) (305)) := Call.of (show plainName k11_init.1.cls = true by decide) (Nat.le_of_ble_eq_true rfl) rfl (vC11 g I L hz _ (And.intro rfl rfl))
