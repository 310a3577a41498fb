/-- the booleans of a node -/
def nB (k : Nat) (I : Nat → Nat → Int32) : Prop := (I k 9 = 0 ∨ I k 9 = 1) ∧ (I k 14 = 0 ∨ I k 14 = 1) ∧ (I k 15 = 0 ∨ I k 15 = 1)
theorem nB.of {k : Nat} {I J : Nat → Nat → Int32} (h1 : J k = I k) (h : nB k I) : nB k J := by
  unfold nB
  rw [h1]
  exact h
theorem nV.of1 {k : Nat} {I J : Nat → Nat → Int32} (h1 : J (k + 3) = I (k + 3)) (h2 : J (k + 7) = I (k + 7)) (h3 : J (k + 11) = I (k + 11)) (h : nV k I) : nV k J := by
  unfold nV
  rw [h1, h2, h3]
  exact h
/-- a bus's nodes and disturbances -/
def bV (k : Nat) (I : Nat → Nat → Int32) : Prop := (∀ i, i < 4 → nV (k + 3 + 16 * i) I) ∧ ∃ d, d ≤ 8 ∧ I (k + 67) 2 = nI d
theorem bs_i4 {i : Nat} (h : i < 4) {P : Nat → Prop} (h0 : P 0) (h1 : P 1) (h2 : P 2) (h3 : P 3) : P i := by
  rcases (show i = 0 ∨ i = 1 ∨ i = 2 ∨ i = 3 by omega) with rfl | rfl | rfl | rfl
  · exact h0
  · exact h1
  · exact h2
  · exact h3
theorem bs_Ni {k i : Nat} (h : okB k) (hi : i < 4) : okN (k + 3 + 16 * i) (k + 1) := bs_i4 hi (P := fun i => okN (k + 3 + 16 * i) (k + 1)) (bs_N3 h) (bs_N19 h) (bs_N35 h) (bs_N51 h)
theorem bs_ri {k i : Nat} (h : okB k) (hi : i < 4) : R0 (k + 2) i = some (k + 3 + 16 * i) := bs_i4 hi (P := fun i => R0 (k + 2) i = some (k + 3 + 16 * i)) (bs_r2_0 h) (bs_r2_1 h) (bs_r2_2 h) (bs_r2_3 h)
theorem and255 (x : Int32) : x &&& 255 = nI ((x &&& 255).toNatClampNeg) ∧ (x &&& 255).toNatClampNeg < 256 := by
  obtain ⟨j, hj, e⟩ := pk_andE x (m := 255) 8 (by decide)
  have hj : j < 256 := hj
  rw [e, nI_clamp (by omega)]
  exact ⟨rfl, hj⟩

def i6_copyFrom (k : Nat) (l : Nat) (k2 : Nat) (l2 : Nat) (I : Nat → Nat → Int32) (L : Nat → Nat → Int64) : Nat → Nat → Int32 := uI (uI (uI (uI (uI (uI (uI (uI (uI (uI (uI (uI (i2_copyFrom (k + 15) (k2 + 15) (i3_copyFrom (k + 11) 4 (k2 + 11) 4 (i3_copyFrom (k + 7) 6 (k2 + 7) 6 (i3_copyFrom (k + 3) 4 (k2 + 3) 4 (i8_copyFrom (k + 1) (k2 + 1) I L) L) L) L) L) k 6 (I k2 6)) k 7 (I k2 7)) k 8 (I k2 8)) k 9 (I k2 9)) k 10 (I k2 10)) k 11 (I k2 11)) k 12 (I k2 12)) k 13 (I k2 13)) k 14 (I k2 14)) k 15 (I k2 15)) k 16 (I k2 16)) k 17 (I k2 17)
def m6_copyFrom (k : Nat) (l : Nat) (k2 : Nat) (l2 : Nat) (I : Nat → Nat → Int32) (L : Nat → Nat → Int64) : Nat → Nat → Int64 := uL (m2_copyFrom (k + 15) (k2 + 15) (i3_copyFrom (k + 11) 4 (k2 + 11) 4 (i3_copyFrom (k + 7) 6 (k2 + 7) 6 (i3_copyFrom (k + 3) 4 (k2 + 3) 4 (i8_copyFrom (k + 1) (k2 + 1) I L) L) L) L) L) k 18 (L k2 18)
set_option maxRecDepth 4000 in
theorem v6_copyFrom (g : GlT) {k : Nat} {l : Nat} {k2 : Nat} {l2 : Nat} (hk : okN k l) (hk2 : okN k2 l2) (hap : k + 16 ≤ k2 ∨ k2 + 16 ≤ k) (I : Nat → Nat → Int32) (L : Nat → Nat → Int64) (hv : nV k2 I) (hb : nB k2 I) (Q : Option Value → MemT → Prop) (hq : Q (none) (i6_copyFrom k l k2 l2 I L, m6_copyFrom k l k2 l2 I L, R0, 305)) : V g (k6_copyFrom, 2, 0, 0) 0 0 0 [(0, .ref (xA g k)), (1, .ref (xA g k2))] [] (I, L, R0, 305) Q := by
  have hv0 := hv
  obtain ⟨⟨gw, hw4, hw⟩, ⟨gr, hr6, hr⟩, ga, ha4, ha⟩ := hv0
  refine V_aload_n (pc1 := 1) 0 d6_copyFrom_0 rfl rfl ?_
  refine V_getr (pc1 := 4) (nd_l0 hk) (nd_b0 hk) f6_12 (fun _ => rfl) (nd_r0_1 hk) d6_copyFrom_1 rfl ?_
  refine V_aload_n (pc1 := 5) 1 d6_copyFrom_4 rfl rfl ?_
  refine V_getr (pc1 := 8) (nd_l0 hk2) (nd_b0 hk2) f6_12 (fun _ => rfl) (nd_r0_1 hk2) d6_copyFrom_5 rfl ?_
  refine V_vv (pc1 := 11) (w8_copyFrom g (nd_Y1 hk) (nd_Y1 hk2)  (by omega) I L ) (nd_l1 hk) (nd_b1 hk) s8_copyFrom l6_54 rfl rfl ⟨Nat.le_of_ble_eq_true rfl, Nat.le_of_ble_eq_true rfl, Nat.le_refl _, Nat.le_refl _⟩ (Nat.le_of_ble_eq_true rfl) rfl d6_copyFrom_8 rfl ?_
  refine V_aload_n (pc1 := 12) 0 d6_copyFrom_11 rfl rfl ?_
  refine V_getr (pc1 := 15) (nd_l0 hk) (nd_b0 hk) f6_23 (fun _ => rfl) (nd_r0_2 hk) d6_copyFrom_12 rfl ?_
  refine V_aload_n (pc1 := 16) 1 d6_copyFrom_15 rfl rfl ?_
  refine V_getr (pc1 := 19) (nd_l0 hk2) (nd_b0 hk2) f6_23 (fun _ => rfl) (nd_r0_2 hk2) d6_copyFrom_16 rfl ?_
  refine V_vv (pc1 := 22) (w3_copyFrom g (nd_F3 hk) (nd_F3 hk2)  rfl (by omega) gw hw4 (i8_copyFrom (k + 1) (k2 + 1) I L) L ((congrFun (x8_copyFrom (I := I) (L := L) (show (k2 + 3 : Nat) ≠ k + 1 by omega) (show (k2 + 3 : Nat) ≠ k + 2 by omega)) _).trans hw)) (nd_l3 hk) (nd_b3 hk) s3_copyFrom l6_58 rfl rfl ⟨Nat.le_of_ble_eq_true rfl, Nat.le_of_ble_eq_true rfl, Nat.le_refl _, Nat.le_refl _⟩ (Nat.le_of_ble_eq_true rfl) rfl d6_copyFrom_19 rfl ?_
  refine V_aload_n (pc1 := 23) 0 d6_copyFrom_22 rfl rfl ?_
  refine V_getr (pc1 := 26) (nd_l0 hk) (nd_b0 hk) f6_27 (fun _ => rfl) (nd_r0_3 hk) d6_copyFrom_23 rfl ?_
  refine V_aload_n (pc1 := 27) 1 d6_copyFrom_26 rfl rfl ?_
  refine V_getr (pc1 := 30) (nd_l0 hk2) (nd_b0 hk2) f6_27 (fun _ => rfl) (nd_r0_3 hk2) d6_copyFrom_27 rfl ?_
  refine V_vv (pc1 := 33) (w3_copyFrom g (nd_F7 hk) (nd_F7 hk2)  rfl (by omega) gr hr6 (i3_copyFrom (k + 3) 4 (k2 + 3) 4 (i8_copyFrom (k + 1) (k2 + 1) I L) L) L (((congrFun (x3_copyFrom (I := (i8_copyFrom (k + 1) (k2 + 1) I L)) (L := L) (show (k2 + 7 : Nat) ≠ k + 3 by omega) (show (k2 + 7 : Nat) ≠ k + 4 by omega) (show (k2 + 7 : Nat) ≠ k + 5 by omega) (show (k2 + 7 : Nat) ≠ k + 6 by omega)) _).trans (congrFun (x8_copyFrom (I := I) (L := L) (show (k2 + 7 : Nat) ≠ k + 1 by omega) (show (k2 + 7 : Nat) ≠ k + 2 by omega)) _)).trans hr)) (nd_l7 hk) (nd_b7 hk) s3_copyFrom l6_58 rfl rfl ⟨Nat.le_of_ble_eq_true rfl, Nat.le_of_ble_eq_true rfl, Nat.le_refl _, Nat.le_refl _⟩ (Nat.le_of_ble_eq_true rfl) rfl d6_copyFrom_30 rfl ?_
  refine V_aload_n (pc1 := 34) 0 d6_copyFrom_33 rfl rfl ?_
  refine V_getr (pc1 := 37) (nd_l0 hk) (nd_b0 hk) f6_30 (fun _ => rfl) (nd_r0_4 hk) d6_copyFrom_34 rfl ?_
  refine V_aload_n (pc1 := 38) 1 d6_copyFrom_37 rfl rfl ?_
  refine V_getr (pc1 := 41) (nd_l0 hk2) (nd_b0 hk2) f6_30 (fun _ => rfl) (nd_r0_4 hk2) d6_copyFrom_38 rfl ?_
  refine V_vv (pc1 := 44) (w3_copyFrom g (nd_F11 hk) (nd_F11 hk2)  rfl (by omega) ga ha4 (i3_copyFrom (k + 7) 6 (k2 + 7) 6 (i3_copyFrom (k + 3) 4 (k2 + 3) 4 (i8_copyFrom (k + 1) (k2 + 1) I L) L) L) L (((congrFun (x3_copyFrom (I := (i3_copyFrom (k + 3) 4 (k2 + 3) 4 (i8_copyFrom (k + 1) (k2 + 1) I L) L)) (L := L) (show (k2 + 11 : Nat) ≠ k + 7 by omega) (show (k2 + 11 : Nat) ≠ k + 8 by omega) (show (k2 + 11 : Nat) ≠ k + 9 by omega) (show (k2 + 11 : Nat) ≠ k + 10 by omega)) _).trans ((congrFun (x3_copyFrom (I := (i8_copyFrom (k + 1) (k2 + 1) I L)) (L := L) (show (k2 + 11 : Nat) ≠ k + 3 by omega) (show (k2 + 11 : Nat) ≠ k + 4 by omega) (show (k2 + 11 : Nat) ≠ k + 5 by omega) (show (k2 + 11 : Nat) ≠ k + 6 by omega)) _).trans (congrFun (x8_copyFrom (I := I) (L := L) (show (k2 + 11 : Nat) ≠ k + 1 by omega) (show (k2 + 11 : Nat) ≠ k + 2 by omega)) _))).trans ha)) (nd_l11 hk) (nd_b11 hk) s3_copyFrom l6_58 rfl rfl ⟨Nat.le_of_ble_eq_true rfl, Nat.le_of_ble_eq_true rfl, Nat.le_refl _, Nat.le_refl _⟩ (Nat.le_of_ble_eq_true rfl) rfl d6_copyFrom_41 rfl ?_
  refine V_aload_n (pc1 := 45) 0 d6_copyFrom_44 rfl rfl ?_
  refine V_getr (pc1 := 48) (nd_l0 hk) (nd_b0 hk) f6_36 (fun _ => rfl) (nd_r0_5 hk) d6_copyFrom_45 rfl ?_
  refine V_aload_n (pc1 := 49) 1 d6_copyFrom_48 rfl rfl ?_
  refine V_getr (pc1 := 52) (nd_l0 hk2) (nd_b0 hk2) f6_36 (fun _ => rfl) (nd_r0_5 hk2) d6_copyFrom_49 rfl ?_
  refine V_vv (pc1 := 55) (w2_copyFrom g (nd_G15 hk) (nd_G15 hk2)  (by omega) (i3_copyFrom (k + 11) 4 (k2 + 11) 4 (i3_copyFrom (k + 7) 6 (k2 + 7) 6 (i3_copyFrom (k + 3) 4 (k2 + 3) 4 (i8_copyFrom (k + 1) (k2 + 1) I L) L) L) L) L ) (nd_l15 hk) (nd_b15 hk) s2_copyFrom l6_61 rfl rfl ⟨Nat.le_of_ble_eq_true rfl, Nat.le_of_ble_eq_true rfl, Nat.le_refl _, Nat.le_refl _⟩ (Nat.le_of_ble_eq_true rfl) rfl d6_copyFrom_52 rfl ?_
  refine V_aload_n (pc1 := 56) 0 d6_copyFrom_55 rfl rfl ?_
  refine V_aload_n (pc1 := 57) 1 d6_copyFrom_56 rfl rfl ?_
  refine V_geti (pc1 := 60) (nd_l0 hk2) (nd_b0 hk2) f6_64 (fun _ => rfl) ((congrFun (x2_copyFrom (I := (i3_copyFrom (k + 11) 4 (k2 + 11) 4 (i3_copyFrom (k + 7) 6 (k2 + 7) 6 (i3_copyFrom (k + 3) 4 (k2 + 3) 4 (i8_copyFrom (k + 1) (k2 + 1) I L) L) L) L)) (L := L) (show (k2 : Nat) ≠ k + 15 by omega)) _).trans ((congrFun (x3_copyFrom (I := (i3_copyFrom (k + 7) 6 (k2 + 7) 6 (i3_copyFrom (k + 3) 4 (k2 + 3) 4 (i8_copyFrom (k + 1) (k2 + 1) I L) L) L)) (L := L) (show (k2 : Nat) ≠ k + 11 by omega) (show (k2 : Nat) ≠ k + 12 by omega) (show (k2 : Nat) ≠ k + 13 by omega) (show (k2 : Nat) ≠ k + 14 by omega)) _).trans ((congrFun (x3_copyFrom (I := (i3_copyFrom (k + 3) 4 (k2 + 3) 4 (i8_copyFrom (k + 1) (k2 + 1) I L) L)) (L := L) (show (k2 : Nat) ≠ k + 7 by omega) (show (k2 : Nat) ≠ k + 8 by omega) (show (k2 : Nat) ≠ k + 9 by omega) (show (k2 : Nat) ≠ k + 10 by omega)) _).trans ((congrFun (x3_copyFrom (I := (i8_copyFrom (k + 1) (k2 + 1) I L)) (L := L) (show (k2 : Nat) ≠ k + 3 by omega) (show (k2 : Nat) ≠ k + 4 by omega) (show (k2 : Nat) ≠ k + 5 by omega) (show (k2 : Nat) ≠ k + 6 by omega)) _).trans (congrFun (x8_copyFrom (I := I) (L := L) (show (k2 : Nat) ≠ k + 1 by omega) (show (k2 : Nat) ≠ k + 2 by omega)) _))))) d6_copyFrom_57 rfl ?_
  refine V_puti (pc1 := 63) (nd_l0 hk) (nd_b0 hk) f6_64 rfl rfl d6_copyFrom_60 rfl ?_
  refine V_aload_n (pc1 := 64) 0 d6_copyFrom_63 rfl rfl ?_
  refine V_aload_n (pc1 := 65) 1 d6_copyFrom_64 rfl rfl ?_
  refine V_geti (pc1 := 68) (nd_l0 hk2) (nd_b0 hk2) f6_67 (fun _ => rfl) ((congrFun (uI_off _ _ _ (show (k2 : Nat) ≠ k by omega)) _).trans ((congrFun (x2_copyFrom (I := (i3_copyFrom (k + 11) 4 (k2 + 11) 4 (i3_copyFrom (k + 7) 6 (k2 + 7) 6 (i3_copyFrom (k + 3) 4 (k2 + 3) 4 (i8_copyFrom (k + 1) (k2 + 1) I L) L) L) L)) (L := L) (show (k2 : Nat) ≠ k + 15 by omega)) _).trans ((congrFun (x3_copyFrom (I := (i3_copyFrom (k + 7) 6 (k2 + 7) 6 (i3_copyFrom (k + 3) 4 (k2 + 3) 4 (i8_copyFrom (k + 1) (k2 + 1) I L) L) L)) (L := L) (show (k2 : Nat) ≠ k + 11 by omega) (show (k2 : Nat) ≠ k + 12 by omega) (show (k2 : Nat) ≠ k + 13 by omega) (show (k2 : Nat) ≠ k + 14 by omega)) _).trans ((congrFun (x3_copyFrom (I := (i3_copyFrom (k + 3) 4 (k2 + 3) 4 (i8_copyFrom (k + 1) (k2 + 1) I L) L)) (L := L) (show (k2 : Nat) ≠ k + 7 by omega) (show (k2 : Nat) ≠ k + 8 by omega) (show (k2 : Nat) ≠ k + 9 by omega) (show (k2 : Nat) ≠ k + 10 by omega)) _).trans ((congrFun (x3_copyFrom (I := (i8_copyFrom (k + 1) (k2 + 1) I L)) (L := L) (show (k2 : Nat) ≠ k + 3 by omega) (show (k2 : Nat) ≠ k + 4 by omega) (show (k2 : Nat) ≠ k + 5 by omega) (show (k2 : Nat) ≠ k + 6 by omega)) _).trans (congrFun (x8_copyFrom (I := I) (L := L) (show (k2 : Nat) ≠ k + 1 by omega) (show (k2 : Nat) ≠ k + 2 by omega)) _)))))) d6_copyFrom_65 rfl ?_
  refine V_puti (pc1 := 71) (nd_l0 hk) (nd_b0 hk) f6_67 rfl rfl d6_copyFrom_68 rfl ?_
  refine V_aload_n (pc1 := 72) 0 d6_copyFrom_71 rfl rfl ?_
  refine V_aload_n (pc1 := 73) 1 d6_copyFrom_72 rfl rfl ?_
  refine V_geti (pc1 := 76) (nd_l0 hk2) (nd_b0 hk2) f6_40 (fun _ => rfl) ((congrFun (uI_off _ _ _ (show (k2 : Nat) ≠ k by omega)) _).trans ((congrFun (uI_off _ _ _ (show (k2 : Nat) ≠ k by omega)) _).trans ((congrFun (x2_copyFrom (I := (i3_copyFrom (k + 11) 4 (k2 + 11) 4 (i3_copyFrom (k + 7) 6 (k2 + 7) 6 (i3_copyFrom (k + 3) 4 (k2 + 3) 4 (i8_copyFrom (k + 1) (k2 + 1) I L) L) L) L)) (L := L) (show (k2 : Nat) ≠ k + 15 by omega)) _).trans ((congrFun (x3_copyFrom (I := (i3_copyFrom (k + 7) 6 (k2 + 7) 6 (i3_copyFrom (k + 3) 4 (k2 + 3) 4 (i8_copyFrom (k + 1) (k2 + 1) I L) L) L)) (L := L) (show (k2 : Nat) ≠ k + 11 by omega) (show (k2 : Nat) ≠ k + 12 by omega) (show (k2 : Nat) ≠ k + 13 by omega) (show (k2 : Nat) ≠ k + 14 by omega)) _).trans ((congrFun (x3_copyFrom (I := (i3_copyFrom (k + 3) 4 (k2 + 3) 4 (i8_copyFrom (k + 1) (k2 + 1) I L) L)) (L := L) (show (k2 : Nat) ≠ k + 7 by omega) (show (k2 : Nat) ≠ k + 8 by omega) (show (k2 : Nat) ≠ k + 9 by omega) (show (k2 : Nat) ≠ k + 10 by omega)) _).trans ((congrFun (x3_copyFrom (I := (i8_copyFrom (k + 1) (k2 + 1) I L)) (L := L) (show (k2 : Nat) ≠ k + 3 by omega) (show (k2 : Nat) ≠ k + 4 by omega) (show (k2 : Nat) ≠ k + 5 by omega) (show (k2 : Nat) ≠ k + 6 by omega)) _).trans (congrFun (x8_copyFrom (I := I) (L := L) (show (k2 : Nat) ≠ k + 1 by omega) (show (k2 : Nat) ≠ k + 2 by omega)) _))))))) d6_copyFrom_73 rfl ?_
  refine V_puti (pc1 := 79) (nd_l0 hk) (nd_b0 hk) f6_40 rfl rfl d6_copyFrom_76 rfl ?_
  refine V_aload_n (pc1 := 80) 0 d6_copyFrom_79 rfl rfl ?_
  refine V_aload_n (pc1 := 81) 1 d6_copyFrom_80 rfl rfl ?_
  refine V_geti (pc1 := 84) (nd_l0 hk2) (nd_b0 hk2) f6_70 (fun _ => rfl) ((congrFun (uI_off _ _ _ (show (k2 : Nat) ≠ k by omega)) _).trans ((congrFun (uI_off _ _ _ (show (k2 : Nat) ≠ k by omega)) _).trans ((congrFun (uI_off _ _ _ (show (k2 : Nat) ≠ k by omega)) _).trans ((congrFun (x2_copyFrom (I := (i3_copyFrom (k + 11) 4 (k2 + 11) 4 (i3_copyFrom (k + 7) 6 (k2 + 7) 6 (i3_copyFrom (k + 3) 4 (k2 + 3) 4 (i8_copyFrom (k + 1) (k2 + 1) I L) L) L) L)) (L := L) (show (k2 : Nat) ≠ k + 15 by omega)) _).trans ((congrFun (x3_copyFrom (I := (i3_copyFrom (k + 7) 6 (k2 + 7) 6 (i3_copyFrom (k + 3) 4 (k2 + 3) 4 (i8_copyFrom (k + 1) (k2 + 1) I L) L) L)) (L := L) (show (k2 : Nat) ≠ k + 11 by omega) (show (k2 : Nat) ≠ k + 12 by omega) (show (k2 : Nat) ≠ k + 13 by omega) (show (k2 : Nat) ≠ k + 14 by omega)) _).trans ((congrFun (x3_copyFrom (I := (i3_copyFrom (k + 3) 4 (k2 + 3) 4 (i8_copyFrom (k + 1) (k2 + 1) I L) L)) (L := L) (show (k2 : Nat) ≠ k + 7 by omega) (show (k2 : Nat) ≠ k + 8 by omega) (show (k2 : Nat) ≠ k + 9 by omega) (show (k2 : Nat) ≠ k + 10 by omega)) _).trans ((congrFun (x3_copyFrom (I := (i8_copyFrom (k + 1) (k2 + 1) I L)) (L := L) (show (k2 : Nat) ≠ k + 3 by omega) (show (k2 : Nat) ≠ k + 4 by omega) (show (k2 : Nat) ≠ k + 5 by omega) (show (k2 : Nat) ≠ k + 6 by omega)) _).trans (congrFun (x8_copyFrom (I := I) (L := L) (show (k2 : Nat) ≠ k + 1 by omega) (show (k2 : Nat) ≠ k + 2 by omega)) _)))))))) d6_copyFrom_81 rfl ?_
  refine V_putz (pc1 := 87) (nd_l0 hk) (nd_b0 hk) f6_70 rfl rfl hb.1 d6_copyFrom_84 rfl ?_
  refine V_aload_n (pc1 := 88) 0 d6_copyFrom_87 rfl rfl ?_
  refine V_aload_n (pc1 := 89) 1 d6_copyFrom_88 rfl rfl ?_
  refine V_geti (pc1 := 92) (nd_l0 hk2) (nd_b0 hk2) f6_74 (fun _ => rfl) ((congrFun (uI_off _ _ _ (show (k2 : Nat) ≠ k by omega)) _).trans ((congrFun (uI_off _ _ _ (show (k2 : Nat) ≠ k by omega)) _).trans ((congrFun (uI_off _ _ _ (show (k2 : Nat) ≠ k by omega)) _).trans ((congrFun (uI_off _ _ _ (show (k2 : Nat) ≠ k by omega)) _).trans ((congrFun (x2_copyFrom (I := (i3_copyFrom (k + 11) 4 (k2 + 11) 4 (i3_copyFrom (k + 7) 6 (k2 + 7) 6 (i3_copyFrom (k + 3) 4 (k2 + 3) 4 (i8_copyFrom (k + 1) (k2 + 1) I L) L) L) L)) (L := L) (show (k2 : Nat) ≠ k + 15 by omega)) _).trans ((congrFun (x3_copyFrom (I := (i3_copyFrom (k + 7) 6 (k2 + 7) 6 (i3_copyFrom (k + 3) 4 (k2 + 3) 4 (i8_copyFrom (k + 1) (k2 + 1) I L) L) L)) (L := L) (show (k2 : Nat) ≠ k + 11 by omega) (show (k2 : Nat) ≠ k + 12 by omega) (show (k2 : Nat) ≠ k + 13 by omega) (show (k2 : Nat) ≠ k + 14 by omega)) _).trans ((congrFun (x3_copyFrom (I := (i3_copyFrom (k + 3) 4 (k2 + 3) 4 (i8_copyFrom (k + 1) (k2 + 1) I L) L)) (L := L) (show (k2 : Nat) ≠ k + 7 by omega) (show (k2 : Nat) ≠ k + 8 by omega) (show (k2 : Nat) ≠ k + 9 by omega) (show (k2 : Nat) ≠ k + 10 by omega)) _).trans ((congrFun (x3_copyFrom (I := (i8_copyFrom (k + 1) (k2 + 1) I L)) (L := L) (show (k2 : Nat) ≠ k + 3 by omega) (show (k2 : Nat) ≠ k + 4 by omega) (show (k2 : Nat) ≠ k + 5 by omega) (show (k2 : Nat) ≠ k + 6 by omega)) _).trans (congrFun (x8_copyFrom (I := I) (L := L) (show (k2 : Nat) ≠ k + 1 by omega) (show (k2 : Nat) ≠ k + 2 by omega)) _))))))))) d6_copyFrom_89 rfl ?_
  refine V_puti (pc1 := 95) (nd_l0 hk) (nd_b0 hk) f6_74 rfl rfl d6_copyFrom_92 rfl ?_
  refine V_aload_n (pc1 := 96) 0 d6_copyFrom_95 rfl rfl ?_
  refine V_aload_n (pc1 := 97) 1 d6_copyFrom_96 rfl rfl ?_
  refine V_geti (pc1 := 100) (nd_l0 hk2) (nd_b0 hk2) f6_77 (fun _ => rfl) ((congrFun (uI_off _ _ _ (show (k2 : Nat) ≠ k by omega)) _).trans ((congrFun (uI_off _ _ _ (show (k2 : Nat) ≠ k by omega)) _).trans ((congrFun (uI_off _ _ _ (show (k2 : Nat) ≠ k by omega)) _).trans ((congrFun (uI_off _ _ _ (show (k2 : Nat) ≠ k by omega)) _).trans ((congrFun (uI_off _ _ _ (show (k2 : Nat) ≠ k by omega)) _).trans ((congrFun (x2_copyFrom (I := (i3_copyFrom (k + 11) 4 (k2 + 11) 4 (i3_copyFrom (k + 7) 6 (k2 + 7) 6 (i3_copyFrom (k + 3) 4 (k2 + 3) 4 (i8_copyFrom (k + 1) (k2 + 1) I L) L) L) L)) (L := L) (show (k2 : Nat) ≠ k + 15 by omega)) _).trans ((congrFun (x3_copyFrom (I := (i3_copyFrom (k + 7) 6 (k2 + 7) 6 (i3_copyFrom (k + 3) 4 (k2 + 3) 4 (i8_copyFrom (k + 1) (k2 + 1) I L) L) L)) (L := L) (show (k2 : Nat) ≠ k + 11 by omega) (show (k2 : Nat) ≠ k + 12 by omega) (show (k2 : Nat) ≠ k + 13 by omega) (show (k2 : Nat) ≠ k + 14 by omega)) _).trans ((congrFun (x3_copyFrom (I := (i3_copyFrom (k + 3) 4 (k2 + 3) 4 (i8_copyFrom (k + 1) (k2 + 1) I L) L)) (L := L) (show (k2 : Nat) ≠ k + 7 by omega) (show (k2 : Nat) ≠ k + 8 by omega) (show (k2 : Nat) ≠ k + 9 by omega) (show (k2 : Nat) ≠ k + 10 by omega)) _).trans ((congrFun (x3_copyFrom (I := (i8_copyFrom (k + 1) (k2 + 1) I L)) (L := L) (show (k2 : Nat) ≠ k + 3 by omega) (show (k2 : Nat) ≠ k + 4 by omega) (show (k2 : Nat) ≠ k + 5 by omega) (show (k2 : Nat) ≠ k + 6 by omega)) _).trans (congrFun (x8_copyFrom (I := I) (L := L) (show (k2 : Nat) ≠ k + 1 by omega) (show (k2 : Nat) ≠ k + 2 by omega)) _)))))))))) d6_copyFrom_97 rfl ?_
  refine V_puti (pc1 := 103) (nd_l0 hk) (nd_b0 hk) f6_77 rfl rfl d6_copyFrom_100 rfl ?_
  refine V_aload_n (pc1 := 104) 0 d6_copyFrom_103 rfl rfl ?_
  refine V_aload_n (pc1 := 105) 1 d6_copyFrom_104 rfl rfl ?_
  refine V_geti (pc1 := 108) (nd_l0 hk2) (nd_b0 hk2) f6_80 (fun _ => rfl) ((congrFun (uI_off _ _ _ (show (k2 : Nat) ≠ k by omega)) _).trans ((congrFun (uI_off _ _ _ (show (k2 : Nat) ≠ k by omega)) _).trans ((congrFun (uI_off _ _ _ (show (k2 : Nat) ≠ k by omega)) _).trans ((congrFun (uI_off _ _ _ (show (k2 : Nat) ≠ k by omega)) _).trans ((congrFun (uI_off _ _ _ (show (k2 : Nat) ≠ k by omega)) _).trans ((congrFun (uI_off _ _ _ (show (k2 : Nat) ≠ k by omega)) _).trans ((congrFun (x2_copyFrom (I := (i3_copyFrom (k + 11) 4 (k2 + 11) 4 (i3_copyFrom (k + 7) 6 (k2 + 7) 6 (i3_copyFrom (k + 3) 4 (k2 + 3) 4 (i8_copyFrom (k + 1) (k2 + 1) I L) L) L) L)) (L := L) (show (k2 : Nat) ≠ k + 15 by omega)) _).trans ((congrFun (x3_copyFrom (I := (i3_copyFrom (k + 7) 6 (k2 + 7) 6 (i3_copyFrom (k + 3) 4 (k2 + 3) 4 (i8_copyFrom (k + 1) (k2 + 1) I L) L) L)) (L := L) (show (k2 : Nat) ≠ k + 11 by omega) (show (k2 : Nat) ≠ k + 12 by omega) (show (k2 : Nat) ≠ k + 13 by omega) (show (k2 : Nat) ≠ k + 14 by omega)) _).trans ((congrFun (x3_copyFrom (I := (i3_copyFrom (k + 3) 4 (k2 + 3) 4 (i8_copyFrom (k + 1) (k2 + 1) I L) L)) (L := L) (show (k2 : Nat) ≠ k + 7 by omega) (show (k2 : Nat) ≠ k + 8 by omega) (show (k2 : Nat) ≠ k + 9 by omega) (show (k2 : Nat) ≠ k + 10 by omega)) _).trans ((congrFun (x3_copyFrom (I := (i8_copyFrom (k + 1) (k2 + 1) I L)) (L := L) (show (k2 : Nat) ≠ k + 3 by omega) (show (k2 : Nat) ≠ k + 4 by omega) (show (k2 : Nat) ≠ k + 5 by omega) (show (k2 : Nat) ≠ k + 6 by omega)) _).trans (congrFun (x8_copyFrom (I := I) (L := L) (show (k2 : Nat) ≠ k + 1 by omega) (show (k2 : Nat) ≠ k + 2 by omega)) _))))))))))) d6_copyFrom_105 rfl ?_
  refine V_puti (pc1 := 111) (nd_l0 hk) (nd_b0 hk) f6_80 rfl rfl d6_copyFrom_108 rfl ?_
  refine V_aload_n (pc1 := 112) 0 d6_copyFrom_111 rfl rfl ?_
  refine V_aload_n (pc1 := 113) 1 d6_copyFrom_112 rfl rfl ?_
  refine V_geti (pc1 := 116) (nd_l0 hk2) (nd_b0 hk2) f6_83 (fun _ => rfl) ((congrFun (uI_off _ _ _ (show (k2 : Nat) ≠ k by omega)) _).trans ((congrFun (uI_off _ _ _ (show (k2 : Nat) ≠ k by omega)) _).trans ((congrFun (uI_off _ _ _ (show (k2 : Nat) ≠ k by omega)) _).trans ((congrFun (uI_off _ _ _ (show (k2 : Nat) ≠ k by omega)) _).trans ((congrFun (uI_off _ _ _ (show (k2 : Nat) ≠ k by omega)) _).trans ((congrFun (uI_off _ _ _ (show (k2 : Nat) ≠ k by omega)) _).trans ((congrFun (uI_off _ _ _ (show (k2 : Nat) ≠ k by omega)) _).trans ((congrFun (x2_copyFrom (I := (i3_copyFrom (k + 11) 4 (k2 + 11) 4 (i3_copyFrom (k + 7) 6 (k2 + 7) 6 (i3_copyFrom (k + 3) 4 (k2 + 3) 4 (i8_copyFrom (k + 1) (k2 + 1) I L) L) L) L)) (L := L) (show (k2 : Nat) ≠ k + 15 by omega)) _).trans ((congrFun (x3_copyFrom (I := (i3_copyFrom (k + 7) 6 (k2 + 7) 6 (i3_copyFrom (k + 3) 4 (k2 + 3) 4 (i8_copyFrom (k + 1) (k2 + 1) I L) L) L)) (L := L) (show (k2 : Nat) ≠ k + 11 by omega) (show (k2 : Nat) ≠ k + 12 by omega) (show (k2 : Nat) ≠ k + 13 by omega) (show (k2 : Nat) ≠ k + 14 by omega)) _).trans ((congrFun (x3_copyFrom (I := (i3_copyFrom (k + 3) 4 (k2 + 3) 4 (i8_copyFrom (k + 1) (k2 + 1) I L) L)) (L := L) (show (k2 : Nat) ≠ k + 7 by omega) (show (k2 : Nat) ≠ k + 8 by omega) (show (k2 : Nat) ≠ k + 9 by omega) (show (k2 : Nat) ≠ k + 10 by omega)) _).trans ((congrFun (x3_copyFrom (I := (i8_copyFrom (k + 1) (k2 + 1) I L)) (L := L) (show (k2 : Nat) ≠ k + 3 by omega) (show (k2 : Nat) ≠ k + 4 by omega) (show (k2 : Nat) ≠ k + 5 by omega) (show (k2 : Nat) ≠ k + 6 by omega)) _).trans (congrFun (x8_copyFrom (I := I) (L := L) (show (k2 : Nat) ≠ k + 1 by omega) (show (k2 : Nat) ≠ k + 2 by omega)) _)))))))))))) d6_copyFrom_113 rfl ?_
  refine V_puti (pc1 := 119) (nd_l0 hk) (nd_b0 hk) f6_83 rfl rfl d6_copyFrom_116 rfl ?_
  refine V_aload_n (pc1 := 120) 0 d6_copyFrom_119 rfl rfl ?_
  refine V_aload_n (pc1 := 121) 1 d6_copyFrom_120 rfl rfl ?_
  refine V_geti (pc1 := 124) (nd_l0 hk2) (nd_b0 hk2) f6_86 (fun _ => rfl) ((congrFun (uI_off _ _ _ (show (k2 : Nat) ≠ k by omega)) _).trans ((congrFun (uI_off _ _ _ (show (k2 : Nat) ≠ k by omega)) _).trans ((congrFun (uI_off _ _ _ (show (k2 : Nat) ≠ k by omega)) _).trans ((congrFun (uI_off _ _ _ (show (k2 : Nat) ≠ k by omega)) _).trans ((congrFun (uI_off _ _ _ (show (k2 : Nat) ≠ k by omega)) _).trans ((congrFun (uI_off _ _ _ (show (k2 : Nat) ≠ k by omega)) _).trans ((congrFun (uI_off _ _ _ (show (k2 : Nat) ≠ k by omega)) _).trans ((congrFun (uI_off _ _ _ (show (k2 : Nat) ≠ k by omega)) _).trans ((congrFun (x2_copyFrom (I := (i3_copyFrom (k + 11) 4 (k2 + 11) 4 (i3_copyFrom (k + 7) 6 (k2 + 7) 6 (i3_copyFrom (k + 3) 4 (k2 + 3) 4 (i8_copyFrom (k + 1) (k2 + 1) I L) L) L) L)) (L := L) (show (k2 : Nat) ≠ k + 15 by omega)) _).trans ((congrFun (x3_copyFrom (I := (i3_copyFrom (k + 7) 6 (k2 + 7) 6 (i3_copyFrom (k + 3) 4 (k2 + 3) 4 (i8_copyFrom (k + 1) (k2 + 1) I L) L) L)) (L := L) (show (k2 : Nat) ≠ k + 11 by omega) (show (k2 : Nat) ≠ k + 12 by omega) (show (k2 : Nat) ≠ k + 13 by omega) (show (k2 : Nat) ≠ k + 14 by omega)) _).trans ((congrFun (x3_copyFrom (I := (i3_copyFrom (k + 3) 4 (k2 + 3) 4 (i8_copyFrom (k + 1) (k2 + 1) I L) L)) (L := L) (show (k2 : Nat) ≠ k + 7 by omega) (show (k2 : Nat) ≠ k + 8 by omega) (show (k2 : Nat) ≠ k + 9 by omega) (show (k2 : Nat) ≠ k + 10 by omega)) _).trans ((congrFun (x3_copyFrom (I := (i8_copyFrom (k + 1) (k2 + 1) I L)) (L := L) (show (k2 : Nat) ≠ k + 3 by omega) (show (k2 : Nat) ≠ k + 4 by omega) (show (k2 : Nat) ≠ k + 5 by omega) (show (k2 : Nat) ≠ k + 6 by omega)) _).trans (congrFun (x8_copyFrom (I := I) (L := L) (show (k2 : Nat) ≠ k + 1 by omega) (show (k2 : Nat) ≠ k + 2 by omega)) _))))))))))))) d6_copyFrom_121 rfl ?_
  refine V_putz (pc1 := 127) (nd_l0 hk) (nd_b0 hk) f6_86 rfl rfl hb.2.1 d6_copyFrom_124 rfl ?_
  refine V_aload_n (pc1 := 128) 0 d6_copyFrom_127 rfl rfl ?_
  refine V_aload_n (pc1 := 129) 1 d6_copyFrom_128 rfl rfl ?_
  refine V_geti (pc1 := 132) (nd_l0 hk2) (nd_b0 hk2) f6_89 (fun _ => rfl) ((congrFun (uI_off _ _ _ (show (k2 : Nat) ≠ k by omega)) _).trans ((congrFun (uI_off _ _ _ (show (k2 : Nat) ≠ k by omega)) _).trans ((congrFun (uI_off _ _ _ (show (k2 : Nat) ≠ k by omega)) _).trans ((congrFun (uI_off _ _ _ (show (k2 : Nat) ≠ k by omega)) _).trans ((congrFun (uI_off _ _ _ (show (k2 : Nat) ≠ k by omega)) _).trans ((congrFun (uI_off _ _ _ (show (k2 : Nat) ≠ k by omega)) _).trans ((congrFun (uI_off _ _ _ (show (k2 : Nat) ≠ k by omega)) _).trans ((congrFun (uI_off _ _ _ (show (k2 : Nat) ≠ k by omega)) _).trans ((congrFun (uI_off _ _ _ (show (k2 : Nat) ≠ k by omega)) _).trans ((congrFun (x2_copyFrom (I := (i3_copyFrom (k + 11) 4 (k2 + 11) 4 (i3_copyFrom (k + 7) 6 (k2 + 7) 6 (i3_copyFrom (k + 3) 4 (k2 + 3) 4 (i8_copyFrom (k + 1) (k2 + 1) I L) L) L) L)) (L := L) (show (k2 : Nat) ≠ k + 15 by omega)) _).trans ((congrFun (x3_copyFrom (I := (i3_copyFrom (k + 7) 6 (k2 + 7) 6 (i3_copyFrom (k + 3) 4 (k2 + 3) 4 (i8_copyFrom (k + 1) (k2 + 1) I L) L) L)) (L := L) (show (k2 : Nat) ≠ k + 11 by omega) (show (k2 : Nat) ≠ k + 12 by omega) (show (k2 : Nat) ≠ k + 13 by omega) (show (k2 : Nat) ≠ k + 14 by omega)) _).trans ((congrFun (x3_copyFrom (I := (i3_copyFrom (k + 3) 4 (k2 + 3) 4 (i8_copyFrom (k + 1) (k2 + 1) I L) L)) (L := L) (show (k2 : Nat) ≠ k + 7 by omega) (show (k2 : Nat) ≠ k + 8 by omega) (show (k2 : Nat) ≠ k + 9 by omega) (show (k2 : Nat) ≠ k + 10 by omega)) _).trans ((congrFun (x3_copyFrom (I := (i8_copyFrom (k + 1) (k2 + 1) I L)) (L := L) (show (k2 : Nat) ≠ k + 3 by omega) (show (k2 : Nat) ≠ k + 4 by omega) (show (k2 : Nat) ≠ k + 5 by omega) (show (k2 : Nat) ≠ k + 6 by omega)) _).trans (congrFun (x8_copyFrom (I := I) (L := L) (show (k2 : Nat) ≠ k + 1 by omega) (show (k2 : Nat) ≠ k + 2 by omega)) _)))))))))))))) d6_copyFrom_129 rfl ?_
  refine V_putz (pc1 := 135) (nd_l0 hk) (nd_b0 hk) f6_89 rfl rfl hb.2.2 d6_copyFrom_132 rfl ?_
  refine V_aload_n (pc1 := 136) 0 d6_copyFrom_135 rfl rfl ?_
  refine V_aload_n (pc1 := 137) 1 d6_copyFrom_136 rfl rfl ?_
  refine V_geti (pc1 := 140) (nd_l0 hk2) (nd_b0 hk2) f6_44 (fun _ => rfl) ((congrFun (uI_off _ _ _ (show (k2 : Nat) ≠ k by omega)) _).trans ((congrFun (uI_off _ _ _ (show (k2 : Nat) ≠ k by omega)) _).trans ((congrFun (uI_off _ _ _ (show (k2 : Nat) ≠ k by omega)) _).trans ((congrFun (uI_off _ _ _ (show (k2 : Nat) ≠ k by omega)) _).trans ((congrFun (uI_off _ _ _ (show (k2 : Nat) ≠ k by omega)) _).trans ((congrFun (uI_off _ _ _ (show (k2 : Nat) ≠ k by omega)) _).trans ((congrFun (uI_off _ _ _ (show (k2 : Nat) ≠ k by omega)) _).trans ((congrFun (uI_off _ _ _ (show (k2 : Nat) ≠ k by omega)) _).trans ((congrFun (uI_off _ _ _ (show (k2 : Nat) ≠ k by omega)) _).trans ((congrFun (uI_off _ _ _ (show (k2 : Nat) ≠ k by omega)) _).trans ((congrFun (x2_copyFrom (I := (i3_copyFrom (k + 11) 4 (k2 + 11) 4 (i3_copyFrom (k + 7) 6 (k2 + 7) 6 (i3_copyFrom (k + 3) 4 (k2 + 3) 4 (i8_copyFrom (k + 1) (k2 + 1) I L) L) L) L)) (L := L) (show (k2 : Nat) ≠ k + 15 by omega)) _).trans ((congrFun (x3_copyFrom (I := (i3_copyFrom (k + 7) 6 (k2 + 7) 6 (i3_copyFrom (k + 3) 4 (k2 + 3) 4 (i8_copyFrom (k + 1) (k2 + 1) I L) L) L)) (L := L) (show (k2 : Nat) ≠ k + 11 by omega) (show (k2 : Nat) ≠ k + 12 by omega) (show (k2 : Nat) ≠ k + 13 by omega) (show (k2 : Nat) ≠ k + 14 by omega)) _).trans ((congrFun (x3_copyFrom (I := (i3_copyFrom (k + 3) 4 (k2 + 3) 4 (i8_copyFrom (k + 1) (k2 + 1) I L) L)) (L := L) (show (k2 : Nat) ≠ k + 7 by omega) (show (k2 : Nat) ≠ k + 8 by omega) (show (k2 : Nat) ≠ k + 9 by omega) (show (k2 : Nat) ≠ k + 10 by omega)) _).trans ((congrFun (x3_copyFrom (I := (i8_copyFrom (k + 1) (k2 + 1) I L)) (L := L) (show (k2 : Nat) ≠ k + 3 by omega) (show (k2 : Nat) ≠ k + 4 by omega) (show (k2 : Nat) ≠ k + 5 by omega) (show (k2 : Nat) ≠ k + 6 by omega)) _).trans (congrFun (x8_copyFrom (I := I) (L := L) (show (k2 : Nat) ≠ k + 1 by omega) (show (k2 : Nat) ≠ k + 2 by omega)) _))))))))))))))) d6_copyFrom_137 rfl ?_
  refine V_puti (pc1 := 143) (nd_l0 hk) (nd_b0 hk) f6_44 rfl rfl d6_copyFrom_140 rfl ?_
  refine V_aload_n (pc1 := 144) 0 d6_copyFrom_143 rfl rfl ?_
  refine V_aload_n (pc1 := 145) 1 d6_copyFrom_144 rfl rfl ?_
  refine V_geti (pc1 := 148) (nd_l0 hk2) (nd_b0 hk2) f6_47 (fun _ => rfl) ((congrFun (uI_off _ _ _ (show (k2 : Nat) ≠ k by omega)) _).trans ((congrFun (uI_off _ _ _ (show (k2 : Nat) ≠ k by omega)) _).trans ((congrFun (uI_off _ _ _ (show (k2 : Nat) ≠ k by omega)) _).trans ((congrFun (uI_off _ _ _ (show (k2 : Nat) ≠ k by omega)) _).trans ((congrFun (uI_off _ _ _ (show (k2 : Nat) ≠ k by omega)) _).trans ((congrFun (uI_off _ _ _ (show (k2 : Nat) ≠ k by omega)) _).trans ((congrFun (uI_off _ _ _ (show (k2 : Nat) ≠ k by omega)) _).trans ((congrFun (uI_off _ _ _ (show (k2 : Nat) ≠ k by omega)) _).trans ((congrFun (uI_off _ _ _ (show (k2 : Nat) ≠ k by omega)) _).trans ((congrFun (uI_off _ _ _ (show (k2 : Nat) ≠ k by omega)) _).trans ((congrFun (uI_off _ _ _ (show (k2 : Nat) ≠ k by omega)) _).trans ((congrFun (x2_copyFrom (I := (i3_copyFrom (k + 11) 4 (k2 + 11) 4 (i3_copyFrom (k + 7) 6 (k2 + 7) 6 (i3_copyFrom (k + 3) 4 (k2 + 3) 4 (i8_copyFrom (k + 1) (k2 + 1) I L) L) L) L)) (L := L) (show (k2 : Nat) ≠ k + 15 by omega)) _).trans ((congrFun (x3_copyFrom (I := (i3_copyFrom (k + 7) 6 (k2 + 7) 6 (i3_copyFrom (k + 3) 4 (k2 + 3) 4 (i8_copyFrom (k + 1) (k2 + 1) I L) L) L)) (L := L) (show (k2 : Nat) ≠ k + 11 by omega) (show (k2 : Nat) ≠ k + 12 by omega) (show (k2 : Nat) ≠ k + 13 by omega) (show (k2 : Nat) ≠ k + 14 by omega)) _).trans ((congrFun (x3_copyFrom (I := (i3_copyFrom (k + 3) 4 (k2 + 3) 4 (i8_copyFrom (k + 1) (k2 + 1) I L) L)) (L := L) (show (k2 : Nat) ≠ k + 7 by omega) (show (k2 : Nat) ≠ k + 8 by omega) (show (k2 : Nat) ≠ k + 9 by omega) (show (k2 : Nat) ≠ k + 10 by omega)) _).trans ((congrFun (x3_copyFrom (I := (i8_copyFrom (k + 1) (k2 + 1) I L)) (L := L) (show (k2 : Nat) ≠ k + 3 by omega) (show (k2 : Nat) ≠ k + 4 by omega) (show (k2 : Nat) ≠ k + 5 by omega) (show (k2 : Nat) ≠ k + 6 by omega)) _).trans (congrFun (x8_copyFrom (I := I) (L := L) (show (k2 : Nat) ≠ k + 1 by omega) (show (k2 : Nat) ≠ k + 2 by omega)) _)))))))))))))))) d6_copyFrom_145 rfl ?_
  refine V_puti (pc1 := 151) (nd_l0 hk) (nd_b0 hk) f6_47 rfl rfl d6_copyFrom_148 rfl ?_
  refine V_aload_n (pc1 := 152) 0 d6_copyFrom_151 rfl rfl ?_
  refine V_aload_n (pc1 := 153) 1 d6_copyFrom_152 rfl rfl ?_
  refine V_getl (pc1 := 156) (nd_l0 hk2) (nd_b0 hk2) f6_92 (fun _ => rfl) (congrFun (y2_copyFrom (I := (i3_copyFrom (k + 11) 4 (k2 + 11) 4 (i3_copyFrom (k + 7) 6 (k2 + 7) 6 (i3_copyFrom (k + 3) 4 (k2 + 3) 4 (i8_copyFrom (k + 1) (k2 + 1) I L) L) L) L)) (L := L) (show (k2 : Nat) ≠ k + 15 by omega)) _) d6_copyFrom_153 rfl ?_
  refine V_putl (pc1 := 159) (nd_l0 hk) (nd_b0 hk) f6_92 rfl rfl d6_copyFrom_156 rfl ?_
  refine V_vret rfl d6_copyFrom_159 (Nat.zero_le _) (Nat.zero_le _) ?_
  have hq2 := hq
  simp only [i6_copyFrom, m6_copyFrom] at hq2
  exact hq2
theorem w6_copyFrom (g : GlT) {k : Nat} {l : Nat} {k2 : Nat} {l2 : Nat} (hk : okN k l) (hk2 : okN k2 l2) (hap : k + 16 ≤ k2 ∨ k2 + 16 ≤ k) (I : Nat → Nat → Int32) (L : Nat → Nat → Int64) (hv : nV k2 I) (hb : nB k2 I) : Call g (k6_copyFrom, 2, 0, 0) [.ref (xA g k), .ref (xA g k2)] (I, L, R0, 305) (Qv (i6_copyFrom k l k2 l2 I L) (m6_copyFrom k l k2 l2 I L)) := Call.of (by decide) (Nat.le_of_ble_eq_true rfl) rfl (v6_copyFrom g hk hk2  hap I L hv hb _ (And.intro rfl rfl))
theorem x6_copyFrom {k : Nat} {l : Nat} {k2 : Nat} {l2 : Nat} {I : Nat → Nat → Int32} {L : Nat → Nat → Int64} {aa : Nat} (h0 : aa ≠ k) (h1 : aa ≠ k + 1) (h2 : aa ≠ k + 2) (h3 : aa ≠ k + 3) (h4 : aa ≠ k + 4) (h5 : aa ≠ k + 5) (h6 : aa ≠ k + 6) (h7 : aa ≠ k + 7) (h8 : aa ≠ k + 8) (h9 : aa ≠ k + 9) (h10 : aa ≠ k + 10) (h11 : aa ≠ k + 11) (h12 : aa ≠ k + 12) (h13 : aa ≠ k + 13) (h14 : aa ≠ k + 14) (h15 : aa ≠ k + 15) : i6_copyFrom k l k2 l2 I L aa = I aa := by
  first | (simp only [i6_copyFrom]; done) | (simp only [i6_copyFrom]; (try (repeat' split)) <;> first | rfl | (simp [uI_off, h0, h1, h2, h3, h4, h5, h6, h7, h8, h9, h10, h11, h12, h13, h14, h15, x2_copyFrom, x3_copyFrom, x8_copyFrom]; done))
theorem y6_copyFrom {k : Nat} {l : Nat} {k2 : Nat} {l2 : Nat} {I : Nat → Nat → Int32} {L : Nat → Nat → Int64} {aa : Nat} (h0 : aa ≠ k) (h1 : aa ≠ k + 15) : m6_copyFrom k l k2 l2 I L aa = L aa := by
  first | (simp only [m6_copyFrom]; done) | (simp only [m6_copyFrom]; (try (repeat' split)) <;> first | rfl | (simp [uL_off, h0, h1, y2_copyFrom]; done))

def r0_countAttached_4 (k : Nat) : Nat → Nat → Int32 → (Nat → Nat → Int32) → (Nat → Nat → Int64) → Int32
  | 0, i, z, I, L => z
  | n + 1, i, z, I, L => r0_countAttached_4 k n (i + 1) (if I ((k + 3 + 16 * i)) 8 = 0 then z else z + 1) I L
set_option maxRecDepth 4000 in
theorem t0_countAttached_4 (g : GlT) {k : Nat} (hk : okB k)  : ∀ (n i : Nat) (z : Int32) (I : Nat → Nat → Int32) (L : Nat → Nat → Int64), (hn : i + n = 4) → ∀ (Q : Option Value → MemT → Prop), Q (some (.int (r0_countAttached_4 k n i z I L))) (I, L, R0, 305) → V g (k0_countAttached, 1, 0, 0) 0 0 4 [(0, .ref (xA g k)), (1, .int z), (2, .int (nI i))] [] (I, L, R0, 305) Q := by
  intro n
  induction n with
  | zero =>
    intro i z I L hn Q hq
    refine V_iload_n (pc1 := 5) 2 d0_countAttached_4 rfl rfl ?_
    refine V_iconst (pc1 := 6) d0_countAttached_5 vc_4 rfl ?_
    refine V_icmp_ge (tgt := 30) (pc1 := 9) d0_countAttached_6 (by decide) rfl (fun _ => ?_) (fun h1 => absurd (by rw [show i = 4 by omega]; decide) h1)
    refine V_iload_n (pc1 := 31) 1 d0_countAttached_30 rfl rfl ?_
    refine V_iret rfl d0_countAttached_31 (Nat.zero_le _) (Nat.zero_le _) ?_
    have hq2 := hq
    simp only [r0_countAttached_4] at hq2
    exact hq2
  | succ n ih =>
    intro i z I L hn Q hq
    refine V_iload_n (pc1 := 5) 2 d0_countAttached_4 rfl rfl ?_
    refine V_iconst (pc1 := 6) d0_countAttached_5 vc_4 rfl ?_
    refine V_icmp_ge (tgt := 30) (pc1 := 9) d0_countAttached_6 (by decide) rfl (fun h1 => absurd h1 (nI_ge (b := 4) (by omega) (by omega))) (fun _ => ?_)
    refine V_aload_n (pc1 := 10) 0 d0_countAttached_9 rfl rfl ?_
    refine V_getr (pc1 := 13) (bs_l0 hk) (bs_b0 hk) f0_20 (fun _ => rfl) (bs_r0_1 hk) d0_countAttached_10 rfl ?_
    refine V_iload_n (pc1 := 14) 2 d0_countAttached_13 rfl rfl ?_
    refine V_aald (pc1 := 15) i ((k + 3 + 16 * i)) (bs_l2 hk) (Or.inr rfl) (bs_b2 hk) rfl (by omega) (bs_ri hk (by omega)) d0_countAttached_14 rfl ?_
    refine V_geti (pc1 := 18) (nd_l0 (bs_Ni hk (by omega))) (nd_b0 (bs_Ni hk (by omega))) f0_76 (fun _ => rfl) rfl d0_countAttached_15 rfl ?_
    have key3 : ∀ (z24_1 : Int32), z24_1 = (if I ((k + 3 + 16 * i)) 8 = 0 then z else z + 1) → ∀ (lv : List (Nat × Value)), lvsub [(0, .ref (xA g k)), (1, .int z24_1), (2, .int (nI i))] lv → V g (k0_countAttached, 1, 0, 0) 0 0 24 lv [] (I, L, R0, 305) Q := by
      intro z24_1 ez24_1
      subst ez24_1
      intro lv hlv
      refine V_lv hlv ?_
      refine V_iinc (pc1 := 27) 2 (v := nI (i + 1)) d0_countAttached_24 rfl (nI_1 _) (Nat.le_of_ble_eq_true rfl) rfl rfl ?_
      refine V_goto (tgt := 4) d0_countAttached_27 (by decide) ?_
      refine V_lv (lv1 := [(0, .ref (xA g k)), (1, .int (if I ((k + 3 + 16 * i)) 8 = 0 then z else z + 1)), (2, .int (nI (i + 1)))]) (lvsub_p [1, 2, 0] rfl) ?_
      have hq2 := hq
      simp only [r0_countAttached_4] at hq2
      exact ih (i + 1) (if I ((k + 3 + 16 * i)) 8 = 0 then z else z + 1) I L (by omega) Q hq2
    refine V_if_eq (tgt := 24) (pc1 := 21) d0_countAttached_18 (by decide) rfl (fun h2 => ?_) (fun h2 => ?_)
    · skip
      exact key3 _ (by first | rfl | (simp only [if_pos h2]; done) | (simp only [if_pos h2]; rfl)) _ (lvsub_p [0, 1, 2] rfl)
    · skip
      refine V_iinc (pc1 := 24) 1 (v := z + 1) d0_countAttached_21 rfl rfl (Nat.le_of_ble_eq_true rfl) rfl rfl ?_
      exact key3 _ (by first | rfl | (simp only [if_neg h2]; done) | (simp only [if_neg h2]; rfl)) _ (lvsub_p [1, 0, 2] rfl)
def r0_countAttached (k : Nat) (I : Nat → Nat → Int32) (L : Nat → Nat → Int64) : Int32 := r0_countAttached_4 k 4 0 0 I L
set_option maxRecDepth 4000 in
theorem v0_countAttached (g : GlT) {k : Nat} (hk : okB k) (I : Nat → Nat → Int32) (L : Nat → Nat → Int64) (Q : Option Value → MemT → Prop) (hq : Q (some (.int (r0_countAttached k I L))) (I, L, R0, 305)) : V g (k0_countAttached, 1, 0, 0) 0 0 0 [(0, .ref (xA g k))] [] (I, L, R0, 305) Q := by
  refine V_iconst (pc1 := 1) d0_countAttached_0 vc_0 rfl ?_
  refine V_istore_n (pc1 := 2) d0_countAttached_1 (Nat.le_of_ble_eq_true rfl) rfl rfl ?_
  refine V_iconst (pc1 := 3) d0_countAttached_2 vc_0 rfl ?_
  refine V_istore_n (pc1 := 4) d0_countAttached_3 (Nat.le_of_ble_eq_true rfl) rfl rfl ?_
  refine V_lv (lv1 := [(0, .ref (xA g k)), (1, .int 0), (2, .int (nI 0))]) (lvsub_p [2, 1, 0] rfl) ?_
  have hq2 := hq
  simp only [r0_countAttached] at hq2
  exact t0_countAttached_4 g hk   4 0 0 I L rfl Q hq2
theorem w0_countAttached (g : GlT) {k : Nat} (hk : okB k) (I : Nat → Nat → Int32) (L : Nat → Nat → Int64) : Call g (k0_countAttached, 1, 0, 0) [.ref (xA g k)] (I, L, R0, 305) (Qi (r0_countAttached k I L) (I) L) := Call.of (by decide) (Nat.le_of_ble_eq_true rfl) rfl (v0_countAttached g hk   I L  _ (And.intro rfl rfl))

def r0_countSent_4 (k : Nat) : Nat → Nat → Int32 → (Nat → Nat → Int32) → (Nat → Nat → Int64) → Int32
  | 0, i, z, I, L => z
  | n + 1, i, z, I, L => r0_countSent_4 k n (i + 1) (z + (I ((k + 3 + 16 * i) + 1) 4)) I L
set_option maxRecDepth 4000 in
theorem t0_countSent_4 (g : GlT) {k : Nat} (hk : okB k)  : ∀ (n i : Nat) (z : Int32) (I : Nat → Nat → Int32) (L : Nat → Nat → Int64), (hn : i + n = 4) → ∀ (Q : Option Value → MemT → Prop), Q (some (.int (r0_countSent_4 k n i z I L))) (I, L, R0, 305) → V g (k0_countSent, 1, 0, 0) 0 0 4 [(0, .ref (xA g k)), (1, .int z), (2, .int (nI i))] [] (I, L, R0, 305) Q := by
  intro n
  induction n with
  | zero =>
    intro i z I L hn Q hq
    refine V_iload_n (pc1 := 5) 2 d0_countSent_4 rfl rfl ?_
    refine V_iconst (pc1 := 6) d0_countSent_5 vc_4 rfl ?_
    refine V_icmp_ge (tgt := 30) (pc1 := 9) d0_countSent_6 (by decide) rfl (fun _ => ?_) (fun h1 => absurd (by rw [show i = 4 by omega]; decide) h1)
    refine V_iload_n (pc1 := 31) 1 d0_countSent_30 rfl rfl ?_
    refine V_iret rfl d0_countSent_31 (Nat.zero_le _) (Nat.zero_le _) ?_
    have hq2 := hq
    simp only [r0_countSent_4] at hq2
    exact hq2
  | succ n ih =>
    intro i z I L hn Q hq
    refine V_iload_n (pc1 := 5) 2 d0_countSent_4 rfl rfl ?_
    refine V_iconst (pc1 := 6) d0_countSent_5 vc_4 rfl ?_
    refine V_icmp_ge (tgt := 30) (pc1 := 9) d0_countSent_6 (by decide) rfl (fun h1 => absurd h1 (nI_ge (b := 4) (by omega) (by omega))) (fun _ => ?_)
    refine V_iload_n (pc1 := 10) 1 d0_countSent_9 rfl rfl ?_
    refine V_aload_n (pc1 := 11) 0 d0_countSent_10 rfl rfl ?_
    refine V_getr (pc1 := 14) (bs_l0 hk) (bs_b0 hk) f0_20 (fun _ => rfl) (bs_r0_1 hk) d0_countSent_11 rfl ?_
    refine V_iload_n (pc1 := 15) 2 d0_countSent_14 rfl rfl ?_
    refine V_aald (pc1 := 16) i ((k + 3 + 16 * i)) (bs_l2 hk) (Or.inr rfl) (bs_b2 hk) rfl (by omega) (bs_ri hk (by omega)) d0_countSent_15 rfl ?_
    refine V_getr (pc1 := 19) (nd_l0 (bs_Ni hk (by omega))) (nd_b0 (bs_Ni hk (by omega))) f0_91 (fun _ => rfl) (nd_r0_1 (bs_Ni hk (by omega))) d0_countSent_16 rfl ?_
    refine V_geti (pc1 := 22) (nd_l1 (bs_Ni hk (by omega))) (nd_b1 (bs_Ni hk (by omega))) f0_95 (fun _ => rfl) rfl d0_countSent_19 rfl ?_
    refine V_iadd (pc1 := 23) d0_countSent_22 rfl ?_
    refine V_istore_n (pc1 := 24) d0_countSent_23 (Nat.le_of_ble_eq_true rfl) rfl rfl ?_
    refine V_iinc (pc1 := 27) 2 (v := nI (i + 1)) d0_countSent_24 rfl (nI_1 _) (Nat.le_of_ble_eq_true rfl) rfl rfl ?_
    refine V_goto (tgt := 4) d0_countSent_27 (by decide) ?_
    refine V_lv (lv1 := [(0, .ref (xA g k)), (1, .int (z + (I ((k + 3 + 16 * i) + 1) 4))), (2, .int (nI (i + 1)))]) (lvsub_p [2, 1, 0] rfl) ?_
    have hq2 := hq
    simp only [r0_countSent_4] at hq2
    exact ih (i + 1) (z + (I ((k + 3 + 16 * i) + 1) 4)) I L (by omega) Q hq2
def r0_countSent (k : Nat) (I : Nat → Nat → Int32) (L : Nat → Nat → Int64) : Int32 := r0_countSent_4 k 4 0 0 I L
set_option maxRecDepth 4000 in
theorem v0_countSent (g : GlT) {k : Nat} (hk : okB k) (I : Nat → Nat → Int32) (L : Nat → Nat → Int64) (Q : Option Value → MemT → Prop) (hq : Q (some (.int (r0_countSent k I L))) (I, L, R0, 305)) : V g (k0_countSent, 1, 0, 0) 0 0 0 [(0, .ref (xA g k))] [] (I, L, R0, 305) Q := by
  refine V_iconst (pc1 := 1) d0_countSent_0 vc_0 rfl ?_
  refine V_istore_n (pc1 := 2) d0_countSent_1 (Nat.le_of_ble_eq_true rfl) rfl rfl ?_
  refine V_iconst (pc1 := 3) d0_countSent_2 vc_0 rfl ?_
  refine V_istore_n (pc1 := 4) d0_countSent_3 (Nat.le_of_ble_eq_true rfl) rfl rfl ?_
  refine V_lv (lv1 := [(0, .ref (xA g k)), (1, .int 0), (2, .int (nI 0))]) (lvsub_p [2, 1, 0] rfl) ?_
  have hq2 := hq
  simp only [r0_countSent] at hq2
  exact t0_countSent_4 g hk   4 0 0 I L rfl Q hq2
theorem w0_countSent (g : GlT) {k : Nat} (hk : okB k) (I : Nat → Nat → Int32) (L : Nat → Nat → Int64) : Call g (k0_countSent, 1, 0, 0) [.ref (xA g k)] (I, L, R0, 305) (Qi (r0_countSent k I L) (I) L) := Call.of (by decide) (Nat.le_of_ble_eq_true rfl) rfl (v0_countSent g hk   I L  _ (And.intro rfl rfl))

def r0_levelBefore (k : Nat) (x : Int32) (I : Nat → Nat → Int32) (L : Nat → Nat → Int64) : Int32 := (if x ≤ I k 4 then I (k + 70) ((((I k 4) - x) &&& 255).toNatClampNeg) else (-5))
set_option maxRecDepth 4000 in
theorem v0_levelBefore (g : GlT) {k : Nat} (hk : okB k) (x : Int32) (I : Nat → Nat → Int32) (L : Nat → Nat → Int64) (Q : Option Value → MemT → Prop) (hq : Q (some (.int (r0_levelBefore k x I L))) (I, L, R0, 305)) : V g (k0_levelBefore, 1, 0, 0) 0 0 0 [(0, .ref (xA g k)), (1, .int x)] [] (I, L, R0, 305) Q := by
  refine V_iload_n (pc1 := 1) 1 d0_levelBefore_0 rfl rfl ?_
  refine V_aload_n (pc1 := 2) 0 d0_levelBefore_1 rfl rfl ?_
  refine V_geti (pc1 := 5) (bs_l0 hk) (bs_b0 hk) f0_53 (fun _ => rfl) rfl d0_levelBefore_2 rfl ?_
  have key2 : ∀ (y28_0 : Int32), y28_0 = (if x ≤ I k 4 then I (k + 70) ((((I k 4) - x) &&& 255).toNatClampNeg) else (-5)) → ∀ (lv : List (Nat × Value)), lvsub [(0, .ref (xA g k)), (1, .int x)] lv → V g (k0_levelBefore, 1, 0, 0) 0 0 28 lv [.int y28_0] (I, L, R0, 305) Q := by
    intro y28_0 ey28_0
    subst ey28_0
    intro lv hlv
    refine V_lv hlv ?_
    refine V_iret rfl d0_levelBefore_28 (Nat.zero_le _) (Nat.zero_le _) ?_
    have hq2 := hq
    simp only [r0_levelBefore] at hq2
    exact hq2
  refine V_icmp_le (tgt := 13) (pc1 := 8) d0_levelBefore_5 (by decide) rfl (fun h1 => ?_) (fun h1 => ?_)
  · skip
    refine V_aload_n (pc1 := 14) 0 d0_levelBefore_13 rfl rfl ?_
    refine V_getr (pc1 := 17) (bs_l0 hk) (bs_b0 hk) f0_34 (fun _ => rfl) (bs_r0_3 hk) d0_levelBefore_14 rfl ?_
    refine V_aload_n (pc1 := 18) 0 d0_levelBefore_17 rfl rfl ?_
    refine V_geti (pc1 := 21) (bs_l0 hk) (bs_b0 hk) f0_53 (fun _ => rfl) rfl d0_levelBefore_18 rfl ?_
    refine V_iload_n (pc1 := 22) 1 d0_levelBefore_21 rfl rfl ?_
    refine V_isub (pc1 := 23) d0_levelBefore_22 rfl ?_
    refine V_sipush (pc1 := 26) d0_levelBefore_23 vs_255 rfl ?_
    refine V_iand (pc1 := 27) d0_levelBefore_26 rfl ?_
    refine V_iald2 (pc1 := 28) ((((I k 4) - x) &&& 255).toNatClampNeg) (bs_l70 hk) (bs_b70 hk) (and255 _).1 (and255 _).2 rfl d0_levelBefore_27 rfl ?_
    exact key2 _ (by first | rfl | (simp only [if_pos h1]; done) | (simp only [if_pos h1]; rfl)) _ (lvsub_p [0, 1] rfl)
  · skip
    refine V_bipush (pc1 := 10) d0_levelBefore_8 vb_m5 rfl ?_
    refine V_goto (tgt := 28) d0_levelBefore_10 (by decide) ?_
    exact key2 _ (by first | rfl | (simp only [if_neg h1]; done) | (simp only [if_neg h1]; rfl)) _ (lvsub_p [0, 1] rfl)
theorem w0_levelBefore (g : GlT) {k : Nat} (hk : okB k) (x : Int32) (I : Nat → Nat → Int32) (L : Nat → Nat → Int64) : Call g (k0_levelBefore, 1, 0, 0) [.ref (xA g k), .int x] (I, L, R0, 305) (Qi (r0_levelBefore k x I L) (I) L) := Call.of (by decide) (Nat.le_of_ble_eq_true rfl) rfl (v0_levelBefore g hk x  I L  _ (And.intro rfl rfl))

def r0_isSettled_2 (k : Nat) : Nat → Nat → (Nat → Nat → Int32) → (Nat → Nat → Int64) → Bool
  | 0, i, I, L => true
  | n + 1, i, I, L => (if (¬ ((r6_takesPart (k + 3 + 16 * i) (k + 1) I L) = true)) ∨ ((I ((k + 3 + 16 * i)) 8 = 3) ∧ (I ((k + 3 + 16 * i) + 3) 3 ≤ 0)) then r0_isSettled_2 k n (i + 1) I L else false)
set_option maxRecDepth 4000 in
theorem t0_isSettled_2 (g : GlT) {k : Nat} (hk : okB k)  : ∀ (n i : Nat) (I : Nat → Nat → Int32) (L : Nat → Nat → Int64), (hn : i + n = 4) → ∀ (Q : Option Value → MemT → Prop), Q (some (.int (bI (r0_isSettled_2 k n i I L)))) (I, L, R0, 305) → V g (k0_isSettled, 2, 0, 0) 0 0 2 [(0, .ref (xA g k)), (1, .int (nI i))] [] (I, L, R0, 305) Q := by
  intro n
  induction n with
  | zero =>
    intro i I L hn Q hq
    refine V_iload_n (pc1 := 3) 1 d0_isSettled_2 rfl rfl ?_
    refine V_iconst (pc1 := 4) d0_isSettled_3 vc_4 rfl ?_
    refine V_icmp_ge (tgt := 47) (pc1 := 7) d0_isSettled_4 (by decide) rfl (fun _ => ?_) (fun h1 => absurd (by rw [show i = 4 by omega]; decide) h1)
    refine V_iconst (pc1 := 48) d0_isSettled_47 vc_1 rfl ?_
    refine V_zret rfl (Or.inr rfl) d0_isSettled_48 (Nat.zero_le _) (Nat.zero_le _) ?_
    have hq2 := hq
    simp only [r0_isSettled_2] at hq2
    exact hq2
  | succ n ih =>
    intro i I L hn Q hq
    refine V_iload_n (pc1 := 3) 1 d0_isSettled_2 rfl rfl ?_
    refine V_iconst (pc1 := 4) d0_isSettled_3 vc_4 rfl ?_
    refine V_icmp_ge (tgt := 47) (pc1 := 7) d0_isSettled_4 (by decide) rfl (fun h1 => absurd h1 (nI_ge (b := 4) (by omega) (by omega))) (fun _ => ?_)
    refine V_aload_n (pc1 := 8) 0 d0_isSettled_7 rfl rfl ?_
    refine V_getr (pc1 := 11) (bs_l0 hk) (bs_b0 hk) f0_20 (fun _ => rfl) (bs_r0_1 hk) d0_isSettled_8 rfl ?_
    refine V_iload_n (pc1 := 12) 1 d0_isSettled_11 rfl rfl ?_
    refine V_aald (pc1 := 13) i ((k + 3 + 16 * i)) (bs_l2 hk) (Or.inr rfl) (bs_b2 hk) rfl (by omega) (bs_ri hk (by omega)) d0_isSettled_12 rfl ?_
    refine V_astore_n (pc1 := 14) d0_isSettled_13 (Nat.le_of_ble_eq_true rfl) rfl rfl ?_
    refine V_aload_n (pc1 := 15) 0 d0_isSettled_14 rfl rfl ?_
    refine V_vi (pc1 := 18) (w6_takesPart g (bs_Ni hk (by omega))   I L ) (nd_l0 (bs_Ni hk (by omega))) (nd_b0 (bs_Ni hk (by omega))) s6_takesPart l0_72 rfl rfl ⟨Nat.le_of_ble_eq_true rfl, Nat.le_of_ble_eq_true rfl, Nat.le_refl _, Nat.le_refl _⟩ (Nat.le_of_ble_eq_true rfl) rfl d0_isSettled_15 rfl ?_
    have k3 : ((¬ ((r6_takesPart (k + 3 + 16 * i) (k + 1) I L) = true)) ∨ ((I ((k + 3 + 16 * i)) 8 = 3) ∧ (I ((k + 3 + 16 * i) + 3) 3 ≤ 0))) → V g (k0_isSettled, 2, 0, 0) 0 0 41 [(2, .ref (xA g ((k + 3 + 16 * i)))), (0, .ref (xA g k)), (1, .int (nI i))] [] (I, L, R0, 305) Q := by
      intro h2
      refine V_iinc (pc1 := 44) 2 (v := nI (i + 1)) d0_isSettled_41 rfl (nI_1 _) (Nat.le_of_ble_eq_true rfl) rfl rfl ?_
      refine V_goto (tgt := 2) d0_isSettled_44 (by decide) ?_
      refine V_lv (lv1 := [(0, .ref (xA g k)), (1, .int (nI (i + 1)))]) (lvsub_p [2, 0] rfl) ?_
      have hq2 := hq
      simp only [r0_isSettled_2, if_pos h2] at hq2
      exact ih (i + 1) I L (by omega) Q hq2
    have k4 : ¬ ((¬ ((r6_takesPart (k + 3 + 16 * i) (k + 1) I L) = true)) ∨ ((I ((k + 3 + 16 * i)) 8 = 3) ∧ (I ((k + 3 + 16 * i) + 3) 3 ≤ 0))) → V g (k0_isSettled, 2, 0, 0) 0 0 39 [(2, .ref (xA g ((k + 3 + 16 * i)))), (0, .ref (xA g k)), (1, .int (nI i))] [] (I, L, R0, 305) Q := by
      intro h2
      refine V_iconst (pc1 := 40) d0_isSettled_39 vc_0 rfl ?_
      refine V_zret rfl (Or.inl rfl) d0_isSettled_40 (Nat.zero_le _) (Nat.zero_le _) ?_
      have hq2 := hq
      simp only [r0_isSettled_2, if_neg h2] at hq2
      exact hq2
    refine V_beq (tgt := 41) (pc1 := 21) d0_isSettled_18 (by decide) rfl (fun h5 => ?_) (fun h5 => ?_)
    · skip
      exact k3 (Or.inl h5)
    · skip
      refine V_aload_n (pc1 := 22) 0 d0_isSettled_21 rfl rfl ?_
      refine V_geti (pc1 := 25) (nd_l0 (bs_Ni hk (by omega))) (nd_b0 (bs_Ni hk (by omega))) f0_76 (fun _ => rfl) rfl d0_isSettled_22 rfl ?_
      refine V_iconst (pc1 := 26) d0_isSettled_25 vc_3 rfl ?_
      refine V_icmp_ne (tgt := 39) (pc1 := 29) d0_isSettled_26 (by decide) rfl (fun h6 => ?_) (fun h6 => ?_)
      · skip
        exact k4 (fun z => z.elim (fun z => z h5) (fun z => h6 z.1))
      · skip
        refine V_aload_n (pc1 := 30) 0 d0_isSettled_29 rfl rfl ?_
        refine V_getr (pc1 := 33) (nd_l0 (bs_Ni hk (by omega))) (nd_b0 (bs_Ni hk (by omega))) f0_79 (fun _ => rfl) (nd_r0_2 (bs_Ni hk (by omega))) d0_isSettled_30 rfl ?_
        refine V_geti (pc1 := 36) (nd_l3 (bs_Ni hk (by omega))) (nd_b3 (bs_Ni hk (by omega))) f0_83 (fun _ => rfl) rfl d0_isSettled_33 rfl ?_
        refine V_if_le (tgt := 41) (pc1 := 39) d0_isSettled_36 (by decide) rfl (fun h7 => ?_) (fun h7 => ?_)
        · skip
          exact k3 (Or.inr ⟨h6, h7⟩)
        · skip
          exact k4 (fun z => z.elim (fun z => z h5) (fun z => h7 z.2))
def r0_isSettled (k : Nat) (I : Nat → Nat → Int32) (L : Nat → Nat → Int64) : Bool := r0_isSettled_2 k 4 0 I L
set_option maxRecDepth 4000 in
theorem v0_isSettled (g : GlT) {k : Nat} (hk : okB k) (I : Nat → Nat → Int32) (L : Nat → Nat → Int64) (Q : Option Value → MemT → Prop) (hq : Q (some (.int (bI (r0_isSettled k I L)))) (I, L, R0, 305)) : V g (k0_isSettled, 2, 0, 0) 0 0 0 [(0, .ref (xA g k))] [] (I, L, R0, 305) Q := by
  refine V_iconst (pc1 := 1) d0_isSettled_0 vc_0 rfl ?_
  refine V_istore_n (pc1 := 2) d0_isSettled_1 (Nat.le_of_ble_eq_true rfl) rfl rfl ?_
  refine V_lv (lv1 := [(0, .ref (xA g k)), (1, .int (nI 0))]) (lvsub_p [1, 0] rfl) ?_
  have hq2 := hq
  simp only [r0_isSettled] at hq2
  exact t0_isSettled_2 g hk   4 0 I L rfl Q hq2
theorem w0_isSettled (g : GlT) {k : Nat} (hk : okB k) (I : Nat → Nat → Int32) (L : Nat → Nat → Int64) : Call g (k0_isSettled, 2, 0, 0) [.ref (xA g k)] (I, L, R0, 305) (Qi (bI (r0_isSettled k I L)) (I) L) := Call.of (by decide) (Nat.le_of_ble_eq_true rfl) rfl (v0_isSettled g hk   I L  _ (And.intro rfl rfl))

def r0_nextWinner_7 (k : Nat) : Nat → Nat → Int32 → Int32 → (Nat → Nat → Int32) → (Nat → Nat → Int64) → Int32
  | 0, i, z, y, I, L => z
  | n + 1, i, z, y, I, L => r0_nextWinner_7 k n (i + 1) (if (r6_takesPart (k + 3 + 16 * i) (k + 1) I L) = true then (if I ((k + 3 + 16 * i) + 3) 3 = 0 then z else (if (z = (-5)) ∨ (¬ (y ≤ r3_keyAt ((k + 3 + 16 * i) + 3) 4 0 I L)) then nI i else z)) else z) (if (r6_takesPart (k + 3 + 16 * i) (k + 1) I L) = true then (if I ((k + 3 + 16 * i) + 3) 3 = 0 then y else (if (z = (-5)) ∨ (¬ (y ≤ r3_keyAt ((k + 3 + 16 * i) + 3) 4 0 I L)) then r3_keyAt ((k + 3 + 16 * i) + 3) 4 0 I L else y)) else y) I L
set_option maxRecDepth 4000 in
theorem t0_nextWinner_7 (g : GlT) {k : Nat} (hk : okB k)  : ∀ (n i : Nat) (z : Int32) (y : Int32) (I : Nat → Nat → Int32) (L : Nat → Nat → Int64), (hv : bV k I) → (hn : i + n = 4) → ∀ (Q : Option Value → MemT → Prop), Q (some (.int (r0_nextWinner_7 k n i z y I L))) (I, L, R0, 305) → V g (k0_nextWinner, 3, 0, 0) 0 0 7 [(0, .ref (xA g k)), (1, .int z), (2, .int y), (3, .int (nI i))] [] (I, L, R0, 305) Q := by
  intro n
  induction n with
  | zero =>
    intro i z y I L hv hn Q hq
    refine V_iload_n (pc1 := 8) 3 d0_nextWinner_7 rfl rfl ?_
    refine V_iconst (pc1 := 9) d0_nextWinner_8 vc_4 rfl ?_
    refine V_icmp_ge (tgt := 76) (pc1 := 12) d0_nextWinner_9 (by decide) rfl (fun _ => ?_) (fun h1 => absurd (by rw [show i = 4 by omega]; decide) h1)
    refine V_iload_n (pc1 := 77) 1 d0_nextWinner_76 rfl rfl ?_
    refine V_iret rfl d0_nextWinner_77 (Nat.zero_le _) (Nat.zero_le _) ?_
    have hq2 := hq
    simp only [r0_nextWinner_7] at hq2
    exact hq2
  | succ n ih =>
    intro i z y I L hv hn Q hq
    obtain ⟨⟨gw, hw4, hw⟩, -, -⟩ := hv.1 i (by omega)
    refine V_iload_n (pc1 := 8) 3 d0_nextWinner_7 rfl rfl ?_
    refine V_iconst (pc1 := 9) d0_nextWinner_8 vc_4 rfl ?_
    refine V_icmp_ge (tgt := 76) (pc1 := 12) d0_nextWinner_9 (by decide) rfl (fun h1 => absurd h1 (nI_ge (b := 4) (by omega) (by omega))) (fun _ => ?_)
    refine V_aload_n (pc1 := 13) 0 d0_nextWinner_12 rfl rfl ?_
    refine V_getr (pc1 := 16) (bs_l0 hk) (bs_b0 hk) f0_20 (fun _ => rfl) (bs_r0_1 hk) d0_nextWinner_13 rfl ?_
    refine V_iload_n (pc1 := 17) 3 d0_nextWinner_16 rfl rfl ?_
    refine V_aald (pc1 := 18) i ((k + 3 + 16 * i)) (bs_l2 hk) (Or.inr rfl) (bs_b2 hk) rfl (by omega) (bs_ri hk (by omega)) d0_nextWinner_17 rfl ?_
    refine V_astore (pc1 := 20) d0_nextWinner_18 (Nat.le_of_ble_eq_true rfl) rfl rfl ?_
    refine V_aload (pc1 := 22) 0 d0_nextWinner_20 rfl rfl ?_
    refine V_vi (pc1 := 25) (w6_takesPart g (bs_Ni hk (by omega))   I L ) (nd_l0 (bs_Ni hk (by omega))) (nd_b0 (bs_Ni hk (by omega))) s6_takesPart l0_72 rfl rfl ⟨Nat.le_of_ble_eq_true rfl, Nat.le_of_ble_eq_true rfl, Nat.le_refl _, Nat.le_refl _⟩ (Nat.le_of_ble_eq_true rfl) rfl d0_nextWinner_22 rfl ?_
    have key9 : ∀ (z70_1 : Int32), z70_1 = (if (r6_takesPart (k + 3 + 16 * i) (k + 1) I L) = true then (if I ((k + 3 + 16 * i) + 3) 3 = 0 then z else (if (z = (-5)) ∨ (¬ (y ≤ r3_keyAt ((k + 3 + 16 * i) + 3) 4 0 I L)) then nI i else z)) else z) → ∀ (z70_2 : Int32), z70_2 = (if (r6_takesPart (k + 3 + 16 * i) (k + 1) I L) = true then (if I ((k + 3 + 16 * i) + 3) 3 = 0 then y else (if (z = (-5)) ∨ (¬ (y ≤ r3_keyAt ((k + 3 + 16 * i) + 3) 4 0 I L)) then r3_keyAt ((k + 3 + 16 * i) + 3) 4 0 I L else y)) else y) → ∀ (lv : List (Nat × Value)), lvsub [(4, .ref (xA g ((k + 3 + 16 * i)))), (0, .ref (xA g k)), (1, .int z70_1), (2, .int z70_2), (3, .int (nI i))] lv → V g (k0_nextWinner, 3, 0, 0) 0 0 70 lv [] (I, L, R0, 305) Q := by
      intro z70_1 ez70_1 z70_2 ez70_2
      subst ez70_1
      subst ez70_2
      intro lv hlv
      refine V_lv hlv ?_
      refine V_iinc (pc1 := 73) 4 (v := nI (i + 1)) d0_nextWinner_70 rfl (nI_1 _) (Nat.le_of_ble_eq_true rfl) rfl rfl ?_
      refine V_goto (tgt := 7) d0_nextWinner_73 (by decide) ?_
      refine V_lv (lv1 := [(0, .ref (xA g k)), (1, .int (if (r6_takesPart (k + 3 + 16 * i) (k + 1) I L) = true then (if I ((k + 3 + 16 * i) + 3) 3 = 0 then z else (if (z = (-5)) ∨ (¬ (y ≤ r3_keyAt ((k + 3 + 16 * i) + 3) 4 0 I L)) then nI i else z)) else z)), (2, .int (if (r6_takesPart (k + 3 + 16 * i) (k + 1) I L) = true then (if I ((k + 3 + 16 * i) + 3) 3 = 0 then y else (if (z = (-5)) ∨ (¬ (y ≤ r3_keyAt ((k + 3 + 16 * i) + 3) 4 0 I L)) then r3_keyAt ((k + 3 + 16 * i) + 3) 4 0 I L else y)) else y)), (3, .int (nI (i + 1)))]) (lvsub_p [2, 3, 4, 0] rfl) ?_
      have hq2 := hq
      simp only [r0_nextWinner_7] at hq2
      exact ih (i + 1) (if (r6_takesPart (k + 3 + 16 * i) (k + 1) I L) = true then (if I ((k + 3 + 16 * i) + 3) 3 = 0 then z else (if (z = (-5)) ∨ (¬ (y ≤ r3_keyAt ((k + 3 + 16 * i) + 3) 4 0 I L)) then nI i else z)) else z) (if (r6_takesPart (k + 3 + 16 * i) (k + 1) I L) = true then (if I ((k + 3 + 16 * i) + 3) 3 = 0 then y else (if (z = (-5)) ∨ (¬ (y ≤ r3_keyAt ((k + 3 + 16 * i) + 3) 4 0 I L)) then r3_keyAt ((k + 3 + 16 * i) + 3) 4 0 I L else y)) else y) I L hv (by omega) Q hq2
    refine V_beq (tgt := 70) (pc1 := 28) d0_nextWinner_25 (by decide) rfl (fun h2 => ?_) (fun h2 => ?_)
    · skip
      exact key9 _ (by first | rfl | (simp only [if_neg h2]; done) | (simp only [if_neg h2]; rfl)) _ (by first | rfl | (simp only [if_neg h2]; done) | (simp only [if_neg h2]; rfl)) _ (lvsub_p [0, 1, 2, 3, 4] rfl)
    · skip
      refine V_aload (pc1 := 30) 0 d0_nextWinner_28 rfl rfl ?_
      refine V_getr (pc1 := 33) (nd_l0 (bs_Ni hk (by omega))) (nd_b0 (bs_Ni hk (by omega))) f0_79 (fun _ => rfl) (nd_r0_2 (bs_Ni hk (by omega))) d0_nextWinner_30 rfl ?_
      refine V_geti (pc1 := 36) (nd_l3 (bs_Ni hk (by omega))) (nd_b3 (bs_Ni hk (by omega))) f0_83 (fun _ => rfl) rfl d0_nextWinner_33 rfl ?_
      refine V_if_ne (tgt := 42) (pc1 := 39) d0_nextWinner_36 (by decide) rfl (fun h3 => ?_) (fun h3 => ?_)
      · skip
        refine V_aload (pc1 := 44) 0 d0_nextWinner_42 rfl rfl ?_
        refine V_getr (pc1 := 47) (nd_l0 (bs_Ni hk (by omega))) (nd_b0 (bs_Ni hk (by omega))) f0_79 (fun _ => rfl) (nd_r0_2 (bs_Ni hk (by omega))) d0_nextWinner_44 rfl ?_
        refine V_iconst (pc1 := 48) d0_nextWinner_47 vc_0 rfl ?_
        refine V_vi (pc1 := 51) (w3_keyAt g (nd_F3 (bs_Ni hk (by omega))) 0 gw hw4 I L hw) (nd_l3 (bs_Ni hk (by omega))) (nd_b3 (bs_Ni hk (by omega))) s3_keyAt l0_88 rfl rfl ⟨Nat.le_of_ble_eq_true rfl, Nat.le_of_ble_eq_true rfl, Nat.le_refl _, Nat.le_refl _⟩ (Nat.le_of_ble_eq_true rfl) rfl d0_nextWinner_48 rfl ?_
        refine V_istore (pc1 := 53) d0_nextWinner_51 (Nat.le_of_ble_eq_true rfl) rfl rfl ?_
        refine V_iload_n (pc1 := 54) 3 d0_nextWinner_53 rfl rfl ?_
        refine V_bipush (pc1 := 56) d0_nextWinner_54 vb_m5 rfl ?_
        have k5 : ((z = (-5)) ∨ (¬ (y ≤ r3_keyAt ((k + 3 + 16 * i) + 3) 4 0 I L))) → V g (k0_nextWinner, 3, 0, 0) 0 0 65 [(5, .int (r3_keyAt ((k + 3 + 16 * i) + 3) 4 0 I L)), (4, .ref (xA g ((k + 3 + 16 * i)))), (0, .ref (xA g k)), (1, .int z), (2, .int y), (3, .int (nI i))] [] (I, L, R0, 305) Q := by
          intro h4
          refine V_iload_n (pc1 := 66) 5 d0_nextWinner_65 rfl rfl ?_
          refine V_istore_n (pc1 := 67) d0_nextWinner_66 (Nat.le_of_ble_eq_true rfl) rfl rfl ?_
          refine V_iload (pc1 := 69) 1 d0_nextWinner_67 rfl rfl ?_
          refine V_istore_n (pc1 := 70) d0_nextWinner_69 (Nat.le_of_ble_eq_true rfl) rfl rfl ?_
          exact key9 _ (by first | rfl | (simp only [if_pos h2, if_neg h3, if_pos h4]; done) | (simp only [if_pos h2, if_neg h3, if_pos h4]; rfl)) _ (by first | rfl | (simp only [if_pos h2, if_neg h3, if_pos h4]; done) | (simp only [if_pos h2, if_neg h3, if_pos h4]; rfl)) _ (lvsub_p [3, 4, 1, 0, 5] rfl)
        have k6 : ¬ ((z = (-5)) ∨ (¬ (y ≤ r3_keyAt ((k + 3 + 16 * i) + 3) 4 0 I L))) → V g (k0_nextWinner, 3, 0, 0) 0 0 70 [(5, .int (r3_keyAt ((k + 3 + 16 * i) + 3) 4 0 I L)), (4, .ref (xA g ((k + 3 + 16 * i)))), (0, .ref (xA g k)), (1, .int z), (2, .int y), (3, .int (nI i))] [] (I, L, R0, 305) Q := by
          intro h4
          exact key9 _ (by first | rfl | (simp only [if_pos h2, if_neg h3, if_neg h4]; done) | (simp only [if_pos h2, if_neg h3, if_neg h4]; rfl)) _ (by first | rfl | (simp only [if_pos h2, if_neg h3, if_neg h4]; done) | (simp only [if_pos h2, if_neg h3, if_neg h4]; rfl)) _ (lvsub_p [1, 2, 3, 4, 5] rfl)
        refine V_icmp_eq (tgt := 65) (pc1 := 59) d0_nextWinner_56 (by decide) rfl (fun h7 => ?_) (fun h7 => ?_)
        · skip
          exact k5 (Or.inl h7)
        · skip
          refine V_iload (pc1 := 61) 0 d0_nextWinner_59 rfl rfl ?_
          refine V_iload_n (pc1 := 62) 4 d0_nextWinner_61 rfl rfl ?_
          refine V_icmp_ge (tgt := 70) (pc1 := 65) d0_nextWinner_62 (by decide) rfl (fun h8 => ?_) (fun h8 => ?_)
          · skip
            exact k6 (fun z => z.elim h7 (fun z => z h8))
          · skip
            exact k5 (Or.inr h8)
      · skip
        refine V_goto (tgt := 70) d0_nextWinner_39 (by decide) ?_
        exact key9 _ (by first | rfl | (simp only [if_pos h2, if_pos h3]; done) | (simp only [if_pos h2, if_pos h3]; rfl)) _ (by first | rfl | (simp only [if_pos h2, if_pos h3]; done) | (simp only [if_pos h2, if_pos h3]; rfl)) _ (lvsub_p [0, 1, 2, 3, 4] rfl)
def r0_nextWinner (k : Nat) (I : Nat → Nat → Int32) (L : Nat → Nat → Int64) : Int32 := r0_nextWinner_7 k 4 0 (-5) 0 I L
set_option maxRecDepth 4000 in
theorem v0_nextWinner (g : GlT) {k : Nat} (hk : okB k) (I : Nat → Nat → Int32) (L : Nat → Nat → Int64) (hv : bV k I) (Q : Option Value → MemT → Prop) (hq : Q (some (.int (r0_nextWinner k I L))) (I, L, R0, 305)) : V g (k0_nextWinner, 3, 0, 0) 0 0 0 [(0, .ref (xA g k))] [] (I, L, R0, 305) Q := by
  refine V_bipush (pc1 := 2) d0_nextWinner_0 vb_m5 rfl ?_
  refine V_istore_n (pc1 := 3) d0_nextWinner_2 (Nat.le_of_ble_eq_true rfl) rfl rfl ?_
  refine V_iconst (pc1 := 4) d0_nextWinner_3 vc_0 rfl ?_
  refine V_istore_n (pc1 := 5) d0_nextWinner_4 (Nat.le_of_ble_eq_true rfl) rfl rfl ?_
  refine V_iconst (pc1 := 6) d0_nextWinner_5 vc_0 rfl ?_
  refine V_istore_n (pc1 := 7) d0_nextWinner_6 (Nat.le_of_ble_eq_true rfl) rfl rfl ?_
  refine V_lv (lv1 := [(0, .ref (xA g k)), (1, .int (-5)), (2, .int 0), (3, .int (nI 0))]) (lvsub_p [3, 2, 1, 0] rfl) ?_
  have hq2 := hq
  simp only [r0_nextWinner] at hq2
  exact t0_nextWinner_7 g hk   4 0 (-5) 0 I L hv rfl Q hq2
theorem w0_nextWinner (g : GlT) {k : Nat} (hk : okB k) (I : Nat → Nat → Int32) (L : Nat → Nat → Int64) (hv : bV k I) : Call g (k0_nextWinner, 3, 0, 0) [.ref (xA g k)] (I, L, R0, 305) (Qi (r0_nextWinner k I L) (I) L) := Call.of (by decide) (Nat.le_of_ble_eq_true rfl) rfl (v0_nextWinner g hk   I L hv _ (And.intro rfl rfl))

theorem bV_drive {k i : Nat} {I : Nat → Nat → Int32} {L : Nat → Nat → Int64} (hi : i < 4) (h : bV k I) : bV k (i6_drive (k + 3 + 16 * i) (k + 1) I L) := by
  refine ⟨fun j hj => nV.of1 (x6_drive (by omega)) (x6_drive (by omega)) (x6_drive (by omega)) (h.1 j hj), ?_⟩
  obtain ⟨d, h8, hd⟩ := h.2
  exact ⟨d, h8, (congrFun (x6_drive (by omega)) _).trans hd⟩
theorem nV_act_off {k i j l : Nat} {x : Int32} {I : Nat → Nat → Int32} {L : Nat → Nat → Int64} (hij : i < j) (h : nV (k + 3 + 16 * j) I) : nV (k + 3 + 16 * j) (i6_act (k + 3 + 16 * i) l x I L) := nV.of1 (x6_act (by omega) (by omega) (by omega) (by omega) (by omega) (by omega) (by omega) (by omega) (by omega) (by omega) (by omega) (by omega)) (x6_act (by omega) (by omega) (by omega) (by omega) (by omega) (by omega) (by omega) (by omega) (by omega) (by omega) (by omega) (by omega)) (x6_act (by omega) (by omega) (by omega) (by omega) (by omega) (by omega) (by omega) (by omega) (by omega) (by omega) (by omega) (by omega)) h
theorem d_act_off {k i l d : Nat} {x : Int32} {I : Nat → Nat → Int32} {L : Nat → Nat → Int64} (hi : i < 4) (h : I (k + 67) 2 = nI d) : (i6_act (k + 3 + 16 * i) l x I L) (k + 67) 2 = nI d := (congrFun (x6_act (by omega) (by omega) (by omega) (by omega) (by omega) (by omega) (by omega) (by omega) (by omega) (by omega) (by omega) (by omega)) _).trans h

def i0_passBit_41 (k : Nat) : Nat → Nat → Int32 → Int32 → (Nat → Nat → Int32) → (Nat → Nat → Int64) → (Nat → Nat → Int32)
  | 0, i, z, y, I, L => i1_dropBefore (k + 67) ((I k 4) + 1) (uI (uI I (k + 70) (((I k 4) &&& 255).toNatClampNeg) z) k 4 ((I k 4) + 1)) L
  | n + 1, i, z, y, I, L => i0_passBit_41 k n (i + 1) z y (i6_act (k + 3 + 16 * i) (k + 1) (z ^^^ ((y >>> ((nI i) &&& 31)) &&& 1)) I L) (m6_act (k + 3 + 16 * i) (k + 1) (z ^^^ ((y >>> ((nI i) &&& 31)) &&& 1)) I L)
def m0_passBit_41 (k : Nat) : Nat → Nat → Int32 → Int32 → (Nat → Nat → Int32) → (Nat → Nat → Int64) → (Nat → Nat → Int64)
  | 0, i, z, y, I, L => L
  | n + 1, i, z, y, I, L => m0_passBit_41 k n (i + 1) z y (i6_act (k + 3 + 16 * i) (k + 1) (z ^^^ ((y >>> ((nI i) &&& 31)) &&& 1)) I L) (m6_act (k + 3 + 16 * i) (k + 1) (z ^^^ ((y >>> ((nI i) &&& 31)) &&& 1)) I L)
set_option maxRecDepth 4000 in
theorem t0_passBit_41 (g : GlT) {k : Nat} (hk : okB k)  : ∀ (n i : Nat) (z : Int32) (y : Int32) (I : Nat → Nat → Int32) (L : Nat → Nat → Int64), (hn : i + n = 4) → (hv : ∀ j, i ≤ j → j < 4 → nV (k + 3 + 16 * j) I) → (hd : ∃ d, d ≤ 8 ∧ I (k + 67) 2 = nI d) → ∀ (Q : Option Value → MemT → Prop), Q (none) (i0_passBit_41 k n i z y I L, m0_passBit_41 k n i z y I L, R0, 305) → V g (k0_passBit, 6, 0, 0) 0 0 41 [(0, .ref (xA g k)), (1, .int z), (2, .int y), (3, .int (nI i))] [] (I, L, R0, 305) Q := by
  intro n
  induction n with
  | zero =>
    intro i z y I L hn hv hd Q hq
    obtain ⟨gd, hd8, hd⟩ := hd
    refine V_iload_n (pc1 := 42) 3 d0_passBit_41 rfl rfl ?_
    refine V_iconst (pc1 := 43) d0_passBit_42 vc_4 rfl ?_
    refine V_icmp_ge (tgt := 68) (pc1 := 46) d0_passBit_43 (by decide) rfl (fun _ => ?_) (fun h1 => absurd (by rw [show i = 4 by omega]; decide) h1)
    refine V_aload_n (pc1 := 69) 0 d0_passBit_68 rfl rfl ?_
    refine V_getr (pc1 := 72) (bs_l0 hk) (bs_b0 hk) f0_34 (fun _ => rfl) (bs_r0_3 hk) d0_passBit_69 rfl ?_
    refine V_aload_n (pc1 := 73) 0 d0_passBit_72 rfl rfl ?_
    refine V_geti (pc1 := 76) (bs_l0 hk) (bs_b0 hk) f0_53 (fun _ => rfl) rfl d0_passBit_73 rfl ?_
    refine V_sipush (pc1 := 79) d0_passBit_76 vs_255 rfl ?_
    refine V_iand (pc1 := 80) d0_passBit_79 rfl ?_
    refine V_iload_n (pc1 := 81) 1 d0_passBit_80 rfl rfl ?_
    refine V_iast (pc1 := 82) (((I k 4) &&& 255).toNatClampNeg) (bs_l70 hk) (bs_b70 hk) (and255 _).1 (and255 _).2 d0_passBit_81 rfl ?_
    refine V_aload_n (pc1 := 83) 0 d0_passBit_82 rfl rfl ?_
    refine V_dup (pc1 := 84) d0_passBit_83 rfl rfl ?_
    refine V_geti (pc1 := 87) (bs_l0 hk) (bs_b0 hk) f0_53 (fun _ => rfl) (congrFun (uI_off _ _ _ (show (k : Nat) ≠ k + 70 by omega)) _) d0_passBit_84 rfl ?_
    refine V_iconst (pc1 := 88) d0_passBit_87 vc_1 rfl ?_
    refine V_iadd (pc1 := 89) d0_passBit_88 rfl ?_
    refine V_puti (pc1 := 92) (bs_l0 hk) (bs_b0 hk) f0_53 rfl rfl d0_passBit_89 rfl ?_
    refine V_aload_n (pc1 := 93) 0 d0_passBit_92 rfl rfl ?_
    refine V_getr (pc1 := 96) (bs_l0 hk) (bs_b0 hk) f0_30 (fun _ => rfl) (bs_r0_2 hk) d0_passBit_93 rfl ?_
    refine V_aload_n (pc1 := 97) 0 d0_passBit_96 rfl rfl ?_
    refine V_geti (pc1 := 100) (bs_l0 hk) (bs_b0 hk) f0_53 (fun _ => rfl) (uI_self _ _ _ _) d0_passBit_97 rfl ?_
    refine V_vv (pc1 := 103) (w1_dropBefore g (bs_D67 hk) ((I k 4) + 1) gd hd8 (uI (uI I (k + 70) (((I k 4) &&& 255).toNatClampNeg) z) k 4 ((I k 4) + 1)) L (((congrFun (uI_off _ _ _ (show (k + 67 : Nat) ≠ k by omega)) _).trans (congrFun (uI_off _ _ _ (show (k + 67 : Nat) ≠ k + 70 by omega)) _)).trans hd)) (bs_l67 hk) (bs_b67 hk) s1_dropBefore l0_69 rfl rfl ⟨Nat.le_of_ble_eq_true rfl, Nat.le_of_ble_eq_true rfl, Nat.le_refl _, Nat.le_refl _⟩ (Nat.le_of_ble_eq_true rfl) rfl d0_passBit_100 rfl ?_
    refine V_vret rfl d0_passBit_103 (Nat.zero_le _) (Nat.zero_le _) ?_
    have hq2 := hq
    simp only [i0_passBit_41, m0_passBit_41] at hq2
    exact hq2
  | succ n ih =>
    intro i z y I L hn hv hd Q hq
    obtain ⟨gd, hd8, hd⟩ := hd
    refine V_iload_n (pc1 := 42) 3 d0_passBit_41 rfl rfl ?_
    refine V_iconst (pc1 := 43) d0_passBit_42 vc_4 rfl ?_
    refine V_icmp_ge (tgt := 68) (pc1 := 46) d0_passBit_43 (by decide) rfl (fun h1 => absurd h1 (nI_ge (b := 4) (by omega) (by omega))) (fun _ => ?_)
    refine V_aload_n (pc1 := 47) 0 d0_passBit_46 rfl rfl ?_
    refine V_getr (pc1 := 50) (bs_l0 hk) (bs_b0 hk) f0_20 (fun _ => rfl) (bs_r0_1 hk) d0_passBit_47 rfl ?_
    refine V_iload_n (pc1 := 51) 3 d0_passBit_50 rfl rfl ?_
    refine V_aald (pc1 := 52) i ((k + 3 + 16 * i)) (bs_l2 hk) (Or.inr rfl) (bs_b2 hk) rfl (by omega) (bs_ri hk (by omega)) d0_passBit_51 rfl ?_
    refine V_iload_n (pc1 := 53) 1 d0_passBit_52 rfl rfl ?_
    refine V_iload_n (pc1 := 54) 2 d0_passBit_53 rfl rfl ?_
    refine V_iload_n (pc1 := 55) 3 d0_passBit_54 rfl rfl ?_
    refine V_ishr (pc1 := 56) d0_passBit_55 rfl ?_
    refine V_iconst (pc1 := 57) d0_passBit_56 vc_1 rfl ?_
    refine V_iand (pc1 := 58) d0_passBit_57 rfl ?_
    refine V_ixor (pc1 := 59) d0_passBit_58 rfl ?_
    refine V_vv (pc1 := 62) (w6_act g (bs_Ni hk (by omega)) (z ^^^ ((y >>> ((nI i) &&& 31)) &&& 1))  I L (hv i (Nat.le_refl _) (by omega))) (nd_l0 (bs_Ni hk (by omega))) (nd_b0 (bs_Ni hk (by omega))) s6_act l0_65 rfl rfl ⟨Nat.le_of_ble_eq_true rfl, Nat.le_of_ble_eq_true rfl, Nat.le_refl _, Nat.le_refl _⟩ (Nat.le_of_ble_eq_true rfl) rfl d0_passBit_59 rfl ?_
    refine V_iinc (pc1 := 65) 3 (v := nI (i + 1)) d0_passBit_62 rfl (nI_1 _) (Nat.le_of_ble_eq_true rfl) rfl rfl ?_
    refine V_goto (tgt := 41) d0_passBit_65 (by decide) ?_
    refine V_lv (lv1 := [(0, .ref (xA g k)), (1, .int z), (2, .int y), (3, .int (nI (i + 1)))]) (lvsub_p [1, 2, 3, 0] rfl) ?_
    have hq2 := hq
    simp only [i0_passBit_41, m0_passBit_41] at hq2
    exact ih (i + 1) z y (i6_act (k + 3 + 16 * i) (k + 1) (z ^^^ ((y >>> ((nI i) &&& 31)) &&& 1)) I L) (m6_act (k + 3 + 16 * i) (k + 1) (z ^^^ ((y >>> ((nI i) &&& 31)) &&& 1)) I L) (by omega) (fun j h1 h2 => nV_act_off (by omega) (hv j (by omega) h2)) ⟨gd, hd8, d_act_off (by omega) hd⟩ Q hq2
def i0_passBit_4 (k : Nat) : Nat → Nat → Int32 → (Nat → Nat → Int32) → (Nat → Nat → Int64) → (Nat → Nat → Int32)
  | 0, i, z, I, L => i0_passBit_41 k 4 0 z (r1_nodesAt (k + 67) (I k 4) I L) I L
  | n + 1, i, z, I, L => i0_passBit_4 k n (i + 1) (z &&& (r6_drive (k + 3 + 16 * i) (k + 1) I L)) (i6_drive (k + 3 + 16 * i) (k + 1) I L) L
def m0_passBit_4 (k : Nat) : Nat → Nat → Int32 → (Nat → Nat → Int32) → (Nat → Nat → Int64) → (Nat → Nat → Int64)
  | 0, i, z, I, L => m0_passBit_41 k 4 0 z (r1_nodesAt (k + 67) (I k 4) I L) I L
  | n + 1, i, z, I, L => m0_passBit_4 k n (i + 1) (z &&& (r6_drive (k + 3 + 16 * i) (k + 1) I L)) (i6_drive (k + 3 + 16 * i) (k + 1) I L) L
set_option maxRecDepth 4000 in
theorem t0_passBit_4 (g : GlT) {k : Nat} (hk : okB k)  : ∀ (n i : Nat) (z : Int32) (I : Nat → Nat → Int32) (L : Nat → Nat → Int64), (hn : i + n = 4) → (hv : bV k I) → ∀ (Q : Option Value → MemT → Prop), Q (none) (i0_passBit_4 k n i z I L, m0_passBit_4 k n i z I L, R0, 305) → V g (k0_passBit, 6, 0, 0) 0 0 4 [(0, .ref (xA g k)), (1, .int z), (2, .int (nI i))] [] (I, L, R0, 305) Q := by
  intro n
  induction n with
  | zero =>
    intro i z I L hn hv Q hq
    obtain ⟨gd, hd8, hd⟩ := hv.2
    refine V_iload_n (pc1 := 5) 2 d0_passBit_4 rfl rfl ?_
    refine V_iconst (pc1 := 6) d0_passBit_5 vc_4 rfl ?_
    refine V_icmp_ge (tgt := 27) (pc1 := 9) d0_passBit_6 (by decide) rfl (fun _ => ?_) (fun h1 => absurd (by rw [show i = 4 by omega]; decide) h1)
    refine V_aload_n (pc1 := 28) 0 d0_passBit_27 rfl rfl ?_
    refine V_getr (pc1 := 31) (bs_l0 hk) (bs_b0 hk) f0_30 (fun _ => rfl) (bs_r0_2 hk) d0_passBit_28 rfl ?_
    refine V_aload_n (pc1 := 32) 0 d0_passBit_31 rfl rfl ?_
    refine V_geti (pc1 := 35) (bs_l0 hk) (bs_b0 hk) f0_53 (fun _ => rfl) rfl d0_passBit_32 rfl ?_
    refine V_vi (pc1 := 38) (w1_nodesAt g (bs_D67 hk) (I k 4) gd hd8 I L hd) (bs_l67 hk) (bs_b67 hk) s1_nodesAt l0_61 rfl rfl ⟨Nat.le_of_ble_eq_true rfl, Nat.le_of_ble_eq_true rfl, Nat.le_refl _, Nat.le_refl _⟩ (Nat.le_of_ble_eq_true rfl) rfl d0_passBit_35 rfl ?_
    refine V_istore_n (pc1 := 39) d0_passBit_38 (Nat.le_of_ble_eq_true rfl) rfl rfl ?_
    refine V_iconst (pc1 := 40) d0_passBit_39 vc_0 rfl ?_
    refine V_istore_n (pc1 := 41) d0_passBit_40 (Nat.le_of_ble_eq_true rfl) rfl rfl ?_
    refine V_lv (lv1 := [(0, .ref (xA g k)), (1, .int z), (2, .int (r1_nodesAt (k + 67) (I k 4) I L)), (3, .int (nI 0))]) (lvsub_p [2, 3, 1, 0] rfl) ?_
    have hq2 := hq
    simp only [i0_passBit_4, m0_passBit_4] at hq2
    exact t0_passBit_41 g hk   4 0 z (r1_nodesAt (k + 67) (I k 4) I L) I L rfl (fun j _ hj => hv.1 j hj) hv.2 Q hq2
  | succ n ih =>
    intro i z I L hn hv Q hq
    refine V_iload_n (pc1 := 5) 2 d0_passBit_4 rfl rfl ?_
    refine V_iconst (pc1 := 6) d0_passBit_5 vc_4 rfl ?_
    refine V_icmp_ge (tgt := 27) (pc1 := 9) d0_passBit_6 (by decide) rfl (fun h1 => absurd h1 (nI_ge (b := 4) (by omega) (by omega))) (fun _ => ?_)
    refine V_iload_n (pc1 := 10) 1 d0_passBit_9 rfl rfl ?_
    refine V_aload_n (pc1 := 11) 0 d0_passBit_10 rfl rfl ?_
    refine V_getr (pc1 := 14) (bs_l0 hk) (bs_b0 hk) f0_20 (fun _ => rfl) (bs_r0_1 hk) d0_passBit_11 rfl ?_
    refine V_iload_n (pc1 := 15) 2 d0_passBit_14 rfl rfl ?_
    refine V_aald (pc1 := 16) i ((k + 3 + 16 * i)) (bs_l2 hk) (Or.inr rfl) (bs_b2 hk) rfl (by omega) (bs_ri hk (by omega)) d0_passBit_15 rfl ?_
    refine V_vi (pc1 := 19) (w6_drive g (bs_Ni hk (by omega))   I L ) (nd_l0 (bs_Ni hk (by omega))) (nd_b0 (bs_Ni hk (by omega))) s6_drive l0_57 rfl rfl ⟨Nat.le_of_ble_eq_true rfl, Nat.le_of_ble_eq_true rfl, Nat.le_refl _, Nat.le_refl _⟩ (Nat.le_of_ble_eq_true rfl) rfl d0_passBit_16 rfl ?_
    refine V_iand (pc1 := 20) d0_passBit_19 rfl ?_
    refine V_istore_n (pc1 := 21) d0_passBit_20 (Nat.le_of_ble_eq_true rfl) rfl rfl ?_
    refine V_iinc (pc1 := 24) 2 (v := nI (i + 1)) d0_passBit_21 rfl (nI_1 _) (Nat.le_of_ble_eq_true rfl) rfl rfl ?_
    refine V_goto (tgt := 4) d0_passBit_24 (by decide) ?_
    refine V_lv (lv1 := [(0, .ref (xA g k)), (1, .int (z &&& (r6_drive (k + 3 + 16 * i) (k + 1) I L))), (2, .int (nI (i + 1)))]) (lvsub_p [2, 1, 0] rfl) ?_
    have hq2 := hq
    simp only [i0_passBit_4, m0_passBit_4] at hq2
    exact ih (i + 1) (z &&& (r6_drive (k + 3 + 16 * i) (k + 1) I L)) (i6_drive (k + 3 + 16 * i) (k + 1) I L) L (by omega) (bV_drive (by omega) hv) Q hq2
def i0_passBit (k : Nat) (I : Nat → Nat → Int32) (L : Nat → Nat → Int64) : Nat → Nat → Int32 := i0_passBit_4 k 4 0 1 I L
def m0_passBit (k : Nat) (I : Nat → Nat → Int32) (L : Nat → Nat → Int64) : Nat → Nat → Int64 := m0_passBit_4 k 4 0 1 I L
set_option maxRecDepth 4000 in
theorem v0_passBit (g : GlT) {k : Nat} (hk : okB k) (I : Nat → Nat → Int32) (L : Nat → Nat → Int64) (hv : bV k I) (Q : Option Value → MemT → Prop) (hq : Q (none) (i0_passBit k I L, m0_passBit k I L, R0, 305)) : V g (k0_passBit, 6, 0, 0) 0 0 0 [(0, .ref (xA g k))] [] (I, L, R0, 305) Q := by
  refine V_iconst (pc1 := 1) d0_passBit_0 vc_1 rfl ?_
  refine V_istore_n (pc1 := 2) d0_passBit_1 (Nat.le_of_ble_eq_true rfl) rfl rfl ?_
  refine V_iconst (pc1 := 3) d0_passBit_2 vc_0 rfl ?_
  refine V_istore_n (pc1 := 4) d0_passBit_3 (Nat.le_of_ble_eq_true rfl) rfl rfl ?_
  refine V_lv (lv1 := [(0, .ref (xA g k)), (1, .int 1), (2, .int (nI 0))]) (lvsub_p [2, 1, 0] rfl) ?_
  have hq2 := hq
  simp only [i0_passBit, m0_passBit] at hq2
  exact t0_passBit_4 g hk   4 0 1 I L rfl hv Q hq2
theorem w0_passBit (g : GlT) {k : Nat} (hk : okB k) (I : Nat → Nat → Int32) (L : Nat → Nat → Int64) (hv : bV k I) : Call g (k0_passBit, 6, 0, 0) [.ref (xA g k)] (I, L, R0, 305) (Qv (i0_passBit k I L) (m0_passBit k I L)) := Call.of (by decide) (Nat.le_of_ble_eq_true rfl) rfl (v0_passBit g hk   I L hv _ (And.intro rfl rfl))
theorem x0_passBit_41 {k aa : Nat} (h : aa < k ∨ k + 71 ≤ aa) : ∀ (n i : Nat) (z y : Int32) (I : Nat → Nat → Int32) (L : Nat → Nat → Int64), i + n ≤ 4 → i0_passBit_41 k n i z y I L aa = I aa := by
  intro n
  induction n with
  | zero =>
    intro i z y I L hi
    simp only [i0_passBit_41]
    rw [x1_dropBefore (by omega) (by omega) (by omega), uI_off _ _ _ (by omega), uI_off _ _ _ (by omega)]
  | succ n ih =>
    intro i z y I L hi
    simp only [i0_passBit_41]
    rw [ih _ _ _ _ _ (by omega), x6_act (by omega) (by omega) (by omega) (by omega) (by omega) (by omega) (by omega) (by omega) (by omega) (by omega) (by omega) (by omega)]
theorem x0_passBit_4 {k aa : Nat} (h : aa < k ∨ k + 71 ≤ aa) : ∀ (n i : Nat) (z : Int32) (I : Nat → Nat → Int32) (L : Nat → Nat → Int64), i + n ≤ 4 → i0_passBit_4 k n i z I L aa = I aa := by
  intro n
  induction n with
  | zero =>
    intro i z I L hi
    simp only [i0_passBit_4]
    rw [x0_passBit_41 h _ _ _ _ _ _ (by omega)]
  | succ n ih =>
    intro i z I L hi
    simp only [i0_passBit_4]
    rw [ih _ _ _ _ (by omega), x6_drive (by omega)]
theorem x0_passBit {k : Nat} {I : Nat → Nat → Int32} {L : Nat → Nat → Int64} {aa : Nat} (h : aa < k ∨ k + 71 ≤ aa) : i0_passBit k I L aa = I aa := x0_passBit_4 h _ _ _ _ _ (by omega)
theorem y0_passBit_41 {k aa : Nat} (h : aa < k ∨ k + 71 ≤ aa) : ∀ (n i : Nat) (z y : Int32) (I : Nat → Nat → Int32) (L : Nat → Nat → Int64), i + n ≤ 4 → m0_passBit_41 k n i z y I L aa = L aa := by
  intro n
  induction n with
  | zero => intro i z y I L hi; rfl
  | succ n ih =>
    intro i z y I L hi
    simp only [m0_passBit_41]
    rw [ih _ _ _ _ _ (by omega), y6_act (by omega) (by omega)]
theorem y0_passBit_4 {k aa : Nat} (h : aa < k ∨ k + 71 ≤ aa) : ∀ (n i : Nat) (z : Int32) (I : Nat → Nat → Int32) (L : Nat → Nat → Int64), i + n ≤ 4 → m0_passBit_4 k n i z I L aa = L aa := by
  intro n
  induction n with
  | zero =>
    intro i z I L hi
    simp only [m0_passBit_4]
    rw [y0_passBit_41 h _ _ _ _ _ _ (by omega)]
  | succ n ih =>
    intro i z I L hi
    simp only [m0_passBit_4]
    rw [ih _ _ _ _ (by omega)]
theorem y0_passBit {k : Nat} {I : Nat → Nat → Int32} {L : Nat → Nat → Int64} {aa : Nat} (h : aa < k ∨ k + 71 ≤ aa) : m0_passBit k I L aa = L aa := y0_passBit_4 h _ _ _ _ _ (by omega)

