theorem okNi {i : Nat} (h : i < 4) : okN (4 + 16 * i) 2 := bs_Ni okB1 h
theorem rfi {i : Nat} (h : i < 4) : R0 3 i = some (4 + 16 * i) := bs_ri okB1 h
theorem okFi {i : Nat} (h : i < 4) : okN (75 + 16 * i) 73 := bs_Ni okB72 h
theorem rf74 {i : Nat} (h : i < 4) : R0 74 i = some (75 + 16 * i) := bs_ri okB72 h
theorem ly74 : lay 74 = (4, 4) := by decide +kernel
theorem ly68 : lay 68 = (0, 1) := by decide +kernel
theorem rf72_1 : R0 72 1 = some 74 := by decide +kernel
theorem within_nat {x : Int32} {a b : Nat} (ha : a < 2 ^ 31) (hb : b < 2 ^ 31) (h : r10_isWithin x (nI a) (nI b) = true) : ∃ i, i ≤ b ∧ a ≤ i ∧ x = nI i := by
  unfold r10_isWithin at h
  split at h
  · cases h
  · rename_i h2
    have h3 : ¬ x < 0 := fun e => h2 (Or.inl (by
      have := nI_pos' ha
      rw [Int32.lt_iff_toInt_lt] at e ⊢
      rw [Int32.le_iff_toInt_le] at this
      omega))
    obtain ⟨j, hj, rfl⟩ := nI_of h3
    refine ⟨j, ?_, ?_, rfl⟩
    · rcases Nat.lt_or_ge b j with q | q
      · exact absurd (Or.inr (nI_lt q hj)) h2
      · exact q
    · rcases Nat.lt_or_ge j a with q | q
      · exact absurd (Or.inl (nI_lt q ha)) h2
      · exact q
theorem isNode_nat {x : Int32} (h : r10_isNode x = true) : ∃ i, i < 4 ∧ x = nI i := by
  obtain ⟨i, h1, -, h3⟩ := within_nat (x := x) (a := 0) (b := 3) (by omega) (by omega) h
  exact ⟨i, by omega, h3⟩
theorem isSlot_nat {x : Int32} (h : r10_isSlot x = true) : ∃ i, i < 2 ∧ x = nI i := by
  obtain ⟨i, h1, -, h3⟩ := within_nat (x := x) (a := 0) (b := 1) (by omega) (by omega) h
  exact ⟨i, by omega, h3⟩

def r10_setLimits (a : Int32) (b : Int32) (c : Int32) (I : Nat → Nat → Int32) (L : Nat → Nat → Int64) : Int32 := (if (¬ ((r10_isWithin a 8 128) = true)) ∨ ((¬ ((r10_isWithin b 16 256) = true)) ∨ ((b ≤ a) ∨ (¬ ((r10_isWithin c 1 16) = true)))) then (-2) else I 2 0)
def i10_setLimits (a : Int32) (b : Int32) (c : Int32) (I : Nat → Nat → Int32) (L : Nat → Nat → Int64) : Nat → Nat → Int32 := (if (¬ ((r10_isWithin a 8 128) = true)) ∨ ((¬ ((r10_isWithin b 16 256) = true)) ∨ ((b ≤ a) ∨ (¬ ((r10_isWithin c 1 16) = true)))) then I else uI (uI (uI I 2 0 a) 2 1 b) 2 2 c)
set_option maxRecDepth 4000 in
theorem v10_setLimits (g : GlT)  (a : Int32) (b : Int32) (c : Int32) (I : Nat → Nat → Int32) (L : Nat → Nat → Int64) (Q : Option Value → MemT → Prop) (hq : Q (some (.int (r10_setLimits a b c I L))) (i10_setLimits a b c I L, L, R0, 305)) : V g (k10_setLimits, 2, 0, 0) 0 0 0 [(0, .ref (xA g 0)), (1, .int a), (2, .int b), (3, .int c)] [] (I, L, R0, 305) Q := by
  refine V_iload_n (pc1 := 1) 1 d10_setLimits_0 rfl rfl ?_
  refine V_bipush (pc1 := 3) d10_setLimits_1 vb_8 rfl ?_
  refine V_sipush (pc1 := 6) d10_setLimits_3 vs_128 rfl ?_
  refine V_si (pc1 := 9) (w10_isWithin g  a 8 128  I L ) s10_isWithin l10_48 rfl rfl ⟨Nat.le_of_ble_eq_true rfl, Nat.le_of_ble_eq_true rfl, Nat.le_refl _, Nat.le_refl _⟩ (Nat.le_of_ble_eq_true rfl) rfl d10_setLimits_6 rfl ?_
  have k2 : ((¬ ((r10_isWithin a 8 128) = true)) ∨ ((¬ ((r10_isWithin b 16 256) = true)) ∨ ((b ≤ a) ∨ (¬ ((r10_isWithin c 1 16) = true))))) → V g (k10_setLimits, 2, 0, 0) 0 0 39 [(0, .ref (xA g 0)), (1, .int a), (2, .int b), (3, .int c)] [] (I, L, R0, 305) Q := by
    intro h1
    refine V_bipush (pc1 := 41) d10_setLimits_39 vb_m2 rfl ?_
    refine V_iret rfl d10_setLimits_41 (Nat.zero_le _) (Nat.zero_le _) ?_
    have hq2 := hq
    simp only [r10_setLimits, i10_setLimits, if_pos h1] at hq2
    exact hq2
  have k3 : ¬ ((¬ ((r10_isWithin a 8 128) = true)) ∨ ((¬ ((r10_isWithin b 16 256) = true)) ∨ ((b ≤ a) ∨ (¬ ((r10_isWithin c 1 16) = true))))) → V g (k10_setLimits, 2, 0, 0) 0 0 42 [(0, .ref (xA g 0)), (1, .int a), (2, .int b), (3, .int c)] [] (I, L, R0, 305) Q := by
    intro h1
    refine V_aload_n (pc1 := 43) 0 d10_setLimits_42 rfl rfl ?_
    refine V_getr (pc1 := 46) ly0 (lt305 rfl) f10_10 (fun _ => rfl) rf0_0 d10_setLimits_43 rfl ?_
    refine V_getr (pc1 := 49) ly1 (lt305 rfl) f10_52 (fun _ => rfl) rf1_0 d10_setLimits_46 rfl ?_
    refine V_astore (pc1 := 51) d10_setLimits_49 (Nat.le_of_ble_eq_true rfl) rfl rfl ?_
    refine V_aload (pc1 := 53) 0 d10_setLimits_51 rfl rfl ?_
    refine V_geti (pc1 := 56) ly2 (lt305 rfl) f10_56 (fun _ => rfl) rfl d10_setLimits_53 rfl ?_
    refine V_istore (pc1 := 58) d10_setLimits_56 (Nat.le_of_ble_eq_true rfl) rfl rfl ?_
    refine V_aload (pc1 := 60) 1 d10_setLimits_58 rfl rfl ?_
    refine V_iload_n (pc1 := 61) 3 d10_setLimits_60 rfl rfl ?_
    refine V_puti (pc1 := 64) ly2 (lt305 rfl) f10_56 rfl rfl d10_setLimits_61 rfl ?_
    refine V_aload (pc1 := 66) 1 d10_setLimits_64 rfl rfl ?_
    refine V_iload_n (pc1 := 67) 4 d10_setLimits_66 rfl rfl ?_
    refine V_puti (pc1 := 70) ly2 (lt305 rfl) f10_62 rfl rfl d10_setLimits_67 rfl ?_
    refine V_aload (pc1 := 72) 1 d10_setLimits_70 rfl rfl ?_
    refine V_iload_n (pc1 := 73) 5 d10_setLimits_72 rfl rfl ?_
    refine V_puti (pc1 := 76) ly2 (lt305 rfl) f10_65 rfl rfl d10_setLimits_73 rfl ?_
    refine V_iload (pc1 := 78) 0 d10_setLimits_76 rfl rfl ?_
    refine V_iret rfl d10_setLimits_78 (Nat.zero_le _) (Nat.zero_le _) ?_
    have hq2 := hq
    simp only [r10_setLimits, i10_setLimits, if_neg h1] at hq2
    exact hq2
  refine V_beq (tgt := 39) (pc1 := 12) d10_setLimits_9 (by decide) rfl (fun h4 => ?_) (fun h4 => ?_)
  · skip
    exact k2 (Or.inl h4)
  · skip
    refine V_iload_n (pc1 := 13) 2 d10_setLimits_12 rfl rfl ?_
    refine V_bipush (pc1 := 15) d10_setLimits_13 vb_16 rfl ?_
    refine V_sipush (pc1 := 18) d10_setLimits_15 vs_256 rfl ?_
    refine V_si (pc1 := 21) (w10_isWithin g  b 16 256  I L ) s10_isWithin l10_48 rfl rfl ⟨Nat.le_of_ble_eq_true rfl, Nat.le_of_ble_eq_true rfl, Nat.le_refl _, Nat.le_refl _⟩ (Nat.le_of_ble_eq_true rfl) rfl d10_setLimits_18 rfl ?_
    refine V_beq (tgt := 39) (pc1 := 24) d10_setLimits_21 (by decide) rfl (fun h5 => ?_) (fun h5 => ?_)
    · skip
      exact k2 (Or.inr (Or.inl h5))
    · skip
      refine V_iload_n (pc1 := 25) 2 d10_setLimits_24 rfl rfl ?_
      refine V_iload_n (pc1 := 26) 1 d10_setLimits_25 rfl rfl ?_
      refine V_icmp_le (tgt := 39) (pc1 := 29) d10_setLimits_26 (by decide) rfl (fun h6 => ?_) (fun h6 => ?_)
      · skip
        exact k2 (Or.inr (Or.inr (Or.inl h6)))
      · skip
        refine V_iload_n (pc1 := 30) 3 d10_setLimits_29 rfl rfl ?_
        refine V_iconst (pc1 := 31) d10_setLimits_30 vc_1 rfl ?_
        refine V_bipush (pc1 := 33) d10_setLimits_31 vb_16 rfl ?_
        refine V_si (pc1 := 36) (w10_isWithin g  c 1 16  I L ) s10_isWithin l10_48 rfl rfl ⟨Nat.le_of_ble_eq_true rfl, Nat.le_of_ble_eq_true rfl, Nat.le_refl _, Nat.le_refl _⟩ (Nat.le_of_ble_eq_true rfl) rfl d10_setLimits_33 rfl ?_
        refine V_bne (tgt := 42) (pc1 := 39) d10_setLimits_36 (by decide) rfl (fun h7 => ?_) (fun h7 => ?_)
        · skip
          exact k3 (fun z => z.elim (fun z => z h4) (fun z => z.elim (fun z => z h5) (fun z => z.elim h6 (fun z => z h7))))
        · skip
          exact k2 (Or.inr (Or.inr (Or.inr h7)))
theorem w10_setLimits (g : GlT)  (a : Int32) (b : Int32) (c : Int32) (I : Nat → Nat → Int32) (L : Nat → Nat → Int64) : Call g (k10_setLimits, 2, 0, 0) [.ref (xA g 0), .int a, .int b, .int c] (I, L, R0, 305) (Qi (r10_setLimits a b c I L) (i10_setLimits a b c I L) L) := Call.of (by decide) (Nat.le_of_ble_eq_true rfl) rfl (v10_setLimits g  a b c  I L  _ (And.intro rfl rfl))


def r10_setFilter (nd : Int32) (a : Int32) (b : Int32) (I : Nat → Nat → Int32) (L : Nat → Nat → Int64) : Int32 := (if (r10_isNode nd) = true then (if (¬ ((r10_isIdentifier a) = true)) ∨ (¬ ((r10_isIdentifier b) = true)) then (-2) else I ((4 + 16 * (nd.toNatClampNeg))) 6) else (-1))
def i10_setFilter (nd : Int32) (a : Int32) (b : Int32) (I : Nat → Nat → Int32) (L : Nat → Nat → Int64) : Nat → Nat → Int32 := (if (r10_isNode nd) = true then (if (¬ ((r10_isIdentifier a) = true)) ∨ (¬ ((r10_isIdentifier b) = true)) then I else uI (uI I ((4 + 16 * (nd.toNatClampNeg))) 6 a) ((4 + 16 * (nd.toNatClampNeg))) 7 b) else I)
set_option maxRecDepth 4000 in
theorem v10_setFilter (g : GlT)  (nd : Int32) (a : Int32) (b : Int32) (I : Nat → Nat → Int32) (L : Nat → Nat → Int64) (Q : Option Value → MemT → Prop) (hq : Q (some (.int (r10_setFilter nd a b I L))) (i10_setFilter nd a b I L, L, R0, 305)) : V g (k10_setFilter, 3, 0, 0) 0 0 0 [(0, .ref (xA g 0)), (1, .int nd), (2, .int a), (3, .int b)] [] (I, L, R0, 305) Q := by
  refine V_iload_n (pc1 := 1) 1 d10_setFilter_0 rfl rfl ?_
  refine V_si (pc1 := 4) (w10_isNode g  nd  I L ) s10_isNode l10_68 rfl rfl ⟨Nat.le_of_ble_eq_true rfl, Nat.le_of_ble_eq_true rfl, Nat.le_refl _, Nat.le_refl _⟩ (Nat.le_of_ble_eq_true rfl) rfl d10_setFilter_1 rfl ?_
  refine V_bne (tgt := 9) (pc1 := 7) d10_setFilter_4 (by decide) rfl (fun h1 => ?_) (fun h1 => ?_)
  · skip
    obtain ⟨ni, hni, rfl⟩ := isNode_nat h1
    have hn3 : (nI ni).toNatClampNeg = ni := nI_clamp (by omega)
    refine V_iload_n (pc1 := 10) 2 d10_setFilter_9 rfl rfl ?_
    refine V_si (pc1 := 13) (w10_isIdentifier g  a  I L ) s10_isIdentifier l10_72 rfl rfl ⟨Nat.le_of_ble_eq_true rfl, Nat.le_of_ble_eq_true rfl, Nat.le_refl _, Nat.le_refl _⟩ (Nat.le_of_ble_eq_true rfl) rfl d10_setFilter_10 rfl ?_
    have k3 : ((¬ ((r10_isIdentifier a) = true)) ∨ (¬ ((r10_isIdentifier b) = true))) → V g (k10_setFilter, 3, 0, 0) 0 0 23 [(0, .ref (xA g 0)), (1, .int (nI ni)), (2, .int a), (3, .int b)] [] (I, L, R0, 305) Q := by
      intro h2
      refine V_bipush (pc1 := 25) d10_setFilter_23 vb_m2 rfl ?_
      refine V_iret rfl d10_setFilter_25 (Nat.zero_le _) (Nat.zero_le _) ?_
      have hq2 := hq
      simp only [r10_setFilter, i10_setFilter, if_pos h1, hn3, if_pos h2] at hq2
      exact hq2
    have k4 : ¬ ((¬ ((r10_isIdentifier a) = true)) ∨ (¬ ((r10_isIdentifier b) = true))) → V g (k10_setFilter, 3, 0, 0) 0 0 26 [(0, .ref (xA g 0)), (1, .int (nI ni)), (2, .int a), (3, .int b)] [] (I, L, R0, 305) Q := by
      intro h2
      refine V_aload_n (pc1 := 27) 0 d10_setFilter_26 rfl rfl ?_
      refine V_getr (pc1 := 30) ly0 (lt305 rfl) f10_10 (fun _ => rfl) rf0_0 d10_setFilter_27 rfl ?_
      refine V_getr (pc1 := 33) ly1 (lt305 rfl) f10_75 (fun _ => rfl) rf1_1 d10_setFilter_30 rfl ?_
      refine V_iload_n (pc1 := 34) 1 d10_setFilter_33 rfl rfl ?_
      refine V_aald (pc1 := 35) ni ((4 + 16 * ni)) ly3 (Or.inr rfl) (lt305 rfl) rfl hni (rfi hni) d10_setFilter_34 rfl ?_
      refine V_astore (pc1 := 37) d10_setFilter_35 (Nat.le_of_ble_eq_true rfl) rfl rfl ?_
      refine V_aload (pc1 := 39) 0 d10_setFilter_37 rfl rfl ?_
      refine V_geti (pc1 := 42) (nd_l0 (okNi hni)) (nd_b0 (okNi hni)) f10_79 (fun _ => rfl) rfl d10_setFilter_39 rfl ?_
      refine V_istore (pc1 := 44) d10_setFilter_42 (Nat.le_of_ble_eq_true rfl) rfl rfl ?_
      refine V_aload (pc1 := 46) 1 d10_setFilter_44 rfl rfl ?_
      refine V_iload_n (pc1 := 47) 4 d10_setFilter_46 rfl rfl ?_
      refine V_puti (pc1 := 50) (nd_l0 (okNi hni)) (nd_b0 (okNi hni)) f10_79 rfl rfl d10_setFilter_47 rfl ?_
      refine V_aload (pc1 := 52) 1 d10_setFilter_50 rfl rfl ?_
      refine V_iload_n (pc1 := 53) 5 d10_setFilter_52 rfl rfl ?_
      refine V_puti (pc1 := 56) (nd_l0 (okNi hni)) (nd_b0 (okNi hni)) f10_84 rfl rfl d10_setFilter_53 rfl ?_
      refine V_iload (pc1 := 58) 0 d10_setFilter_56 rfl rfl ?_
      refine V_iret rfl d10_setFilter_58 (Nat.zero_le _) (Nat.zero_le _) ?_
      have hq2 := hq
      simp only [r10_setFilter, i10_setFilter, if_pos h1, hn3, if_neg h2] at hq2
      exact hq2
    refine V_beq (tgt := 23) (pc1 := 16) d10_setFilter_13 (by decide) rfl (fun h5 => ?_) (fun h5 => ?_)
    · skip
      exact k3 (Or.inl h5)
    · skip
      refine V_iload_n (pc1 := 17) 3 d10_setFilter_16 rfl rfl ?_
      refine V_si (pc1 := 20) (w10_isIdentifier g  b  I L ) s10_isIdentifier l10_72 rfl rfl ⟨Nat.le_of_ble_eq_true rfl, Nat.le_of_ble_eq_true rfl, Nat.le_refl _, Nat.le_refl _⟩ (Nat.le_of_ble_eq_true rfl) rfl d10_setFilter_17 rfl ?_
      refine V_bne (tgt := 26) (pc1 := 23) d10_setFilter_20 (by decide) rfl (fun h6 => ?_) (fun h6 => ?_)
      · skip
        exact k4 (fun z => z.elim (fun z => z h5) (fun z => z h6))
      · skip
        exact k3 (Or.inr h6)
  · skip
    refine V_iconst (pc1 := 8) d10_setFilter_7 vc_m1 rfl ?_
    refine V_iret rfl d10_setFilter_8 (Nat.zero_le _) (Nat.zero_le _) ?_
    have hq2 := hq
    simp only [r10_setFilter, i10_setFilter, if_neg h1] at hq2
    exact hq2
theorem w10_setFilter (g : GlT)  (nd : Int32) (a : Int32) (b : Int32) (I : Nat → Nat → Int32) (L : Nat → Nat → Int64) : Call g (k10_setFilter, 3, 0, 0) [.ref (xA g 0), .int nd, .int a, .int b] (I, L, R0, 305) (Qi (r10_setFilter nd a b I L) (i10_setFilter nd a b I L) L) := Call.of (by decide) (Nat.le_of_ble_eq_true rfl) rfl (v10_setFilter g  nd a b  I L  _ (And.intro rfl rfl))


def r10_removeAnswer (nd : Int32) (idn : Int32) (I : Nat → Nat → Int32) (L : Nat → Nat → Int64) : Int32 := (if (r10_isNode nd) = true then (if 0 ≤ (if (r10_isIdentifier idn) = true then r3_indexOf ((4 + 16 * (nd.toNatClampNeg)) + 11) 4 (r10_keyOf idn 0) I L else (-1)) then (i3_removeAt ((4 + 16 * (nd.toNatClampNeg)) + 11) 4 (if (r10_isIdentifier idn) = true then r3_indexOf ((4 + 16 * (nd.toNatClampNeg)) + 11) 4 (r10_keyOf idn 0) I L else (-1)) I L) ((4 + 16 * (nd.toNatClampNeg)) + 11) 3 else (-5)) else (-1))
def i10_removeAnswer (nd : Int32) (idn : Int32) (I : Nat → Nat → Int32) (L : Nat → Nat → Int64) : Nat → Nat → Int32 := (if (r10_isNode nd) = true then (if 0 ≤ (if (r10_isIdentifier idn) = true then r3_indexOf ((4 + 16 * (nd.toNatClampNeg)) + 11) 4 (r10_keyOf idn 0) I L else (-1)) then i3_removeAt ((4 + 16 * (nd.toNatClampNeg)) + 11) 4 (if (r10_isIdentifier idn) = true then r3_indexOf ((4 + 16 * (nd.toNatClampNeg)) + 11) 4 (r10_keyOf idn 0) I L else (-1)) I L else I) else I)
set_option maxRecDepth 4000 in
theorem v10_removeAnswer (g : GlT)  (nd : Int32) (idn : Int32) (I : Nat → Nat → Int32) (L : Nat → Nat → Int64) (hv : bV 1 I) (Q : Option Value → MemT → Prop) (hq : Q (some (.int (r10_removeAnswer nd idn I L))) (i10_removeAnswer nd idn I L, L, R0, 305)) : V g (k10_removeAnswer, 3, 0, 0) 0 0 0 [(0, .ref (xA g 0)), (1, .int nd), (2, .int idn)] [] (I, L, R0, 305) Q := by
  refine V_iload_n (pc1 := 1) 1 d10_removeAnswer_0 rfl rfl ?_
  refine V_si (pc1 := 4) (w10_isNode g  nd  I L ) s10_isNode l10_68 rfl rfl ⟨Nat.le_of_ble_eq_true rfl, Nat.le_of_ble_eq_true rfl, Nat.le_refl _, Nat.le_refl _⟩ (Nat.le_of_ble_eq_true rfl) rfl d10_removeAnswer_1 rfl ?_
  refine V_bne (tgt := 9) (pc1 := 7) d10_removeAnswer_4 (by decide) rfl (fun h1 => ?_) (fun h1 => ?_)
  · skip
    obtain ⟨ni, hni, rfl⟩ := isNode_nat h1
    have hn3 : (nI ni).toNatClampNeg = ni := nI_clamp (by omega)
    obtain ⟨⟨gw, hw4, hw⟩, ⟨gr, hr6, hr⟩, ga, ha4, ha⟩ := hv.1 ni hni
    refine V_aload_n (pc1 := 10) 0 d10_removeAnswer_9 rfl rfl ?_
    refine V_getr (pc1 := 13) ly0 (lt305 rfl) f10_10 (fun _ => rfl) rf0_0 d10_removeAnswer_10 rfl ?_
    refine V_getr (pc1 := 16) ly1 (lt305 rfl) f10_75 (fun _ => rfl) rf1_1 d10_removeAnswer_13 rfl ?_
    refine V_iload_n (pc1 := 17) 1 d10_removeAnswer_16 rfl rfl ?_
    refine V_aald (pc1 := 18) ni ((4 + 16 * ni)) ly3 (Or.inr rfl) (lt305 rfl) rfl hni (rfi hni) d10_removeAnswer_17 rfl ?_
    refine V_getr (pc1 := 21) (nd_l0 (okNi hni)) (nd_b0 (okNi hni)) f10_91 (fun _ => rfl) (nd_r0_4 (okNi hni)) d10_removeAnswer_18 rfl ?_
    refine V_astore_n (pc1 := 22) d10_removeAnswer_21 (Nat.le_of_ble_eq_true rfl) rfl rfl ?_
    refine V_iload_n (pc1 := 23) 3 d10_removeAnswer_22 rfl rfl ?_
    refine V_si (pc1 := 26) (w10_isIdentifier g  idn  I L ) s10_isIdentifier l10_72 rfl rfl ⟨Nat.le_of_ble_eq_true rfl, Nat.le_of_ble_eq_true rfl, Nat.le_refl _, Nat.le_refl _⟩ (Nat.le_of_ble_eq_true rfl) rfl d10_removeAnswer_23 rfl ?_
    have key3 : ∀ (y42_0 : Int32), y42_0 = (if (r10_isIdentifier idn) = true then r3_indexOf ((4 + 16 * ni) + 11) 4 (r10_keyOf idn 0) I L else (-1)) → ∀ (lv : List (Nat × Value)), lvsub [(3, .ref (xA g ((4 + 16 * ni) + 11))), (0, .ref (xA g 0)), (1, .int (nI ni)), (2, .int idn)] lv → V g (k10_removeAnswer, 3, 0, 0) 0 0 42 lv [.int y42_0] (I, L, R0, 305) Q := by
      intro y42_0 ey42_0
      subst ey42_0
      intro lv hlv
      refine V_lv hlv ?_
      refine V_istore (pc1 := 44) d10_removeAnswer_42 (Nat.le_of_ble_eq_true rfl) rfl rfl ?_
      refine V_iload (pc1 := 46) 0 d10_removeAnswer_44 rfl rfl ?_
      refine V_if_ge (tgt := 52) (pc1 := 49) d10_removeAnswer_46 (by decide) rfl (fun h4 => ?_) (fun h4 => ?_)
      · skip
        refine V_aload_n (pc1 := 53) 1 d10_removeAnswer_52 rfl rfl ?_
        refine V_iload (pc1 := 55) 0 d10_removeAnswer_53 rfl rfl ?_
        refine V_vv (pc1 := 58) (w3_removeAt g (nd_F11 (okNi hni)) (if (r10_isIdentifier idn) = true then r3_indexOf ((4 + 16 * ni) + 11) 4 (r10_keyOf idn 0) I L else (-1)) ga ha4 I L ha) (nd_l11 (okNi hni)) (nd_b11 (okNi hni)) s3_removeAt l10_109 rfl rfl ⟨Nat.le_of_ble_eq_true rfl, Nat.le_of_ble_eq_true rfl, Nat.le_refl _, Nat.le_refl _⟩ (Nat.le_of_ble_eq_true rfl) rfl d10_removeAnswer_55 rfl ?_
        refine V_aload_n (pc1 := 59) 1 d10_removeAnswer_58 rfl rfl ?_
        refine V_geti (pc1 := 62) (nd_l11 (okNi hni)) (nd_b11 (okNi hni)) f10_113 (fun _ => rfl) rfl d10_removeAnswer_59 rfl ?_
        refine V_iret rfl d10_removeAnswer_62 (Nat.zero_le _) (Nat.zero_le _) ?_
        have hq2 := hq
        simp only [r10_removeAnswer, i10_removeAnswer, if_pos h1, hn3, if_pos h4] at hq2
        exact hq2
      · skip
        refine V_bipush (pc1 := 51) d10_removeAnswer_49 vb_m5 rfl ?_
        refine V_iret rfl d10_removeAnswer_51 (Nat.zero_le _) (Nat.zero_le _) ?_
        have hq2 := hq
        simp only [r10_removeAnswer, i10_removeAnswer, if_pos h1, hn3, if_neg h4] at hq2
        exact hq2
    refine V_beq (tgt := 41) (pc1 := 29) d10_removeAnswer_26 (by decide) rfl (fun h2 => ?_) (fun h2 => ?_)
    · skip
      refine V_iconst (pc1 := 42) d10_removeAnswer_41 vc_m1 rfl ?_
      exact key3 _ (by first | rfl | (simp only [hn3, if_neg h2]; done) | (simp only [hn3, if_neg h2]; rfl)) _ (lvsub_p [0, 1, 2, 3] rfl)
    · skip
      refine V_aload_n (pc1 := 30) 0 d10_removeAnswer_29 rfl rfl ?_
      refine V_iload_n (pc1 := 31) 3 d10_removeAnswer_30 rfl rfl ?_
      refine V_iconst (pc1 := 32) d10_removeAnswer_31 vc_0 rfl ?_
      refine V_si (pc1 := 35) (w10_keyOf g  idn 0  I L ) s10_keyOf l10_95 rfl rfl ⟨Nat.le_of_ble_eq_true rfl, Nat.le_of_ble_eq_true rfl, Nat.le_refl _, Nat.le_refl _⟩ (Nat.le_of_ble_eq_true rfl) rfl d10_removeAnswer_32 rfl ?_
      refine V_vi (pc1 := 38) (w3_indexOf g (nd_F11 (okNi hni)) (r10_keyOf idn 0) ga ha4 I L ha) (nd_l11 (okNi hni)) (nd_b11 (okNi hni)) s3_indexOf l10_99 rfl rfl ⟨Nat.le_of_ble_eq_true rfl, Nat.le_of_ble_eq_true rfl, Nat.le_refl _, Nat.le_refl _⟩ (Nat.le_of_ble_eq_true rfl) rfl d10_removeAnswer_35 rfl ?_
      refine V_goto (tgt := 42) d10_removeAnswer_38 (by decide) ?_
      exact key3 _ (by first | rfl | (simp only [hn3, if_pos h2]; done) | (simp only [hn3, if_pos h2]; rfl)) _ (lvsub_p [0, 1, 2, 3] rfl)
  · skip
    refine V_iconst (pc1 := 8) d10_removeAnswer_7 vc_m1 rfl ?_
    refine V_iret rfl d10_removeAnswer_8 (Nat.zero_le _) (Nat.zero_le _) ?_
    have hq2 := hq
    simp only [r10_removeAnswer, i10_removeAnswer, if_neg h1] at hq2
    exact hq2
theorem w10_removeAnswer (g : GlT)  (nd : Int32) (idn : Int32) (I : Nat → Nat → Int32) (L : Nat → Nat → Int64) (hv : bV 1 I) : Call g (k10_removeAnswer, 3, 0, 0) [.ref (xA g 0), .int nd, .int idn] (I, L, R0, 305) (Qi (r10_removeAnswer nd idn I L) (i10_removeAnswer nd idn I L) L) := Call.of (by decide) (Nat.le_of_ble_eq_true rfl) rfl (v10_removeAnswer g  nd idn  I L hv _ (And.intro rfl rfl))


def r10_detach (nd : Int32) (I : Nat → Nat → Int32) (L : Nat → Nat → Int64) : Int32 := (if (r10_isNode nd) = true then (if I ((4 + 16 * (nd.toNatClampNeg))) 8 = 0 then (-4) else I ((4 + 16 * (nd.toNatClampNeg))) 8) else (-1))
def i10_detach (nd : Int32) (I : Nat → Nat → Int32) (L : Nat → Nat → Int64) : Nat → Nat → Int32 := (if (r10_isNode nd) = true then (if I ((4 + 16 * (nd.toNatClampNeg))) 8 = 0 then I else i6_enter (4 + 16 * (nd.toNatClampNeg)) 2 0 I L) else I)
set_option maxRecDepth 4000 in
theorem v10_detach (g : GlT)  (nd : Int32) (I : Nat → Nat → Int32) (L : Nat → Nat → Int64) (Q : Option Value → MemT → Prop) (hq : Q (some (.int (r10_detach nd I L))) (i10_detach nd I L, L, R0, 305)) : V g (k10_detach, 3, 0, 0) 0 0 0 [(0, .ref (xA g 0)), (1, .int nd)] [] (I, L, R0, 305) Q := by
  refine V_iload_n (pc1 := 1) 1 d10_detach_0 rfl rfl ?_
  refine V_si (pc1 := 4) (w10_isNode g  nd  I L ) s10_isNode l10_68 rfl rfl ⟨Nat.le_of_ble_eq_true rfl, Nat.le_of_ble_eq_true rfl, Nat.le_refl _, Nat.le_refl _⟩ (Nat.le_of_ble_eq_true rfl) rfl d10_detach_1 rfl ?_
  refine V_bne (tgt := 9) (pc1 := 7) d10_detach_4 (by decide) rfl (fun h1 => ?_) (fun h1 => ?_)
  · skip
    obtain ⟨ni, hni, rfl⟩ := isNode_nat h1
    have hn3 : (nI ni).toNatClampNeg = ni := nI_clamp (by omega)
    refine V_aload_n (pc1 := 10) 0 d10_detach_9 rfl rfl ?_
    refine V_getr (pc1 := 13) ly0 (lt305 rfl) f10_10 (fun _ => rfl) rf0_0 d10_detach_10 rfl ?_
    refine V_getr (pc1 := 16) ly1 (lt305 rfl) f10_75 (fun _ => rfl) rf1_1 d10_detach_13 rfl ?_
    refine V_iload_n (pc1 := 17) 1 d10_detach_16 rfl rfl ?_
    refine V_aald (pc1 := 18) ni ((4 + 16 * ni)) ly3 (Or.inr rfl) (lt305 rfl) rfl hni (rfi hni) d10_detach_17 rfl ?_
    refine V_astore_n (pc1 := 19) d10_detach_18 (Nat.le_of_ble_eq_true rfl) rfl rfl ?_
    refine V_aload_n (pc1 := 20) 0 d10_detach_19 rfl rfl ?_
    refine V_geti (pc1 := 23) (nd_l0 (okNi hni)) (nd_b0 (okNi hni)) f10_120 (fun _ => rfl) rfl d10_detach_20 rfl ?_
    refine V_istore_n (pc1 := 24) d10_detach_23 (Nat.le_of_ble_eq_true rfl) rfl rfl ?_
    refine V_iload_n (pc1 := 25) 0 d10_detach_24 rfl rfl ?_
    refine V_if_ne (tgt := 31) (pc1 := 28) d10_detach_25 (by decide) rfl (fun h2 => ?_) (fun h2 => ?_)
    · skip
      refine V_aload_n (pc1 := 32) 1 d10_detach_31 rfl rfl ?_
      refine V_iconst (pc1 := 33) d10_detach_32 vc_0 rfl ?_
      refine V_vv (pc1 := 36) (w6_enter g (okNi hni) 0  I L ) (nd_l0 (okNi hni)) (nd_b0 (okNi hni)) s6_enter l10_123 rfl rfl ⟨Nat.le_of_ble_eq_true rfl, Nat.le_of_ble_eq_true rfl, Nat.le_refl _, Nat.le_refl _⟩ (Nat.le_of_ble_eq_true rfl) rfl d10_detach_33 rfl ?_
      refine V_iload_n (pc1 := 37) 0 d10_detach_36 rfl rfl ?_
      refine V_iret rfl d10_detach_37 (Nat.zero_le _) (Nat.zero_le _) ?_
      have hq2 := hq
      simp only [r10_detach, i10_detach, if_pos h1, hn3, if_neg h2] at hq2
      exact hq2
    · skip
      refine V_bipush (pc1 := 30) d10_detach_28 vb_m4 rfl ?_
      refine V_iret rfl d10_detach_30 (Nat.zero_le _) (Nat.zero_le _) ?_
      have hq2 := hq
      simp only [r10_detach, i10_detach, if_pos h1, hn3, if_pos h2] at hq2
      exact hq2
  · skip
    refine V_iconst (pc1 := 8) d10_detach_7 vc_m1 rfl ?_
    refine V_iret rfl d10_detach_8 (Nat.zero_le _) (Nat.zero_le _) ?_
    have hq2 := hq
    simp only [r10_detach, i10_detach, if_neg h1] at hq2
    exact hq2
theorem w10_detach (g : GlT)  (nd : Int32) (I : Nat → Nat → Int32) (L : Nat → Nat → Int64) : Call g (k10_detach, 3, 0, 0) [.ref (xA g 0), .int nd] (I, L, R0, 305) (Qi (r10_detach nd I L) (i10_detach nd I L) L) := Call.of (by decide) (Nat.le_of_ble_eq_true rfl) rfl (v10_detach g  nd  I L  _ (And.intro rfl rfl))


def r10_attach (nd : Int32) (I : Nat → Nat → Int32) (L : Nat → Nat → Int64) : Int32 := (if (r10_isNode nd) = true then (if I ((4 + 16 * (nd.toNatClampNeg))) 8 = 0 then r0_countAttached 1 (i6_enter (4 + 16 * (nd.toNatClampNeg)) 2 2 I L) L else (-4)) else (-1))
def i10_attach (nd : Int32) (I : Nat → Nat → Int32) (L : Nat → Nat → Int64) : Nat → Nat → Int32 := (if (r10_isNode nd) = true then (if I ((4 + 16 * (nd.toNatClampNeg))) 8 = 0 then i6_enter (4 + 16 * (nd.toNatClampNeg)) 2 2 I L else I) else I)
set_option maxRecDepth 4000 in
theorem v10_attach (g : GlT)  (nd : Int32) (I : Nat → Nat → Int32) (L : Nat → Nat → Int64) (Q : Option Value → MemT → Prop) (hq : Q (some (.int (r10_attach nd I L))) (i10_attach nd I L, L, R0, 305)) : V g (k10_attach, 3, 0, 0) 0 0 0 [(0, .ref (xA g 0)), (1, .int nd)] [] (I, L, R0, 305) Q := by
  refine V_iload_n (pc1 := 1) 1 d10_attach_0 rfl rfl ?_
  refine V_si (pc1 := 4) (w10_isNode g  nd  I L ) s10_isNode l10_68 rfl rfl ⟨Nat.le_of_ble_eq_true rfl, Nat.le_of_ble_eq_true rfl, Nat.le_refl _, Nat.le_refl _⟩ (Nat.le_of_ble_eq_true rfl) rfl d10_attach_1 rfl ?_
  refine V_bne (tgt := 9) (pc1 := 7) d10_attach_4 (by decide) rfl (fun h1 => ?_) (fun h1 => ?_)
  · skip
    obtain ⟨ni, hni, rfl⟩ := isNode_nat h1
    have hn3 : (nI ni).toNatClampNeg = ni := nI_clamp (by omega)
    refine V_aload_n (pc1 := 10) 0 d10_attach_9 rfl rfl ?_
    refine V_getr (pc1 := 13) ly0 (lt305 rfl) f10_10 (fun _ => rfl) rf0_0 d10_attach_10 rfl ?_
    refine V_getr (pc1 := 16) ly1 (lt305 rfl) f10_75 (fun _ => rfl) rf1_1 d10_attach_13 rfl ?_
    refine V_iload_n (pc1 := 17) 1 d10_attach_16 rfl rfl ?_
    refine V_aald (pc1 := 18) ni ((4 + 16 * ni)) ly3 (Or.inr rfl) (lt305 rfl) rfl hni (rfi hni) d10_attach_17 rfl ?_
    refine V_astore_n (pc1 := 19) d10_attach_18 (Nat.le_of_ble_eq_true rfl) rfl rfl ?_
    refine V_aload_n (pc1 := 20) 0 d10_attach_19 rfl rfl ?_
    refine V_geti (pc1 := 23) (nd_l0 (okNi hni)) (nd_b0 (okNi hni)) f10_120 (fun _ => rfl) rfl d10_attach_20 rfl ?_
    refine V_if_eq (tgt := 29) (pc1 := 26) d10_attach_23 (by decide) rfl (fun h2 => ?_) (fun h2 => ?_)
    · skip
      refine V_aload_n (pc1 := 30) 0 d10_attach_29 rfl rfl ?_
      refine V_iconst (pc1 := 31) d10_attach_30 vc_2 rfl ?_
      refine V_vv (pc1 := 34) (w6_enter g (okNi hni) 2  I L ) (nd_l0 (okNi hni)) (nd_b0 (okNi hni)) s6_enter l10_123 rfl rfl ⟨Nat.le_of_ble_eq_true rfl, Nat.le_of_ble_eq_true rfl, Nat.le_refl _, Nat.le_refl _⟩ (Nat.le_of_ble_eq_true rfl) rfl d10_attach_31 rfl ?_
      refine V_aload_n (pc1 := 35) 1 d10_attach_34 rfl rfl ?_
      refine V_getr (pc1 := 38) ly0 (lt305 rfl) f10_10 (fun _ => rfl) rf0_0 d10_attach_35 rfl ?_
      refine V_vi (pc1 := 41) (w0_countAttached g okB1   (i6_enter (4 + 16 * ni) 2 2 I L) L ) ly1 (lt305 rfl) s0_countAttached l10_126 rfl rfl ⟨Nat.le_of_ble_eq_true rfl, Nat.le_of_ble_eq_true rfl, Nat.le_refl _, Nat.le_refl _⟩ (Nat.le_of_ble_eq_true rfl) rfl d10_attach_38 rfl ?_
      refine V_iret rfl d10_attach_41 (Nat.zero_le _) (Nat.zero_le _) ?_
      have hq2 := hq
      simp only [r10_attach, i10_attach, if_pos h1, hn3, if_pos h2] at hq2
      exact hq2
    · skip
      refine V_bipush (pc1 := 28) d10_attach_26 vb_m4 rfl ?_
      refine V_iret rfl d10_attach_28 (Nat.zero_le _) (Nat.zero_le _) ?_
      have hq2 := hq
      simp only [r10_attach, i10_attach, if_pos h1, hn3, if_neg h2] at hq2
      exact hq2
  · skip
    refine V_iconst (pc1 := 8) d10_attach_7 vc_m1 rfl ?_
    refine V_iret rfl d10_attach_8 (Nat.zero_le _) (Nat.zero_le _) ?_
    have hq2 := hq
    simp only [r10_attach, i10_attach, if_neg h1] at hq2
    exact hq2
theorem w10_attach (g : GlT)  (nd : Int32) (I : Nat → Nat → Int32) (L : Nat → Nat → Int64) : Call g (k10_attach, 3, 0, 0) [.ref (xA g 0), .int nd] (I, L, R0, 305) (Qi (r10_attach nd I L) (i10_attach nd I L) L) := Call.of (by decide) (Nat.le_of_ble_eq_true rfl) rfl (v10_attach g  nd  I L  _ (And.intro rfl rfl))


def r10_request (nd : Int32) (idn : Int32) (rm : Int32) (ln : Int32) (dt : Int32) (I : Nat → Nat → Int32) (L : Nat → Nat → Int64) : Int32 := (if (r10_isNode nd) = true then (if (r10_isFrame idn rm ln dt) = true then (if (r6_enqueue (4 + 16 * (nd.toNatClampNeg)) 2 (r10_keyOf idn rm) ln dt I L) = true then (i6_enqueue (4 + 16 * (nd.toNatClampNeg)) 2 (r10_keyOf idn rm) ln dt I L) ((4 + 16 * (nd.toNatClampNeg)) + 3) 3 else (-3)) else (-2)) else (-1))
def i10_request (nd : Int32) (idn : Int32) (rm : Int32) (ln : Int32) (dt : Int32) (I : Nat → Nat → Int32) (L : Nat → Nat → Int64) : Nat → Nat → Int32 := (if (r10_isNode nd) = true then (if (r10_isFrame idn rm ln dt) = true then i6_enqueue (4 + 16 * (nd.toNatClampNeg)) 2 (r10_keyOf idn rm) ln dt I L else I) else I)
set_option maxRecDepth 4000 in
theorem v10_request (g : GlT)  (nd : Int32) (idn : Int32) (rm : Int32) (ln : Int32) (dt : Int32) (I : Nat → Nat → Int32) (L : Nat → Nat → Int64) (hv : bV 1 I) (Q : Option Value → MemT → Prop) (hq : Q (some (.int (r10_request nd idn rm ln dt I L))) (i10_request nd idn rm ln dt I L, L, R0, 305)) : V g (k10_request, 4, 0, 0) 0 0 0 [(0, .ref (xA g 0)), (1, .int nd), (2, .int idn), (3, .int rm), (4, .int ln), (5, .int dt)] [] (I, L, R0, 305) Q := by
  refine V_iload_n (pc1 := 1) 1 d10_request_0 rfl rfl ?_
  refine V_si (pc1 := 4) (w10_isNode g  nd  I L ) s10_isNode l10_68 rfl rfl ⟨Nat.le_of_ble_eq_true rfl, Nat.le_of_ble_eq_true rfl, Nat.le_refl _, Nat.le_refl _⟩ (Nat.le_of_ble_eq_true rfl) rfl d10_request_1 rfl ?_
  refine V_bne (tgt := 9) (pc1 := 7) d10_request_4 (by decide) rfl (fun h1 => ?_) (fun h1 => ?_)
  · skip
    obtain ⟨ni, hni, rfl⟩ := isNode_nat h1
    have hn3 : (nI ni).toNatClampNeg = ni := nI_clamp (by omega)
    obtain ⟨⟨gw, hw4, hw⟩, ⟨gr, hr6, hr⟩, ga, ha4, ha⟩ := hv.1 ni hni
    refine V_iload_n (pc1 := 10) 2 d10_request_9 rfl rfl ?_
    refine V_iload_n (pc1 := 11) 3 d10_request_10 rfl rfl ?_
    refine V_iload (pc1 := 13) 4 d10_request_11 rfl rfl ?_
    refine V_iload (pc1 := 15) 5 d10_request_13 rfl rfl ?_
    refine V_si (pc1 := 18) (w10_isFrame g  idn rm ln dt  I L ) s10_isFrame l10_87 rfl rfl ⟨Nat.le_of_ble_eq_true rfl, Nat.le_of_ble_eq_true rfl, Nat.le_refl _, Nat.le_refl _⟩ (Nat.le_of_ble_eq_true rfl) rfl d10_request_15 rfl ?_
    refine V_bne (tgt := 24) (pc1 := 21) d10_request_18 (by decide) rfl (fun h2 => ?_) (fun h2 => ?_)
    · skip
      refine V_aload_n (pc1 := 25) 0 d10_request_24 rfl rfl ?_
      refine V_getr (pc1 := 28) ly0 (lt305 rfl) f10_10 (fun _ => rfl) rf0_0 d10_request_25 rfl ?_
      refine V_getr (pc1 := 31) ly1 (lt305 rfl) f10_75 (fun _ => rfl) rf1_1 d10_request_28 rfl ?_
      refine V_iload_n (pc1 := 32) 1 d10_request_31 rfl rfl ?_
      refine V_aald (pc1 := 33) ni ((4 + 16 * ni)) ly3 (Or.inr rfl) (lt305 rfl) rfl hni (rfi hni) d10_request_32 rfl ?_
      refine V_astore (pc1 := 35) d10_request_33 (Nat.le_of_ble_eq_true rfl) rfl rfl ?_
      refine V_aload (pc1 := 37) 0 d10_request_35 rfl rfl ?_
      refine V_iload_n (pc1 := 38) 3 d10_request_37 rfl rfl ?_
      refine V_iload_n (pc1 := 39) 4 d10_request_38 rfl rfl ?_
      refine V_si (pc1 := 42) (w10_keyOf g  idn rm  I L ) s10_keyOf l10_95 rfl rfl ⟨Nat.le_of_ble_eq_true rfl, Nat.le_of_ble_eq_true rfl, Nat.le_refl _, Nat.le_refl _⟩ (Nat.le_of_ble_eq_true rfl) rfl d10_request_39 rfl ?_
      refine V_iload (pc1 := 44) 5 d10_request_42 rfl rfl ?_
      refine V_iload (pc1 := 46) 6 d10_request_44 rfl rfl ?_
      refine V_vi (pc1 := 49) (w6_enqueue g (okNi hni) (r10_keyOf idn rm) ln dt  I L (hv.1 ni hni)) (nd_l0 (okNi hni)) (nd_b0 (okNi hni)) s6_enqueue l10_130 rfl rfl ⟨Nat.le_of_ble_eq_true rfl, Nat.le_of_ble_eq_true rfl, Nat.le_refl _, Nat.le_refl _⟩ (Nat.le_of_ble_eq_true rfl) rfl d10_request_46 rfl ?_
      refine V_bne (tgt := 55) (pc1 := 52) d10_request_49 (by decide) rfl (fun h3 => ?_) (fun h3 => ?_)
      · skip
        refine V_aload (pc1 := 57) 0 d10_request_55 rfl rfl ?_
        refine V_getr (pc1 := 60) (nd_l0 (okNi hni)) (nd_b0 (okNi hni)) f10_133 (fun _ => rfl) (nd_r0_2 (okNi hni)) d10_request_57 rfl ?_
        refine V_geti (pc1 := 63) (nd_l3 (okNi hni)) (nd_b3 (okNi hni)) f10_113 (fun _ => rfl) rfl d10_request_60 rfl ?_
        refine V_iret rfl d10_request_63 (Nat.zero_le _) (Nat.zero_le _) ?_
        have hq2 := hq
        simp only [r10_request, i10_request, if_pos h1, hn3, if_pos h2, if_pos h3] at hq2
        exact hq2
      · skip
        refine V_bipush (pc1 := 54) d10_request_52 vb_m3 rfl ?_
        refine V_iret rfl d10_request_54 (Nat.zero_le _) (Nat.zero_le _) ?_
        have hq2 := hq
        simp only [r10_request, i10_request, if_pos h1, hn3, if_pos h2, if_neg h3] at hq2
        exact hq2
    · skip
      refine V_bipush (pc1 := 23) d10_request_21 vb_m2 rfl ?_
      refine V_iret rfl d10_request_23 (Nat.zero_le _) (Nat.zero_le _) ?_
      have hq2 := hq
      simp only [r10_request, i10_request, if_pos h1, hn3, if_neg h2] at hq2
      exact hq2
  · skip
    refine V_iconst (pc1 := 8) d10_request_7 vc_m1 rfl ?_
    refine V_iret rfl d10_request_8 (Nat.zero_le _) (Nat.zero_le _) ?_
    have hq2 := hq
    simp only [r10_request, i10_request, if_neg h1] at hq2
    exact hq2
theorem w10_request (g : GlT)  (nd : Int32) (idn : Int32) (rm : Int32) (ln : Int32) (dt : Int32) (I : Nat → Nat → Int32) (L : Nat → Nat → Int64) (hv : bV 1 I) : Call g (k10_request, 4, 0, 0) [.ref (xA g 0), .int nd, .int idn, .int rm, .int ln, .int dt] (I, L, R0, 305) (Qi (r10_request nd idn rm ln dt I L) (i10_request nd idn rm ln dt I L) L) := Call.of (by decide) (Nat.le_of_ble_eq_true rfl) rfl (v10_request g  nd idn rm ln dt  I L hv _ (And.intro rfl rfl))


def r10_cancel (nd : Int32) (idn : Int32) (I : Nat → Nat → Int32) (L : Nat → Nat → Int64) : Int32 := (if (r10_isNode nd) = true then r6_withdraw (4 + 16 * (nd.toNatClampNeg)) 2 idn I L else (-1))
def i10_cancel (nd : Int32) (idn : Int32) (I : Nat → Nat → Int32) (L : Nat → Nat → Int64) : Nat → Nat → Int32 := (if (r10_isNode nd) = true then i6_withdraw (4 + 16 * (nd.toNatClampNeg)) 2 idn I L else I)
set_option maxRecDepth 4000 in
theorem v10_cancel (g : GlT)  (nd : Int32) (idn : Int32) (I : Nat → Nat → Int32) (L : Nat → Nat → Int64) (hv : bV 1 I) (Q : Option Value → MemT → Prop) (hq : Q (some (.int (r10_cancel nd idn I L))) (i10_cancel nd idn I L, L, R0, 305)) : V g (k10_cancel, 4, 0, 0) 0 0 0 [(0, .ref (xA g 0)), (1, .int nd), (2, .int idn)] [] (I, L, R0, 305) Q := by
  refine V_iload_n (pc1 := 1) 1 d10_cancel_0 rfl rfl ?_
  refine V_si (pc1 := 4) (w10_isNode g  nd  I L ) s10_isNode l10_68 rfl rfl ⟨Nat.le_of_ble_eq_true rfl, Nat.le_of_ble_eq_true rfl, Nat.le_refl _, Nat.le_refl _⟩ (Nat.le_of_ble_eq_true rfl) rfl d10_cancel_1 rfl ?_
  refine V_bne (tgt := 9) (pc1 := 7) d10_cancel_4 (by decide) rfl (fun h1 => ?_) (fun h1 => ?_)
  · skip
    obtain ⟨ni, hni, rfl⟩ := isNode_nat h1
    have hn3 : (nI ni).toNatClampNeg = ni := nI_clamp (by omega)
    obtain ⟨⟨gw, hw4, hw⟩, ⟨gr, hr6, hr⟩, ga, ha4, ha⟩ := hv.1 ni hni
    refine V_aload_n (pc1 := 10) 0 d10_cancel_9 rfl rfl ?_
    refine V_getr (pc1 := 13) ly0 (lt305 rfl) f10_10 (fun _ => rfl) rf0_0 d10_cancel_10 rfl ?_
    refine V_getr (pc1 := 16) ly1 (lt305 rfl) f10_75 (fun _ => rfl) rf1_1 d10_cancel_13 rfl ?_
    refine V_iload_n (pc1 := 17) 1 d10_cancel_16 rfl rfl ?_
    refine V_aald (pc1 := 18) ni ((4 + 16 * ni)) ly3 (Or.inr rfl) (lt305 rfl) rfl hni (rfi hni) d10_cancel_17 rfl ?_
    refine V_iload_n (pc1 := 19) 2 d10_cancel_18 rfl rfl ?_
    refine V_vi (pc1 := 22) (w6_withdraw g (okNi hni) idn  I L (hv.1 ni hni)) (nd_l0 (okNi hni)) (nd_b0 (okNi hni)) s6_withdraw l10_136 rfl rfl ⟨Nat.le_of_ble_eq_true rfl, Nat.le_of_ble_eq_true rfl, Nat.le_refl _, Nat.le_refl _⟩ (Nat.le_of_ble_eq_true rfl) rfl d10_cancel_19 rfl ?_
    refine V_iret rfl d10_cancel_22 (Nat.zero_le _) (Nat.zero_le _) ?_
    have hq2 := hq
    simp only [r10_cancel, i10_cancel, if_pos h1, hn3] at hq2
    exact hq2
  · skip
    refine V_iconst (pc1 := 8) d10_cancel_7 vc_m1 rfl ?_
    refine V_iret rfl d10_cancel_8 (Nat.zero_le _) (Nat.zero_le _) ?_
    have hq2 := hq
    simp only [r10_cancel, i10_cancel, if_neg h1] at hq2
    exact hq2
theorem w10_cancel (g : GlT)  (nd : Int32) (idn : Int32) (I : Nat → Nat → Int32) (L : Nat → Nat → Int64) (hv : bV 1 I) : Call g (k10_cancel, 4, 0, 0) [.ref (xA g 0), .int nd, .int idn] (I, L, R0, 305) (Qi (r10_cancel nd idn I L) (i10_cancel nd idn I L) L) := Call.of (by decide) (Nat.le_of_ble_eq_true rfl) rfl (v10_cancel g  nd idn  I L hv _ (And.intro rfl rfl))


def r10_disturb (a : Int32) (t : Int32) (I : Nat → Nat → Int32) (L : Nat → Nat → Int64) : Int32 := (if (¬ ((r10_isWithin a 1 15) = true)) ∨ (¬ ((r10_isWithin t 0 200) = true)) then (-2) else (if (r1_add 68 a ((I 1 4) + t) I L) = true then (i1_add 68 a ((I 1 4) + t) I L) 68 2 else (-3)))
def i10_disturb (a : Int32) (t : Int32) (I : Nat → Nat → Int32) (L : Nat → Nat → Int64) : Nat → Nat → Int32 := (if (¬ ((r10_isWithin a 1 15) = true)) ∨ (¬ ((r10_isWithin t 0 200) = true)) then I else i1_add 68 a ((I 1 4) + t) I L)
set_option maxRecDepth 4000 in
theorem v10_disturb (g : GlT)  (a : Int32) (t : Int32) (I : Nat → Nat → Int32) (L : Nat → Nat → Int64) (hv : bV 1 I) (Q : Option Value → MemT → Prop) (hq : Q (some (.int (r10_disturb a t I L))) (i10_disturb a t I L, L, R0, 305)) : V g (k10_disturb, 2, 0, 0) 0 0 0 [(0, .ref (xA g 0)), (1, .int a), (2, .int t)] [] (I, L, R0, 305) Q := by
  obtain ⟨gd, hd8, hd⟩ := hv.2
  refine V_iload_n (pc1 := 1) 1 d10_disturb_0 rfl rfl ?_
  refine V_iconst (pc1 := 2) d10_disturb_1 vc_1 rfl ?_
  refine V_bipush (pc1 := 4) d10_disturb_2 vb_15 rfl ?_
  refine V_si (pc1 := 7) (w10_isWithin g  a 1 15  I L ) s10_isWithin l10_48 rfl rfl ⟨Nat.le_of_ble_eq_true rfl, Nat.le_of_ble_eq_true rfl, Nat.le_refl _, Nat.le_refl _⟩ (Nat.le_of_ble_eq_true rfl) rfl d10_disturb_4 rfl ?_
  have k2 : ((¬ ((r10_isWithin a 1 15) = true)) ∨ (¬ ((r10_isWithin t 0 200) = true))) → V g (k10_disturb, 2, 0, 0) 0 0 21 [(0, .ref (xA g 0)), (1, .int a), (2, .int t)] [] (I, L, R0, 305) Q := by
    intro h1
    refine V_bipush (pc1 := 23) d10_disturb_21 vb_m2 rfl ?_
    refine V_iret rfl d10_disturb_23 (Nat.zero_le _) (Nat.zero_le _) ?_
    have hq2 := hq
    simp only [r10_disturb, i10_disturb, if_pos h1] at hq2
    exact hq2
  have k3 : ¬ ((¬ ((r10_isWithin a 1 15) = true)) ∨ (¬ ((r10_isWithin t 0 200) = true))) → V g (k10_disturb, 2, 0, 0) 0 0 24 [(0, .ref (xA g 0)), (1, .int a), (2, .int t)] [] (I, L, R0, 305) Q := by
    intro h1
    refine V_aload_n (pc1 := 25) 0 d10_disturb_24 rfl rfl ?_
    refine V_getr (pc1 := 28) ly0 (lt305 rfl) f10_10 (fun _ => rfl) rf0_0 d10_disturb_25 rfl ?_
    refine V_getr (pc1 := 31) ly1 (lt305 rfl) f10_139 (fun _ => rfl) rf1_2 d10_disturb_28 rfl ?_
    refine V_astore_n (pc1 := 32) d10_disturb_31 (Nat.le_of_ble_eq_true rfl) rfl rfl ?_
    refine V_aload_n (pc1 := 33) 0 d10_disturb_32 rfl rfl ?_
    refine V_iload_n (pc1 := 34) 2 d10_disturb_33 rfl rfl ?_
    refine V_aload_n (pc1 := 35) 1 d10_disturb_34 rfl rfl ?_
    refine V_getr (pc1 := 38) ly0 (lt305 rfl) f10_10 (fun _ => rfl) rf0_0 d10_disturb_35 rfl ?_
    refine V_geti (pc1 := 41) ly1 (lt305 rfl) f10_143 (fun _ => rfl) rfl d10_disturb_38 rfl ?_
    refine V_iload_n (pc1 := 42) 3 d10_disturb_41 rfl rfl ?_
    refine V_iadd (pc1 := 43) d10_disturb_42 rfl ?_
    refine V_vi (pc1 := 46) (w1_add g (bs_D67 okB1) a ((I 1 4) + t) gd hd8 I L hd) ly68 (lt305 rfl) s1_add l10_146 rfl rfl ⟨Nat.le_of_ble_eq_true rfl, Nat.le_of_ble_eq_true rfl, Nat.le_refl _, Nat.le_refl _⟩ (Nat.le_of_ble_eq_true rfl) rfl d10_disturb_43 rfl ?_
    refine V_bne (tgt := 52) (pc1 := 49) d10_disturb_46 (by decide) rfl (fun h4 => ?_) (fun h4 => ?_)
    · skip
      refine V_aload_n (pc1 := 53) 0 d10_disturb_52 rfl rfl ?_
      refine V_geti (pc1 := 56) ly68 (lt305 rfl) f10_152 (fun _ => rfl) rfl d10_disturb_53 rfl ?_
      refine V_iret rfl d10_disturb_56 (Nat.zero_le _) (Nat.zero_le _) ?_
      have hq2 := hq
      simp only [r10_disturb, i10_disturb, if_neg h1, if_pos h4] at hq2
      exact hq2
    · skip
      refine V_bipush (pc1 := 51) d10_disturb_49 vb_m3 rfl ?_
      refine V_iret rfl d10_disturb_51 (Nat.zero_le _) (Nat.zero_le _) ?_
      have hq2 := hq
      simp only [r10_disturb, i10_disturb, if_neg h1, if_neg h4] at hq2
      exact hq2
  refine V_beq (tgt := 21) (pc1 := 10) d10_disturb_7 (by decide) rfl (fun h5 => ?_) (fun h5 => ?_)
  · skip
    exact k2 (Or.inl h5)
  · skip
    refine V_iload_n (pc1 := 11) 2 d10_disturb_10 rfl rfl ?_
    refine V_iconst (pc1 := 12) d10_disturb_11 vc_0 rfl ?_
    refine V_sipush (pc1 := 15) d10_disturb_12 vs_200 rfl ?_
    refine V_si (pc1 := 18) (w10_isWithin g  t 0 200  I L ) s10_isWithin l10_48 rfl rfl ⟨Nat.le_of_ble_eq_true rfl, Nat.le_of_ble_eq_true rfl, Nat.le_refl _, Nat.le_refl _⟩ (Nat.le_of_ble_eq_true rfl) rfl d10_disturb_15 rfl ?_
    refine V_bne (tgt := 24) (pc1 := 21) d10_disturb_18 (by decide) rfl (fun h6 => ?_) (fun h6 => ?_)
    · skip
      exact k3 (fun z => z.elim (fun z => z h5) (fun z => z h6))
    · skip
      exact k2 (Or.inr h6)
theorem w10_disturb (g : GlT)  (a : Int32) (t : Int32) (I : Nat → Nat → Int32) (L : Nat → Nat → Int64) (hv : bV 1 I) : Call g (k10_disturb, 2, 0, 0) [.ref (xA g 0), .int a, .int t] (I, L, R0, 305) (Qi (r10_disturb a t I L) (i10_disturb a t I L) L) := Call.of (by decide) (Nat.le_of_ble_eq_true rfl) rfl (v10_disturb g  a t  I L hv _ (And.intro rfl rfl))


def r10_phase (nd : Int32) (I : Nat → Nat → Int32) (L : Nat → Nat → Int64) : Int32 := (if (r10_isNode nd) = true then I ((4 + 16 * (nd.toNatClampNeg))) 8 else (-1))
set_option maxRecDepth 4000 in
theorem v10_phase (g : GlT)  (nd : Int32) (I : Nat → Nat → Int32) (L : Nat → Nat → Int64) (Q : Option Value → MemT → Prop) (hq : Q (some (.int (r10_phase nd I L))) (I, L, R0, 305)) : V g (k10_phase, 3, 0, 0) 0 0 0 [(0, .ref (xA g 0)), (1, .int nd)] [] (I, L, R0, 305) Q := by
  refine V_iload_n (pc1 := 1) 1 d10_phase_0 rfl rfl ?_
  refine V_si (pc1 := 4) (w10_isNode g  nd  I L ) s10_isNode l10_68 rfl rfl ⟨Nat.le_of_ble_eq_true rfl, Nat.le_of_ble_eq_true rfl, Nat.le_refl _, Nat.le_refl _⟩ (Nat.le_of_ble_eq_true rfl) rfl d10_phase_1 rfl ?_
  have key2 : ∀ (z23_1 : Int32), z23_1 = (if (r10_isNode nd) = true then nI (nd.toNatClampNeg) else nd) → ∀ (y23_0 : Int32), y23_0 = (if (r10_isNode nd) = true then I ((4 + 16 * (nd.toNatClampNeg))) 8 else (-1)) → ∀ (lv : List (Nat × Value)), lvsub [(0, .ref (xA g 0)), (1, .int z23_1)] lv → V g (k10_phase, 3, 0, 0) 0 0 23 lv [.int y23_0] (I, L, R0, 305) Q := by
    intro z23_1 ez23_1 y23_0 ey23_0
    subst ez23_1
    subst ey23_0
    intro lv hlv
    refine V_lv hlv ?_
    refine V_iret rfl d10_phase_23 (Nat.zero_le _) (Nat.zero_le _) ?_
    have hq2 := hq
    simp only [r10_phase] at hq2
    exact hq2
  refine V_beq (tgt := 22) (pc1 := 7) d10_phase_4 (by decide) rfl (fun h1 => ?_) (fun h1 => ?_)
  · skip
    refine V_iconst (pc1 := 23) d10_phase_22 vc_m1 rfl ?_
    exact key2 _ (by first | rfl | (simp only [if_neg h1]; done) | (simp only [if_neg h1]; rfl)) _ (by first | rfl | (simp only [if_neg h1]; done) | (simp only [if_neg h1]; rfl)) _ (lvsub_p [0, 1] rfl)
  · skip
    obtain ⟨ni, hni, rfl⟩ := isNode_nat h1
    have hn3 : (nI ni).toNatClampNeg = ni := nI_clamp (by omega)
    refine V_aload_n (pc1 := 8) 0 d10_phase_7 rfl rfl ?_
    refine V_getr (pc1 := 11) ly0 (lt305 rfl) f10_10 (fun _ => rfl) rf0_0 d10_phase_8 rfl ?_
    refine V_getr (pc1 := 14) ly1 (lt305 rfl) f10_75 (fun _ => rfl) rf1_1 d10_phase_11 rfl ?_
    refine V_iload_n (pc1 := 15) 1 d10_phase_14 rfl rfl ?_
    refine V_aald (pc1 := 16) ni ((4 + 16 * ni)) ly3 (Or.inr rfl) (lt305 rfl) rfl hni (rfi hni) d10_phase_15 rfl ?_
    refine V_geti (pc1 := 19) (nd_l0 (okNi hni)) (nd_b0 (okNi hni)) f10_120 (fun _ => rfl) rfl d10_phase_16 rfl ?_
    refine V_goto (tgt := 23) d10_phase_19 (by decide) ?_
    exact key2 _ (by first | rfl | (simp only [if_pos h1, hn3]; done) | (simp only [if_pos h1, hn3]; rfl)) _ (by first | rfl | (simp only [if_pos h1, hn3]; done) | (simp only [if_pos h1, hn3]; rfl)) _ (lvsub_p [0, 1] rfl)
theorem w10_phase (g : GlT)  (nd : Int32) (I : Nat → Nat → Int32) (L : Nat → Nat → Int64) : Call g (k10_phase, 3, 0, 0) [.ref (xA g 0), .int nd] (I, L, R0, 305) (Qi (r10_phase nd I L) (I) L) := Call.of (by decide) (Nat.le_of_ble_eq_true rfl) rfl (v10_phase g  nd  I L  _ (And.intro rfl rfl))


def r10_isTransmitter (nd : Int32) (I : Nat → Nat → Int32) (L : Nat → Nat → Int64) : Int32 := (if (r10_isNode nd) = true then r10_asInt (I ((4 + 16 * (nd.toNatClampNeg))) 9) else (-1))
set_option maxRecDepth 4000 in
theorem v10_isTransmitter (g : GlT)  (nd : Int32) (I : Nat → Nat → Int32) (L : Nat → Nat → Int64) (Q : Option Value → MemT → Prop) (hq : Q (some (.int (r10_isTransmitter nd I L))) (I, L, R0, 305)) : V g (k10_isTransmitter, 3, 0, 0) 0 0 0 [(0, .ref (xA g 0)), (1, .int nd)] [] (I, L, R0, 305) Q := by
  refine V_iload_n (pc1 := 1) 1 d10_isTransmitter_0 rfl rfl ?_
  refine V_si (pc1 := 4) (w10_isNode g  nd  I L ) s10_isNode l10_68 rfl rfl ⟨Nat.le_of_ble_eq_true rfl, Nat.le_of_ble_eq_true rfl, Nat.le_refl _, Nat.le_refl _⟩ (Nat.le_of_ble_eq_true rfl) rfl d10_isTransmitter_1 rfl ?_
  have key2 : ∀ (z26_1 : Int32), z26_1 = (if (r10_isNode nd) = true then nI (nd.toNatClampNeg) else nd) → ∀ (y26_0 : Int32), y26_0 = (if (r10_isNode nd) = true then r10_asInt (I ((4 + 16 * (nd.toNatClampNeg))) 9) else (-1)) → ∀ (lv : List (Nat × Value)), lvsub [(0, .ref (xA g 0)), (1, .int z26_1)] lv → V g (k10_isTransmitter, 3, 0, 0) 0 0 26 lv [.int y26_0] (I, L, R0, 305) Q := by
    intro z26_1 ez26_1 y26_0 ey26_0
    subst ez26_1
    subst ey26_0
    intro lv hlv
    refine V_lv hlv ?_
    refine V_iret rfl d10_isTransmitter_26 (Nat.zero_le _) (Nat.zero_le _) ?_
    have hq2 := hq
    simp only [r10_isTransmitter] at hq2
    exact hq2
  refine V_beq (tgt := 25) (pc1 := 7) d10_isTransmitter_4 (by decide) rfl (fun h1 => ?_) (fun h1 => ?_)
  · skip
    refine V_iconst (pc1 := 26) d10_isTransmitter_25 vc_m1 rfl ?_
    exact key2 _ (by first | rfl | (simp only [if_neg h1]; done) | (simp only [if_neg h1]; rfl)) _ (by first | rfl | (simp only [if_neg h1]; done) | (simp only [if_neg h1]; rfl)) _ (lvsub_p [0, 1] rfl)
  · skip
    obtain ⟨ni, hni, rfl⟩ := isNode_nat h1
    have hn3 : (nI ni).toNatClampNeg = ni := nI_clamp (by omega)
    refine V_aload_n (pc1 := 8) 0 d10_isTransmitter_7 rfl rfl ?_
    refine V_getr (pc1 := 11) ly0 (lt305 rfl) f10_10 (fun _ => rfl) rf0_0 d10_isTransmitter_8 rfl ?_
    refine V_getr (pc1 := 14) ly1 (lt305 rfl) f10_75 (fun _ => rfl) rf1_1 d10_isTransmitter_11 rfl ?_
    refine V_iload_n (pc1 := 15) 1 d10_isTransmitter_14 rfl rfl ?_
    refine V_aald (pc1 := 16) ni ((4 + 16 * ni)) ly3 (Or.inr rfl) (lt305 rfl) rfl hni (rfi hni) d10_isTransmitter_15 rfl ?_
    refine V_geti (pc1 := 19) (nd_l0 (okNi hni)) (nd_b0 (okNi hni)) f10_162 (fun _ => rfl) rfl d10_isTransmitter_16 rfl ?_
    refine V_si (pc1 := 22) (w10_asInt g  (I ((4 + 16 * ni)) 9)  I L ) s10_asInt l10_166 rfl rfl ⟨Nat.le_of_ble_eq_true rfl, Nat.le_of_ble_eq_true rfl, Nat.le_refl _, Nat.le_refl _⟩ (Nat.le_of_ble_eq_true rfl) rfl d10_isTransmitter_19 rfl ?_
    refine V_goto (tgt := 26) d10_isTransmitter_22 (by decide) ?_
    exact key2 _ (by first | rfl | (simp only [if_pos h1, hn3]; done) | (simp only [if_pos h1, hn3]; rfl)) _ (by first | rfl | (simp only [if_pos h1, hn3]; done) | (simp only [if_pos h1, hn3]; rfl)) _ (lvsub_p [0, 1] rfl)
theorem w10_isTransmitter (g : GlT)  (nd : Int32) (I : Nat → Nat → Int32) (L : Nat → Nat → Int64) : Call g (k10_isTransmitter, 3, 0, 0) [.ref (xA g 0), .int nd] (I, L, R0, 305) (Qi (r10_isTransmitter nd I L) (I) L) := Call.of (by decide) (Nat.le_of_ble_eq_true rfl) rfl (v10_isTransmitter g  nd  I L  _ (And.intro rfl rfl))


def r10_transmitErrors (nd : Int32) (I : Nat → Nat → Int32) (L : Nat → Nat → Int64) : Int32 := (if (r10_isNode nd) = true then I ((4 + 16 * (nd.toNatClampNeg))) 10 else (-1))
set_option maxRecDepth 4000 in
theorem v10_transmitErrors (g : GlT)  (nd : Int32) (I : Nat → Nat → Int32) (L : Nat → Nat → Int64) (Q : Option Value → MemT → Prop) (hq : Q (some (.int (r10_transmitErrors nd I L))) (I, L, R0, 305)) : V g (k10_transmitErrors, 3, 0, 0) 0 0 0 [(0, .ref (xA g 0)), (1, .int nd)] [] (I, L, R0, 305) Q := by
  refine V_iload_n (pc1 := 1) 1 d10_transmitErrors_0 rfl rfl ?_
  refine V_si (pc1 := 4) (w10_isNode g  nd  I L ) s10_isNode l10_68 rfl rfl ⟨Nat.le_of_ble_eq_true rfl, Nat.le_of_ble_eq_true rfl, Nat.le_refl _, Nat.le_refl _⟩ (Nat.le_of_ble_eq_true rfl) rfl d10_transmitErrors_1 rfl ?_
  have key2 : ∀ (z23_1 : Int32), z23_1 = (if (r10_isNode nd) = true then nI (nd.toNatClampNeg) else nd) → ∀ (y23_0 : Int32), y23_0 = (if (r10_isNode nd) = true then I ((4 + 16 * (nd.toNatClampNeg))) 10 else (-1)) → ∀ (lv : List (Nat × Value)), lvsub [(0, .ref (xA g 0)), (1, .int z23_1)] lv → V g (k10_transmitErrors, 3, 0, 0) 0 0 23 lv [.int y23_0] (I, L, R0, 305) Q := by
    intro z23_1 ez23_1 y23_0 ey23_0
    subst ez23_1
    subst ey23_0
    intro lv hlv
    refine V_lv hlv ?_
    refine V_iret rfl d10_transmitErrors_23 (Nat.zero_le _) (Nat.zero_le _) ?_
    have hq2 := hq
    simp only [r10_transmitErrors] at hq2
    exact hq2
  refine V_beq (tgt := 22) (pc1 := 7) d10_transmitErrors_4 (by decide) rfl (fun h1 => ?_) (fun h1 => ?_)
  · skip
    refine V_iconst (pc1 := 23) d10_transmitErrors_22 vc_m1 rfl ?_
    exact key2 _ (by first | rfl | (simp only [if_neg h1]; done) | (simp only [if_neg h1]; rfl)) _ (by first | rfl | (simp only [if_neg h1]; done) | (simp only [if_neg h1]; rfl)) _ (lvsub_p [0, 1] rfl)
  · skip
    obtain ⟨ni, hni, rfl⟩ := isNode_nat h1
    have hn3 : (nI ni).toNatClampNeg = ni := nI_clamp (by omega)
    refine V_aload_n (pc1 := 8) 0 d10_transmitErrors_7 rfl rfl ?_
    refine V_getr (pc1 := 11) ly0 (lt305 rfl) f10_10 (fun _ => rfl) rf0_0 d10_transmitErrors_8 rfl ?_
    refine V_getr (pc1 := 14) ly1 (lt305 rfl) f10_75 (fun _ => rfl) rf1_1 d10_transmitErrors_11 rfl ?_
    refine V_iload_n (pc1 := 15) 1 d10_transmitErrors_14 rfl rfl ?_
    refine V_aald (pc1 := 16) ni ((4 + 16 * ni)) ly3 (Or.inr rfl) (lt305 rfl) rfl hni (rfi hni) d10_transmitErrors_15 rfl ?_
    refine V_geti (pc1 := 19) (nd_l0 (okNi hni)) (nd_b0 (okNi hni)) f10_170 (fun _ => rfl) rfl d10_transmitErrors_16 rfl ?_
    refine V_goto (tgt := 23) d10_transmitErrors_19 (by decide) ?_
    exact key2 _ (by first | rfl | (simp only [if_pos h1, hn3]; done) | (simp only [if_pos h1, hn3]; rfl)) _ (by first | rfl | (simp only [if_pos h1, hn3]; done) | (simp only [if_pos h1, hn3]; rfl)) _ (lvsub_p [0, 1] rfl)
theorem w10_transmitErrors (g : GlT)  (nd : Int32) (I : Nat → Nat → Int32) (L : Nat → Nat → Int64) : Call g (k10_transmitErrors, 3, 0, 0) [.ref (xA g 0), .int nd] (I, L, R0, 305) (Qi (r10_transmitErrors nd I L) (I) L) := Call.of (by decide) (Nat.le_of_ble_eq_true rfl) rfl (v10_transmitErrors g  nd  I L  _ (And.intro rfl rfl))


def r10_receiveErrors (nd : Int32) (I : Nat → Nat → Int32) (L : Nat → Nat → Int64) : Int32 := (if (r10_isNode nd) = true then I ((4 + 16 * (nd.toNatClampNeg))) 11 else (-1))
set_option maxRecDepth 4000 in
theorem v10_receiveErrors (g : GlT)  (nd : Int32) (I : Nat → Nat → Int32) (L : Nat → Nat → Int64) (Q : Option Value → MemT → Prop) (hq : Q (some (.int (r10_receiveErrors nd I L))) (I, L, R0, 305)) : V g (k10_receiveErrors, 3, 0, 0) 0 0 0 [(0, .ref (xA g 0)), (1, .int nd)] [] (I, L, R0, 305) Q := by
  refine V_iload_n (pc1 := 1) 1 d10_receiveErrors_0 rfl rfl ?_
  refine V_si (pc1 := 4) (w10_isNode g  nd  I L ) s10_isNode l10_68 rfl rfl ⟨Nat.le_of_ble_eq_true rfl, Nat.le_of_ble_eq_true rfl, Nat.le_refl _, Nat.le_refl _⟩ (Nat.le_of_ble_eq_true rfl) rfl d10_receiveErrors_1 rfl ?_
  have key2 : ∀ (z23_1 : Int32), z23_1 = (if (r10_isNode nd) = true then nI (nd.toNatClampNeg) else nd) → ∀ (y23_0 : Int32), y23_0 = (if (r10_isNode nd) = true then I ((4 + 16 * (nd.toNatClampNeg))) 11 else (-1)) → ∀ (lv : List (Nat × Value)), lvsub [(0, .ref (xA g 0)), (1, .int z23_1)] lv → V g (k10_receiveErrors, 3, 0, 0) 0 0 23 lv [.int y23_0] (I, L, R0, 305) Q := by
    intro z23_1 ez23_1 y23_0 ey23_0
    subst ez23_1
    subst ey23_0
    intro lv hlv
    refine V_lv hlv ?_
    refine V_iret rfl d10_receiveErrors_23 (Nat.zero_le _) (Nat.zero_le _) ?_
    have hq2 := hq
    simp only [r10_receiveErrors] at hq2
    exact hq2
  refine V_beq (tgt := 22) (pc1 := 7) d10_receiveErrors_4 (by decide) rfl (fun h1 => ?_) (fun h1 => ?_)
  · skip
    refine V_iconst (pc1 := 23) d10_receiveErrors_22 vc_m1 rfl ?_
    exact key2 _ (by first | rfl | (simp only [if_neg h1]; done) | (simp only [if_neg h1]; rfl)) _ (by first | rfl | (simp only [if_neg h1]; done) | (simp only [if_neg h1]; rfl)) _ (lvsub_p [0, 1] rfl)
  · skip
    obtain ⟨ni, hni, rfl⟩ := isNode_nat h1
    have hn3 : (nI ni).toNatClampNeg = ni := nI_clamp (by omega)
    refine V_aload_n (pc1 := 8) 0 d10_receiveErrors_7 rfl rfl ?_
    refine V_getr (pc1 := 11) ly0 (lt305 rfl) f10_10 (fun _ => rfl) rf0_0 d10_receiveErrors_8 rfl ?_
    refine V_getr (pc1 := 14) ly1 (lt305 rfl) f10_75 (fun _ => rfl) rf1_1 d10_receiveErrors_11 rfl ?_
    refine V_iload_n (pc1 := 15) 1 d10_receiveErrors_14 rfl rfl ?_
    refine V_aald (pc1 := 16) ni ((4 + 16 * ni)) ly3 (Or.inr rfl) (lt305 rfl) rfl hni (rfi hni) d10_receiveErrors_15 rfl ?_
    refine V_geti (pc1 := 19) (nd_l0 (okNi hni)) (nd_b0 (okNi hni)) f10_173 (fun _ => rfl) rfl d10_receiveErrors_16 rfl ?_
    refine V_goto (tgt := 23) d10_receiveErrors_19 (by decide) ?_
    exact key2 _ (by first | rfl | (simp only [if_pos h1, hn3]; done) | (simp only [if_pos h1, hn3]; rfl)) _ (by first | rfl | (simp only [if_pos h1, hn3]; done) | (simp only [if_pos h1, hn3]; rfl)) _ (lvsub_p [0, 1] rfl)
theorem w10_receiveErrors (g : GlT)  (nd : Int32) (I : Nat → Nat → Int32) (L : Nat → Nat → Int64) : Call g (k10_receiveErrors, 3, 0, 0) [.ref (xA g 0), .int nd] (I, L, R0, 305) (Qi (r10_receiveErrors nd I L) (I) L) := Call.of (by decide) (Nat.le_of_ble_eq_true rfl) rfl (v10_receiveErrors g  nd  I L  _ (And.intro rfl rfl))


def r10_isPassive (nd : Int32) (I : Nat → Nat → Int32) (L : Nat → Nat → Int64) : Int32 := (if (r10_isNode nd) = true then r10_asInt (bI (r6_isErrorPassive (4 + 16 * (nd.toNatClampNeg)) 2 I L)) else (-1))
set_option maxRecDepth 4000 in
theorem v10_isPassive (g : GlT)  (nd : Int32) (I : Nat → Nat → Int32) (L : Nat → Nat → Int64) (Q : Option Value → MemT → Prop) (hq : Q (some (.int (r10_isPassive nd I L))) (I, L, R0, 305)) : V g (k10_isPassive, 3, 0, 0) 0 0 0 [(0, .ref (xA g 0)), (1, .int nd)] [] (I, L, R0, 305) Q := by
  refine V_iload_n (pc1 := 1) 1 d10_isPassive_0 rfl rfl ?_
  refine V_si (pc1 := 4) (w10_isNode g  nd  I L ) s10_isNode l10_68 rfl rfl ⟨Nat.le_of_ble_eq_true rfl, Nat.le_of_ble_eq_true rfl, Nat.le_refl _, Nat.le_refl _⟩ (Nat.le_of_ble_eq_true rfl) rfl d10_isPassive_1 rfl ?_
  have key2 : ∀ (z26_1 : Int32), z26_1 = (if (r10_isNode nd) = true then nI (nd.toNatClampNeg) else nd) → ∀ (y26_0 : Int32), y26_0 = (if (r10_isNode nd) = true then r10_asInt (bI (r6_isErrorPassive (4 + 16 * (nd.toNatClampNeg)) 2 I L)) else (-1)) → ∀ (lv : List (Nat × Value)), lvsub [(0, .ref (xA g 0)), (1, .int z26_1)] lv → V g (k10_isPassive, 3, 0, 0) 0 0 26 lv [.int y26_0] (I, L, R0, 305) Q := by
    intro z26_1 ez26_1 y26_0 ey26_0
    subst ez26_1
    subst ey26_0
    intro lv hlv
    refine V_lv hlv ?_
    refine V_iret rfl d10_isPassive_26 (Nat.zero_le _) (Nat.zero_le _) ?_
    have hq2 := hq
    simp only [r10_isPassive] at hq2
    exact hq2
  refine V_beq (tgt := 25) (pc1 := 7) d10_isPassive_4 (by decide) rfl (fun h1 => ?_) (fun h1 => ?_)
  · skip
    refine V_iconst (pc1 := 26) d10_isPassive_25 vc_m1 rfl ?_
    exact key2 _ (by first | rfl | (simp only [if_neg h1]; done) | (simp only [if_neg h1]; rfl)) _ (by first | rfl | (simp only [if_neg h1]; done) | (simp only [if_neg h1]; rfl)) _ (lvsub_p [0, 1] rfl)
  · skip
    obtain ⟨ni, hni, rfl⟩ := isNode_nat h1
    have hn3 : (nI ni).toNatClampNeg = ni := nI_clamp (by omega)
    refine V_aload_n (pc1 := 8) 0 d10_isPassive_7 rfl rfl ?_
    refine V_getr (pc1 := 11) ly0 (lt305 rfl) f10_10 (fun _ => rfl) rf0_0 d10_isPassive_8 rfl ?_
    refine V_getr (pc1 := 14) ly1 (lt305 rfl) f10_75 (fun _ => rfl) rf1_1 d10_isPassive_11 rfl ?_
    refine V_iload_n (pc1 := 15) 1 d10_isPassive_14 rfl rfl ?_
    refine V_aald (pc1 := 16) ni ((4 + 16 * ni)) ly3 (Or.inr rfl) (lt305 rfl) rfl hni (rfi hni) d10_isPassive_15 rfl ?_
    refine V_vi (pc1 := 19) (w6_isErrorPassive g (okNi hni)   I L ) (nd_l0 (okNi hni)) (nd_b0 (okNi hni)) s6_isErrorPassive l10_176 rfl rfl ⟨Nat.le_of_ble_eq_true rfl, Nat.le_of_ble_eq_true rfl, Nat.le_refl _, Nat.le_refl _⟩ (Nat.le_of_ble_eq_true rfl) rfl d10_isPassive_16 rfl ?_
    refine V_si (pc1 := 22) (w10_asInt g  (bI (r6_isErrorPassive (4 + 16 * ni) 2 I L))  I L ) s10_asInt l10_166 rfl rfl ⟨Nat.le_of_ble_eq_true rfl, Nat.le_of_ble_eq_true rfl, Nat.le_refl _, Nat.le_refl _⟩ (Nat.le_of_ble_eq_true rfl) rfl d10_isPassive_19 rfl ?_
    refine V_goto (tgt := 26) d10_isPassive_22 (by decide) ?_
    exact key2 _ (by first | rfl | (simp only [if_pos h1, hn3]; done) | (simp only [if_pos h1, hn3]; rfl)) _ (by first | rfl | (simp only [if_pos h1, hn3]; done) | (simp only [if_pos h1, hn3]; rfl)) _ (lvsub_p [0, 1] rfl)
theorem w10_isPassive (g : GlT)  (nd : Int32) (I : Nat → Nat → Int32) (L : Nat → Nat → Int64) : Call g (k10_isPassive, 3, 0, 0) [.ref (xA g 0), .int nd] (I, L, R0, 305) (Qi (r10_isPassive nd I L) (I) L) := Call.of (by decide) (Nat.le_of_ble_eq_true rfl) rfl (v10_isPassive g  nd  I L  _ (And.intro rfl rfl))


def r10_lastError (nd : Int32) (I : Nat → Nat → Int32) (L : Nat → Nat → Int64) : Int32 := (if (r10_isNode nd) = true then I ((4 + 16 * (nd.toNatClampNeg)) + 1) 1 else (-1))
set_option maxRecDepth 4000 in
theorem v10_lastError (g : GlT)  (nd : Int32) (I : Nat → Nat → Int32) (L : Nat → Nat → Int64) (Q : Option Value → MemT → Prop) (hq : Q (some (.int (r10_lastError nd I L))) (I, L, R0, 305)) : V g (k10_lastError, 3, 0, 0) 0 0 0 [(0, .ref (xA g 0)), (1, .int nd)] [] (I, L, R0, 305) Q := by
  refine V_iload_n (pc1 := 1) 1 d10_lastError_0 rfl rfl ?_
  refine V_si (pc1 := 4) (w10_isNode g  nd  I L ) s10_isNode l10_68 rfl rfl ⟨Nat.le_of_ble_eq_true rfl, Nat.le_of_ble_eq_true rfl, Nat.le_refl _, Nat.le_refl _⟩ (Nat.le_of_ble_eq_true rfl) rfl d10_lastError_1 rfl ?_
  have key2 : ∀ (z26_1 : Int32), z26_1 = (if (r10_isNode nd) = true then nI (nd.toNatClampNeg) else nd) → ∀ (y26_0 : Int32), y26_0 = (if (r10_isNode nd) = true then I ((4 + 16 * (nd.toNatClampNeg)) + 1) 1 else (-1)) → ∀ (lv : List (Nat × Value)), lvsub [(0, .ref (xA g 0)), (1, .int z26_1)] lv → V g (k10_lastError, 3, 0, 0) 0 0 26 lv [.int y26_0] (I, L, R0, 305) Q := by
    intro z26_1 ez26_1 y26_0 ey26_0
    subst ez26_1
    subst ey26_0
    intro lv hlv
    refine V_lv hlv ?_
    refine V_iret rfl d10_lastError_26 (Nat.zero_le _) (Nat.zero_le _) ?_
    have hq2 := hq
    simp only [r10_lastError] at hq2
    exact hq2
  refine V_beq (tgt := 25) (pc1 := 7) d10_lastError_4 (by decide) rfl (fun h1 => ?_) (fun h1 => ?_)
  · skip
    refine V_iconst (pc1 := 26) d10_lastError_25 vc_m1 rfl ?_
    exact key2 _ (by first | rfl | (simp only [if_neg h1]; done) | (simp only [if_neg h1]; rfl)) _ (by first | rfl | (simp only [if_neg h1]; done) | (simp only [if_neg h1]; rfl)) _ (lvsub_p [0, 1] rfl)
  · skip
    obtain ⟨ni, hni, rfl⟩ := isNode_nat h1
    have hn3 : (nI ni).toNatClampNeg = ni := nI_clamp (by omega)
    refine V_aload_n (pc1 := 8) 0 d10_lastError_7 rfl rfl ?_
    refine V_getr (pc1 := 11) ly0 (lt305 rfl) f10_10 (fun _ => rfl) rf0_0 d10_lastError_8 rfl ?_
    refine V_getr (pc1 := 14) ly1 (lt305 rfl) f10_75 (fun _ => rfl) rf1_1 d10_lastError_11 rfl ?_
    refine V_iload_n (pc1 := 15) 1 d10_lastError_14 rfl rfl ?_
    refine V_aald (pc1 := 16) ni ((4 + 16 * ni)) ly3 (Or.inr rfl) (lt305 rfl) rfl hni (rfi hni) d10_lastError_15 rfl ?_
    refine V_getr (pc1 := 19) (nd_l0 (okNi hni)) (nd_b0 (okNi hni)) f10_179 (fun _ => rfl) (nd_r0_1 (okNi hni)) d10_lastError_16 rfl ?_
    refine V_geti (pc1 := 22) (nd_l1 (okNi hni)) (nd_b1 (okNi hni)) f10_189 (fun _ => rfl) rfl d10_lastError_19 rfl ?_
    refine V_goto (tgt := 26) d10_lastError_22 (by decide) ?_
    exact key2 _ (by first | rfl | (simp only [if_pos h1, hn3]; done) | (simp only [if_pos h1, hn3]; rfl)) _ (by first | rfl | (simp only [if_pos h1, hn3]; done) | (simp only [if_pos h1, hn3]; rfl)) _ (lvsub_p [0, 1] rfl)
theorem w10_lastError (g : GlT)  (nd : Int32) (I : Nat → Nat → Int32) (L : Nat → Nat → Int64) : Call g (k10_lastError, 3, 0, 0) [.ref (xA g 0), .int nd] (I, L, R0, 305) (Qi (r10_lastError nd I L) (I) L) := Call.of (by decide) (Nat.le_of_ble_eq_true rfl) rfl (v10_lastError g  nd  I L  _ (And.intro rfl rfl))


def r10_lostArbitrations (nd : Int32) (I : Nat → Nat → Int32) (L : Nat → Nat → Int64) : Int32 := (if (r10_isNode nd) = true then I ((4 + 16 * (nd.toNatClampNeg)) + 1) 2 else (-1))
set_option maxRecDepth 4000 in
theorem v10_lostArbitrations (g : GlT)  (nd : Int32) (I : Nat → Nat → Int32) (L : Nat → Nat → Int64) (Q : Option Value → MemT → Prop) (hq : Q (some (.int (r10_lostArbitrations nd I L))) (I, L, R0, 305)) : V g (k10_lostArbitrations, 3, 0, 0) 0 0 0 [(0, .ref (xA g 0)), (1, .int nd)] [] (I, L, R0, 305) Q := by
  refine V_iload_n (pc1 := 1) 1 d10_lostArbitrations_0 rfl rfl ?_
  refine V_si (pc1 := 4) (w10_isNode g  nd  I L ) s10_isNode l10_68 rfl rfl ⟨Nat.le_of_ble_eq_true rfl, Nat.le_of_ble_eq_true rfl, Nat.le_refl _, Nat.le_refl _⟩ (Nat.le_of_ble_eq_true rfl) rfl d10_lostArbitrations_1 rfl ?_
  have key2 : ∀ (z26_1 : Int32), z26_1 = (if (r10_isNode nd) = true then nI (nd.toNatClampNeg) else nd) → ∀ (y26_0 : Int32), y26_0 = (if (r10_isNode nd) = true then I ((4 + 16 * (nd.toNatClampNeg)) + 1) 2 else (-1)) → ∀ (lv : List (Nat × Value)), lvsub [(0, .ref (xA g 0)), (1, .int z26_1)] lv → V g (k10_lostArbitrations, 3, 0, 0) 0 0 26 lv [.int y26_0] (I, L, R0, 305) Q := by
    intro z26_1 ez26_1 y26_0 ey26_0
    subst ez26_1
    subst ey26_0
    intro lv hlv
    refine V_lv hlv ?_
    refine V_iret rfl d10_lostArbitrations_26 (Nat.zero_le _) (Nat.zero_le _) ?_
    have hq2 := hq
    simp only [r10_lostArbitrations] at hq2
    exact hq2
  refine V_beq (tgt := 25) (pc1 := 7) d10_lostArbitrations_4 (by decide) rfl (fun h1 => ?_) (fun h1 => ?_)
  · skip
    refine V_iconst (pc1 := 26) d10_lostArbitrations_25 vc_m1 rfl ?_
    exact key2 _ (by first | rfl | (simp only [if_neg h1]; done) | (simp only [if_neg h1]; rfl)) _ (by first | rfl | (simp only [if_neg h1]; done) | (simp only [if_neg h1]; rfl)) _ (lvsub_p [0, 1] rfl)
  · skip
    obtain ⟨ni, hni, rfl⟩ := isNode_nat h1
    have hn3 : (nI ni).toNatClampNeg = ni := nI_clamp (by omega)
    refine V_aload_n (pc1 := 8) 0 d10_lostArbitrations_7 rfl rfl ?_
    refine V_getr (pc1 := 11) ly0 (lt305 rfl) f10_10 (fun _ => rfl) rf0_0 d10_lostArbitrations_8 rfl ?_
    refine V_getr (pc1 := 14) ly1 (lt305 rfl) f10_75 (fun _ => rfl) rf1_1 d10_lostArbitrations_11 rfl ?_
    refine V_iload_n (pc1 := 15) 1 d10_lostArbitrations_14 rfl rfl ?_
    refine V_aald (pc1 := 16) ni ((4 + 16 * ni)) ly3 (Or.inr rfl) (lt305 rfl) rfl hni (rfi hni) d10_lostArbitrations_15 rfl ?_
    refine V_getr (pc1 := 19) (nd_l0 (okNi hni)) (nd_b0 (okNi hni)) f10_179 (fun _ => rfl) (nd_r0_1 (okNi hni)) d10_lostArbitrations_16 rfl ?_
    refine V_geti (pc1 := 22) (nd_l1 (okNi hni)) (nd_b1 (okNi hni)) f10_192 (fun _ => rfl) rfl d10_lostArbitrations_19 rfl ?_
    refine V_goto (tgt := 26) d10_lostArbitrations_22 (by decide) ?_
    exact key2 _ (by first | rfl | (simp only [if_pos h1, hn3]; done) | (simp only [if_pos h1, hn3]; rfl)) _ (by first | rfl | (simp only [if_pos h1, hn3]; done) | (simp only [if_pos h1, hn3]; rfl)) _ (lvsub_p [0, 1] rfl)
theorem w10_lostArbitrations (g : GlT)  (nd : Int32) (I : Nat → Nat → Int32) (L : Nat → Nat → Int64) : Call g (k10_lostArbitrations, 3, 0, 0) [.ref (xA g 0), .int nd] (I, L, R0, 305) (Qi (r10_lostArbitrations nd I L) (I) L) := Call.of (by decide) (Nat.le_of_ble_eq_true rfl) rfl (v10_lostArbitrations g  nd  I L  _ (And.intro rfl rfl))


def r10_overloads (nd : Int32) (I : Nat → Nat → Int32) (L : Nat → Nat → Int64) : Int32 := (if (r10_isNode nd) = true then I ((4 + 16 * (nd.toNatClampNeg)) + 1) 3 else (-1))
set_option maxRecDepth 4000 in
theorem v10_overloads (g : GlT)  (nd : Int32) (I : Nat → Nat → Int32) (L : Nat → Nat → Int64) (Q : Option Value → MemT → Prop) (hq : Q (some (.int (r10_overloads nd I L))) (I, L, R0, 305)) : V g (k10_overloads, 3, 0, 0) 0 0 0 [(0, .ref (xA g 0)), (1, .int nd)] [] (I, L, R0, 305) Q := by
  refine V_iload_n (pc1 := 1) 1 d10_overloads_0 rfl rfl ?_
  refine V_si (pc1 := 4) (w10_isNode g  nd  I L ) s10_isNode l10_68 rfl rfl ⟨Nat.le_of_ble_eq_true rfl, Nat.le_of_ble_eq_true rfl, Nat.le_refl _, Nat.le_refl _⟩ (Nat.le_of_ble_eq_true rfl) rfl d10_overloads_1 rfl ?_
  have key2 : ∀ (z26_1 : Int32), z26_1 = (if (r10_isNode nd) = true then nI (nd.toNatClampNeg) else nd) → ∀ (y26_0 : Int32), y26_0 = (if (r10_isNode nd) = true then I ((4 + 16 * (nd.toNatClampNeg)) + 1) 3 else (-1)) → ∀ (lv : List (Nat × Value)), lvsub [(0, .ref (xA g 0)), (1, .int z26_1)] lv → V g (k10_overloads, 3, 0, 0) 0 0 26 lv [.int y26_0] (I, L, R0, 305) Q := by
    intro z26_1 ez26_1 y26_0 ey26_0
    subst ez26_1
    subst ey26_0
    intro lv hlv
    refine V_lv hlv ?_
    refine V_iret rfl d10_overloads_26 (Nat.zero_le _) (Nat.zero_le _) ?_
    have hq2 := hq
    simp only [r10_overloads] at hq2
    exact hq2
  refine V_beq (tgt := 25) (pc1 := 7) d10_overloads_4 (by decide) rfl (fun h1 => ?_) (fun h1 => ?_)
  · skip
    refine V_iconst (pc1 := 26) d10_overloads_25 vc_m1 rfl ?_
    exact key2 _ (by first | rfl | (simp only [if_neg h1]; done) | (simp only [if_neg h1]; rfl)) _ (by first | rfl | (simp only [if_neg h1]; done) | (simp only [if_neg h1]; rfl)) _ (lvsub_p [0, 1] rfl)
  · skip
    obtain ⟨ni, hni, rfl⟩ := isNode_nat h1
    have hn3 : (nI ni).toNatClampNeg = ni := nI_clamp (by omega)
    refine V_aload_n (pc1 := 8) 0 d10_overloads_7 rfl rfl ?_
    refine V_getr (pc1 := 11) ly0 (lt305 rfl) f10_10 (fun _ => rfl) rf0_0 d10_overloads_8 rfl ?_
    refine V_getr (pc1 := 14) ly1 (lt305 rfl) f10_75 (fun _ => rfl) rf1_1 d10_overloads_11 rfl ?_
    refine V_iload_n (pc1 := 15) 1 d10_overloads_14 rfl rfl ?_
    refine V_aald (pc1 := 16) ni ((4 + 16 * ni)) ly3 (Or.inr rfl) (lt305 rfl) rfl hni (rfi hni) d10_overloads_15 rfl ?_
    refine V_getr (pc1 := 19) (nd_l0 (okNi hni)) (nd_b0 (okNi hni)) f10_179 (fun _ => rfl) (nd_r0_1 (okNi hni)) d10_overloads_16 rfl ?_
    refine V_geti (pc1 := 22) (nd_l1 (okNi hni)) (nd_b1 (okNi hni)) f10_195 (fun _ => rfl) rfl d10_overloads_19 rfl ?_
    refine V_goto (tgt := 26) d10_overloads_22 (by decide) ?_
    exact key2 _ (by first | rfl | (simp only [if_pos h1, hn3]; done) | (simp only [if_pos h1, hn3]; rfl)) _ (by first | rfl | (simp only [if_pos h1, hn3]; done) | (simp only [if_pos h1, hn3]; rfl)) _ (lvsub_p [0, 1] rfl)
theorem w10_overloads (g : GlT)  (nd : Int32) (I : Nat → Nat → Int32) (L : Nat → Nat → Int64) : Call g (k10_overloads, 3, 0, 0) [.ref (xA g 0), .int nd] (I, L, R0, 305) (Qi (r10_overloads nd I L) (I) L) := Call.of (by decide) (Nat.le_of_ble_eq_true rfl) rfl (v10_overloads g  nd  I L  _ (And.intro rfl rfl))


def r10_sent (nd : Int32) (I : Nat → Nat → Int32) (L : Nat → Nat → Int64) : Int32 := (if (r10_isNode nd) = true then I ((4 + 16 * (nd.toNatClampNeg)) + 1) 4 else (-1))
set_option maxRecDepth 4000 in
theorem v10_sent (g : GlT)  (nd : Int32) (I : Nat → Nat → Int32) (L : Nat → Nat → Int64) (Q : Option Value → MemT → Prop) (hq : Q (some (.int (r10_sent nd I L))) (I, L, R0, 305)) : V g (k10_sent, 3, 0, 0) 0 0 0 [(0, .ref (xA g 0)), (1, .int nd)] [] (I, L, R0, 305) Q := by
  refine V_iload_n (pc1 := 1) 1 d10_sent_0 rfl rfl ?_
  refine V_si (pc1 := 4) (w10_isNode g  nd  I L ) s10_isNode l10_68 rfl rfl ⟨Nat.le_of_ble_eq_true rfl, Nat.le_of_ble_eq_true rfl, Nat.le_refl _, Nat.le_refl _⟩ (Nat.le_of_ble_eq_true rfl) rfl d10_sent_1 rfl ?_
  have key2 : ∀ (z26_1 : Int32), z26_1 = (if (r10_isNode nd) = true then nI (nd.toNatClampNeg) else nd) → ∀ (y26_0 : Int32), y26_0 = (if (r10_isNode nd) = true then I ((4 + 16 * (nd.toNatClampNeg)) + 1) 4 else (-1)) → ∀ (lv : List (Nat × Value)), lvsub [(0, .ref (xA g 0)), (1, .int z26_1)] lv → V g (k10_sent, 3, 0, 0) 0 0 26 lv [.int y26_0] (I, L, R0, 305) Q := by
    intro z26_1 ez26_1 y26_0 ey26_0
    subst ez26_1
    subst ey26_0
    intro lv hlv
    refine V_lv hlv ?_
    refine V_iret rfl d10_sent_26 (Nat.zero_le _) (Nat.zero_le _) ?_
    have hq2 := hq
    simp only [r10_sent] at hq2
    exact hq2
  refine V_beq (tgt := 25) (pc1 := 7) d10_sent_4 (by decide) rfl (fun h1 => ?_) (fun h1 => ?_)
  · skip
    refine V_iconst (pc1 := 26) d10_sent_25 vc_m1 rfl ?_
    exact key2 _ (by first | rfl | (simp only [if_neg h1]; done) | (simp only [if_neg h1]; rfl)) _ (by first | rfl | (simp only [if_neg h1]; done) | (simp only [if_neg h1]; rfl)) _ (lvsub_p [0, 1] rfl)
  · skip
    obtain ⟨ni, hni, rfl⟩ := isNode_nat h1
    have hn3 : (nI ni).toNatClampNeg = ni := nI_clamp (by omega)
    refine V_aload_n (pc1 := 8) 0 d10_sent_7 rfl rfl ?_
    refine V_getr (pc1 := 11) ly0 (lt305 rfl) f10_10 (fun _ => rfl) rf0_0 d10_sent_8 rfl ?_
    refine V_getr (pc1 := 14) ly1 (lt305 rfl) f10_75 (fun _ => rfl) rf1_1 d10_sent_11 rfl ?_
    refine V_iload_n (pc1 := 15) 1 d10_sent_14 rfl rfl ?_
    refine V_aald (pc1 := 16) ni ((4 + 16 * ni)) ly3 (Or.inr rfl) (lt305 rfl) rfl hni (rfi hni) d10_sent_15 rfl ?_
    refine V_getr (pc1 := 19) (nd_l0 (okNi hni)) (nd_b0 (okNi hni)) f10_179 (fun _ => rfl) (nd_r0_1 (okNi hni)) d10_sent_16 rfl ?_
    refine V_geti (pc1 := 22) (nd_l1 (okNi hni)) (nd_b1 (okNi hni)) f10_198 (fun _ => rfl) rfl d10_sent_19 rfl ?_
    refine V_goto (tgt := 26) d10_sent_22 (by decide) ?_
    exact key2 _ (by first | rfl | (simp only [if_pos h1, hn3]; done) | (simp only [if_pos h1, hn3]; rfl)) _ (by first | rfl | (simp only [if_pos h1, hn3]; done) | (simp only [if_pos h1, hn3]; rfl)) _ (lvsub_p [0, 1] rfl)
theorem w10_sent (g : GlT)  (nd : Int32) (I : Nat → Nat → Int32) (L : Nat → Nat → Int64) : Call g (k10_sent, 3, 0, 0) [.ref (xA g 0), .int nd] (I, L, R0, 305) (Qi (r10_sent nd I L) (I) L) := Call.of (by decide) (Nat.le_of_ble_eq_true rfl) rfl (v10_sent g  nd  I L  _ (And.intro rfl rfl))


def r10_overruns (nd : Int32) (I : Nat → Nat → Int32) (L : Nat → Nat → Int64) : Int32 := (if (r10_isNode nd) = true then I ((4 + 16 * (nd.toNatClampNeg)) + 1) 5 else (-1))
set_option maxRecDepth 4000 in
theorem v10_overruns (g : GlT)  (nd : Int32) (I : Nat → Nat → Int32) (L : Nat → Nat → Int64) (Q : Option Value → MemT → Prop) (hq : Q (some (.int (r10_overruns nd I L))) (I, L, R0, 305)) : V g (k10_overruns, 3, 0, 0) 0 0 0 [(0, .ref (xA g 0)), (1, .int nd)] [] (I, L, R0, 305) Q := by
  refine V_iload_n (pc1 := 1) 1 d10_overruns_0 rfl rfl ?_
  refine V_si (pc1 := 4) (w10_isNode g  nd  I L ) s10_isNode l10_68 rfl rfl ⟨Nat.le_of_ble_eq_true rfl, Nat.le_of_ble_eq_true rfl, Nat.le_refl _, Nat.le_refl _⟩ (Nat.le_of_ble_eq_true rfl) rfl d10_overruns_1 rfl ?_
  have key2 : ∀ (z26_1 : Int32), z26_1 = (if (r10_isNode nd) = true then nI (nd.toNatClampNeg) else nd) → ∀ (y26_0 : Int32), y26_0 = (if (r10_isNode nd) = true then I ((4 + 16 * (nd.toNatClampNeg)) + 1) 5 else (-1)) → ∀ (lv : List (Nat × Value)), lvsub [(0, .ref (xA g 0)), (1, .int z26_1)] lv → V g (k10_overruns, 3, 0, 0) 0 0 26 lv [.int y26_0] (I, L, R0, 305) Q := by
    intro z26_1 ez26_1 y26_0 ey26_0
    subst ez26_1
    subst ey26_0
    intro lv hlv
    refine V_lv hlv ?_
    refine V_iret rfl d10_overruns_26 (Nat.zero_le _) (Nat.zero_le _) ?_
    have hq2 := hq
    simp only [r10_overruns] at hq2
    exact hq2
  refine V_beq (tgt := 25) (pc1 := 7) d10_overruns_4 (by decide) rfl (fun h1 => ?_) (fun h1 => ?_)
  · skip
    refine V_iconst (pc1 := 26) d10_overruns_25 vc_m1 rfl ?_
    exact key2 _ (by first | rfl | (simp only [if_neg h1]; done) | (simp only [if_neg h1]; rfl)) _ (by first | rfl | (simp only [if_neg h1]; done) | (simp only [if_neg h1]; rfl)) _ (lvsub_p [0, 1] rfl)
  · skip
    obtain ⟨ni, hni, rfl⟩ := isNode_nat h1
    have hn3 : (nI ni).toNatClampNeg = ni := nI_clamp (by omega)
    refine V_aload_n (pc1 := 8) 0 d10_overruns_7 rfl rfl ?_
    refine V_getr (pc1 := 11) ly0 (lt305 rfl) f10_10 (fun _ => rfl) rf0_0 d10_overruns_8 rfl ?_
    refine V_getr (pc1 := 14) ly1 (lt305 rfl) f10_75 (fun _ => rfl) rf1_1 d10_overruns_11 rfl ?_
    refine V_iload_n (pc1 := 15) 1 d10_overruns_14 rfl rfl ?_
    refine V_aald (pc1 := 16) ni ((4 + 16 * ni)) ly3 (Or.inr rfl) (lt305 rfl) rfl hni (rfi hni) d10_overruns_15 rfl ?_
    refine V_getr (pc1 := 19) (nd_l0 (okNi hni)) (nd_b0 (okNi hni)) f10_179 (fun _ => rfl) (nd_r0_1 (okNi hni)) d10_overruns_16 rfl ?_
    refine V_geti (pc1 := 22) (nd_l1 (okNi hni)) (nd_b1 (okNi hni)) f10_201 (fun _ => rfl) rfl d10_overruns_19 rfl ?_
    refine V_goto (tgt := 26) d10_overruns_22 (by decide) ?_
    exact key2 _ (by first | rfl | (simp only [if_pos h1, hn3]; done) | (simp only [if_pos h1, hn3]; rfl)) _ (by first | rfl | (simp only [if_pos h1, hn3]; done) | (simp only [if_pos h1, hn3]; rfl)) _ (lvsub_p [0, 1] rfl)
theorem w10_overruns (g : GlT)  (nd : Int32) (I : Nat → Nat → Int32) (L : Nat → Nat → Int64) : Call g (k10_overruns, 3, 0, 0) [.ref (xA g 0), .int nd] (I, L, R0, 305) (Qi (r10_overruns nd I L) (I) L) := Call.of (by decide) (Nat.le_of_ble_eq_true rfl) rfl (v10_overruns g  nd  I L  _ (And.intro rfl rfl))


def r10_waiting (nd : Int32) (I : Nat → Nat → Int32) (L : Nat → Nat → Int64) : Int32 := (if (r10_isNode nd) = true then I ((4 + 16 * (nd.toNatClampNeg)) + 3) 3 else (-1))
set_option maxRecDepth 4000 in
theorem v10_waiting (g : GlT)  (nd : Int32) (I : Nat → Nat → Int32) (L : Nat → Nat → Int64) (Q : Option Value → MemT → Prop) (hq : Q (some (.int (r10_waiting nd I L))) (I, L, R0, 305)) : V g (k10_waiting, 3, 0, 0) 0 0 0 [(0, .ref (xA g 0)), (1, .int nd)] [] (I, L, R0, 305) Q := by
  refine V_iload_n (pc1 := 1) 1 d10_waiting_0 rfl rfl ?_
  refine V_si (pc1 := 4) (w10_isNode g  nd  I L ) s10_isNode l10_68 rfl rfl ⟨Nat.le_of_ble_eq_true rfl, Nat.le_of_ble_eq_true rfl, Nat.le_refl _, Nat.le_refl _⟩ (Nat.le_of_ble_eq_true rfl) rfl d10_waiting_1 rfl ?_
  have key2 : ∀ (z26_1 : Int32), z26_1 = (if (r10_isNode nd) = true then nI (nd.toNatClampNeg) else nd) → ∀ (y26_0 : Int32), y26_0 = (if (r10_isNode nd) = true then I ((4 + 16 * (nd.toNatClampNeg)) + 3) 3 else (-1)) → ∀ (lv : List (Nat × Value)), lvsub [(0, .ref (xA g 0)), (1, .int z26_1)] lv → V g (k10_waiting, 3, 0, 0) 0 0 26 lv [.int y26_0] (I, L, R0, 305) Q := by
    intro z26_1 ez26_1 y26_0 ey26_0
    subst ez26_1
    subst ey26_0
    intro lv hlv
    refine V_lv hlv ?_
    refine V_iret rfl d10_waiting_26 (Nat.zero_le _) (Nat.zero_le _) ?_
    have hq2 := hq
    simp only [r10_waiting] at hq2
    exact hq2
  refine V_beq (tgt := 25) (pc1 := 7) d10_waiting_4 (by decide) rfl (fun h1 => ?_) (fun h1 => ?_)
  · skip
    refine V_iconst (pc1 := 26) d10_waiting_25 vc_m1 rfl ?_
    exact key2 _ (by first | rfl | (simp only [if_neg h1]; done) | (simp only [if_neg h1]; rfl)) _ (by first | rfl | (simp only [if_neg h1]; done) | (simp only [if_neg h1]; rfl)) _ (lvsub_p [0, 1] rfl)
  · skip
    obtain ⟨ni, hni, rfl⟩ := isNode_nat h1
    have hn3 : (nI ni).toNatClampNeg = ni := nI_clamp (by omega)
    refine V_aload_n (pc1 := 8) 0 d10_waiting_7 rfl rfl ?_
    refine V_getr (pc1 := 11) ly0 (lt305 rfl) f10_10 (fun _ => rfl) rf0_0 d10_waiting_8 rfl ?_
    refine V_getr (pc1 := 14) ly1 (lt305 rfl) f10_75 (fun _ => rfl) rf1_1 d10_waiting_11 rfl ?_
    refine V_iload_n (pc1 := 15) 1 d10_waiting_14 rfl rfl ?_
    refine V_aald (pc1 := 16) ni ((4 + 16 * ni)) ly3 (Or.inr rfl) (lt305 rfl) rfl hni (rfi hni) d10_waiting_15 rfl ?_
    refine V_getr (pc1 := 19) (nd_l0 (okNi hni)) (nd_b0 (okNi hni)) f10_133 (fun _ => rfl) (nd_r0_2 (okNi hni)) d10_waiting_16 rfl ?_
    refine V_geti (pc1 := 22) (nd_l3 (okNi hni)) (nd_b3 (okNi hni)) f10_113 (fun _ => rfl) rfl d10_waiting_19 rfl ?_
    refine V_goto (tgt := 26) d10_waiting_22 (by decide) ?_
    exact key2 _ (by first | rfl | (simp only [if_pos h1, hn3]; done) | (simp only [if_pos h1, hn3]; rfl)) _ (by first | rfl | (simp only [if_pos h1, hn3]; done) | (simp only [if_pos h1, hn3]; rfl)) _ (lvsub_p [0, 1] rfl)
theorem w10_waiting (g : GlT)  (nd : Int32) (I : Nat → Nat → Int32) (L : Nat → Nat → Int64) : Call g (k10_waiting, 3, 0, 0) [.ref (xA g 0), .int nd] (I, L, R0, 305) (Qi (r10_waiting nd I L) (I) L) := Call.of (by decide) (Nat.le_of_ble_eq_true rfl) rfl (v10_waiting g  nd  I L  _ (And.intro rfl rfl))


def r10_received (nd : Int32) (I : Nat → Nat → Int32) (L : Nat → Nat → Int64) : Int32 := (if (r10_isNode nd) = true then I ((4 + 16 * (nd.toNatClampNeg)) + 7) 3 else (-1))
set_option maxRecDepth 4000 in
theorem v10_received (g : GlT)  (nd : Int32) (I : Nat → Nat → Int32) (L : Nat → Nat → Int64) (Q : Option Value → MemT → Prop) (hq : Q (some (.int (r10_received nd I L))) (I, L, R0, 305)) : V g (k10_received, 3, 0, 0) 0 0 0 [(0, .ref (xA g 0)), (1, .int nd)] [] (I, L, R0, 305) Q := by
  refine V_iload_n (pc1 := 1) 1 d10_received_0 rfl rfl ?_
  refine V_si (pc1 := 4) (w10_isNode g  nd  I L ) s10_isNode l10_68 rfl rfl ⟨Nat.le_of_ble_eq_true rfl, Nat.le_of_ble_eq_true rfl, Nat.le_refl _, Nat.le_refl _⟩ (Nat.le_of_ble_eq_true rfl) rfl d10_received_1 rfl ?_
  have key2 : ∀ (z26_1 : Int32), z26_1 = (if (r10_isNode nd) = true then nI (nd.toNatClampNeg) else nd) → ∀ (y26_0 : Int32), y26_0 = (if (r10_isNode nd) = true then I ((4 + 16 * (nd.toNatClampNeg)) + 7) 3 else (-1)) → ∀ (lv : List (Nat × Value)), lvsub [(0, .ref (xA g 0)), (1, .int z26_1)] lv → V g (k10_received, 3, 0, 0) 0 0 26 lv [.int y26_0] (I, L, R0, 305) Q := by
    intro z26_1 ez26_1 y26_0 ey26_0
    subst ez26_1
    subst ey26_0
    intro lv hlv
    refine V_lv hlv ?_
    refine V_iret rfl d10_received_26 (Nat.zero_le _) (Nat.zero_le _) ?_
    have hq2 := hq
    simp only [r10_received] at hq2
    exact hq2
  refine V_beq (tgt := 25) (pc1 := 7) d10_received_4 (by decide) rfl (fun h1 => ?_) (fun h1 => ?_)
  · skip
    refine V_iconst (pc1 := 26) d10_received_25 vc_m1 rfl ?_
    exact key2 _ (by first | rfl | (simp only [if_neg h1]; done) | (simp only [if_neg h1]; rfl)) _ (by first | rfl | (simp only [if_neg h1]; done) | (simp only [if_neg h1]; rfl)) _ (lvsub_p [0, 1] rfl)
  · skip
    obtain ⟨ni, hni, rfl⟩ := isNode_nat h1
    have hn3 : (nI ni).toNatClampNeg = ni := nI_clamp (by omega)
    refine V_aload_n (pc1 := 8) 0 d10_received_7 rfl rfl ?_
    refine V_getr (pc1 := 11) ly0 (lt305 rfl) f10_10 (fun _ => rfl) rf0_0 d10_received_8 rfl ?_
    refine V_getr (pc1 := 14) ly1 (lt305 rfl) f10_75 (fun _ => rfl) rf1_1 d10_received_11 rfl ?_
    refine V_iload_n (pc1 := 15) 1 d10_received_14 rfl rfl ?_
    refine V_aald (pc1 := 16) ni ((4 + 16 * ni)) ly3 (Or.inr rfl) (lt305 rfl) rfl hni (rfi hni) d10_received_15 rfl ?_
    refine V_getr (pc1 := 19) (nd_l0 (okNi hni)) (nd_b0 (okNi hni)) f10_207 (fun _ => rfl) (nd_r0_3 (okNi hni)) d10_received_16 rfl ?_
    refine V_geti (pc1 := 22) (nd_l7 (okNi hni)) (nd_b7 (okNi hni)) f10_113 (fun _ => rfl) rfl d10_received_19 rfl ?_
    refine V_goto (tgt := 26) d10_received_22 (by decide) ?_
    exact key2 _ (by first | rfl | (simp only [if_pos h1, hn3]; done) | (simp only [if_pos h1, hn3]; rfl)) _ (by first | rfl | (simp only [if_pos h1, hn3]; done) | (simp only [if_pos h1, hn3]; rfl)) _ (lvsub_p [0, 1] rfl)
theorem w10_received (g : GlT)  (nd : Int32) (I : Nat → Nat → Int32) (L : Nat → Nat → Int64) : Call g (k10_received, 3, 0, 0) [.ref (xA g 0), .int nd] (I, L, R0, 305) (Qi (r10_received nd I L) (I) L) := Call.of (by decide) (Nat.le_of_ble_eq_true rfl) rfl (v10_received g  nd  I L  _ (And.intro rfl rfl))


def r10_errors (nd : Int32) (kd : Int32) (I : Nat → Nat → Int32) (L : Nat → Nat → Int64) : Int32 := (if (r10_isNode nd) = true then (if (r10_isWithin kd 1 5) = true then I ((4 + 16 * (nd.toNatClampNeg)) + 2) (kd.toNatClampNeg) else (-2)) else (-1))
set_option maxRecDepth 4000 in
theorem v10_errors (g : GlT)  (nd : Int32) (kd : Int32) (I : Nat → Nat → Int32) (L : Nat → Nat → Int64) (Q : Option Value → MemT → Prop) (hq : Q (some (.int (r10_errors nd kd I L))) (I, L, R0, 305)) : V g (k10_errors, 3, 0, 0) 0 0 0 [(0, .ref (xA g 0)), (1, .int nd), (2, .int kd)] [] (I, L, R0, 305) Q := by
  refine V_iload_n (pc1 := 1) 1 d10_errors_0 rfl rfl ?_
  refine V_si (pc1 := 4) (w10_isNode g  nd  I L ) s10_isNode l10_68 rfl rfl ⟨Nat.le_of_ble_eq_true rfl, Nat.le_of_ble_eq_true rfl, Nat.le_refl _, Nat.le_refl _⟩ (Nat.le_of_ble_eq_true rfl) rfl d10_errors_1 rfl ?_
  refine V_bne (tgt := 9) (pc1 := 7) d10_errors_4 (by decide) rfl (fun h1 => ?_) (fun h1 => ?_)
  · skip
    obtain ⟨ni, hni, rfl⟩ := isNode_nat h1
    have hn3 : (nI ni).toNatClampNeg = ni := nI_clamp (by omega)
    refine V_iload_n (pc1 := 10) 2 d10_errors_9 rfl rfl ?_
    refine V_iconst (pc1 := 11) d10_errors_10 vc_1 rfl ?_
    refine V_iconst (pc1 := 12) d10_errors_11 vc_5 rfl ?_
    refine V_si (pc1 := 15) (w10_isWithin g  kd 1 5  I L ) s10_isWithin l10_48 rfl rfl ⟨Nat.le_of_ble_eq_true rfl, Nat.le_of_ble_eq_true rfl, Nat.le_refl _, Nat.le_refl _⟩ (Nat.le_of_ble_eq_true rfl) rfl d10_errors_12 rfl ?_
    refine V_bne (tgt := 21) (pc1 := 18) d10_errors_15 (by decide) rfl (fun h2 => ?_) (fun h2 => ?_)
    · skip
      obtain ⟨kn, hkn, hkna, rfl⟩ := within_nat (a := 1) (b := 5) (by omega) (by omega) h2
      have hkn3 : (nI kn).toNatClampNeg = kn := nI_clamp (by omega)
      refine V_aload_n (pc1 := 22) 0 d10_errors_21 rfl rfl ?_
      refine V_getr (pc1 := 25) ly0 (lt305 rfl) f10_10 (fun _ => rfl) rf0_0 d10_errors_22 rfl ?_
      refine V_getr (pc1 := 28) ly1 (lt305 rfl) f10_75 (fun _ => rfl) rf1_1 d10_errors_25 rfl ?_
      refine V_iload_n (pc1 := 29) 1 d10_errors_28 rfl rfl ?_
      refine V_aald (pc1 := 30) ni ((4 + 16 * ni)) ly3 (Or.inr rfl) (lt305 rfl) rfl hni (rfi hni) d10_errors_29 rfl ?_
      refine V_getr (pc1 := 33) (nd_l0 (okNi hni)) (nd_b0 (okNi hni)) f10_179 (fun _ => rfl) (nd_r0_1 (okNi hni)) d10_errors_30 rfl ?_
      refine V_getr (pc1 := 36) (nd_l1 (okNi hni)) (nd_b1 (okNi hni)) f10_183 (fun _ => rfl) (nd_r1_0 (okNi hni)) d10_errors_33 rfl ?_
      refine V_iload_n (pc1 := 37) 2 d10_errors_36 rfl rfl ?_
      refine V_iald2 (pc1 := 38) kn (nd_l2 (okNi hni)) (nd_b2 (okNi hni)) rfl (by omega) rfl d10_errors_37 rfl ?_
      refine V_iret rfl d10_errors_38 (Nat.zero_le _) (Nat.zero_le _) ?_
      have hq2 := hq
      simp only [r10_errors, if_pos h1, hn3, if_pos h2, hkn3] at hq2
      exact hq2
    · skip
      refine V_bipush (pc1 := 20) d10_errors_18 vb_m2 rfl ?_
      refine V_iret rfl d10_errors_20 (Nat.zero_le _) (Nat.zero_le _) ?_
      have hq2 := hq
      simp only [r10_errors, if_pos h1, hn3, if_neg h2] at hq2
      exact hq2
  · skip
    refine V_iconst (pc1 := 8) d10_errors_7 vc_m1 rfl ?_
    refine V_iret rfl d10_errors_8 (Nat.zero_le _) (Nat.zero_le _) ?_
    have hq2 := hq
    simp only [r10_errors, if_neg h1] at hq2
    exact hq2
theorem w10_errors (g : GlT)  (nd : Int32) (kd : Int32) (I : Nat → Nat → Int32) (L : Nat → Nat → Int64) : Call g (k10_errors, 3, 0, 0) [.ref (xA g 0), .int nd, .int kd] (I, L, R0, 305) (Qi (r10_errors nd kd I L) (I) L) := Call.of (by decide) (Nat.le_of_ble_eq_true rfl) rfl (v10_errors g  nd kd  I L  _ (And.intro rfl rfl))


def r10_waitingFrame (nd : Int32) (x : Int32) (I : Nat → Nat → Int32) (L : Nat → Nat → Int64) : Int32 := (if (r10_isNode nd) = true then r3_keyAt ((4 + 16 * (nd.toNatClampNeg)) + 3) 4 x I L else (-1))
set_option maxRecDepth 4000 in
theorem v10_waitingFrame (g : GlT)  (nd : Int32) (x : Int32) (I : Nat → Nat → Int32) (L : Nat → Nat → Int64) (hv : bV 1 I) (Q : Option Value → MemT → Prop) (hq : Q (some (.int (r10_waitingFrame nd x I L))) (I, L, R0, 305)) : V g (k10_waitingFrame, 3, 0, 0) 0 0 0 [(0, .ref (xA g 0)), (1, .int nd), (2, .int x)] [] (I, L, R0, 305) Q := by
  refine V_iload_n (pc1 := 1) 1 d10_waitingFrame_0 rfl rfl ?_
  refine V_si (pc1 := 4) (w10_isNode g  nd  I L ) s10_isNode l10_68 rfl rfl ⟨Nat.le_of_ble_eq_true rfl, Nat.le_of_ble_eq_true rfl, Nat.le_refl _, Nat.le_refl _⟩ (Nat.le_of_ble_eq_true rfl) rfl d10_waitingFrame_1 rfl ?_
  have key2 : ∀ (z27_1 : Int32), z27_1 = (if (r10_isNode nd) = true then nI (nd.toNatClampNeg) else nd) → ∀ (y27_0 : Int32), y27_0 = (if (r10_isNode nd) = true then r3_keyAt ((4 + 16 * (nd.toNatClampNeg)) + 3) 4 x I L else (-1)) → ∀ (lv : List (Nat × Value)), lvsub [(0, .ref (xA g 0)), (1, .int z27_1), (2, .int x)] lv → V g (k10_waitingFrame, 3, 0, 0) 0 0 27 lv [.int y27_0] (I, L, R0, 305) Q := by
    intro z27_1 ez27_1 y27_0 ey27_0
    subst ez27_1
    subst ey27_0
    intro lv hlv
    refine V_lv hlv ?_
    refine V_iret rfl d10_waitingFrame_27 (Nat.zero_le _) (Nat.zero_le _) ?_
    have hq2 := hq
    simp only [r10_waitingFrame] at hq2
    exact hq2
  refine V_beq (tgt := 26) (pc1 := 7) d10_waitingFrame_4 (by decide) rfl (fun h1 => ?_) (fun h1 => ?_)
  · skip
    refine V_iconst (pc1 := 27) d10_waitingFrame_26 vc_m1 rfl ?_
    exact key2 _ (by first | rfl | (simp only [if_neg h1]; done) | (simp only [if_neg h1]; rfl)) _ (by first | rfl | (simp only [if_neg h1]; done) | (simp only [if_neg h1]; rfl)) _ (lvsub_p [0, 1, 2] rfl)
  · skip
    obtain ⟨ni, hni, rfl⟩ := isNode_nat h1
    have hn3 : (nI ni).toNatClampNeg = ni := nI_clamp (by omega)
    obtain ⟨⟨gw, hw4, hw⟩, ⟨gr, hr6, hr⟩, ga, ha4, ha⟩ := hv.1 ni hni
    refine V_aload_n (pc1 := 8) 0 d10_waitingFrame_7 rfl rfl ?_
    refine V_getr (pc1 := 11) ly0 (lt305 rfl) f10_10 (fun _ => rfl) rf0_0 d10_waitingFrame_8 rfl ?_
    refine V_getr (pc1 := 14) ly1 (lt305 rfl) f10_75 (fun _ => rfl) rf1_1 d10_waitingFrame_11 rfl ?_
    refine V_iload_n (pc1 := 15) 1 d10_waitingFrame_14 rfl rfl ?_
    refine V_aald (pc1 := 16) ni ((4 + 16 * ni)) ly3 (Or.inr rfl) (lt305 rfl) rfl hni (rfi hni) d10_waitingFrame_15 rfl ?_
    refine V_getr (pc1 := 19) (nd_l0 (okNi hni)) (nd_b0 (okNi hni)) f10_133 (fun _ => rfl) (nd_r0_2 (okNi hni)) d10_waitingFrame_16 rfl ?_
    refine V_iload_n (pc1 := 20) 2 d10_waitingFrame_19 rfl rfl ?_
    refine V_vi (pc1 := 23) (w3_keyAt g (nd_F3 (okNi hni)) x gw hw4 I L hw) (nd_l3 (okNi hni)) (nd_b3 (okNi hni)) s3_keyAt l10_204 rfl rfl ⟨Nat.le_of_ble_eq_true rfl, Nat.le_of_ble_eq_true rfl, Nat.le_refl _, Nat.le_refl _⟩ (Nat.le_of_ble_eq_true rfl) rfl d10_waitingFrame_20 rfl ?_
    refine V_goto (tgt := 27) d10_waitingFrame_23 (by decide) ?_
    exact key2 _ (by first | rfl | (simp only [if_pos h1, hn3]; done) | (simp only [if_pos h1, hn3]; rfl)) _ (by first | rfl | (simp only [if_pos h1, hn3]; done) | (simp only [if_pos h1, hn3]; rfl)) _ (lvsub_p [0, 1, 2] rfl)
theorem w10_waitingFrame (g : GlT)  (nd : Int32) (x : Int32) (I : Nat → Nat → Int32) (L : Nat → Nat → Int64) (hv : bV 1 I) : Call g (k10_waitingFrame, 3, 0, 0) [.ref (xA g 0), .int nd, .int x] (I, L, R0, 305) (Qi (r10_waitingFrame nd x I L) (I) L) := Call.of (by decide) (Nat.le_of_ble_eq_true rfl) rfl (v10_waitingFrame g  nd x  I L hv _ (And.intro rfl rfl))


def r10_receivedFrame (nd : Int32) (x : Int32) (I : Nat → Nat → Int32) (L : Nat → Nat → Int64) : Int32 := (if (r10_isNode nd) = true then r3_keyAt ((4 + 16 * (nd.toNatClampNeg)) + 7) 6 x I L else (-1))
set_option maxRecDepth 4000 in
theorem v10_receivedFrame (g : GlT)  (nd : Int32) (x : Int32) (I : Nat → Nat → Int32) (L : Nat → Nat → Int64) (hv : bV 1 I) (Q : Option Value → MemT → Prop) (hq : Q (some (.int (r10_receivedFrame nd x I L))) (I, L, R0, 305)) : V g (k10_receivedFrame, 3, 0, 0) 0 0 0 [(0, .ref (xA g 0)), (1, .int nd), (2, .int x)] [] (I, L, R0, 305) Q := by
  refine V_iload_n (pc1 := 1) 1 d10_receivedFrame_0 rfl rfl ?_
  refine V_si (pc1 := 4) (w10_isNode g  nd  I L ) s10_isNode l10_68 rfl rfl ⟨Nat.le_of_ble_eq_true rfl, Nat.le_of_ble_eq_true rfl, Nat.le_refl _, Nat.le_refl _⟩ (Nat.le_of_ble_eq_true rfl) rfl d10_receivedFrame_1 rfl ?_
  have key2 : ∀ (z27_1 : Int32), z27_1 = (if (r10_isNode nd) = true then nI (nd.toNatClampNeg) else nd) → ∀ (y27_0 : Int32), y27_0 = (if (r10_isNode nd) = true then r3_keyAt ((4 + 16 * (nd.toNatClampNeg)) + 7) 6 x I L else (-1)) → ∀ (lv : List (Nat × Value)), lvsub [(0, .ref (xA g 0)), (1, .int z27_1), (2, .int x)] lv → V g (k10_receivedFrame, 3, 0, 0) 0 0 27 lv [.int y27_0] (I, L, R0, 305) Q := by
    intro z27_1 ez27_1 y27_0 ey27_0
    subst ez27_1
    subst ey27_0
    intro lv hlv
    refine V_lv hlv ?_
    refine V_iret rfl d10_receivedFrame_27 (Nat.zero_le _) (Nat.zero_le _) ?_
    have hq2 := hq
    simp only [r10_receivedFrame] at hq2
    exact hq2
  refine V_beq (tgt := 26) (pc1 := 7) d10_receivedFrame_4 (by decide) rfl (fun h1 => ?_) (fun h1 => ?_)
  · skip
    refine V_iconst (pc1 := 27) d10_receivedFrame_26 vc_m1 rfl ?_
    exact key2 _ (by first | rfl | (simp only [if_neg h1]; done) | (simp only [if_neg h1]; rfl)) _ (by first | rfl | (simp only [if_neg h1]; done) | (simp only [if_neg h1]; rfl)) _ (lvsub_p [0, 1, 2] rfl)
  · skip
    obtain ⟨ni, hni, rfl⟩ := isNode_nat h1
    have hn3 : (nI ni).toNatClampNeg = ni := nI_clamp (by omega)
    obtain ⟨⟨gw, hw4, hw⟩, ⟨gr, hr6, hr⟩, ga, ha4, ha⟩ := hv.1 ni hni
    refine V_aload_n (pc1 := 8) 0 d10_receivedFrame_7 rfl rfl ?_
    refine V_getr (pc1 := 11) ly0 (lt305 rfl) f10_10 (fun _ => rfl) rf0_0 d10_receivedFrame_8 rfl ?_
    refine V_getr (pc1 := 14) ly1 (lt305 rfl) f10_75 (fun _ => rfl) rf1_1 d10_receivedFrame_11 rfl ?_
    refine V_iload_n (pc1 := 15) 1 d10_receivedFrame_14 rfl rfl ?_
    refine V_aald (pc1 := 16) ni ((4 + 16 * ni)) ly3 (Or.inr rfl) (lt305 rfl) rfl hni (rfi hni) d10_receivedFrame_15 rfl ?_
    refine V_getr (pc1 := 19) (nd_l0 (okNi hni)) (nd_b0 (okNi hni)) f10_207 (fun _ => rfl) (nd_r0_3 (okNi hni)) d10_receivedFrame_16 rfl ?_
    refine V_iload_n (pc1 := 20) 2 d10_receivedFrame_19 rfl rfl ?_
    refine V_vi (pc1 := 23) (w3_keyAt g (nd_F7 (okNi hni)) x gr hr6 I L hr) (nd_l7 (okNi hni)) (nd_b7 (okNi hni)) s3_keyAt l10_204 rfl rfl ⟨Nat.le_of_ble_eq_true rfl, Nat.le_of_ble_eq_true rfl, Nat.le_refl _, Nat.le_refl _⟩ (Nat.le_of_ble_eq_true rfl) rfl d10_receivedFrame_20 rfl ?_
    refine V_goto (tgt := 27) d10_receivedFrame_23 (by decide) ?_
    exact key2 _ (by first | rfl | (simp only [if_pos h1, hn3]; done) | (simp only [if_pos h1, hn3]; rfl)) _ (by first | rfl | (simp only [if_pos h1, hn3]; done) | (simp only [if_pos h1, hn3]; rfl)) _ (lvsub_p [0, 1, 2] rfl)
theorem w10_receivedFrame (g : GlT)  (nd : Int32) (x : Int32) (I : Nat → Nat → Int32) (L : Nat → Nat → Int64) (hv : bV 1 I) : Call g (k10_receivedFrame, 3, 0, 0) [.ref (xA g 0), .int nd, .int x] (I, L, R0, 305) (Qi (r10_receivedFrame nd x I L) (I) L) := Call.of (by decide) (Nat.le_of_ble_eq_true rfl) rfl (v10_receivedFrame g  nd x  I L hv _ (And.intro rfl rfl))


def r10_receivedLength (nd : Int32) (x : Int32) (I : Nat → Nat → Int32) (L : Nat → Nat → Int64) : Int32 := (if (r10_isNode nd) = true then r3_lengthAt ((4 + 16 * (nd.toNatClampNeg)) + 7) 6 x I L else (-1))
set_option maxRecDepth 4000 in
theorem v10_receivedLength (g : GlT)  (nd : Int32) (x : Int32) (I : Nat → Nat → Int32) (L : Nat → Nat → Int64) (hv : bV 1 I) (Q : Option Value → MemT → Prop) (hq : Q (some (.int (r10_receivedLength nd x I L))) (I, L, R0, 305)) : V g (k10_receivedLength, 3, 0, 0) 0 0 0 [(0, .ref (xA g 0)), (1, .int nd), (2, .int x)] [] (I, L, R0, 305) Q := by
  refine V_iload_n (pc1 := 1) 1 d10_receivedLength_0 rfl rfl ?_
  refine V_si (pc1 := 4) (w10_isNode g  nd  I L ) s10_isNode l10_68 rfl rfl ⟨Nat.le_of_ble_eq_true rfl, Nat.le_of_ble_eq_true rfl, Nat.le_refl _, Nat.le_refl _⟩ (Nat.le_of_ble_eq_true rfl) rfl d10_receivedLength_1 rfl ?_
  have key2 : ∀ (z27_1 : Int32), z27_1 = (if (r10_isNode nd) = true then nI (nd.toNatClampNeg) else nd) → ∀ (y27_0 : Int32), y27_0 = (if (r10_isNode nd) = true then r3_lengthAt ((4 + 16 * (nd.toNatClampNeg)) + 7) 6 x I L else (-1)) → ∀ (lv : List (Nat × Value)), lvsub [(0, .ref (xA g 0)), (1, .int z27_1), (2, .int x)] lv → V g (k10_receivedLength, 3, 0, 0) 0 0 27 lv [.int y27_0] (I, L, R0, 305) Q := by
    intro z27_1 ez27_1 y27_0 ey27_0
    subst ez27_1
    subst ey27_0
    intro lv hlv
    refine V_lv hlv ?_
    refine V_iret rfl d10_receivedLength_27 (Nat.zero_le _) (Nat.zero_le _) ?_
    have hq2 := hq
    simp only [r10_receivedLength] at hq2
    exact hq2
  refine V_beq (tgt := 26) (pc1 := 7) d10_receivedLength_4 (by decide) rfl (fun h1 => ?_) (fun h1 => ?_)
  · skip
    refine V_iconst (pc1 := 27) d10_receivedLength_26 vc_m1 rfl ?_
    exact key2 _ (by first | rfl | (simp only [if_neg h1]; done) | (simp only [if_neg h1]; rfl)) _ (by first | rfl | (simp only [if_neg h1]; done) | (simp only [if_neg h1]; rfl)) _ (lvsub_p [0, 1, 2] rfl)
  · skip
    obtain ⟨ni, hni, rfl⟩ := isNode_nat h1
    have hn3 : (nI ni).toNatClampNeg = ni := nI_clamp (by omega)
    obtain ⟨⟨gw, hw4, hw⟩, ⟨gr, hr6, hr⟩, ga, ha4, ha⟩ := hv.1 ni hni
    refine V_aload_n (pc1 := 8) 0 d10_receivedLength_7 rfl rfl ?_
    refine V_getr (pc1 := 11) ly0 (lt305 rfl) f10_10 (fun _ => rfl) rf0_0 d10_receivedLength_8 rfl ?_
    refine V_getr (pc1 := 14) ly1 (lt305 rfl) f10_75 (fun _ => rfl) rf1_1 d10_receivedLength_11 rfl ?_
    refine V_iload_n (pc1 := 15) 1 d10_receivedLength_14 rfl rfl ?_
    refine V_aald (pc1 := 16) ni ((4 + 16 * ni)) ly3 (Or.inr rfl) (lt305 rfl) rfl hni (rfi hni) d10_receivedLength_15 rfl ?_
    refine V_getr (pc1 := 19) (nd_l0 (okNi hni)) (nd_b0 (okNi hni)) f10_207 (fun _ => rfl) (nd_r0_3 (okNi hni)) d10_receivedLength_16 rfl ?_
    refine V_iload_n (pc1 := 20) 2 d10_receivedLength_19 rfl rfl ?_
    refine V_vi (pc1 := 23) (w3_lengthAt g (nd_F7 (okNi hni)) x gr hr6 I L hr) (nd_l7 (okNi hni)) (nd_b7 (okNi hni)) s3_lengthAt l10_210 rfl rfl ⟨Nat.le_of_ble_eq_true rfl, Nat.le_of_ble_eq_true rfl, Nat.le_refl _, Nat.le_refl _⟩ (Nat.le_of_ble_eq_true rfl) rfl d10_receivedLength_20 rfl ?_
    refine V_goto (tgt := 27) d10_receivedLength_23 (by decide) ?_
    exact key2 _ (by first | rfl | (simp only [if_pos h1, hn3]; done) | (simp only [if_pos h1, hn3]; rfl)) _ (by first | rfl | (simp only [if_pos h1, hn3]; done) | (simp only [if_pos h1, hn3]; rfl)) _ (lvsub_p [0, 1, 2] rfl)
theorem w10_receivedLength (g : GlT)  (nd : Int32) (x : Int32) (I : Nat → Nat → Int32) (L : Nat → Nat → Int64) (hv : bV 1 I) : Call g (k10_receivedLength, 3, 0, 0) [.ref (xA g 0), .int nd, .int x] (I, L, R0, 305) (Qi (r10_receivedLength nd x I L) (I) L) := Call.of (by decide) (Nat.le_of_ble_eq_true rfl) rfl (v10_receivedLength g  nd x  I L hv _ (And.intro rfl rfl))


def r10_receivedData (nd : Int32) (x : Int32) (I : Nat → Nat → Int32) (L : Nat → Nat → Int64) : Int32 := (if (r10_isNode nd) = true then r3_dataAt ((4 + 16 * (nd.toNatClampNeg)) + 7) 6 x I L else 0)
set_option maxRecDepth 4000 in
theorem v10_receivedData (g : GlT)  (nd : Int32) (x : Int32) (I : Nat → Nat → Int32) (L : Nat → Nat → Int64) (hv : bV 1 I) (Q : Option Value → MemT → Prop) (hq : Q (some (.int (r10_receivedData nd x I L))) (I, L, R0, 305)) : V g (k10_receivedData, 3, 0, 0) 0 0 0 [(0, .ref (xA g 0)), (1, .int nd), (2, .int x)] [] (I, L, R0, 305) Q := by
  refine V_iload_n (pc1 := 1) 1 d10_receivedData_0 rfl rfl ?_
  refine V_si (pc1 := 4) (w10_isNode g  nd  I L ) s10_isNode l10_68 rfl rfl ⟨Nat.le_of_ble_eq_true rfl, Nat.le_of_ble_eq_true rfl, Nat.le_refl _, Nat.le_refl _⟩ (Nat.le_of_ble_eq_true rfl) rfl d10_receivedData_1 rfl ?_
  have key2 : ∀ (z27_1 : Int32), z27_1 = (if (r10_isNode nd) = true then nI (nd.toNatClampNeg) else nd) → ∀ (y27_0 : Int32), y27_0 = (if (r10_isNode nd) = true then r3_dataAt ((4 + 16 * (nd.toNatClampNeg)) + 7) 6 x I L else 0) → ∀ (lv : List (Nat × Value)), lvsub [(0, .ref (xA g 0)), (1, .int z27_1), (2, .int x)] lv → V g (k10_receivedData, 3, 0, 0) 0 0 27 lv [.int y27_0] (I, L, R0, 305) Q := by
    intro z27_1 ez27_1 y27_0 ey27_0
    subst ez27_1
    subst ey27_0
    intro lv hlv
    refine V_lv hlv ?_
    refine V_iret rfl d10_receivedData_27 (Nat.zero_le _) (Nat.zero_le _) ?_
    have hq2 := hq
    simp only [r10_receivedData] at hq2
    exact hq2
  refine V_beq (tgt := 26) (pc1 := 7) d10_receivedData_4 (by decide) rfl (fun h1 => ?_) (fun h1 => ?_)
  · skip
    refine V_iconst (pc1 := 27) d10_receivedData_26 vc_0 rfl ?_
    exact key2 _ (by first | rfl | (simp only [if_neg h1]; done) | (simp only [if_neg h1]; rfl)) _ (by first | rfl | (simp only [if_neg h1]; done) | (simp only [if_neg h1]; rfl)) _ (lvsub_p [0, 1, 2] rfl)
  · skip
    obtain ⟨ni, hni, rfl⟩ := isNode_nat h1
    have hn3 : (nI ni).toNatClampNeg = ni := nI_clamp (by omega)
    obtain ⟨⟨gw, hw4, hw⟩, ⟨gr, hr6, hr⟩, ga, ha4, ha⟩ := hv.1 ni hni
    refine V_aload_n (pc1 := 8) 0 d10_receivedData_7 rfl rfl ?_
    refine V_getr (pc1 := 11) ly0 (lt305 rfl) f10_10 (fun _ => rfl) rf0_0 d10_receivedData_8 rfl ?_
    refine V_getr (pc1 := 14) ly1 (lt305 rfl) f10_75 (fun _ => rfl) rf1_1 d10_receivedData_11 rfl ?_
    refine V_iload_n (pc1 := 15) 1 d10_receivedData_14 rfl rfl ?_
    refine V_aald (pc1 := 16) ni ((4 + 16 * ni)) ly3 (Or.inr rfl) (lt305 rfl) rfl hni (rfi hni) d10_receivedData_15 rfl ?_
    refine V_getr (pc1 := 19) (nd_l0 (okNi hni)) (nd_b0 (okNi hni)) f10_207 (fun _ => rfl) (nd_r0_3 (okNi hni)) d10_receivedData_16 rfl ?_
    refine V_iload_n (pc1 := 20) 2 d10_receivedData_19 rfl rfl ?_
    refine V_vi (pc1 := 23) (w3_dataAt g (nd_F7 (okNi hni)) x gr hr6 I L hr) (nd_l7 (okNi hni)) (nd_b7 (okNi hni)) s3_dataAt l10_213 rfl rfl ⟨Nat.le_of_ble_eq_true rfl, Nat.le_of_ble_eq_true rfl, Nat.le_refl _, Nat.le_refl _⟩ (Nat.le_of_ble_eq_true rfl) rfl d10_receivedData_20 rfl ?_
    refine V_goto (tgt := 27) d10_receivedData_23 (by decide) ?_
    exact key2 _ (by first | rfl | (simp only [if_pos h1, hn3]; done) | (simp only [if_pos h1, hn3]; rfl)) _ (by first | rfl | (simp only [if_pos h1, hn3]; done) | (simp only [if_pos h1, hn3]; rfl)) _ (lvsub_p [0, 1, 2] rfl)
theorem w10_receivedData (g : GlT)  (nd : Int32) (x : Int32) (I : Nat → Nat → Int32) (L : Nat → Nat → Int64) (hv : bV 1 I) : Call g (k10_receivedData, 3, 0, 0) [.ref (xA g 0), .int nd, .int x] (I, L, R0, 305) (Qi (r10_receivedData nd x I L) (I) L) := Call.of (by decide) (Nat.le_of_ble_eq_true rfl) rfl (v10_receivedData g  nd x  I L hv _ (And.intro rfl rfl))


def r10_discard (nd : Int32) (I : Nat → Nat → Int32) (L : Nat → Nat → Int64) : Int32 := (if (r10_isNode nd) = true then (if I ((4 + 16 * (nd.toNatClampNeg)) + 7) 3 = 0 then (-5) else (i3_removeAt ((4 + 16 * (nd.toNatClampNeg)) + 7) 6 0 I L) ((4 + 16 * (nd.toNatClampNeg)) + 7) 3) else (-1))
def i10_discard (nd : Int32) (I : Nat → Nat → Int32) (L : Nat → Nat → Int64) : Nat → Nat → Int32 := (if (r10_isNode nd) = true then (if I ((4 + 16 * (nd.toNatClampNeg)) + 7) 3 = 0 then I else i3_removeAt ((4 + 16 * (nd.toNatClampNeg)) + 7) 6 0 I L) else I)
set_option maxRecDepth 4000 in
theorem v10_discard (g : GlT)  (nd : Int32) (I : Nat → Nat → Int32) (L : Nat → Nat → Int64) (hv : bV 1 I) (Q : Option Value → MemT → Prop) (hq : Q (some (.int (r10_discard nd I L))) (i10_discard nd I L, L, R0, 305)) : V g (k10_discard, 3, 0, 0) 0 0 0 [(0, .ref (xA g 0)), (1, .int nd)] [] (I, L, R0, 305) Q := by
  refine V_iload_n (pc1 := 1) 1 d10_discard_0 rfl rfl ?_
  refine V_si (pc1 := 4) (w10_isNode g  nd  I L ) s10_isNode l10_68 rfl rfl ⟨Nat.le_of_ble_eq_true rfl, Nat.le_of_ble_eq_true rfl, Nat.le_refl _, Nat.le_refl _⟩ (Nat.le_of_ble_eq_true rfl) rfl d10_discard_1 rfl ?_
  refine V_bne (tgt := 9) (pc1 := 7) d10_discard_4 (by decide) rfl (fun h1 => ?_) (fun h1 => ?_)
  · skip
    obtain ⟨ni, hni, rfl⟩ := isNode_nat h1
    have hn3 : (nI ni).toNatClampNeg = ni := nI_clamp (by omega)
    obtain ⟨⟨gw, hw4, hw⟩, ⟨gr, hr6, hr⟩, ga, ha4, ha⟩ := hv.1 ni hni
    refine V_aload_n (pc1 := 10) 0 d10_discard_9 rfl rfl ?_
    refine V_getr (pc1 := 13) ly0 (lt305 rfl) f10_10 (fun _ => rfl) rf0_0 d10_discard_10 rfl ?_
    refine V_getr (pc1 := 16) ly1 (lt305 rfl) f10_75 (fun _ => rfl) rf1_1 d10_discard_13 rfl ?_
    refine V_iload_n (pc1 := 17) 1 d10_discard_16 rfl rfl ?_
    refine V_aald (pc1 := 18) ni ((4 + 16 * ni)) ly3 (Or.inr rfl) (lt305 rfl) rfl hni (rfi hni) d10_discard_17 rfl ?_
    refine V_getr (pc1 := 21) (nd_l0 (okNi hni)) (nd_b0 (okNi hni)) f10_207 (fun _ => rfl) (nd_r0_3 (okNi hni)) d10_discard_18 rfl ?_
    refine V_astore_n (pc1 := 22) d10_discard_21 (Nat.le_of_ble_eq_true rfl) rfl rfl ?_
    refine V_aload_n (pc1 := 23) 0 d10_discard_22 rfl rfl ?_
    refine V_geti (pc1 := 26) (nd_l7 (okNi hni)) (nd_b7 (okNi hni)) f10_113 (fun _ => rfl) rfl d10_discard_23 rfl ?_
    refine V_if_ne (tgt := 32) (pc1 := 29) d10_discard_26 (by decide) rfl (fun h2 => ?_) (fun h2 => ?_)
    · skip
      refine V_aload_n (pc1 := 33) 0 d10_discard_32 rfl rfl ?_
      refine V_iconst (pc1 := 34) d10_discard_33 vc_0 rfl ?_
      refine V_vv (pc1 := 37) (w3_removeAt g (nd_F7 (okNi hni)) 0 gr hr6 I L hr) (nd_l7 (okNi hni)) (nd_b7 (okNi hni)) s3_removeAt l10_109 rfl rfl ⟨Nat.le_of_ble_eq_true rfl, Nat.le_of_ble_eq_true rfl, Nat.le_refl _, Nat.le_refl _⟩ (Nat.le_of_ble_eq_true rfl) rfl d10_discard_34 rfl ?_
      refine V_aload_n (pc1 := 38) 0 d10_discard_37 rfl rfl ?_
      refine V_geti (pc1 := 41) (nd_l7 (okNi hni)) (nd_b7 (okNi hni)) f10_113 (fun _ => rfl) rfl d10_discard_38 rfl ?_
      refine V_iret rfl d10_discard_41 (Nat.zero_le _) (Nat.zero_le _) ?_
      have hq2 := hq
      simp only [r10_discard, i10_discard, if_pos h1, hn3, if_neg h2] at hq2
      exact hq2
    · skip
      refine V_bipush (pc1 := 31) d10_discard_29 vb_m5 rfl ?_
      refine V_iret rfl d10_discard_31 (Nat.zero_le _) (Nat.zero_le _) ?_
      have hq2 := hq
      simp only [r10_discard, i10_discard, if_pos h1, hn3, if_pos h2] at hq2
      exact hq2
  · skip
    refine V_iconst (pc1 := 8) d10_discard_7 vc_m1 rfl ?_
    refine V_iret rfl d10_discard_8 (Nat.zero_le _) (Nat.zero_le _) ?_
    have hq2 := hq
    simp only [r10_discard, i10_discard, if_neg h1] at hq2
    exact hq2
theorem w10_discard (g : GlT)  (nd : Int32) (I : Nat → Nat → Int32) (L : Nat → Nat → Int64) (hv : bV 1 I) : Call g (k10_discard, 3, 0, 0) [.ref (xA g 0), .int nd] (I, L, R0, 305) (Qi (r10_discard nd I L) (i10_discard nd I L) L) := Call.of (by decide) (Nat.le_of_ble_eq_true rfl) rfl (v10_discard g  nd  I L hv _ (And.intro rfl rfl))


def r10_time (I : Nat → Nat → Int32) (L : Nat → Nat → Int64) : Int32 := I 1 4
set_option maxRecDepth 4000 in
theorem v10_time (g : GlT)  (I : Nat → Nat → Int32) (L : Nat → Nat → Int64) (Q : Option Value → MemT → Prop) (hq : Q (some (.int (r10_time I L))) (I, L, R0, 305)) : V g (k10_time, 1, 0, 0) 0 0 0 [(0, .ref (xA g 0))] [] (I, L, R0, 305) Q := by
  refine V_aload_n (pc1 := 1) 0 d10_time_0 rfl rfl ?_
  refine V_getr (pc1 := 4) ly0 (lt305 rfl) f10_10 (fun _ => rfl) rf0_0 d10_time_1 rfl ?_
  refine V_geti (pc1 := 7) ly1 (lt305 rfl) f10_143 (fun _ => rfl) rfl d10_time_4 rfl ?_
  refine V_iret rfl d10_time_7 (Nat.zero_le _) (Nat.zero_le _) ?_
  have hq2 := hq
  simp only [r10_time] at hq2
  exact hq2
theorem w10_time (g : GlT)  (I : Nat → Nat → Int32) (L : Nat → Nat → Int64) : Call g (k10_time, 1, 0, 0) [.ref (xA g 0)] (I, L, R0, 305) (Qi (r10_time I L) (I) L) := Call.of (by decide) (Nat.le_of_ble_eq_true rfl) rfl (v10_time g    I L  _ (And.intro rfl rfl))


def r10_level (x : Int32) (I : Nat → Nat → Int32) (L : Nat → Nat → Int64) : Int32 := (if (r10_isWithin x 1 256) = true then r0_levelBefore 1 x I L else (-2))
set_option maxRecDepth 4000 in
theorem v10_level (g : GlT)  (x : Int32) (I : Nat → Nat → Int32) (L : Nat → Nat → Int64) (Q : Option Value → MemT → Prop) (hq : Q (some (.int (r10_level x I L))) (I, L, R0, 305)) : V g (k10_level, 2, 0, 0) 0 0 0 [(0, .ref (xA g 0)), (1, .int x)] [] (I, L, R0, 305) Q := by
  refine V_iload_n (pc1 := 1) 1 d10_level_0 rfl rfl ?_
  refine V_iconst (pc1 := 2) d10_level_1 vc_1 rfl ?_
  refine V_sipush (pc1 := 5) d10_level_2 vs_256 rfl ?_
  refine V_si (pc1 := 8) (w10_isWithin g  x 1 256  I L ) s10_isWithin l10_48 rfl rfl ⟨Nat.le_of_ble_eq_true rfl, Nat.le_of_ble_eq_true rfl, Nat.le_refl _, Nat.le_refl _⟩ (Nat.le_of_ble_eq_true rfl) rfl d10_level_5 rfl ?_
  refine V_bne (tgt := 14) (pc1 := 11) d10_level_8 (by decide) rfl (fun h1 => ?_) (fun h1 => ?_)
  · skip
    refine V_aload_n (pc1 := 15) 0 d10_level_14 rfl rfl ?_
    refine V_getr (pc1 := 18) ly0 (lt305 rfl) f10_10 (fun _ => rfl) rf0_0 d10_level_15 rfl ?_
    refine V_iload_n (pc1 := 19) 1 d10_level_18 rfl rfl ?_
    refine V_vi (pc1 := 22) (w0_levelBefore g okB1 x  I L ) ly1 (lt305 rfl) s0_levelBefore l10_216 rfl rfl ⟨Nat.le_of_ble_eq_true rfl, Nat.le_of_ble_eq_true rfl, Nat.le_refl _, Nat.le_refl _⟩ (Nat.le_of_ble_eq_true rfl) rfl d10_level_19 rfl ?_
    refine V_iret rfl d10_level_22 (Nat.zero_le _) (Nat.zero_le _) ?_
    have hq2 := hq
    simp only [r10_level, if_pos h1] at hq2
    exact hq2
  · skip
    refine V_bipush (pc1 := 13) d10_level_11 vb_m2 rfl ?_
    refine V_iret rfl d10_level_13 (Nat.zero_le _) (Nat.zero_le _) ?_
    have hq2 := hq
    simp only [r10_level, if_neg h1] at hq2
    exact hq2
theorem w10_level (g : GlT)  (x : Int32) (I : Nat → Nat → Int32) (L : Nat → Nat → Int64) : Call g (k10_level, 2, 0, 0) [.ref (xA g 0), .int x] (I, L, R0, 305) (Qi (r10_level x I L) (I) L) := Call.of (by decide) (Nat.le_of_ble_eq_true rfl) rfl (v10_level g  x  I L  _ (And.intro rfl rfl))


def r10_winner (I : Nat → Nat → Int32) (L : Nat → Nat → Int64) : Int32 := r0_nextWinner 1 I L
set_option maxRecDepth 4000 in
theorem v10_winner (g : GlT)  (I : Nat → Nat → Int32) (L : Nat → Nat → Int64) (hv : bV 1 I) (Q : Option Value → MemT → Prop) (hq : Q (some (.int (r10_winner I L))) (I, L, R0, 305)) : V g (k10_winner, 4, 0, 0) 0 0 0 [(0, .ref (xA g 0))] [] (I, L, R0, 305) Q := by
  refine V_aload_n (pc1 := 1) 0 d10_winner_0 rfl rfl ?_
  refine V_getr (pc1 := 4) ly0 (lt305 rfl) f10_10 (fun _ => rfl) rf0_0 d10_winner_1 rfl ?_
  refine V_vi (pc1 := 7) (w0_nextWinner g okB1   I L hv) ly1 (lt305 rfl) s0_nextWinner l10_219 rfl rfl ⟨Nat.le_of_ble_eq_true rfl, Nat.le_of_ble_eq_true rfl, Nat.le_refl _, Nat.le_refl _⟩ (Nat.le_of_ble_eq_true rfl) rfl d10_winner_4 rfl ?_
  refine V_iret rfl d10_winner_7 (Nat.zero_le _) (Nat.zero_le _) ?_
  have hq2 := hq
  simp only [r10_winner] at hq2
  exact hq2
theorem w10_winner (g : GlT)  (I : Nat → Nat → Int32) (L : Nat → Nat → Int64) (hv : bV 1 I) : Call g (k10_winner, 4, 0, 0) [.ref (xA g 0)] (I, L, R0, 305) (Qi (r10_winner I L) (I) L) := Call.of (by decide) (Nat.le_of_ble_eq_true rfl) rfl (v10_winner g    I L hv _ (And.intro rfl rfl))


def r10_worstBits (ln : Int32) (I : Nat → Nat → Int32) (L : Nat → Nat → Int64) : Int32 := (if (r10_isLength ln) = true then r10_longestFrame ln else (-2))
set_option maxRecDepth 4000 in
theorem v10_worstBits (g : GlT)  (ln : Int32) (I : Nat → Nat → Int32) (L : Nat → Nat → Int64) (Q : Option Value → MemT → Prop) (hq : Q (some (.int (r10_worstBits ln I L))) (I, L, R0, 305)) : V g (k10_worstBits, 3, 0, 0) 0 0 0 [(0, .ref (xA g 0)), (1, .int ln)] [] (I, L, R0, 305) Q := by
  refine V_iload_n (pc1 := 1) 1 d10_worstBits_0 rfl rfl ?_
  refine V_si (pc1 := 4) (w10_isLength g  ln  I L ) s10_isLength l10_236 rfl rfl ⟨Nat.le_of_ble_eq_true rfl, Nat.le_of_ble_eq_true rfl, Nat.le_refl _, Nat.le_refl _⟩ (Nat.le_of_ble_eq_true rfl) rfl d10_worstBits_1 rfl ?_
  have key2 : ∀ (y16_0 : Int32), y16_0 = (if (r10_isLength ln) = true then r10_longestFrame ln else (-2)) → ∀ (lv : List (Nat × Value)), lvsub [(0, .ref (xA g 0)), (1, .int ln)] lv → V g (k10_worstBits, 3, 0, 0) 0 0 16 lv [.int y16_0] (I, L, R0, 305) Q := by
    intro y16_0 ey16_0
    subst ey16_0
    intro lv hlv
    refine V_lv hlv ?_
    refine V_iret rfl d10_worstBits_16 (Nat.zero_le _) (Nat.zero_le _) ?_
    have hq2 := hq
    simp only [r10_worstBits] at hq2
    exact hq2
  refine V_beq (tgt := 14) (pc1 := 7) d10_worstBits_4 (by decide) rfl (fun h1 => ?_) (fun h1 => ?_)
  · skip
    refine V_bipush (pc1 := 16) d10_worstBits_14 vb_m2 rfl ?_
    exact key2 _ (by first | rfl | (simp only [if_neg h1]; done) | (simp only [if_neg h1]; rfl)) _ (lvsub_p [0, 1] rfl)
  · skip
    refine V_iload_n (pc1 := 8) 1 d10_worstBits_7 rfl rfl ?_
    refine V_si (pc1 := 11) (w10_longestFrame g  ln  I L ) s10_longestFrame l10_239 rfl rfl ⟨Nat.le_of_ble_eq_true rfl, Nat.le_of_ble_eq_true rfl, Nat.le_refl _, Nat.le_refl _⟩ (Nat.le_of_ble_eq_true rfl) rfl d10_worstBits_8 rfl ?_
    refine V_goto (tgt := 16) d10_worstBits_11 (by decide) ?_
    exact key2 _ (by first | rfl | (simp only [if_pos h1]; done) | (simp only [if_pos h1]; rfl)) _ (lvsub_p [0, 1] rfl)
theorem w10_worstBits (g : GlT)  (ln : Int32) (I : Nat → Nat → Int32) (L : Nat → Nat → Int64) : Call g (k10_worstBits, 3, 0, 0) [.ref (xA g 0), .int ln] (I, L, R0, 305) (Qi (r10_worstBits ln I L) (I) L) := Call.of (by decide) (Nat.le_of_ble_eq_true rfl) rfl (v10_worstBits g  ln  I L  _ (And.intro rfl rfl))

