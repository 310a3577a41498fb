theorem in_eq (x a b : Int32) : r11_in x a b = r10_isWithin x a b := rfl
theorem isNode11 {x : Int32} (h : r11_isNode x = true) : ∃ i, i < 4 ∧ x = nI i := isNode_nat h

def r11_setLimits (a : Int32) (b : Int32) (c : Int32) (I : Nat → Nat → Int32) (L : Nat → Nat → Int64) : Int32 := (if (¬ ((r11_in a 8 128) = true)) ∨ ((¬ ((r11_in b 16 256) = true)) ∨ ((b ≤ a) ∨ (¬ ((r11_in c 1 16) = true)))) then (-2) else I 297 1025)
def i11_setLimits (a : Int32) (b : Int32) (c : Int32) (I : Nat → Nat → Int32) (L : Nat → Nat → Int64) : Nat → Nat → Int32 := (if (¬ ((r11_in a 8 128) = true)) ∨ ((¬ ((r11_in b 16 256) = true)) ∨ ((b ≤ a) ∨ (¬ ((r11_in c 1 16) = true)))) then I else uI (uI (uI I 297 1025 a) 297 1026 b) 297 1027 c)
set_option maxRecDepth 4000 in
theorem v11_setLimits (g : GlT)  (a : Int32) (b : Int32) (c : Int32) (I : Nat → Nat → Int32) (L : Nat → Nat → Int64) (Q : Option Value → MemT → Prop) (hq : Q (some (.int (r11_setLimits a b c I L))) (i11_setLimits a b c I L, L, R0, 305)) : V g (k11_setLimits, 2, 0, 0) 0 0 0 [(0, .ref (xA g 296)), (1, .int a), (2, .int b), (3, .int c)] [] (I, L, R0, 305) Q := by
  refine V_iload_n (pc1 := 1) 1 d11_setLimits_0 rfl rfl ?_
  refine V_bipush (pc1 := 3) d11_setLimits_1 vb_8 rfl ?_
  refine V_sipush (pc1 := 6) d11_setLimits_3 vs_128 rfl ?_
  refine V_si (pc1 := 9) (w11_in g  a 8 128  I L ) s11_in l11_39 rfl rfl ⟨Nat.le_of_ble_eq_true rfl, Nat.le_of_ble_eq_true rfl, Nat.le_refl _, Nat.le_refl _⟩ (Nat.le_of_ble_eq_true rfl) rfl d11_setLimits_6 rfl ?_
  have k2 : ((¬ ((r11_in a 8 128) = true)) ∨ ((¬ ((r11_in b 16 256) = true)) ∨ ((b ≤ a) ∨ (¬ ((r11_in c 1 16) = true))))) → V g (k11_setLimits, 2, 0, 0) 0 0 39 [(0, .ref (xA g 296)), (1, .int a), (2, .int b), (3, .int c)] [] (I, L, R0, 305) Q := by
    intro h1
    refine V_bipush (pc1 := 41) d11_setLimits_39 vb_m2 rfl ?_
    refine V_iret rfl d11_setLimits_41 (Nat.zero_le _) (Nat.zero_le _) ?_
    have hq2 := hq
    simp only [r11_setLimits, i11_setLimits, if_pos h1] at hq2
    exact hq2
  have k3 : ¬ ((¬ ((r11_in a 8 128) = true)) ∨ ((¬ ((r11_in b 16 256) = true)) ∨ ((b ≤ a) ∨ (¬ ((r11_in c 1 16) = true))))) → V g (k11_setLimits, 2, 0, 0) 0 0 42 [(0, .ref (xA g 296)), (1, .int a), (2, .int b), (3, .int c)] [] (I, L, R0, 305) Q := by
    intro h1
    refine V_aload_n (pc1 := 43) 0 d11_setLimits_42 rfl rfl ?_
    refine V_getr (pc1 := 46) ly296 (lt305 rfl) f11_7 (fun _ => rfl) rf296_0 d11_setLimits_43 rfl ?_
    refine V_sipush (pc1 := 49) d11_setLimits_46 vs_1025 rfl ?_
    refine V_iald2 (pc1 := 50) 1025 ly297 (lt305 rfl) rfl (Nat.le_of_ble_eq_true rfl) rfl d11_setLimits_49 rfl ?_
    refine V_istore (pc1 := 52) d11_setLimits_50 (Nat.le_of_ble_eq_true rfl) rfl rfl ?_
    refine V_aload_n (pc1 := 53) 1 d11_setLimits_52 rfl rfl ?_
    refine V_getr (pc1 := 56) ly296 (lt305 rfl) f11_7 (fun _ => rfl) rf296_0 d11_setLimits_53 rfl ?_
    refine V_sipush (pc1 := 59) d11_setLimits_56 vs_1025 rfl ?_
    refine V_iload_n (pc1 := 60) 2 d11_setLimits_59 rfl rfl ?_
    refine V_iast (pc1 := 61) 1025 ly297 (lt305 rfl) rfl (Nat.le_of_ble_eq_true rfl) d11_setLimits_60 rfl ?_
    refine V_aload_n (pc1 := 62) 1 d11_setLimits_61 rfl rfl ?_
    refine V_getr (pc1 := 65) ly296 (lt305 rfl) f11_7 (fun _ => rfl) rf296_0 d11_setLimits_62 rfl ?_
    refine V_sipush (pc1 := 68) d11_setLimits_65 vs_1026 rfl ?_
    refine V_iload_n (pc1 := 69) 3 d11_setLimits_68 rfl rfl ?_
    refine V_iast (pc1 := 70) 1026 ly297 (lt305 rfl) rfl (Nat.le_of_ble_eq_true rfl) d11_setLimits_69 rfl ?_
    refine V_aload_n (pc1 := 71) 1 d11_setLimits_70 rfl rfl ?_
    refine V_getr (pc1 := 74) ly296 (lt305 rfl) f11_7 (fun _ => rfl) rf296_0 d11_setLimits_71 rfl ?_
    refine V_sipush (pc1 := 77) d11_setLimits_74 vs_1027 rfl ?_
    refine V_iload_n (pc1 := 78) 4 d11_setLimits_77 rfl rfl ?_
    refine V_iast (pc1 := 79) 1027 ly297 (lt305 rfl) rfl (Nat.le_of_ble_eq_true rfl) d11_setLimits_78 rfl ?_
    refine V_iload (pc1 := 81) 0 d11_setLimits_79 rfl rfl ?_
    refine V_iret rfl d11_setLimits_81 (Nat.zero_le _) (Nat.zero_le _) ?_
    have hq2 := hq
    simp only [r11_setLimits, i11_setLimits, if_neg h1] at hq2
    exact hq2
  refine V_beq (tgt := 39) (pc1 := 12) d11_setLimits_9 (by decide) rfl (fun h4 => ?_) (fun h4 => ?_)
  · skip
    exact k2 (Or.inl h4)
  · skip
    refine V_iload_n (pc1 := 13) 2 d11_setLimits_12 rfl rfl ?_
    refine V_bipush (pc1 := 15) d11_setLimits_13 vb_16 rfl ?_
    refine V_sipush (pc1 := 18) d11_setLimits_15 vs_256 rfl ?_
    refine V_si (pc1 := 21) (w11_in g  b 16 256  I L ) s11_in l11_39 rfl rfl ⟨Nat.le_of_ble_eq_true rfl, Nat.le_of_ble_eq_true rfl, Nat.le_refl _, Nat.le_refl _⟩ (Nat.le_of_ble_eq_true rfl) rfl d11_setLimits_18 rfl ?_
    refine V_beq (tgt := 39) (pc1 := 24) d11_setLimits_21 (by decide) rfl (fun h5 => ?_) (fun h5 => ?_)
    · skip
      exact k2 (Or.inr (Or.inl h5))
    · skip
      refine V_iload_n (pc1 := 25) 2 d11_setLimits_24 rfl rfl ?_
      refine V_iload_n (pc1 := 26) 1 d11_setLimits_25 rfl rfl ?_
      refine V_icmp_le (tgt := 39) (pc1 := 29) d11_setLimits_26 (by decide) rfl (fun h6 => ?_) (fun h6 => ?_)
      · skip
        exact k2 (Or.inr (Or.inr (Or.inl h6)))
      · skip
        refine V_iload_n (pc1 := 30) 3 d11_setLimits_29 rfl rfl ?_
        refine V_iconst (pc1 := 31) d11_setLimits_30 vc_1 rfl ?_
        refine V_bipush (pc1 := 33) d11_setLimits_31 vb_16 rfl ?_
        refine V_si (pc1 := 36) (w11_in g  c 1 16  I L ) s11_in l11_39 rfl rfl ⟨Nat.le_of_ble_eq_true rfl, Nat.le_of_ble_eq_true rfl, Nat.le_refl _, Nat.le_refl _⟩ (Nat.le_of_ble_eq_true rfl) rfl d11_setLimits_33 rfl ?_
        refine V_bne (tgt := 42) (pc1 := 39) d11_setLimits_36 (by decide) rfl (fun h7 => ?_) (fun h7 => ?_)
        · skip
          exact k3 (fun z => z.elim (fun z => z h4) (fun z => z.elim (fun z => z h5) (fun z => z.elim h6 (fun z => z h7))))
        · skip
          exact k2 (Or.inr (Or.inr (Or.inr h7)))
theorem w11_setLimits (g : GlT)  (a : Int32) (b : Int32) (c : Int32) (I : Nat → Nat → Int32) (L : Nat → Nat → Int64) : Call g (k11_setLimits, 2, 0, 0) [.ref (xA g 296), .int a, .int b, .int c] (I, L, R0, 305) (Qi (r11_setLimits a b c I L) (i11_setLimits a b c I L) L) := Call.of (by decide) (Nat.le_of_ble_eq_true rfl) rfl (v11_setLimits g  a b c  I L  _ (And.intro rfl rfl))

theorem xs11_setLimits {a : Int32} {b : Int32} {c : Int32} {I : Nat → Nat → Int32} {L : Nat → Nat → Int64} {s0 : Nat} (h0 : s0 ≠ 1025) (h1 : s0 ≠ 1026) (h2 : s0 ≠ 1027) : i11_setLimits a b c I L 297 s0 = I 297 s0 := by
  first | (simp only [i11_setLimits]; done) | (simp only [i11_setLimits]; (try (repeat' split)) <;> first | rfl | (simp [uI_eq, h0, h1, h2]; done))

def r11_setFilter (nd : Int32) (a : Int32) (b : Int32) (I : Nat → Nat → Int32) (L : Nat → Nat → Int64) : Int32 := (if (r11_isNode nd) = true then (if (¬ ((r11_in a 0 2047) = true)) ∨ (¬ ((r11_in b 0 2047) = true)) then (-2) else I 297 (256 * (nd.toNatClampNeg) + 16)) else (-1))
def i11_setFilter (nd : Int32) (a : Int32) (b : Int32) (I : Nat → Nat → Int32) (L : Nat → Nat → Int64) : Nat → Nat → Int32 := (if (r11_isNode nd) = true then (if (¬ ((r11_in a 0 2047) = true)) ∨ (¬ ((r11_in b 0 2047) = true)) then I else uI (uI I 297 (256 * (nd.toNatClampNeg) + 16) a) 297 (256 * (nd.toNatClampNeg) + 17) b) else I)
set_option maxRecDepth 4000 in
theorem v11_setFilter (g : GlT)  (nd : Int32) (a : Int32) (b : Int32) (I : Nat → Nat → Int32) (L : Nat → Nat → Int64) (Q : Option Value → MemT → Prop) (hq : Q (some (.int (r11_setFilter nd a b I L))) (i11_setFilter nd a b I L, L, R0, 305)) : V g (k11_setFilter, 3, 0, 0) 0 0 0 [(0, .ref (xA g 296)), (1, .int nd), (2, .int a), (3, .int b)] [] (I, L, R0, 305) Q := by
  refine V_iload_n (pc1 := 1) 1 d11_setFilter_0 rfl rfl ?_
  refine V_si (pc1 := 4) (w11_isNode g  nd  I L ) s11_isNode l11_66 rfl rfl ⟨Nat.le_of_ble_eq_true rfl, Nat.le_of_ble_eq_true rfl, Nat.le_refl _, Nat.le_refl _⟩ (Nat.le_of_ble_eq_true rfl) rfl d11_setFilter_1 rfl ?_
  refine V_bne (tgt := 9) (pc1 := 7) d11_setFilter_4 (by decide) rfl (fun h1 => ?_) (fun h1 => ?_)
  · skip
    obtain ⟨ni, hni, rfl⟩ := isNode11 h1
    have hn3 : (nI ni).toNatClampNeg = ni := nI_clamp (by omega)
    refine V_iload_n (pc1 := 10) 2 d11_setFilter_9 rfl rfl ?_
    refine V_iconst (pc1 := 11) d11_setFilter_10 vc_0 rfl ?_
    refine V_sipush (pc1 := 14) d11_setFilter_11 vs_2047 rfl ?_
    refine V_si (pc1 := 17) (w11_in g  a 0 2047  I L ) s11_in l11_39 rfl rfl ⟨Nat.le_of_ble_eq_true rfl, Nat.le_of_ble_eq_true rfl, Nat.le_refl _, Nat.le_refl _⟩ (Nat.le_of_ble_eq_true rfl) rfl d11_setFilter_14 rfl ?_
    have k3 : ((¬ ((r11_in a 0 2047) = true)) ∨ (¬ ((r11_in b 0 2047) = true))) → V g (k11_setFilter, 3, 0, 0) 0 0 31 [(0, .ref (xA g 296)), (1, .int (nI ni)), (2, .int a), (3, .int b)] [] (I, L, R0, 305) Q := by
      intro h2
      refine V_bipush (pc1 := 33) d11_setFilter_31 vb_m2 rfl ?_
      refine V_iret rfl d11_setFilter_33 (Nat.zero_le _) (Nat.zero_le _) ?_
      have hq2 := hq
      simp only [r11_setFilter, i11_setFilter, if_pos h1, hn3, if_pos h2] at hq2
      exact hq2
    have k4 : ¬ ((¬ ((r11_in a 0 2047) = true)) ∨ (¬ ((r11_in b 0 2047) = true))) → V g (k11_setFilter, 3, 0, 0) 0 0 34 [(0, .ref (xA g 296)), (1, .int (nI ni)), (2, .int a), (3, .int b)] [] (I, L, R0, 305) Q := by
      intro h2
      refine V_aload_n (pc1 := 35) 0 d11_setFilter_34 rfl rfl ?_
      refine V_getr (pc1 := 38) ly296 (lt305 rfl) f11_7 (fun _ => rfl) rf296_0 d11_setFilter_35 rfl ?_
      refine V_iload_n (pc1 := 39) 1 d11_setFilter_38 rfl rfl ?_
      refine V_bipush (pc1 := 41) d11_setFilter_39 vb_16 rfl ?_
      refine V_si (pc1 := 44) (w11_at2 g  ni 16 (256 * ni + 16) (by omega) I L ) s11_at l11_35 rfl rfl ⟨Nat.le_of_ble_eq_true rfl, Nat.le_of_ble_eq_true rfl, Nat.le_refl _, Nat.le_refl _⟩ (Nat.le_of_ble_eq_true rfl) rfl d11_setFilter_41 rfl ?_
      refine V_iald2 (pc1 := 45) (256 * ni + 16) ly297 (lt305 rfl) rfl (by omega) rfl d11_setFilter_44 rfl ?_
      refine V_istore (pc1 := 47) d11_setFilter_45 (Nat.le_of_ble_eq_true rfl) rfl rfl ?_
      refine V_aload_n (pc1 := 48) 1 d11_setFilter_47 rfl rfl ?_
      refine V_getr (pc1 := 51) ly296 (lt305 rfl) f11_7 (fun _ => rfl) rf296_0 d11_setFilter_48 rfl ?_
      refine V_iload_n (pc1 := 52) 2 d11_setFilter_51 rfl rfl ?_
      refine V_bipush (pc1 := 54) d11_setFilter_52 vb_16 rfl ?_
      refine V_si (pc1 := 57) (w11_at2 g  ni 16 (256 * ni + 16) (by omega) I L ) s11_at l11_35 rfl rfl ⟨Nat.le_of_ble_eq_true rfl, Nat.le_of_ble_eq_true rfl, Nat.le_refl _, Nat.le_refl _⟩ (Nat.le_of_ble_eq_true rfl) rfl d11_setFilter_54 rfl ?_
      refine V_iload_n (pc1 := 58) 3 d11_setFilter_57 rfl rfl ?_
      refine V_iast (pc1 := 59) (256 * ni + 16) ly297 (lt305 rfl) rfl (by omega) d11_setFilter_58 rfl ?_
      refine V_aload_n (pc1 := 60) 1 d11_setFilter_59 rfl rfl ?_
      refine V_getr (pc1 := 63) ly296 (lt305 rfl) f11_7 (fun _ => rfl) rf296_0 d11_setFilter_60 rfl ?_
      refine V_iload_n (pc1 := 64) 2 d11_setFilter_63 rfl rfl ?_
      refine V_bipush (pc1 := 66) d11_setFilter_64 vb_17 rfl ?_
      refine V_si (pc1 := 69) (w11_at2 g  ni 17 (256 * ni + 17) (by omega) (uI I 297 (256 * ni + 16) a) L ) s11_at l11_35 rfl rfl ⟨Nat.le_of_ble_eq_true rfl, Nat.le_of_ble_eq_true rfl, Nat.le_refl _, Nat.le_refl _⟩ (Nat.le_of_ble_eq_true rfl) rfl d11_setFilter_66 rfl ?_
      refine V_iload_n (pc1 := 70) 4 d11_setFilter_69 rfl rfl ?_
      refine V_iast (pc1 := 71) (256 * ni + 17) ly297 (lt305 rfl) rfl (by omega) d11_setFilter_70 rfl ?_
      refine V_iload (pc1 := 73) 0 d11_setFilter_71 rfl rfl ?_
      refine V_iret rfl d11_setFilter_73 (Nat.zero_le _) (Nat.zero_le _) ?_
      have hq2 := hq
      simp only [r11_setFilter, i11_setFilter, if_pos h1, hn3, if_neg h2] at hq2
      exact hq2
    refine V_beq (tgt := 31) (pc1 := 20) d11_setFilter_17 (by decide) rfl (fun h5 => ?_) (fun h5 => ?_)
    · skip
      exact k3 (Or.inl h5)
    · skip
      refine V_iload_n (pc1 := 21) 3 d11_setFilter_20 rfl rfl ?_
      refine V_iconst (pc1 := 22) d11_setFilter_21 vc_0 rfl ?_
      refine V_sipush (pc1 := 25) d11_setFilter_22 vs_2047 rfl ?_
      refine V_si (pc1 := 28) (w11_in g  b 0 2047  I L ) s11_in l11_39 rfl rfl ⟨Nat.le_of_ble_eq_true rfl, Nat.le_of_ble_eq_true rfl, Nat.le_refl _, Nat.le_refl _⟩ (Nat.le_of_ble_eq_true rfl) rfl d11_setFilter_25 rfl ?_
      refine V_bne (tgt := 34) (pc1 := 31) d11_setFilter_28 (by decide) rfl (fun h6 => ?_) (fun h6 => ?_)
      · skip
        exact k4 (fun z => z.elim (fun z => z h5) (fun z => z h6))
      · skip
        exact k3 (Or.inr h6)
  · skip
    refine V_iconst (pc1 := 8) d11_setFilter_7 vc_m1 rfl ?_
    refine V_iret rfl d11_setFilter_8 (Nat.zero_le _) (Nat.zero_le _) ?_
    have hq2 := hq
    simp only [r11_setFilter, i11_setFilter, if_neg h1] at hq2
    exact hq2
theorem w11_setFilter (g : GlT)  (nd : Int32) (a : Int32) (b : Int32) (I : Nat → Nat → Int32) (L : Nat → Nat → Int64) : Call g (k11_setFilter, 3, 0, 0) [.ref (xA g 296), .int nd, .int a, .int b] (I, L, R0, 305) (Qi (r11_setFilter nd a b I L) (i11_setFilter nd a b I L) L) := Call.of (by decide) (Nat.le_of_ble_eq_true rfl) rfl (v11_setFilter g  nd a b  I L  _ (And.intro rfl rfl))


def r11_of (nd : Int32) (c : Nat) (I : Nat → Nat → Int32) (L : Nat → Nat → Int64) : Int32 := (if (r11_isNode nd) = true then I 297 (c + 256 * (nd.toNatClampNeg)) else (-1))
set_option maxRecDepth 4000 in
theorem v11_of (g : GlT)  (nd : Int32) (c : Nat) (hc : c < 256) (I : Nat → Nat → Int32) (L : Nat → Nat → Int64) (Q : Option Value → MemT → Prop) (hq : Q (some (.int (r11_of nd c I L))) (I, L, R0, 305)) : V g (k11_of, 3, 0, 0) 0 0 0 [(0, .ref (xA g 296)), (1, .int nd), (2, .int (nI c))] [] (I, L, R0, 305) Q := by
  refine V_iload_n (pc1 := 1) 1 d11_of_0 rfl rfl ?_
  refine V_si (pc1 := 4) (w11_isNode g  nd  I L ) s11_isNode l11_66 rfl rfl ⟨Nat.le_of_ble_eq_true rfl, Nat.le_of_ble_eq_true rfl, Nat.le_refl _, Nat.le_refl _⟩ (Nat.le_of_ble_eq_true rfl) rfl d11_of_1 rfl ?_
  have key2 : ∀ (z21_1 : Int32), z21_1 = (if (r11_isNode nd) = true then nI (nd.toNatClampNeg) else nd) → ∀ (y21_0 : Int32), y21_0 = (if (r11_isNode nd) = true then I 297 (c + 256 * (nd.toNatClampNeg)) else (-1)) → ∀ (lv : List (Nat × Value)), lvsub [(0, .ref (xA g 296)), (1, .int z21_1), (2, .int (nI c))] lv → V g (k11_of, 3, 0, 0) 0 0 21 lv [.int y21_0] (I, L, R0, 305) Q := by
    intro z21_1 ez21_1 y21_0 ey21_0
    subst ez21_1
    subst ey21_0
    intro lv hlv
    refine V_lv hlv ?_
    refine V_iret rfl d11_of_21 (Nat.zero_le _) (Nat.zero_le _) ?_
    have hq2 := hq
    simp only [r11_of] at hq2
    exact hq2
  refine V_beq (tgt := 20) (pc1 := 7) d11_of_4 (by decide) rfl (fun h1 => ?_) (fun h1 => ?_)
  · skip
    refine V_iconst (pc1 := 21) d11_of_20 vc_m1 rfl ?_
    exact key2 _ (by first | rfl | (simp only [if_neg h1]; done) | (simp only [if_neg h1]; rfl)) _ (by first | rfl | (simp only [if_neg h1]; done) | (simp only [if_neg h1]; rfl)) _ (lvsub_p [0, 1, 2] rfl)
  · skip
    obtain ⟨ni, hni, rfl⟩ := isNode11 h1
    have hn3 : (nI ni).toNatClampNeg = ni := nI_clamp (by omega)
    refine V_aload_n (pc1 := 8) 0 d11_of_7 rfl rfl ?_
    refine V_getr (pc1 := 11) ly296 (lt305 rfl) f11_7 (fun _ => rfl) rf296_0 d11_of_8 rfl ?_
    refine V_iload_n (pc1 := 12) 1 d11_of_11 rfl rfl ?_
    refine V_iload_n (pc1 := 13) 2 d11_of_12 rfl rfl ?_
    refine V_si (pc1 := 16) (w11_at2 g  ni c (c + 256 * ni) (by omega) I L ) s11_at l11_35 rfl rfl ⟨Nat.le_of_ble_eq_true rfl, Nat.le_of_ble_eq_true rfl, Nat.le_refl _, Nat.le_refl _⟩ (Nat.le_of_ble_eq_true rfl) rfl d11_of_13 rfl ?_
    refine V_iald2 (pc1 := 17) (c + 256 * ni) ly297 (lt305 rfl) rfl (by omega) rfl d11_of_16 rfl ?_
    refine V_goto (tgt := 21) d11_of_17 (by decide) ?_
    exact key2 _ (by first | rfl | (simp only [if_pos h1, hn3]; done) | (simp only [if_pos h1, hn3]; rfl)) _ (by first | rfl | (simp only [if_pos h1, hn3]; done) | (simp only [if_pos h1, hn3]; rfl)) _ (lvsub_p [0, 1, 2] rfl)
theorem w11_of (g : GlT)  (nd : Int32) (c : Nat) (hc : c < 256) (I : Nat → Nat → Int32) (L : Nat → Nat → Int64) : Call g (k11_of, 3, 0, 0) [.ref (xA g 296), .int nd, .int (nI c)] (I, L, R0, 305) (Qi (r11_of nd c I L) (I) L) := Call.of (by decide) (Nat.le_of_ble_eq_true rfl) rfl (v11_of g  nd c hc I L  _ (And.intro rfl rfl))


def r11_phase (nd : Int32) (I : Nat → Nat → Int32) (L : Nat → Nat → Int64) : Int32 := r11_of nd 0 I L
set_option maxRecDepth 4000 in
theorem v11_phase (g : GlT)  (nd : Int32) (I : Nat → Nat → Int32) (L : Nat → Nat → Int64) (Q : Option Value → MemT → Prop) (hq : Q (some (.int (r11_phase nd I L))) (I, L, R0, 305)) : V g (k11_phase, 4, 0, 0) 0 0 0 [(0, .ref (xA g 296)), (1, .int nd)] [] (I, L, R0, 305) Q := by
  refine V_aload_n (pc1 := 1) 0 d11_phase_0 rfl rfl ?_
  refine V_iload_n (pc1 := 2) 1 d11_phase_1 rfl rfl ?_
  refine V_iconst (pc1 := 3) d11_phase_2 vc_0 rfl ?_
  refine V_vi (pc1 := 6) (w11_of g  nd 0 (by decide) I L ) ly296 (lt305 rfl) s11_of l11_185 rfl rfl ⟨Nat.le_of_ble_eq_true rfl, Nat.le_of_ble_eq_true rfl, Nat.le_refl _, Nat.le_refl _⟩ (Nat.le_of_ble_eq_true rfl) rfl d11_phase_3 rfl ?_
  refine V_iret rfl d11_phase_6 (Nat.zero_le _) (Nat.zero_le _) ?_
  have hq2 := hq
  simp only [r11_phase] at hq2
  exact hq2
theorem w11_phase (g : GlT)  (nd : Int32) (I : Nat → Nat → Int32) (L : Nat → Nat → Int64) : Call g (k11_phase, 4, 0, 0) [.ref (xA g 296), .int nd] (I, L, R0, 305) (Qi (r11_phase nd I L) (I) L) := Call.of (by decide) (Nat.le_of_ble_eq_true rfl) rfl (v11_phase g  nd  I L  _ (And.intro rfl rfl))


def r11_isTransmitter (nd : Int32) (I : Nat → Nat → Int32) (L : Nat → Nat → Int64) : Int32 := r11_of nd 1 I L
set_option maxRecDepth 4000 in
theorem v11_isTransmitter (g : GlT)  (nd : Int32) (I : Nat → Nat → Int32) (L : Nat → Nat → Int64) (Q : Option Value → MemT → Prop) (hq : Q (some (.int (r11_isTransmitter nd I L))) (I, L, R0, 305)) : V g (k11_isTransmitter, 4, 0, 0) 0 0 0 [(0, .ref (xA g 296)), (1, .int nd)] [] (I, L, R0, 305) Q := by
  refine V_aload_n (pc1 := 1) 0 d11_isTransmitter_0 rfl rfl ?_
  refine V_iload_n (pc1 := 2) 1 d11_isTransmitter_1 rfl rfl ?_
  refine V_iconst (pc1 := 3) d11_isTransmitter_2 vc_1 rfl ?_
  refine V_vi (pc1 := 6) (w11_of g  nd 1 (by decide) I L ) ly296 (lt305 rfl) s11_of l11_185 rfl rfl ⟨Nat.le_of_ble_eq_true rfl, Nat.le_of_ble_eq_true rfl, Nat.le_refl _, Nat.le_refl _⟩ (Nat.le_of_ble_eq_true rfl) rfl d11_isTransmitter_3 rfl ?_
  refine V_iret rfl d11_isTransmitter_6 (Nat.zero_le _) (Nat.zero_le _) ?_
  have hq2 := hq
  simp only [r11_isTransmitter] at hq2
  exact hq2
theorem w11_isTransmitter (g : GlT)  (nd : Int32) (I : Nat → Nat → Int32) (L : Nat → Nat → Int64) : Call g (k11_isTransmitter, 4, 0, 0) [.ref (xA g 296), .int nd] (I, L, R0, 305) (Qi (r11_isTransmitter nd I L) (I) L) := Call.of (by decide) (Nat.le_of_ble_eq_true rfl) rfl (v11_isTransmitter g  nd  I L  _ (And.intro rfl rfl))


def r11_transmitErrors (nd : Int32) (I : Nat → Nat → Int32) (L : Nat → Nat → Int64) : Int32 := r11_of nd 4 I L
set_option maxRecDepth 4000 in
theorem v11_transmitErrors (g : GlT)  (nd : Int32) (I : Nat → Nat → Int32) (L : Nat → Nat → Int64) (Q : Option Value → MemT → Prop) (hq : Q (some (.int (r11_transmitErrors nd I L))) (I, L, R0, 305)) : V g (k11_transmitErrors, 4, 0, 0) 0 0 0 [(0, .ref (xA g 296)), (1, .int nd)] [] (I, L, R0, 305) Q := by
  refine V_aload_n (pc1 := 1) 0 d11_transmitErrors_0 rfl rfl ?_
  refine V_iload_n (pc1 := 2) 1 d11_transmitErrors_1 rfl rfl ?_
  refine V_iconst (pc1 := 3) d11_transmitErrors_2 vc_4 rfl ?_
  refine V_vi (pc1 := 6) (w11_of g  nd 4 (by decide) I L ) ly296 (lt305 rfl) s11_of l11_185 rfl rfl ⟨Nat.le_of_ble_eq_true rfl, Nat.le_of_ble_eq_true rfl, Nat.le_refl _, Nat.le_refl _⟩ (Nat.le_of_ble_eq_true rfl) rfl d11_transmitErrors_3 rfl ?_
  refine V_iret rfl d11_transmitErrors_6 (Nat.zero_le _) (Nat.zero_le _) ?_
  have hq2 := hq
  simp only [r11_transmitErrors] at hq2
  exact hq2
theorem w11_transmitErrors (g : GlT)  (nd : Int32) (I : Nat → Nat → Int32) (L : Nat → Nat → Int64) : Call g (k11_transmitErrors, 4, 0, 0) [.ref (xA g 296), .int nd] (I, L, R0, 305) (Qi (r11_transmitErrors nd I L) (I) L) := Call.of (by decide) (Nat.le_of_ble_eq_true rfl) rfl (v11_transmitErrors g  nd  I L  _ (And.intro rfl rfl))


def r11_receiveErrors (nd : Int32) (I : Nat → Nat → Int32) (L : Nat → Nat → Int64) : Int32 := r11_of nd 5 I L
set_option maxRecDepth 4000 in
theorem v11_receiveErrors (g : GlT)  (nd : Int32) (I : Nat → Nat → Int32) (L : Nat → Nat → Int64) (Q : Option Value → MemT → Prop) (hq : Q (some (.int (r11_receiveErrors nd I L))) (I, L, R0, 305)) : V g (k11_receiveErrors, 4, 0, 0) 0 0 0 [(0, .ref (xA g 296)), (1, .int nd)] [] (I, L, R0, 305) Q := by
  refine V_aload_n (pc1 := 1) 0 d11_receiveErrors_0 rfl rfl ?_
  refine V_iload_n (pc1 := 2) 1 d11_receiveErrors_1 rfl rfl ?_
  refine V_iconst (pc1 := 3) d11_receiveErrors_2 vc_5 rfl ?_
  refine V_vi (pc1 := 6) (w11_of g  nd 5 (by decide) I L ) ly296 (lt305 rfl) s11_of l11_185 rfl rfl ⟨Nat.le_of_ble_eq_true rfl, Nat.le_of_ble_eq_true rfl, Nat.le_refl _, Nat.le_refl _⟩ (Nat.le_of_ble_eq_true rfl) rfl d11_receiveErrors_3 rfl ?_
  refine V_iret rfl d11_receiveErrors_6 (Nat.zero_le _) (Nat.zero_le _) ?_
  have hq2 := hq
  simp only [r11_receiveErrors] at hq2
  exact hq2
theorem w11_receiveErrors (g : GlT)  (nd : Int32) (I : Nat → Nat → Int32) (L : Nat → Nat → Int64) : Call g (k11_receiveErrors, 4, 0, 0) [.ref (xA g 296), .int nd] (I, L, R0, 305) (Qi (r11_receiveErrors nd I L) (I) L) := Call.of (by decide) (Nat.le_of_ble_eq_true rfl) rfl (v11_receiveErrors g  nd  I L  _ (And.intro rfl rfl))


def r11_lostArbitrations (nd : Int32) (I : Nat → Nat → Int32) (L : Nat → Nat → Int64) : Int32 := r11_of nd 12 I L
set_option maxRecDepth 4000 in
theorem v11_lostArbitrations (g : GlT)  (nd : Int32) (I : Nat → Nat → Int32) (L : Nat → Nat → Int64) (Q : Option Value → MemT → Prop) (hq : Q (some (.int (r11_lostArbitrations nd I L))) (I, L, R0, 305)) : V g (k11_lostArbitrations, 4, 0, 0) 0 0 0 [(0, .ref (xA g 296)), (1, .int nd)] [] (I, L, R0, 305) Q := by
  refine V_aload_n (pc1 := 1) 0 d11_lostArbitrations_0 rfl rfl ?_
  refine V_iload_n (pc1 := 2) 1 d11_lostArbitrations_1 rfl rfl ?_
  refine V_bipush (pc1 := 4) d11_lostArbitrations_2 vb_12 rfl ?_
  refine V_vi (pc1 := 7) (w11_of g  nd 12 (by decide) I L ) ly296 (lt305 rfl) s11_of l11_185 rfl rfl ⟨Nat.le_of_ble_eq_true rfl, Nat.le_of_ble_eq_true rfl, Nat.le_refl _, Nat.le_refl _⟩ (Nat.le_of_ble_eq_true rfl) rfl d11_lostArbitrations_4 rfl ?_
  refine V_iret rfl d11_lostArbitrations_7 (Nat.zero_le _) (Nat.zero_le _) ?_
  have hq2 := hq
  simp only [r11_lostArbitrations] at hq2
  exact hq2
theorem w11_lostArbitrations (g : GlT)  (nd : Int32) (I : Nat → Nat → Int32) (L : Nat → Nat → Int64) : Call g (k11_lostArbitrations, 4, 0, 0) [.ref (xA g 296), .int nd] (I, L, R0, 305) (Qi (r11_lostArbitrations nd I L) (I) L) := Call.of (by decide) (Nat.le_of_ble_eq_true rfl) rfl (v11_lostArbitrations g  nd  I L  _ (And.intro rfl rfl))


def r11_overloads (nd : Int32) (I : Nat → Nat → Int32) (L : Nat → Nat → Int64) : Int32 := r11_of nd 13 I L
set_option maxRecDepth 4000 in
theorem v11_overloads (g : GlT)  (nd : Int32) (I : Nat → Nat → Int32) (L : Nat → Nat → Int64) (Q : Option Value → MemT → Prop) (hq : Q (some (.int (r11_overloads nd I L))) (I, L, R0, 305)) : V g (k11_overloads, 4, 0, 0) 0 0 0 [(0, .ref (xA g 296)), (1, .int nd)] [] (I, L, R0, 305) Q := by
  refine V_aload_n (pc1 := 1) 0 d11_overloads_0 rfl rfl ?_
  refine V_iload_n (pc1 := 2) 1 d11_overloads_1 rfl rfl ?_
  refine V_bipush (pc1 := 4) d11_overloads_2 vb_13 rfl ?_
  refine V_vi (pc1 := 7) (w11_of g  nd 13 (by decide) I L ) ly296 (lt305 rfl) s11_of l11_185 rfl rfl ⟨Nat.le_of_ble_eq_true rfl, Nat.le_of_ble_eq_true rfl, Nat.le_refl _, Nat.le_refl _⟩ (Nat.le_of_ble_eq_true rfl) rfl d11_overloads_4 rfl ?_
  refine V_iret rfl d11_overloads_7 (Nat.zero_le _) (Nat.zero_le _) ?_
  have hq2 := hq
  simp only [r11_overloads] at hq2
  exact hq2
theorem w11_overloads (g : GlT)  (nd : Int32) (I : Nat → Nat → Int32) (L : Nat → Nat → Int64) : Call g (k11_overloads, 4, 0, 0) [.ref (xA g 296), .int nd] (I, L, R0, 305) (Qi (r11_overloads nd I L) (I) L) := Call.of (by decide) (Nat.le_of_ble_eq_true rfl) rfl (v11_overloads g  nd  I L  _ (And.intro rfl rfl))


def r11_sent (nd : Int32) (I : Nat → Nat → Int32) (L : Nat → Nat → Int64) : Int32 := r11_of nd 14 I L
set_option maxRecDepth 4000 in
theorem v11_sent (g : GlT)  (nd : Int32) (I : Nat → Nat → Int32) (L : Nat → Nat → Int64) (Q : Option Value → MemT → Prop) (hq : Q (some (.int (r11_sent nd I L))) (I, L, R0, 305)) : V g (k11_sent, 4, 0, 0) 0 0 0 [(0, .ref (xA g 296)), (1, .int nd)] [] (I, L, R0, 305) Q := by
  refine V_aload_n (pc1 := 1) 0 d11_sent_0 rfl rfl ?_
  refine V_iload_n (pc1 := 2) 1 d11_sent_1 rfl rfl ?_
  refine V_bipush (pc1 := 4) d11_sent_2 vb_14 rfl ?_
  refine V_vi (pc1 := 7) (w11_of g  nd 14 (by decide) I L ) ly296 (lt305 rfl) s11_of l11_185 rfl rfl ⟨Nat.le_of_ble_eq_true rfl, Nat.le_of_ble_eq_true rfl, Nat.le_refl _, Nat.le_refl _⟩ (Nat.le_of_ble_eq_true rfl) rfl d11_sent_4 rfl ?_
  refine V_iret rfl d11_sent_7 (Nat.zero_le _) (Nat.zero_le _) ?_
  have hq2 := hq
  simp only [r11_sent] at hq2
  exact hq2
theorem w11_sent (g : GlT)  (nd : Int32) (I : Nat → Nat → Int32) (L : Nat → Nat → Int64) : Call g (k11_sent, 4, 0, 0) [.ref (xA g 296), .int nd] (I, L, R0, 305) (Qi (r11_sent nd I L) (I) L) := Call.of (by decide) (Nat.le_of_ble_eq_true rfl) rfl (v11_sent g  nd  I L  _ (And.intro rfl rfl))


def r11_overruns (nd : Int32) (I : Nat → Nat → Int32) (L : Nat → Nat → Int64) : Int32 := r11_of nd 15 I L
set_option maxRecDepth 4000 in
theorem v11_overruns (g : GlT)  (nd : Int32) (I : Nat → Nat → Int32) (L : Nat → Nat → Int64) (Q : Option Value → MemT → Prop) (hq : Q (some (.int (r11_overruns nd I L))) (I, L, R0, 305)) : V g (k11_overruns, 4, 0, 0) 0 0 0 [(0, .ref (xA g 296)), (1, .int nd)] [] (I, L, R0, 305) Q := by
  refine V_aload_n (pc1 := 1) 0 d11_overruns_0 rfl rfl ?_
  refine V_iload_n (pc1 := 2) 1 d11_overruns_1 rfl rfl ?_
  refine V_bipush (pc1 := 4) d11_overruns_2 vb_15 rfl ?_
  refine V_vi (pc1 := 7) (w11_of g  nd 15 (by decide) I L ) ly296 (lt305 rfl) s11_of l11_185 rfl rfl ⟨Nat.le_of_ble_eq_true rfl, Nat.le_of_ble_eq_true rfl, Nat.le_refl _, Nat.le_refl _⟩ (Nat.le_of_ble_eq_true rfl) rfl d11_overruns_4 rfl ?_
  refine V_iret rfl d11_overruns_7 (Nat.zero_le _) (Nat.zero_le _) ?_
  have hq2 := hq
  simp only [r11_overruns] at hq2
  exact hq2
theorem w11_overruns (g : GlT)  (nd : Int32) (I : Nat → Nat → Int32) (L : Nat → Nat → Int64) : Call g (k11_overruns, 4, 0, 0) [.ref (xA g 296), .int nd] (I, L, R0, 305) (Qi (r11_overruns nd I L) (I) L) := Call.of (by decide) (Nat.le_of_ble_eq_true rfl) rfl (v11_overruns g  nd  I L  _ (And.intro rfl rfl))


def r11_waiting (nd : Int32) (I : Nat → Nat → Int32) (L : Nat → Nat → Int64) : Int32 := r11_of nd 23 I L
set_option maxRecDepth 4000 in
theorem v11_waiting (g : GlT)  (nd : Int32) (I : Nat → Nat → Int32) (L : Nat → Nat → Int64) (Q : Option Value → MemT → Prop) (hq : Q (some (.int (r11_waiting nd I L))) (I, L, R0, 305)) : V g (k11_waiting, 4, 0, 0) 0 0 0 [(0, .ref (xA g 296)), (1, .int nd)] [] (I, L, R0, 305) Q := by
  refine V_aload_n (pc1 := 1) 0 d11_waiting_0 rfl rfl ?_
  refine V_iload_n (pc1 := 2) 1 d11_waiting_1 rfl rfl ?_
  refine V_bipush (pc1 := 4) d11_waiting_2 vb_23 rfl ?_
  refine V_vi (pc1 := 7) (w11_of g  nd 23 (by decide) I L ) ly296 (lt305 rfl) s11_of l11_185 rfl rfl ⟨Nat.le_of_ble_eq_true rfl, Nat.le_of_ble_eq_true rfl, Nat.le_refl _, Nat.le_refl _⟩ (Nat.le_of_ble_eq_true rfl) rfl d11_waiting_4 rfl ?_
  refine V_iret rfl d11_waiting_7 (Nat.zero_le _) (Nat.zero_le _) ?_
  have hq2 := hq
  simp only [r11_waiting] at hq2
  exact hq2
theorem w11_waiting (g : GlT)  (nd : Int32) (I : Nat → Nat → Int32) (L : Nat → Nat → Int64) : Call g (k11_waiting, 4, 0, 0) [.ref (xA g 296), .int nd] (I, L, R0, 305) (Qi (r11_waiting nd I L) (I) L) := Call.of (by decide) (Nat.le_of_ble_eq_true rfl) rfl (v11_waiting g  nd  I L  _ (And.intro rfl rfl))


def r11_received (nd : Int32) (I : Nat → Nat → Int32) (L : Nat → Nat → Int64) : Int32 := r11_of nd 24 I L
set_option maxRecDepth 4000 in
theorem v11_received (g : GlT)  (nd : Int32) (I : Nat → Nat → Int32) (L : Nat → Nat → Int64) (Q : Option Value → MemT → Prop) (hq : Q (some (.int (r11_received nd I L))) (I, L, R0, 305)) : V g (k11_received, 4, 0, 0) 0 0 0 [(0, .ref (xA g 296)), (1, .int nd)] [] (I, L, R0, 305) Q := by
  refine V_aload_n (pc1 := 1) 0 d11_received_0 rfl rfl ?_
  refine V_iload_n (pc1 := 2) 1 d11_received_1 rfl rfl ?_
  refine V_bipush (pc1 := 4) d11_received_2 vb_24 rfl ?_
  refine V_vi (pc1 := 7) (w11_of g  nd 24 (by decide) I L ) ly296 (lt305 rfl) s11_of l11_185 rfl rfl ⟨Nat.le_of_ble_eq_true rfl, Nat.le_of_ble_eq_true rfl, Nat.le_refl _, Nat.le_refl _⟩ (Nat.le_of_ble_eq_true rfl) rfl d11_received_4 rfl ?_
  refine V_iret rfl d11_received_7 (Nat.zero_le _) (Nat.zero_le _) ?_
  have hq2 := hq
  simp only [r11_received] at hq2
  exact hq2
theorem w11_received (g : GlT)  (nd : Int32) (I : Nat → Nat → Int32) (L : Nat → Nat → Int64) : Call g (k11_received, 4, 0, 0) [.ref (xA g 296), .int nd] (I, L, R0, 305) (Qi (r11_received nd I L) (I) L) := Call.of (by decide) (Nat.le_of_ble_eq_true rfl) rfl (v11_received g  nd  I L  _ (And.intro rfl rfl))


def r11_isPassive (nd : Int32) (I : Nat → Nat → Int32) (L : Nat → Nat → Int64) : Int32 := (if (r11_isNode nd) = true then (if (r11_isPassiveNow (nd.toNatClampNeg) I L) = true then 1 else 0) else (-1))
set_option maxRecDepth 4000 in
theorem v11_isPassive (g : GlT)  (nd : Int32) (I : Nat → Nat → Int32) (L : Nat → Nat → Int64) (Q : Option Value → MemT → Prop) (hq : Q (some (.int (r11_isPassive nd I L))) (I, L, R0, 305)) : V g (k11_isPassive, 3, 0, 0) 0 0 0 [(0, .ref (xA g 296)), (1, .int nd)] [] (I, L, R0, 305) Q := by
  refine V_iload_n (pc1 := 1) 1 d11_isPassive_0 rfl rfl ?_
  refine V_si (pc1 := 4) (w11_isNode g  nd  I L ) s11_isNode l11_66 rfl rfl ⟨Nat.le_of_ble_eq_true rfl, Nat.le_of_ble_eq_true rfl, Nat.le_refl _, Nat.le_refl _⟩ (Nat.le_of_ble_eq_true rfl) rfl d11_isPassive_1 rfl ?_
  have key3 : ∀ (z24_1 : Int32), z24_1 = (if (r11_isNode nd) = true then nI (nd.toNatClampNeg) else nd) → ∀ (y24_0 : Int32), y24_0 = (if (r11_isNode nd) = true then (if (r11_isPassiveNow (nd.toNatClampNeg) I L) = true then 1 else 0) else (-1)) → ∀ (lv : List (Nat × Value)), lvsub [(0, .ref (xA g 296)), (1, .int z24_1)] lv → V g (k11_isPassive, 3, 0, 0) 0 0 24 lv [.int y24_0] (I, L, R0, 305) Q := by
    intro z24_1 ez24_1 y24_0 ey24_0
    subst ez24_1
    subst ey24_0
    intro lv hlv
    refine V_lv hlv ?_
    refine V_iret rfl d11_isPassive_24 (Nat.zero_le _) (Nat.zero_le _) ?_
    have hq2 := hq
    simp only [r11_isPassive] at hq2
    exact hq2
  refine V_bne (tgt := 11) (pc1 := 7) d11_isPassive_4 (by decide) rfl (fun h1 => ?_) (fun h1 => ?_)
  · skip
    obtain ⟨ni, hni, rfl⟩ := isNode11 h1
    have hn3 : (nI ni).toNatClampNeg = ni := nI_clamp (by omega)
    refine V_aload_n (pc1 := 12) 0 d11_isPassive_11 rfl rfl ?_
    refine V_iload_n (pc1 := 13) 1 d11_isPassive_12 rfl rfl ?_
    refine V_vi (pc1 := 16) (w11_isPassiveNow g  ni hni I L ) ly296 (lt305 rfl) s11_isPassiveNow l11_119 rfl rfl ⟨Nat.le_of_ble_eq_true rfl, Nat.le_of_ble_eq_true rfl, Nat.le_refl _, Nat.le_refl _⟩ (Nat.le_of_ble_eq_true rfl) rfl d11_isPassive_13 rfl ?_
    refine V_beq (tgt := 23) (pc1 := 19) d11_isPassive_16 (by decide) rfl (fun h2 => ?_) (fun h2 => ?_)
    · skip
      refine V_iconst (pc1 := 24) d11_isPassive_23 vc_0 rfl ?_
      exact key3 _ (by first | rfl | (simp only [if_pos h1, hn3, if_neg h2]; done) | (simp only [if_pos h1, hn3, if_neg h2]; rfl)) _ (by first | rfl | (simp only [if_pos h1, hn3, if_neg h2]; done) | (simp only [if_pos h1, hn3, if_neg h2]; rfl)) _ (lvsub_p [0, 1] rfl)
    · skip
      refine V_iconst (pc1 := 20) d11_isPassive_19 vc_1 rfl ?_
      refine V_goto (tgt := 24) d11_isPassive_20 (by decide) ?_
      exact key3 _ (by first | rfl | (simp only [if_pos h1, hn3, if_pos h2]; done) | (simp only [if_pos h1, hn3, if_pos h2]; rfl)) _ (by first | rfl | (simp only [if_pos h1, hn3, if_pos h2]; done) | (simp only [if_pos h1, hn3, if_pos h2]; rfl)) _ (lvsub_p [0, 1] rfl)
  · skip
    refine V_iconst (pc1 := 8) d11_isPassive_7 vc_m1 rfl ?_
    refine V_goto (tgt := 24) d11_isPassive_8 (by decide) ?_
    exact key3 _ (by first | rfl | (simp only [if_neg h1]; done) | (simp only [if_neg h1]; rfl)) _ (by first | rfl | (simp only [if_neg h1]; done) | (simp only [if_neg h1]; rfl)) _ (lvsub_p [0, 1] rfl)
theorem w11_isPassive (g : GlT)  (nd : Int32) (I : Nat → Nat → Int32) (L : Nat → Nat → Int64) : Call g (k11_isPassive, 3, 0, 0) [.ref (xA g 296), .int nd] (I, L, R0, 305) (Qi (r11_isPassive nd I L) (I) L) := Call.of (by decide) (Nat.le_of_ble_eq_true rfl) rfl (v11_isPassive g  nd  I L  _ (And.intro rfl rfl))


def r11_lastOf (i : Nat) (I : Nat → Nat → Int32) (L : Nat → Nat → Int64) : Int32 := (if I 297 (256 * i + 11) = 0 then (-5) else I 297 (256 * i + 11))
set_option maxRecDepth 4000 in
theorem v11_lastOf (g : GlT)  (i : Nat) (hi : i < 4) (I : Nat → Nat → Int32) (L : Nat → Nat → Int64) (Q : Option Value → MemT → Prop) (hq : Q (some (.int (r11_lastOf i I L))) (I, L, R0, 305)) : V g (k11_lastOf, 2, 0, 0) 0 0 0 [(0, .ref (xA g 296)), (1, .int (nI i))] [] (I, L, R0, 305) Q := by
  refine V_aload_n (pc1 := 1) 0 d11_lastOf_0 rfl rfl ?_
  refine V_getr (pc1 := 4) ly296 (lt305 rfl) f11_7 (fun _ => rfl) rf296_0 d11_lastOf_1 rfl ?_
  refine V_iload_n (pc1 := 5) 1 d11_lastOf_4 rfl rfl ?_
  refine V_bipush (pc1 := 7) d11_lastOf_5 vb_11 rfl ?_
  refine V_si (pc1 := 10) (w11_at2 g  i 11 (256 * i + 11) (by omega) I L ) s11_at l11_35 rfl rfl ⟨Nat.le_of_ble_eq_true rfl, Nat.le_of_ble_eq_true rfl, Nat.le_refl _, Nat.le_refl _⟩ (Nat.le_of_ble_eq_true rfl) rfl d11_lastOf_7 rfl ?_
  refine V_iald2 (pc1 := 11) (256 * i + 11) ly297 (lt305 rfl) rfl (by omega) rfl d11_lastOf_10 rfl ?_
  have key2 : ∀ (y30_0 : Int32), y30_0 = (if I 297 (256 * i + 11) = 0 then (-5) else I 297 (256 * i + 11)) → ∀ (lv : List (Nat × Value)), lvsub [(0, .ref (xA g 296)), (1, .int (nI i))] lv → V g (k11_lastOf, 2, 0, 0) 0 0 30 lv [.int y30_0] (I, L, R0, 305) Q := by
    intro y30_0 ey30_0
    subst ey30_0
    intro lv hlv
    refine V_lv hlv ?_
    refine V_iret rfl d11_lastOf_30 (Nat.zero_le _) (Nat.zero_le _) ?_
    have hq2 := hq
    simp only [r11_lastOf] at hq2
    exact hq2
  refine V_if_ne (tgt := 19) (pc1 := 14) d11_lastOf_11 (by decide) rfl (fun h1 => ?_) (fun h1 => ?_)
  · skip
    refine V_aload_n (pc1 := 20) 0 d11_lastOf_19 rfl rfl ?_
    refine V_getr (pc1 := 23) ly296 (lt305 rfl) f11_7 (fun _ => rfl) rf296_0 d11_lastOf_20 rfl ?_
    refine V_iload_n (pc1 := 24) 1 d11_lastOf_23 rfl rfl ?_
    refine V_bipush (pc1 := 26) d11_lastOf_24 vb_11 rfl ?_
    refine V_si (pc1 := 29) (w11_at2 g  i 11 (256 * i + 11) (by omega) I L ) s11_at l11_35 rfl rfl ⟨Nat.le_of_ble_eq_true rfl, Nat.le_of_ble_eq_true rfl, Nat.le_refl _, Nat.le_refl _⟩ (Nat.le_of_ble_eq_true rfl) rfl d11_lastOf_26 rfl ?_
    refine V_iald2 (pc1 := 30) (256 * i + 11) ly297 (lt305 rfl) rfl (by omega) rfl d11_lastOf_29 rfl ?_
    exact key2 _ (by first | rfl | (simp only [if_neg h1]; done) | (simp only [if_neg h1]; rfl)) _ (lvsub_p [0, 1] rfl)
  · skip
    refine V_bipush (pc1 := 16) d11_lastOf_14 vb_m5 rfl ?_
    refine V_goto (tgt := 30) d11_lastOf_16 (by decide) ?_
    exact key2 _ (by first | rfl | (simp only [if_pos h1]; done) | (simp only [if_pos h1]; rfl)) _ (lvsub_p [0, 1] rfl)
theorem w11_lastOf (g : GlT)  (i : Nat) (hi : i < 4) (I : Nat → Nat → Int32) (L : Nat → Nat → Int64) : Call g (k11_lastOf, 2, 0, 0) [.ref (xA g 296), .int (nI i)] (I, L, R0, 305) (Qi (r11_lastOf i I L) (I) L) := Call.of (by decide) (Nat.le_of_ble_eq_true rfl) rfl (v11_lastOf g  i hi I L  _ (And.intro rfl rfl))


def r11_lastError (nd : Int32) (I : Nat → Nat → Int32) (L : Nat → Nat → Int64) : Int32 := (if (r11_isNode nd) = true then r11_lastOf (nd.toNatClampNeg) I L else (-1))
set_option maxRecDepth 4000 in
theorem v11_lastError (g : GlT)  (nd : Int32) (I : Nat → Nat → Int32) (L : Nat → Nat → Int64) (Q : Option Value → MemT → Prop) (hq : Q (some (.int (r11_lastError nd I L))) (I, L, R0, 305)) : V g (k11_lastError, 3, 0, 0) 0 0 0 [(0, .ref (xA g 296)), (1, .int nd)] [] (I, L, R0, 305) Q := by
  refine V_iload_n (pc1 := 1) 1 d11_lastError_0 rfl rfl ?_
  refine V_si (pc1 := 4) (w11_isNode g  nd  I L ) s11_isNode l11_66 rfl rfl ⟨Nat.le_of_ble_eq_true rfl, Nat.le_of_ble_eq_true rfl, Nat.le_refl _, Nat.le_refl _⟩ (Nat.le_of_ble_eq_true rfl) rfl d11_lastError_1 rfl ?_
  have key2 : ∀ (z16_1 : Int32), z16_1 = (if (r11_isNode nd) = true then nI (nd.toNatClampNeg) else nd) → ∀ (y16_0 : Int32), y16_0 = (if (r11_isNode nd) = true then r11_lastOf (nd.toNatClampNeg) I L else (-1)) → ∀ (lv : List (Nat × Value)), lvsub [(0, .ref (xA g 296)), (1, .int z16_1)] lv → V g (k11_lastError, 3, 0, 0) 0 0 16 lv [.int y16_0] (I, L, R0, 305) Q := by
    intro z16_1 ez16_1 y16_0 ey16_0
    subst ez16_1
    subst ey16_0
    intro lv hlv
    refine V_lv hlv ?_
    refine V_iret rfl d11_lastError_16 (Nat.zero_le _) (Nat.zero_le _) ?_
    have hq2 := hq
    simp only [r11_lastError] at hq2
    exact hq2
  refine V_beq (tgt := 15) (pc1 := 7) d11_lastError_4 (by decide) rfl (fun h1 => ?_) (fun h1 => ?_)
  · skip
    refine V_iconst (pc1 := 16) d11_lastError_15 vc_m1 rfl ?_
    exact key2 _ (by first | rfl | (simp only [if_neg h1]; done) | (simp only [if_neg h1]; rfl)) _ (by first | rfl | (simp only [if_neg h1]; done) | (simp only [if_neg h1]; rfl)) _ (lvsub_p [0, 1] rfl)
  · skip
    obtain ⟨ni, hni, rfl⟩ := isNode11 h1
    have hn3 : (nI ni).toNatClampNeg = ni := nI_clamp (by omega)
    refine V_aload_n (pc1 := 8) 0 d11_lastError_7 rfl rfl ?_
    refine V_iload_n (pc1 := 9) 1 d11_lastError_8 rfl rfl ?_
    refine V_vi (pc1 := 12) (w11_lastOf g  ni hni I L ) ly296 (lt305 rfl) s11_lastOf l11_188 rfl rfl ⟨Nat.le_of_ble_eq_true rfl, Nat.le_of_ble_eq_true rfl, Nat.le_refl _, Nat.le_refl _⟩ (Nat.le_of_ble_eq_true rfl) rfl d11_lastError_9 rfl ?_
    refine V_goto (tgt := 16) d11_lastError_12 (by decide) ?_
    exact key2 _ (by first | rfl | (simp only [if_pos h1, hn3]; done) | (simp only [if_pos h1, hn3]; rfl)) _ (by first | rfl | (simp only [if_pos h1, hn3]; done) | (simp only [if_pos h1, hn3]; rfl)) _ (lvsub_p [0, 1] rfl)
theorem w11_lastError (g : GlT)  (nd : Int32) (I : Nat → Nat → Int32) (L : Nat → Nat → Int64) : Call g (k11_lastError, 3, 0, 0) [.ref (xA g 296), .int nd] (I, L, R0, 305) (Qi (r11_lastError nd I L) (I) L) := Call.of (by decide) (Nat.le_of_ble_eq_true rfl) rfl (v11_lastError g  nd  I L  _ (And.intro rfl rfl))


def r11_errors (nd : Int32) (kd : Int32) (I : Nat → Nat → Int32) (L : Nat → Nat → Int64) : Int32 := (if (r11_isNode nd) = true then (if (r11_in kd 1 5) = true then I 297 ((kd.toNatClampNeg) + 256 * (nd.toNatClampNeg) + 5) else (-2)) else (-1))
set_option maxRecDepth 4000 in
theorem v11_errors (g : GlT)  (nd : Int32) (kd : Int32) (I : Nat → Nat → Int32) (L : Nat → Nat → Int64) (Q : Option Value → MemT → Prop) (hq : Q (some (.int (r11_errors nd kd I L))) (I, L, R0, 305)) : V g (k11_errors, 3, 0, 0) 0 0 0 [(0, .ref (xA g 296)), (1, .int nd), (2, .int kd)] [] (I, L, R0, 305) Q := by
  refine V_iload_n (pc1 := 1) 1 d11_errors_0 rfl rfl ?_
  refine V_si (pc1 := 4) (w11_isNode g  nd  I L ) s11_isNode l11_66 rfl rfl ⟨Nat.le_of_ble_eq_true rfl, Nat.le_of_ble_eq_true rfl, Nat.le_refl _, Nat.le_refl _⟩ (Nat.le_of_ble_eq_true rfl) rfl d11_errors_1 rfl ?_
  refine V_bne (tgt := 9) (pc1 := 7) d11_errors_4 (by decide) rfl (fun h1 => ?_) (fun h1 => ?_)
  · skip
    obtain ⟨ni, hni, rfl⟩ := isNode11 h1
    have hn3 : (nI ni).toNatClampNeg = ni := nI_clamp (by omega)
    refine V_iload_n (pc1 := 10) 2 d11_errors_9 rfl rfl ?_
    refine V_iconst (pc1 := 11) d11_errors_10 vc_1 rfl ?_
    refine V_iconst (pc1 := 12) d11_errors_11 vc_5 rfl ?_
    refine V_si (pc1 := 15) (w11_in g  kd 1 5  I L ) s11_in l11_39 rfl rfl ⟨Nat.le_of_ble_eq_true rfl, Nat.le_of_ble_eq_true rfl, Nat.le_refl _, Nat.le_refl _⟩ (Nat.le_of_ble_eq_true rfl) rfl d11_errors_12 rfl ?_
    have key3 : ∀ (z35_2 : Int32), z35_2 = (if (r11_in kd 1 5) = true then nI (kd.toNatClampNeg) else kd) → ∀ (y35_0 : Int32), y35_0 = (if (r11_in kd 1 5) = true then I 297 ((kd.toNatClampNeg) + 256 * ni + 5) else (-2)) → ∀ (lv : List (Nat × Value)), lvsub [(0, .ref (xA g 296)), (1, .int (nI ni)), (2, .int z35_2)] lv → V g (k11_errors, 3, 0, 0) 0 0 35 lv [.int y35_0] (I, L, R0, 305) Q := by
      intro z35_2 ez35_2 y35_0 ey35_0
      subst ez35_2
      subst ey35_0
      intro lv hlv
      refine V_lv hlv ?_
      refine V_iret rfl d11_errors_35 (Nat.zero_le _) (Nat.zero_le _) ?_
      have hq2 := hq
      simp only [r11_errors, if_pos h1, hn3] at hq2
      exact hq2
    refine V_beq (tgt := 33) (pc1 := 18) d11_errors_15 (by decide) rfl (fun h2 => ?_) (fun h2 => ?_)
    · skip
      refine V_bipush (pc1 := 35) d11_errors_33 vb_m2 rfl ?_
      exact key3 _ (by first | rfl | (simp only [hn3, if_neg h2]; done) | (simp only [hn3, if_neg h2]; rfl)) _ (by first | rfl | (simp only [hn3, if_neg h2]; done) | (simp only [hn3, if_neg h2]; rfl)) _ (lvsub_p [0, 1, 2] rfl)
    · skip
      obtain ⟨kn, hkn, hkna, rfl⟩ := within_nat (a := 1) (b := 5) (by omega) (by omega) h2
      have hkn3 : (nI kn).toNatClampNeg = kn := nI_clamp (by omega)
      refine V_aload_n (pc1 := 19) 0 d11_errors_18 rfl rfl ?_
      refine V_getr (pc1 := 22) ly296 (lt305 rfl) f11_7 (fun _ => rfl) rf296_0 d11_errors_19 rfl ?_
      refine V_iload_n (pc1 := 23) 1 d11_errors_22 rfl rfl ?_
      refine V_iconst (pc1 := 24) d11_errors_23 vc_5 rfl ?_
      refine V_iload_n (pc1 := 25) 2 d11_errors_24 rfl rfl ?_
      refine V_addN (pc1 := 26) (a := 5) (b := kn) (c := kn + 5) rfl rfl (by omega) d11_errors_25 rfl ?_
      refine V_si (pc1 := 29) (w11_at2 g  ni (kn + 5) (kn + 256 * ni + 5) (by omega) I L ) s11_at l11_35 rfl rfl ⟨Nat.le_of_ble_eq_true rfl, Nat.le_of_ble_eq_true rfl, Nat.le_refl _, Nat.le_refl _⟩ (Nat.le_of_ble_eq_true rfl) rfl d11_errors_26 rfl ?_
      refine V_iald2 (pc1 := 30) (kn + 256 * ni + 5) ly297 (lt305 rfl) rfl (by omega) rfl d11_errors_29 rfl ?_
      refine V_goto (tgt := 35) d11_errors_30 (by decide) ?_
      exact key3 _ (by first | rfl | (simp only [hn3, if_pos h2, hkn3]; done) | (simp only [hn3, if_pos h2, hkn3]; rfl)) _ (by first | rfl | (simp only [hn3, if_pos h2, hkn3]; done) | (simp only [hn3, if_pos h2, hkn3]; rfl)) _ (lvsub_p [0, 1, 2] rfl)
  · skip
    refine V_iconst (pc1 := 8) d11_errors_7 vc_m1 rfl ?_
    refine V_iret rfl d11_errors_8 (Nat.zero_le _) (Nat.zero_le _) ?_
    have hq2 := hq
    simp only [r11_errors, if_neg h1] at hq2
    exact hq2
theorem w11_errors (g : GlT)  (nd : Int32) (kd : Int32) (I : Nat → Nat → Int32) (L : Nat → Nat → Int64) : Call g (k11_errors, 3, 0, 0) [.ref (xA g 296), .int nd, .int kd] (I, L, R0, 305) (Qi (r11_errors nd kd I L) (I) L) := Call.of (by decide) (Nat.le_of_ble_eq_true rfl) rfl (v11_errors g  nd kd  I L  _ (And.intro rfl rfl))


def r11_time (I : Nat → Nat → Int32) (L : Nat → Nat → Int64) : Int32 := I 297 1024
set_option maxRecDepth 4000 in
theorem v11_time (g : GlT)  (I : Nat → Nat → Int32) (L : Nat → Nat → Int64) (Q : Option Value → MemT → Prop) (hq : Q (some (.int (r11_time I L))) (I, L, R0, 305)) : V g (k11_time, 1, 0, 0) 0 0 0 [(0, .ref (xA g 296))] [] (I, L, R0, 305) Q := by
  refine V_aload_n (pc1 := 1) 0 d11_time_0 rfl rfl ?_
  refine V_getr (pc1 := 4) ly296 (lt305 rfl) f11_7 (fun _ => rfl) rf296_0 d11_time_1 rfl ?_
  refine V_sipush (pc1 := 7) d11_time_4 vs_1024 rfl ?_
  refine V_iald2 (pc1 := 8) 1024 ly297 (lt305 rfl) rfl (Nat.le_of_ble_eq_true rfl) rfl d11_time_7 rfl ?_
  refine V_iret rfl d11_time_8 (Nat.zero_le _) (Nat.zero_le _) ?_
  have hq2 := hq
  simp only [r11_time] at hq2
  exact hq2
theorem w11_time (g : GlT)  (I : Nat → Nat → Int32) (L : Nat → Nat → Int64) : Call g (k11_time, 1, 0, 0) [.ref (xA g 296)] (I, L, R0, 305) (Qi (r11_time I L) (I) L) := Call.of (by decide) (Nat.le_of_ble_eq_true rfl) rfl (v11_time g    I L  _ (And.intro rfl rfl))


def r11_worstBits (ln : Int32) (I : Nat → Nat → Int32) (L : Nat → Nat → Int64) : Int32 := (if (r11_in ln 0 4) = true then r11_worst ln else (-2))
set_option maxRecDepth 4000 in
theorem v11_worstBits (g : GlT)  (ln : Int32) (I : Nat → Nat → Int32) (L : Nat → Nat → Int64) (Q : Option Value → MemT → Prop) (hq : Q (some (.int (r11_worstBits ln I L))) (I, L, R0, 305)) : V g (k11_worstBits, 2, 0, 0) 0 0 0 [(0, .ref (xA g 296)), (1, .int ln)] [] (I, L, R0, 305) Q := by
  refine V_iload_n (pc1 := 1) 1 d11_worstBits_0 rfl rfl ?_
  refine V_iconst (pc1 := 2) d11_worstBits_1 vc_0 rfl ?_
  refine V_iconst (pc1 := 3) d11_worstBits_2 vc_4 rfl ?_
  refine V_si (pc1 := 6) (w11_in g  ln 0 4  I L ) s11_in l11_39 rfl rfl ⟨Nat.le_of_ble_eq_true rfl, Nat.le_of_ble_eq_true rfl, Nat.le_refl _, Nat.le_refl _⟩ (Nat.le_of_ble_eq_true rfl) rfl d11_worstBits_3 rfl ?_
  have key2 : ∀ (y18_0 : Int32), y18_0 = (if (r11_in ln 0 4) = true then r11_worst ln else (-2)) → ∀ (lv : List (Nat × Value)), lvsub [(0, .ref (xA g 296)), (1, .int ln)] lv → V g (k11_worstBits, 2, 0, 0) 0 0 18 lv [.int y18_0] (I, L, R0, 305) Q := by
    intro y18_0 ey18_0
    subst ey18_0
    intro lv hlv
    refine V_lv hlv ?_
    refine V_iret rfl d11_worstBits_18 (Nat.zero_le _) (Nat.zero_le _) ?_
    have hq2 := hq
    simp only [r11_worstBits] at hq2
    exact hq2
  refine V_beq (tgt := 16) (pc1 := 9) d11_worstBits_6 (by decide) rfl (fun h1 => ?_) (fun h1 => ?_)
  · skip
    refine V_bipush (pc1 := 18) d11_worstBits_16 vb_m2 rfl ?_
    exact key2 _ (by first | rfl | (simp only [if_neg h1]; done) | (simp only [if_neg h1]; rfl)) _ (lvsub_p [0, 1] rfl)
  · skip
    refine V_iload_n (pc1 := 10) 1 d11_worstBits_9 rfl rfl ?_
    refine V_si (pc1 := 13) (w11_worst g  ln  I L ) s11_worst l11_62 rfl rfl ⟨Nat.le_of_ble_eq_true rfl, Nat.le_of_ble_eq_true rfl, Nat.le_refl _, Nat.le_refl _⟩ (Nat.le_of_ble_eq_true rfl) rfl d11_worstBits_10 rfl ?_
    refine V_goto (tgt := 18) d11_worstBits_13 (by decide) ?_
    exact key2 _ (by first | rfl | (simp only [if_pos h1]; done) | (simp only [if_pos h1]; rfl)) _ (lvsub_p [0, 1] rfl)
theorem w11_worstBits (g : GlT)  (ln : Int32) (I : Nat → Nat → Int32) (L : Nat → Nat → Int64) : Call g (k11_worstBits, 2, 0, 0) [.ref (xA g 296), .int ln] (I, L, R0, 305) (Qi (r11_worstBits ln I L) (I) L) := Call.of (by decide) (Nat.le_of_ble_eq_true rfl) rfl (v11_worstBits g  ln  I L  _ (And.intro rfl rfl))


def r11_clearText (I : Nat → Nat → Int32) (L : Nat → Nat → Int64) : Int32 := I 296 5
def i11_clearText (I : Nat → Nat → Int32) (L : Nat → Nat → Int64) : Nat → Nat → Int32 := uI I 296 5 0
set_option maxRecDepth 4000 in
theorem v11_clearText (g : GlT)  (I : Nat → Nat → Int32) (L : Nat → Nat → Int64) (Q : Option Value → MemT → Prop) (hq : Q (some (.int (r11_clearText I L))) (i11_clearText I L, L, R0, 305)) : V g (k11_clearText, 1, 0, 0) 0 0 0 [(0, .ref (xA g 296))] [] (I, L, R0, 305) Q := by
  refine V_aload_n (pc1 := 1) 0 d11_clearText_0 rfl rfl ?_
  refine V_geti (pc1 := 4) ly296 (lt305 rfl) f11_211 (fun _ => rfl) rfl d11_clearText_1 rfl ?_
  refine V_istore_n (pc1 := 5) d11_clearText_4 (Nat.le_of_ble_eq_true rfl) rfl rfl ?_
  refine V_aload_n (pc1 := 6) 1 d11_clearText_5 rfl rfl ?_
  refine V_iconst (pc1 := 7) d11_clearText_6 vc_0 rfl ?_
  refine V_puti (pc1 := 10) ly296 (lt305 rfl) f11_211 rfl rfl d11_clearText_7 rfl ?_
  refine V_iload_n (pc1 := 11) 0 d11_clearText_10 rfl rfl ?_
  refine V_iret rfl d11_clearText_11 (Nat.zero_le _) (Nat.zero_le _) ?_
  have hq2 := hq
  simp only [r11_clearText, i11_clearText] at hq2
  exact hq2
theorem w11_clearText (g : GlT)  (I : Nat → Nat → Int32) (L : Nat → Nat → Int64) : Call g (k11_clearText, 1, 0, 0) [.ref (xA g 296)] (I, L, R0, 305) (Qi (r11_clearText I L) (i11_clearText I L) L) := Call.of (by decide) (Nat.le_of_ble_eq_true rfl) rfl (v11_clearText g    I L  _ (And.intro rfl rfl))

theorem xs11_clearText {I : Nat → Nat → Int32} {L : Nat → Nat → Int64} {s0 : Nat}  : i11_clearText I L 297 s0 = I 297 s0 := by
  first | (simp only [i11_clearText]; done) | (simp only [i11_clearText]; (try (repeat' split)) <;> first | rfl | (simp [uI_eq]; done))

def r11_detach (nd : Int32) (I : Nat → Nat → Int32) (L : Nat → Nat → Int64) : Int32 := (if (r11_isNode nd) = true then (if I 297 (256 * (nd.toNatClampNeg)) = 0 then (-4) else I 297 (256 * (nd.toNatClampNeg))) else (-1))
def i11_detach (nd : Int32) (I : Nat → Nat → Int32) (L : Nat → Nat → Int64) : Nat → Nat → Int32 := (if (r11_isNode nd) = true then (if I 297 (256 * (nd.toNatClampNeg)) = 0 then I else i11_goes (nd.toNatClampNeg) 0 I L) else I)
set_option maxRecDepth 4000 in
theorem v11_detach (g : GlT)  (nd : Int32) (I : Nat → Nat → Int32) (L : Nat → Nat → Int64) (Q : Option Value → MemT → Prop) (hq : Q (some (.int (r11_detach nd I L))) (i11_detach nd I L, L, R0, 305)) : V g (k11_detach, 4, 0, 0) 0 0 0 [(0, .ref (xA g 296)), (1, .int nd)] [] (I, L, R0, 305) Q := by
  refine V_iload_n (pc1 := 1) 1 d11_detach_0 rfl rfl ?_
  refine V_si (pc1 := 4) (w11_isNode g  nd  I L ) s11_isNode l11_66 rfl rfl ⟨Nat.le_of_ble_eq_true rfl, Nat.le_of_ble_eq_true rfl, Nat.le_refl _, Nat.le_refl _⟩ (Nat.le_of_ble_eq_true rfl) rfl d11_detach_1 rfl ?_
  refine V_bne (tgt := 9) (pc1 := 7) d11_detach_4 (by decide) rfl (fun h1 => ?_) (fun h1 => ?_)
  · skip
    obtain ⟨ni, hni, rfl⟩ := isNode11 h1
    have hn3 : (nI ni).toNatClampNeg = ni := nI_clamp (by omega)
    refine V_aload_n (pc1 := 10) 0 d11_detach_9 rfl rfl ?_
    refine V_getr (pc1 := 13) ly296 (lt305 rfl) f11_7 (fun _ => rfl) rf296_0 d11_detach_10 rfl ?_
    refine V_iload_n (pc1 := 14) 1 d11_detach_13 rfl rfl ?_
    refine V_iconst (pc1 := 15) d11_detach_14 vc_0 rfl ?_
    refine V_si (pc1 := 18) (w11_at2 g  ni 0 (256 * ni) (by omega) I L ) s11_at l11_35 rfl rfl ⟨Nat.le_of_ble_eq_true rfl, Nat.le_of_ble_eq_true rfl, Nat.le_refl _, Nat.le_refl _⟩ (Nat.le_of_ble_eq_true rfl) rfl d11_detach_15 rfl ?_
    refine V_iald2 (pc1 := 19) (256 * ni) ly297 (lt305 rfl) rfl (by omega) rfl d11_detach_18 rfl ?_
    refine V_istore_n (pc1 := 20) d11_detach_19 (Nat.le_of_ble_eq_true rfl) rfl rfl ?_
    refine V_iload_n (pc1 := 21) 0 d11_detach_20 rfl rfl ?_
    refine V_if_ne (tgt := 27) (pc1 := 24) d11_detach_21 (by decide) rfl (fun h2 => ?_) (fun h2 => ?_)
    · skip
      refine V_aload_n (pc1 := 28) 1 d11_detach_27 rfl rfl ?_
      refine V_iload_n (pc1 := 29) 2 d11_detach_28 rfl rfl ?_
      refine V_iconst (pc1 := 30) d11_detach_29 vc_0 rfl ?_
      refine V_vv (pc1 := 33) (w11_goes g  ni 0 hni I L ) ly296 (lt305 rfl) s11_goes l11_84 rfl rfl ⟨Nat.le_of_ble_eq_true rfl, Nat.le_of_ble_eq_true rfl, Nat.le_refl _, Nat.le_refl _⟩ (Nat.le_of_ble_eq_true rfl) rfl d11_detach_30 rfl ?_
      refine V_iload_n (pc1 := 34) 0 d11_detach_33 rfl rfl ?_
      refine V_iret rfl d11_detach_34 (Nat.zero_le _) (Nat.zero_le _) ?_
      have hq2 := hq
      simp only [r11_detach, i11_detach, if_pos h1, hn3, if_neg h2] at hq2
      exact hq2
    · skip
      refine V_bipush (pc1 := 26) d11_detach_24 vb_m4 rfl ?_
      refine V_iret rfl d11_detach_26 (Nat.zero_le _) (Nat.zero_le _) ?_
      have hq2 := hq
      simp only [r11_detach, i11_detach, if_pos h1, hn3, if_pos h2] at hq2
      exact hq2
  · skip
    refine V_iconst (pc1 := 8) d11_detach_7 vc_m1 rfl ?_
    refine V_iret rfl d11_detach_8 (Nat.zero_le _) (Nat.zero_le _) ?_
    have hq2 := hq
    simp only [r11_detach, i11_detach, if_neg h1] at hq2
    exact hq2
theorem w11_detach (g : GlT)  (nd : Int32) (I : Nat → Nat → Int32) (L : Nat → Nat → Int64) : Call g (k11_detach, 4, 0, 0) [.ref (xA g 296), .int nd] (I, L, R0, 305) (Qi (r11_detach nd I L) (i11_detach nd I L) L) := Call.of (by decide) (Nat.le_of_ble_eq_true rfl) rfl (v11_detach g  nd  I L  _ (And.intro rfl rfl))

