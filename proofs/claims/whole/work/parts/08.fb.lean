def r10_isWithin (x : Int32) (a : Int32) (b : Int32) : Bool := (if (x < a) ∨ (b < x) then false else true)
set_option maxRecDepth 4000 in
theorem v10_isWithin (g : GlT)  (x : Int32) (a : Int32) (b : Int32) (I : Nat → Nat → Int32) (L : Nat → Nat → Int64) (Q : Option Value → MemT → Prop) (hq : Q (some (.int (bI (r10_isWithin x a b)))) (I, L, R0, 305)) : V g (k10_isWithin, 1, 0, 0) 0 0 0 [(0, .int x), (1, .int a), (2, .int b)] [] (I, L, R0, 305) Q := by
  refine V_iload_n (pc1 := 1) 0 d10_isWithin_0 rfl rfl ?_
  refine V_iload_n (pc1 := 2) 1 d10_isWithin_1 rfl rfl ?_
  have key6 : ∀ (y15_0 : Int32), y15_0 = bI (if (x < a) ∨ (b < x) then false else true) → ∀ (lv : List (Nat × Value)), lvsub [(0, .int x), (1, .int a), (2, .int b)] lv → V g (k10_isWithin, 1, 0, 0) 0 0 15 lv [.int y15_0] (I, L, R0, 305) Q := by
    intro y15_0 ey15_0
    subst ey15_0
    intro lv hlv
    refine V_lv hlv ?_
    refine V_zret rfl (bI_or _) d10_isWithin_15 (Nat.zero_le _) (Nat.zero_le _) ?_
    have hq2 := hq
    simp only [r10_isWithin] at hq2
    exact hq2
  have k2 : ((x < a) ∨ (b < x)) → V g (k10_isWithin, 1, 0, 0) 0 0 14 [(0, .int x), (1, .int a), (2, .int b)] [] (I, L, R0, 305) Q := by
    intro h1
    refine V_iconst (pc1 := 15) d10_isWithin_14 vc_0 rfl ?_
    exact key6 _ (by first | rfl | (simp only [if_pos h1]; done) | (simp only [if_pos h1]; rfl)) _ (lvsub_p [0, 1, 2] rfl)
  have k3 : ¬ ((x < a) ∨ (b < x)) → V g (k10_isWithin, 1, 0, 0) 0 0 10 [(0, .int x), (1, .int a), (2, .int b)] [] (I, L, R0, 305) Q := by
    intro h1
    refine V_iconst (pc1 := 11) d10_isWithin_10 vc_1 rfl ?_
    refine V_goto (tgt := 15) d10_isWithin_11 (by decide) ?_
    exact key6 _ (by first | rfl | (simp only [if_neg h1]; done) | (simp only [if_neg h1]; rfl)) _ (lvsub_p [0, 1, 2] rfl)
  refine V_icmp_lt (tgt := 14) (pc1 := 5) d10_isWithin_2 (by decide) rfl (fun h4 => ?_) (fun h4 => ?_)
  · skip
    exact k2 (Or.inl h4)
  · skip
    refine V_iload_n (pc1 := 6) 0 d10_isWithin_5 rfl rfl ?_
    refine V_iload_n (pc1 := 7) 2 d10_isWithin_6 rfl rfl ?_
    refine V_icmp_gt (tgt := 14) (pc1 := 10) d10_isWithin_7 (by decide) rfl (fun h5 => ?_) (fun h5 => ?_)
    · skip
      exact k2 (Or.inr h5)
    · skip
      exact k3 (fun z => z.elim h4 h5)
theorem w10_isWithin (g : GlT)  (x : Int32) (a : Int32) (b : Int32) (I : Nat → Nat → Int32) (L : Nat → Nat → Int64) : Call g (k10_isWithin, 1, 0, 0) [.int x, .int a, .int b] (I, L, R0, 305) (Qi (bI (r10_isWithin x a b)) (I) L) := Call.of (by decide) (Nat.le_of_ble_eq_true rfl) rfl (v10_isWithin g  x a b  I L  _ (And.intro rfl rfl))

def r10_isNode (x : Int32) : Bool := r10_isWithin x 0 3
set_option maxRecDepth 4000 in
theorem v10_isNode (g : GlT)  (x : Int32) (I : Nat → Nat → Int32) (L : Nat → Nat → Int64) (Q : Option Value → MemT → Prop) (hq : Q (some (.int (bI (r10_isNode x)))) (I, L, R0, 305)) : V g (k10_isNode, 2, 0, 0) 0 0 0 [(0, .int x)] [] (I, L, R0, 305) Q := by
  refine V_iload_n (pc1 := 1) 0 d10_isNode_0 rfl rfl ?_
  refine V_iconst (pc1 := 2) d10_isNode_1 vc_0 rfl ?_
  refine V_iconst (pc1 := 3) d10_isNode_2 vc_3 rfl ?_
  refine V_si (pc1 := 6) (w10_isWithin g  x 0 3  I L ) s10_isWithin l10_48 rfl rfl ⟨Nat.le_of_ble_eq_true rfl, Nat.le_of_ble_eq_true rfl, Nat.le_refl _, Nat.le_refl _⟩ (Nat.le_of_ble_eq_true rfl) rfl d10_isNode_3 rfl ?_
  refine V_zret rfl (bI_or _) d10_isNode_6 (Nat.zero_le _) (Nat.zero_le _) ?_
  have hq2 := hq
  simp only [r10_isNode] at hq2
  exact hq2
theorem w10_isNode (g : GlT)  (x : Int32) (I : Nat → Nat → Int32) (L : Nat → Nat → Int64) : Call g (k10_isNode, 2, 0, 0) [.int x] (I, L, R0, 305) (Qi (bI (r10_isNode x)) (I) L) := Call.of (by decide) (Nat.le_of_ble_eq_true rfl) rfl (v10_isNode g  x  I L  _ (And.intro rfl rfl))

def r10_isSlot (x : Int32) : Bool := r10_isWithin x 0 1
set_option maxRecDepth 4000 in
theorem v10_isSlot (g : GlT)  (x : Int32) (I : Nat → Nat → Int32) (L : Nat → Nat → Int64) (Q : Option Value → MemT → Prop) (hq : Q (some (.int (bI (r10_isSlot x)))) (I, L, R0, 305)) : V g (k10_isSlot, 2, 0, 0) 0 0 0 [(0, .int x)] [] (I, L, R0, 305) Q := by
  refine V_iload_n (pc1 := 1) 0 d10_isSlot_0 rfl rfl ?_
  refine V_iconst (pc1 := 2) d10_isSlot_1 vc_0 rfl ?_
  refine V_iconst (pc1 := 3) d10_isSlot_2 vc_1 rfl ?_
  refine V_si (pc1 := 6) (w10_isWithin g  x 0 1  I L ) s10_isWithin l10_48 rfl rfl ⟨Nat.le_of_ble_eq_true rfl, Nat.le_of_ble_eq_true rfl, Nat.le_refl _, Nat.le_refl _⟩ (Nat.le_of_ble_eq_true rfl) rfl d10_isSlot_3 rfl ?_
  refine V_zret rfl (bI_or _) d10_isSlot_6 (Nat.zero_le _) (Nat.zero_le _) ?_
  have hq2 := hq
  simp only [r10_isSlot] at hq2
  exact hq2
theorem w10_isSlot (g : GlT)  (x : Int32) (I : Nat → Nat → Int32) (L : Nat → Nat → Int64) : Call g (k10_isSlot, 2, 0, 0) [.int x] (I, L, R0, 305) (Qi (bI (r10_isSlot x)) (I) L) := Call.of (by decide) (Nat.le_of_ble_eq_true rfl) rfl (v10_isSlot g  x  I L  _ (And.intro rfl rfl))

def r10_isIdentifier (x : Int32) : Bool := r10_isWithin x 0 2047
set_option maxRecDepth 4000 in
theorem v10_isIdentifier (g : GlT)  (x : Int32) (I : Nat → Nat → Int32) (L : Nat → Nat → Int64) (Q : Option Value → MemT → Prop) (hq : Q (some (.int (bI (r10_isIdentifier x)))) (I, L, R0, 305)) : V g (k10_isIdentifier, 2, 0, 0) 0 0 0 [(0, .int x)] [] (I, L, R0, 305) Q := by
  refine V_iload_n (pc1 := 1) 0 d10_isIdentifier_0 rfl rfl ?_
  refine V_iconst (pc1 := 2) d10_isIdentifier_1 vc_0 rfl ?_
  refine V_sipush (pc1 := 5) d10_isIdentifier_2 vs_2047 rfl ?_
  refine V_si (pc1 := 8) (w10_isWithin g  x 0 2047  I L ) s10_isWithin l10_48 rfl rfl ⟨Nat.le_of_ble_eq_true rfl, Nat.le_of_ble_eq_true rfl, Nat.le_refl _, Nat.le_refl _⟩ (Nat.le_of_ble_eq_true rfl) rfl d10_isIdentifier_5 rfl ?_
  refine V_zret rfl (bI_or _) d10_isIdentifier_8 (Nat.zero_le _) (Nat.zero_le _) ?_
  have hq2 := hq
  simp only [r10_isIdentifier] at hq2
  exact hq2
theorem w10_isIdentifier (g : GlT)  (x : Int32) (I : Nat → Nat → Int32) (L : Nat → Nat → Int64) : Call g (k10_isIdentifier, 2, 0, 0) [.int x] (I, L, R0, 305) (Qi (bI (r10_isIdentifier x)) (I) L) := Call.of (by decide) (Nat.le_of_ble_eq_true rfl) rfl (v10_isIdentifier g  x  I L  _ (And.intro rfl rfl))

def r10_isLength (x : Int32) : Bool := r10_isWithin x 0 4
set_option maxRecDepth 4000 in
theorem v10_isLength (g : GlT)  (x : Int32) (I : Nat → Nat → Int32) (L : Nat → Nat → Int64) (Q : Option Value → MemT → Prop) (hq : Q (some (.int (bI (r10_isLength x)))) (I, L, R0, 305)) : V g (k10_isLength, 2, 0, 0) 0 0 0 [(0, .int x)] [] (I, L, R0, 305) Q := by
  refine V_iload_n (pc1 := 1) 0 d10_isLength_0 rfl rfl ?_
  refine V_iconst (pc1 := 2) d10_isLength_1 vc_0 rfl ?_
  refine V_iconst (pc1 := 3) d10_isLength_2 vc_4 rfl ?_
  refine V_si (pc1 := 6) (w10_isWithin g  x 0 4  I L ) s10_isWithin l10_48 rfl rfl ⟨Nat.le_of_ble_eq_true rfl, Nat.le_of_ble_eq_true rfl, Nat.le_refl _, Nat.le_refl _⟩ (Nat.le_of_ble_eq_true rfl) rfl d10_isLength_3 rfl ?_
  refine V_zret rfl (bI_or _) d10_isLength_6 (Nat.zero_le _) (Nat.zero_le _) ?_
  have hq2 := hq
  simp only [r10_isLength] at hq2
  exact hq2
theorem w10_isLength (g : GlT)  (x : Int32) (I : Nat → Nat → Int32) (L : Nat → Nat → Int64) : Call g (k10_isLength, 2, 0, 0) [.int x] (I, L, R0, 305) (Qi (bI (r10_isLength x)) (I) L) := Call.of (by decide) (Nat.le_of_ble_eq_true rfl) rfl (v10_isLength g  x  I L  _ (And.intro rfl rfl))

def r10_isFrame (id : Int32) (rm : Int32) (ln : Int32) (dt : Int32) : Bool := (if (¬ ((r10_isIdentifier id) = true)) ∨ ((¬ ((r10_isLength ln) = true)) ∨ ((¬ (rm = 0)) ∧ (¬ (dt = 0)))) then false else (if (ln = 4) ∨ ((dt.toUInt32 >>> (((8 : Int32) * ln).toUInt32 &&& Int32.toUInt32 31)).toInt32 = 0) then true else false))
set_option maxRecDepth 4000 in
theorem v10_isFrame (g : GlT)  (id : Int32) (rm : Int32) (ln : Int32) (dt : Int32) (I : Nat → Nat → Int32) (L : Nat → Nat → Int64) (Q : Option Value → MemT → Prop) (hq : Q (some (.int (bI (r10_isFrame id rm ln dt)))) (I, L, R0, 305)) : V g (k10_isFrame, 3, 0, 0) 0 0 0 [(0, .int id), (1, .int rm), (2, .int ln), (3, .int dt)] [] (I, L, R0, 305) Q := by
  refine V_iload_n (pc1 := 1) 0 d10_isFrame_0 rfl rfl ?_
  refine V_si (pc1 := 4) (w10_isIdentifier g  id  I L ) s10_isIdentifier l10_72 rfl rfl ⟨Nat.le_of_ble_eq_true rfl, Nat.le_of_ble_eq_true rfl, Nat.le_refl _, Nat.le_refl _⟩ (Nat.le_of_ble_eq_true rfl) rfl d10_isFrame_1 rfl ?_
  have k2 : ((¬ ((r10_isIdentifier id) = true)) ∨ ((¬ ((r10_isLength ln) = true)) ∨ ((¬ (rm = 0)) ∧ (¬ (dt = 0))))) → V g (k10_isFrame, 3, 0, 0) 0 0 22 [(0, .int id), (1, .int rm), (2, .int ln), (3, .int dt)] [] (I, L, R0, 305) Q := by
    intro h1
    refine V_iconst (pc1 := 23) d10_isFrame_22 vc_0 rfl ?_
    refine V_zret rfl (Or.inl rfl) d10_isFrame_23 (Nat.zero_le _) (Nat.zero_le _) ?_
    have hq2 := hq
    simp only [r10_isFrame, if_pos h1] at hq2
    exact hq2
  have k3 : ¬ ((¬ ((r10_isIdentifier id) = true)) ∨ ((¬ ((r10_isLength ln) = true)) ∨ ((¬ (rm = 0)) ∧ (¬ (dt = 0))))) → V g (k10_isFrame, 3, 0, 0) 0 0 24 [(0, .int id), (1, .int rm), (2, .int ln), (3, .int dt)] [] (I, L, R0, 305) Q := by
    intro h1
    refine V_iload_n (pc1 := 25) 2 d10_isFrame_24 rfl rfl ?_
    refine V_iconst (pc1 := 26) d10_isFrame_25 vc_4 rfl ?_
    have key9 : ∀ (y43_0 : Int32), y43_0 = bI (if (ln = 4) ∨ ((dt.toUInt32 >>> (((8 : Int32) * ln).toUInt32 &&& Int32.toUInt32 31)).toInt32 = 0) then true else false) → ∀ (lv : List (Nat × Value)), lvsub [(0, .int id), (1, .int rm), (2, .int ln), (3, .int dt)] lv → V g (k10_isFrame, 3, 0, 0) 0 0 43 lv [.int y43_0] (I, L, R0, 305) Q := by
      intro y43_0 ey43_0
      subst ey43_0
      intro lv hlv
      refine V_lv hlv ?_
      refine V_zret rfl (bI_or _) d10_isFrame_43 (Nat.zero_le _) (Nat.zero_le _) ?_
      have hq2 := hq
      simp only [r10_isFrame, if_neg h1] at hq2
      exact hq2
    have k5 : ((ln = 4) ∨ ((dt.toUInt32 >>> (((8 : Int32) * ln).toUInt32 &&& Int32.toUInt32 31)).toInt32 = 0)) → V g (k10_isFrame, 3, 0, 0) 0 0 38 [(0, .int id), (1, .int rm), (2, .int ln), (3, .int dt)] [] (I, L, R0, 305) Q := by
      intro h4
      refine V_iconst (pc1 := 39) d10_isFrame_38 vc_1 rfl ?_
      refine V_goto (tgt := 43) d10_isFrame_39 (by decide) ?_
      exact key9 _ (by first | rfl | (simp only [if_pos h4]; done) | (simp only [if_pos h4]; rfl)) _ (lvsub_p [0, 1, 2, 3] rfl)
    have k6 : ¬ ((ln = 4) ∨ ((dt.toUInt32 >>> (((8 : Int32) * ln).toUInt32 &&& Int32.toUInt32 31)).toInt32 = 0)) → V g (k10_isFrame, 3, 0, 0) 0 0 42 [(0, .int id), (1, .int rm), (2, .int ln), (3, .int dt)] [] (I, L, R0, 305) Q := by
      intro h4
      refine V_iconst (pc1 := 43) d10_isFrame_42 vc_0 rfl ?_
      exact key9 _ (by first | rfl | (simp only [if_neg h4]; done) | (simp only [if_neg h4]; rfl)) _ (lvsub_p [0, 1, 2, 3] rfl)
    refine V_icmp_eq (tgt := 38) (pc1 := 29) d10_isFrame_26 (by decide) rfl (fun h7 => ?_) (fun h7 => ?_)
    · skip
      exact k5 (Or.inl h7)
    · skip
      refine V_iload_n (pc1 := 30) 3 d10_isFrame_29 rfl rfl ?_
      refine V_bipush (pc1 := 32) d10_isFrame_30 vb_8 rfl ?_
      refine V_iload_n (pc1 := 33) 2 d10_isFrame_32 rfl rfl ?_
      refine V_imul (pc1 := 34) d10_isFrame_33 rfl ?_
      refine V_iushr (pc1 := 35) d10_isFrame_34 rfl ?_
      refine V_if_ne (tgt := 42) (pc1 := 38) d10_isFrame_35 (by decide) rfl (fun h8 => ?_) (fun h8 => ?_)
      · skip
        exact k6 (fun z => z.elim h7 h8)
      · skip
        exact k5 (Or.inr h8)
  refine V_beq (tgt := 22) (pc1 := 7) d10_isFrame_4 (by decide) rfl (fun h10 => ?_) (fun h10 => ?_)
  · skip
    exact k2 (Or.inl h10)
  · skip
    refine V_iload_n (pc1 := 8) 2 d10_isFrame_7 rfl rfl ?_
    refine V_si (pc1 := 11) (w10_isLength g  ln  I L ) s10_isLength l10_236 rfl rfl ⟨Nat.le_of_ble_eq_true rfl, Nat.le_of_ble_eq_true rfl, Nat.le_refl _, Nat.le_refl _⟩ (Nat.le_of_ble_eq_true rfl) rfl d10_isFrame_8 rfl ?_
    refine V_beq (tgt := 22) (pc1 := 14) d10_isFrame_11 (by decide) rfl (fun h11 => ?_) (fun h11 => ?_)
    · skip
      exact k2 (Or.inr (Or.inl h11))
    · skip
      refine V_iload_n (pc1 := 15) 1 d10_isFrame_14 rfl rfl ?_
      refine V_if_eq (tgt := 24) (pc1 := 18) d10_isFrame_15 (by decide) rfl (fun h12 => ?_) (fun h12 => ?_)
      · skip
        exact k3 (fun z => z.elim (fun z => z h10) (fun z => z.elim (fun z => z h11) (fun z => (fun z => z h12) z.1)))
      · skip
        refine V_iload_n (pc1 := 19) 3 d10_isFrame_18 rfl rfl ?_
        refine V_if_eq (tgt := 24) (pc1 := 22) d10_isFrame_19 (by decide) rfl (fun h13 => ?_) (fun h13 => ?_)
        · skip
          exact k3 (fun z => z.elim (fun z => z h10) (fun z => z.elim (fun z => z h11) (fun z => (fun z => z h13) z.2)))
        · skip
          exact k2 (Or.inr (Or.inr ⟨h12, h13⟩))
theorem w10_isFrame (g : GlT)  (id : Int32) (rm : Int32) (ln : Int32) (dt : Int32) (I : Nat → Nat → Int32) (L : Nat → Nat → Int64) : Call g (k10_isFrame, 3, 0, 0) [.int id, .int rm, .int ln, .int dt] (I, L, R0, 305) (Qi (bI (r10_isFrame id rm ln dt)) (I) L) := Call.of (by decide) (Nat.le_of_ble_eq_true rfl) rfl (v10_isFrame g  id rm ln dt  I L  _ (And.intro rfl rfl))

def r10_asInt (x : Int32) : Int32 := bI (if x = 0 then false else true)
set_option maxRecDepth 4000 in
theorem v10_asInt (g : GlT)  (x : Int32) (I : Nat → Nat → Int32) (L : Nat → Nat → Int64) (Q : Option Value → MemT → Prop) (hq : Q (some (.int (r10_asInt x))) (I, L, R0, 305)) : V g (k10_asInt, 1, 0, 0) 0 0 0 [(0, .int x)] [] (I, L, R0, 305) Q := by
  refine V_iload_n (pc1 := 1) 0 d10_asInt_0 rfl rfl ?_
  have key2 : ∀ (y9_0 : Int32), y9_0 = bI (if x = 0 then false else true) → ∀ (lv : List (Nat × Value)), lvsub [(0, .int x)] lv → V g (k10_asInt, 1, 0, 0) 0 0 9 lv [.int y9_0] (I, L, R0, 305) Q := by
    intro y9_0 ey9_0
    subst ey9_0
    intro lv hlv
    refine V_lv hlv ?_
    refine V_iret rfl d10_asInt_9 (Nat.zero_le _) (Nat.zero_le _) ?_
    have hq2 := hq
    simp only [r10_asInt] at hq2
    exact hq2
  refine V_if_eq (tgt := 8) (pc1 := 4) d10_asInt_1 (by decide) rfl (fun h1 => ?_) (fun h1 => ?_)
  · skip
    refine V_iconst (pc1 := 9) d10_asInt_8 vc_0 rfl ?_
    exact key2 _ (by first | rfl | (simp only [if_pos h1]; done) | (simp only [if_pos h1]; rfl)) _ (lvsub_p [0] rfl)
  · skip
    refine V_iconst (pc1 := 5) d10_asInt_4 vc_1 rfl ?_
    refine V_goto (tgt := 9) d10_asInt_5 (by decide) ?_
    exact key2 _ (by first | rfl | (simp only [if_neg h1]; done) | (simp only [if_neg h1]; rfl)) _ (lvsub_p [0] rfl)
theorem w10_asInt (g : GlT)  (x : Int32) (I : Nat → Nat → Int32) (L : Nat → Nat → Int64) : Call g (k10_asInt, 1, 0, 0) [.int x] (I, L, R0, 305) (Qi (r10_asInt x) (I) L) := Call.of (by decide) (Nat.le_of_ble_eq_true rfl) rfl (v10_asInt g  x  I L  _ (And.intro rfl rfl))

def r10_keyOf (id : Int32) (rm : Int32) : Int32 := ((2 : Int32) * id) + (r10_asInt rm)
set_option maxRecDepth 4000 in
theorem v10_keyOf (g : GlT)  (id : Int32) (rm : Int32) (I : Nat → Nat → Int32) (L : Nat → Nat → Int64) (Q : Option Value → MemT → Prop) (hq : Q (some (.int (r10_keyOf id rm))) (I, L, R0, 305)) : V g (k10_keyOf, 2, 0, 0) 0 0 0 [(0, .int id), (1, .int rm)] [] (I, L, R0, 305) Q := by
  refine V_iconst (pc1 := 1) d10_keyOf_0 vc_2 rfl ?_
  refine V_iload_n (pc1 := 2) 0 d10_keyOf_1 rfl rfl ?_
  refine V_imul (pc1 := 3) d10_keyOf_2 rfl ?_
  refine V_iload_n (pc1 := 4) 1 d10_keyOf_3 rfl rfl ?_
  refine V_si (pc1 := 7) (w10_asInt g  rm  I L ) s10_asInt l10_166 rfl rfl ⟨Nat.le_of_ble_eq_true rfl, Nat.le_of_ble_eq_true rfl, Nat.le_refl _, Nat.le_refl _⟩ (Nat.le_of_ble_eq_true rfl) rfl d10_keyOf_4 rfl ?_
  refine V_iadd (pc1 := 8) d10_keyOf_7 rfl ?_
  refine V_iret rfl d10_keyOf_8 (Nat.zero_le _) (Nat.zero_le _) ?_
  have hq2 := hq
  simp only [r10_keyOf] at hq2
  exact hq2
theorem w10_keyOf (g : GlT)  (id : Int32) (rm : Int32) (I : Nat → Nat → Int32) (L : Nat → Nat → Int64) : Call g (k10_keyOf, 2, 0, 0) [.int id, .int rm] (I, L, R0, 305) (Qi (r10_keyOf id rm) (I) L) := Call.of (by decide) (Nat.le_of_ble_eq_true rfl) rfl (v10_keyOf g  id rm  I L  _ (And.intro rfl rfl))

def r10_longestFrame (ln : Int32) : Int32 := ((47 : Int32) + ((8 : Int32) * ln)) + (((33 : Int32) + ((8 : Int32) * ln)) / 4)
set_option maxRecDepth 4000 in
theorem v10_longestFrame (g : GlT)  (ln : Int32) (I : Nat → Nat → Int32) (L : Nat → Nat → Int64) (Q : Option Value → MemT → Prop) (hq : Q (some (.int (r10_longestFrame ln))) (I, L, R0, 305)) : V g (k10_longestFrame, 1, 0, 0) 0 0 0 [(0, .int ln)] [] (I, L, R0, 305) Q := by
  refine V_bipush (pc1 := 2) d10_longestFrame_0 vb_47 rfl ?_
  refine V_bipush (pc1 := 4) d10_longestFrame_2 vb_8 rfl ?_
  refine V_iload_n (pc1 := 5) 0 d10_longestFrame_4 rfl rfl ?_
  refine V_imul (pc1 := 6) d10_longestFrame_5 rfl ?_
  refine V_iadd (pc1 := 7) d10_longestFrame_6 rfl ?_
  refine V_bipush (pc1 := 9) d10_longestFrame_7 vb_33 rfl ?_
  refine V_bipush (pc1 := 11) d10_longestFrame_9 vb_8 rfl ?_
  refine V_iload_n (pc1 := 12) 0 d10_longestFrame_11 rfl rfl ?_
  refine V_imul (pc1 := 13) d10_longestFrame_12 rfl ?_
  refine V_iadd (pc1 := 14) d10_longestFrame_13 rfl ?_
  refine V_iconst (pc1 := 15) d10_longestFrame_14 vc_4 rfl ?_
  refine V_idiv (pc1 := 16) d10_longestFrame_15 (by decide) rfl ?_
  refine V_iadd (pc1 := 17) d10_longestFrame_16 rfl ?_
  refine V_iret rfl d10_longestFrame_17 (Nat.zero_le _) (Nat.zero_le _) ?_
  have hq2 := hq
  simp only [r10_longestFrame] at hq2
  exact hq2
theorem w10_longestFrame (g : GlT)  (ln : Int32) (I : Nat → Nat → Int32) (L : Nat → Nat → Int64) : Call g (k10_longestFrame, 1, 0, 0) [.int ln] (I, L, R0, 305) (Qi (r10_longestFrame ln) (I) L) := Call.of (by decide) (Nat.le_of_ble_eq_true rfl) rfl (v10_longestFrame g  ln  I L  _ (And.intro rfl rfl))

def r10_mix (h : Int64) (v : Int64) : Int64 := ((31 : Int64) * h) + v
set_option maxRecDepth 4000 in
theorem v10_mix (g : GlT)  (h : Int64) (v : Int64) (I : Nat → Nat → Int32) (L : Nat → Nat → Int64) (Q : Option Value → MemT → Prop) (hq : Q (some (.long (r10_mix h v))) (I, L, R0, 305)) : V g (k10_mix, 1, 0, 0) 0 0 0 [(0, .long h), (2, .long v)] [] (I, L, R0, 305) Q := by
  refine V_ldc2 (pc1 := 3) d10_mix_0 q10_293 rfl ?_
  refine V_lload_n (pc1 := 4) 0 d10_mix_3 rfl rfl ?_
  refine V_lmul (pc1 := 5) d10_mix_4 rfl ?_
  refine V_lload_n (pc1 := 6) 1 d10_mix_5 rfl rfl ?_
  refine V_ladd (pc1 := 7) d10_mix_6 rfl ?_
  refine V_lret rfl d10_mix_7 (Nat.zero_le _) (Nat.zero_le _) ?_
  have hq2 := hq
  simp only [r10_mix] at hq2
  exact hq2
theorem w10_mix (g : GlT)  (h : Int64) (v : Int64) (I : Nat → Nat → Int32) (L : Nat → Nat → Int64) : Call g (k10_mix, 1, 0, 0) [.long h, .long v] (I, L, R0, 305) (Ql (r10_mix h v) (I) L) := Call.of (by decide) (Nat.le_of_ble_eq_true rfl) rfl (v10_mix g  h v  I L  _ (And.intro rfl rfl))

def i4_copyFrom (k : Nat) (k2 : Nat) (I : Nat → Nat → Int32) (L : Nat → Nat → Int64) : Nat → Nat → Int32 := uI (uI (uI I k 0 (I k2 0)) k 1 (I k2 1)) k 2 (I k2 2)
set_option maxRecDepth 4000 in
theorem v4_copyFrom (g : GlT) {k : Nat} {k2 : Nat} (hk : okL k) (hk2 : okL k2) (hap : k ≠ k2) (I : Nat → Nat → Int32) (L : Nat → Nat → Int64) (Q : Option Value → MemT → Prop) (hq : Q (none) (i4_copyFrom k k2 I L, L, R0, 305)) : V g (k4_copyFrom, 1, 0, 0) 0 0 0 [(0, .ref (xA g k)), (1, .ref (xA g k2))] [] (I, L, R0, 305) Q := by
  refine V_aload_n (pc1 := 1) 0 d4_copyFrom_0 rfl rfl ?_
  refine V_aload_n (pc1 := 2) 1 d4_copyFrom_1 rfl rfl ?_
  refine V_geti (pc1 := 5) (lm_l0 hk2) (lm_b0 hk2) f4_7 (fun _ => rfl) rfl d4_copyFrom_2 rfl ?_
  refine V_puti (pc1 := 8) (lm_l0 hk) (lm_b0 hk) f4_7 rfl rfl d4_copyFrom_5 rfl ?_
  refine V_aload_n (pc1 := 9) 0 d4_copyFrom_8 rfl rfl ?_
  refine V_aload_n (pc1 := 10) 1 d4_copyFrom_9 rfl rfl ?_
  refine V_geti (pc1 := 13) (lm_l0 hk2) (lm_b0 hk2) f4_13 (fun _ => rfl) (congrFun (uI_off _ _ _ (show (k2 : Nat) ≠ k by omega)) _) d4_copyFrom_10 rfl ?_
  refine V_puti (pc1 := 16) (lm_l0 hk) (lm_b0 hk) f4_13 rfl rfl d4_copyFrom_13 rfl ?_
  refine V_aload_n (pc1 := 17) 0 d4_copyFrom_16 rfl rfl ?_
  refine V_aload_n (pc1 := 18) 1 d4_copyFrom_17 rfl rfl ?_
  refine V_geti (pc1 := 21) (lm_l0 hk2) (lm_b0 hk2) f4_16 (fun _ => rfl) ((congrFun (uI_off _ _ _ (show (k2 : Nat) ≠ k by omega)) _).trans (congrFun (uI_off _ _ _ (show (k2 : Nat) ≠ k by omega)) _)) d4_copyFrom_18 rfl ?_
  refine V_puti (pc1 := 24) (lm_l0 hk) (lm_b0 hk) f4_16 rfl rfl d4_copyFrom_21 rfl ?_
  refine V_vret rfl d4_copyFrom_24 (Nat.zero_le _) (Nat.zero_le _) ?_
  have hq2 := hq
  simp only [i4_copyFrom] at hq2
  exact hq2
theorem w4_copyFrom (g : GlT) {k : Nat} {k2 : Nat} (hk : okL k) (hk2 : okL k2) (hap : k ≠ k2) (I : Nat → Nat → Int32) (L : Nat → Nat → Int64) : Call g (k4_copyFrom, 1, 0, 0) [.ref (xA g k), .ref (xA g k2)] (I, L, R0, 305) (Qv (i4_copyFrom k k2 I L) L) := Call.of (by decide) (Nat.le_of_ble_eq_true rfl) rfl (v4_copyFrom g hk hk2  hap I L  _ (And.intro rfl rfl))
theorem x4_copyFrom {k : Nat} {k2 : Nat} {I : Nat → Nat → Int32} {L : Nat → Nat → Int64} {aa : Nat} (h0 : aa ≠ k) : i4_copyFrom k k2 I L aa = I aa := by
  first | (simp only [i4_copyFrom]; done) | (simp only [i4_copyFrom]; (try (repeat' split)) <;> first | rfl | (simp [uI_off, h0]; done))

def r2_dataBitsOf (key : Int32) (ln : Int32) : Int32 := (if key &&& 1 = 1 then 0 else (8 : Int32) * ln)
set_option maxRecDepth 4000 in
theorem v2_dataBitsOf (g : GlT)  (key : Int32) (ln : Int32) (I : Nat → Nat → Int32) (L : Nat → Nat → Int64) (Q : Option Value → MemT → Prop) (hq : Q (some (.int (r2_dataBitsOf key ln))) (I, L, R0, 305)) : V g (k2_dataBitsOf, 1, 0, 0) 0 0 0 [(0, .int key), (1, .int ln)] [] (I, L, R0, 305) Q := by
  refine V_iload_n (pc1 := 1) 0 d2_dataBitsOf_0 rfl rfl ?_
  refine V_iconst (pc1 := 2) d2_dataBitsOf_1 vc_1 rfl ?_
  refine V_iand (pc1 := 3) d2_dataBitsOf_2 rfl ?_
  refine V_iconst (pc1 := 4) d2_dataBitsOf_3 vc_1 rfl ?_
  have key2 : ∀ (y15_0 : Int32), y15_0 = (if key &&& 1 = 1 then 0 else (8 : Int32) * ln) → ∀ (lv : List (Nat × Value)), lvsub [(0, .int key), (1, .int ln)] lv → V g (k2_dataBitsOf, 1, 0, 0) 0 0 15 lv [.int y15_0] (I, L, R0, 305) Q := by
    intro y15_0 ey15_0
    subst ey15_0
    intro lv hlv
    refine V_lv hlv ?_
    refine V_iret rfl d2_dataBitsOf_15 (Nat.zero_le _) (Nat.zero_le _) ?_
    have hq2 := hq
    simp only [r2_dataBitsOf] at hq2
    exact hq2
  refine V_icmp_ne (tgt := 11) (pc1 := 7) d2_dataBitsOf_4 (by decide) rfl (fun h1 => ?_) (fun h1 => ?_)
  · skip
    refine V_bipush (pc1 := 13) d2_dataBitsOf_11 vb_8 rfl ?_
    refine V_iload_n (pc1 := 14) 1 d2_dataBitsOf_13 rfl rfl ?_
    refine V_imul (pc1 := 15) d2_dataBitsOf_14 rfl ?_
    exact key2 _ (by first | rfl | (simp only [if_neg h1]; done) | (simp only [if_neg h1]; rfl)) _ (lvsub_p [0, 1] rfl)
  · skip
    refine V_iconst (pc1 := 8) d2_dataBitsOf_7 vc_0 rfl ?_
    refine V_goto (tgt := 15) d2_dataBitsOf_8 (by decide) ?_
    exact key2 _ (by first | rfl | (simp only [if_pos h1]; done) | (simp only [if_pos h1]; rfl)) _ (lvsub_p [0, 1] rfl)
theorem w2_dataBitsOf (g : GlT)  (key : Int32) (ln : Int32) (I : Nat → Nat → Int32) (L : Nat → Nat → Int64) : Call g (k2_dataBitsOf, 1, 0, 0) [.int key, .int ln] (I, L, R0, 305) (Qi (r2_dataBitsOf key ln) (I) L) := Call.of (by decide) (Nat.le_of_ble_eq_true rfl) rfl (v2_dataBitsOf g  key ln  I L  _ (And.intro rfl rfl))

def r2_outgoingBits (key : Int32) (ln : Int32) (dt : Int32) : Int64 := ((((key.toInt64 <<< ((6 : Int32).toInt64 &&& 63)) ||| ln.toInt64) <<< ((r2_dataBitsOf key ln).toInt64 &&& 63)) ||| (dt.toInt64 &&& 4294967295)) <<< (((45 : Int32) - (r2_dataBitsOf key ln)).toInt64 &&& 63)
set_option maxRecDepth 4000 in
theorem v2_outgoingBits (g : GlT)  (key : Int32) (ln : Int32) (dt : Int32) (I : Nat → Nat → Int32) (L : Nat → Nat → Int64) (Q : Option Value → MemT → Prop) (hq : Q (some (.long (r2_outgoingBits key ln dt))) (I, L, R0, 305)) : V g (k2_outgoingBits, 2, 0, 0) 0 0 0 [(0, .int key), (1, .int ln), (2, .int dt)] [] (I, L, R0, 305) Q := by
  refine V_iload_n (pc1 := 1) 0 d2_outgoingBits_0 rfl rfl ?_
  refine V_i2l (pc1 := 2) d2_outgoingBits_1 rfl ?_
  refine V_bipush (pc1 := 4) d2_outgoingBits_2 vb_6 rfl ?_
  refine V_lshl (pc1 := 5) d2_outgoingBits_4 rfl ?_
  refine V_iload_n (pc1 := 6) 1 d2_outgoingBits_5 rfl rfl ?_
  refine V_i2l (pc1 := 7) d2_outgoingBits_6 rfl ?_
  refine V_lor (pc1 := 8) d2_outgoingBits_7 rfl ?_
  refine V_lstore_n (pc1 := 9) d2_outgoingBits_8 (Nat.le_of_ble_eq_true rfl) rfl rfl ?_
  refine V_iload_n (pc1 := 10) 1 d2_outgoingBits_9 rfl rfl ?_
  refine V_iload_n (pc1 := 11) 2 d2_outgoingBits_10 rfl rfl ?_
  refine V_si (pc1 := 14) (w2_dataBitsOf g  key ln  I L ) s2_dataBitsOf l2_40 rfl rfl ⟨Nat.le_of_ble_eq_true rfl, Nat.le_of_ble_eq_true rfl, Nat.le_refl _, Nat.le_refl _⟩ (Nat.le_of_ble_eq_true rfl) rfl d2_outgoingBits_11 rfl ?_
  refine V_istore (pc1 := 16) d2_outgoingBits_14 (Nat.le_of_ble_eq_true rfl) rfl rfl ?_
  refine V_lload_n (pc1 := 17) 1 d2_outgoingBits_16 rfl rfl ?_
  refine V_iload (pc1 := 19) 0 d2_outgoingBits_17 rfl rfl ?_
  refine V_lshl (pc1 := 20) d2_outgoingBits_19 rfl ?_
  refine V_iload_n (pc1 := 21) 4 d2_outgoingBits_20 rfl rfl ?_
  refine V_i2l (pc1 := 22) d2_outgoingBits_21 rfl ?_
  refine V_ldc2 (pc1 := 25) d2_outgoingBits_22 q2_44 rfl ?_
  refine V_land (pc1 := 26) d2_outgoingBits_25 rfl ?_
  refine V_lor (pc1 := 27) d2_outgoingBits_26 rfl ?_
  refine V_lstore (pc1 := 29) d2_outgoingBits_27 (Nat.le_of_ble_eq_true rfl) rfl rfl ?_
  refine V_lload (pc1 := 31) 0 d2_outgoingBits_29 rfl rfl ?_
  refine V_bipush (pc1 := 33) d2_outgoingBits_31 vb_45 rfl ?_
  refine V_iload (pc1 := 35) 1 d2_outgoingBits_33 rfl rfl ?_
  refine V_isub (pc1 := 36) d2_outgoingBits_35 rfl ?_
  refine V_lshl (pc1 := 37) d2_outgoingBits_36 rfl ?_
  refine V_lret rfl d2_outgoingBits_37 (Nat.zero_le _) (Nat.zero_le _) ?_
  have hq2 := hq
  simp only [r2_outgoingBits] at hq2
  exact hq2
theorem w2_outgoingBits (g : GlT)  (key : Int32) (ln : Int32) (dt : Int32) (I : Nat → Nat → Int32) (L : Nat → Nat → Int64) : Call g (k2_outgoingBits, 2, 0, 0) [.int key, .int ln, .int dt] (I, L, R0, 305) (Ql (r2_outgoingBits key ln dt) (I) L) := Call.of (by decide) (Nat.le_of_ble_eq_true rfl) rfl (v2_outgoingBits g  key ln dt  I L  _ (And.intro rfl rfl))

def i2_begin (k : Nat) (I : Nat → Nat → Int32) (L : Nat → Nat → Int64) : Nat → Nat → Int32 := uI (uI (uI (uI (uI (uI (uI (uI I k 0 1) k 1 19) k 3 0) k 4 0) k 5 0) k 6 0) k 7 1) k 8 0
def m2_begin (k : Nat) (I : Nat → Nat → Int32) (L : Nat → Nat → Int64) : Nat → Nat → Int64 := uL L k 2 0
set_option maxRecDepth 4000 in
theorem v2_begin (g : GlT) {k : Nat} (hk : okG k) (I : Nat → Nat → Int32) (L : Nat → Nat → Int64) (Q : Option Value → MemT → Prop) (hq : Q (none) (i2_begin k I L, m2_begin k I L, R0, 305)) : V g (k2_begin, 1, 0, 0) 0 0 0 [(0, .ref (xA g k))] [] (I, L, R0, 305) Q := by
  refine V_aload_n (pc1 := 1) 0 d2_begin_0 rfl rfl ?_
  refine V_iconst (pc1 := 2) d2_begin_1 vc_1 rfl ?_
  refine V_puti (pc1 := 5) (fb_l0 hk) (fb_b0 hk) f2_9 rfl rfl d2_begin_2 rfl ?_
  refine V_aload_n (pc1 := 6) 0 d2_begin_5 rfl rfl ?_
  refine V_bipush (pc1 := 8) d2_begin_6 vb_19 rfl ?_
  refine V_puti (pc1 := 11) (fb_l0 hk) (fb_b0 hk) f2_15 rfl rfl d2_begin_8 rfl ?_
  refine V_aload_n (pc1 := 12) 0 d2_begin_11 rfl rfl ?_
  refine V_lconst (pc1 := 13) (v := 0) d2_begin_12 rfl rfl ?_
  refine V_putl (pc1 := 16) (fb_l0 hk) (fb_b0 hk) f2_18 rfl rfl d2_begin_13 rfl ?_
  refine V_aload_n (pc1 := 17) 0 d2_begin_16 rfl rfl ?_
  refine V_iconst (pc1 := 18) d2_begin_17 vc_0 rfl ?_
  refine V_puti (pc1 := 21) (fb_l0 hk) (fb_b0 hk) f2_22 rfl rfl d2_begin_18 rfl ?_
  refine V_aload_n (pc1 := 22) 0 d2_begin_21 rfl rfl ?_
  refine V_iconst (pc1 := 23) d2_begin_22 vc_0 rfl ?_
  refine V_puti (pc1 := 26) (fb_l0 hk) (fb_b0 hk) f2_25 rfl rfl d2_begin_23 rfl ?_
  refine V_aload_n (pc1 := 27) 0 d2_begin_26 rfl rfl ?_
  refine V_iconst (pc1 := 28) d2_begin_27 vc_0 rfl ?_
  refine V_puti (pc1 := 31) (fb_l0 hk) (fb_b0 hk) f2_28 rfl rfl d2_begin_28 rfl ?_
  refine V_aload_n (pc1 := 32) 0 d2_begin_31 rfl rfl ?_
  refine V_iconst (pc1 := 33) d2_begin_32 vc_0 rfl ?_
  refine V_puti (pc1 := 36) (fb_l0 hk) (fb_b0 hk) f2_31 rfl rfl d2_begin_33 rfl ?_
  refine V_aload_n (pc1 := 37) 0 d2_begin_36 rfl rfl ?_
  refine V_iconst (pc1 := 38) d2_begin_37 vc_1 rfl ?_
  refine V_puti (pc1 := 41) (fb_l0 hk) (fb_b0 hk) f2_34 rfl rfl d2_begin_38 rfl ?_
  refine V_aload_n (pc1 := 42) 0 d2_begin_41 rfl rfl ?_
  refine V_iconst (pc1 := 43) d2_begin_42 vc_0 rfl ?_
  refine V_puti (pc1 := 46) (fb_l0 hk) (fb_b0 hk) f2_37 rfl rfl d2_begin_43 rfl ?_
  refine V_vret rfl d2_begin_46 (Nat.zero_le _) (Nat.zero_le _) ?_
  have hq2 := hq
  simp only [i2_begin, m2_begin] at hq2
  exact hq2
theorem w2_begin (g : GlT) {k : Nat} (hk : okG k) (I : Nat → Nat → Int32) (L : Nat → Nat → Int64) : Call g (k2_begin, 1, 0, 0) [.ref (xA g k)] (I, L, R0, 305) (Qv (i2_begin k I L) (m2_begin k I L)) := Call.of (by decide) (Nat.le_of_ble_eq_true rfl) rfl (v2_begin g hk   I L  _ (And.intro rfl rfl))
theorem x2_begin {k : Nat} {I : Nat → Nat → Int32} {L : Nat → Nat → Int64} {aa : Nat} (h0 : aa ≠ k) : i2_begin k I L aa = I aa := by
  first | (simp only [i2_begin]; done) | (simp only [i2_begin]; (try (repeat' split)) <;> first | rfl | (simp [uI_off, h0]; done))
theorem y2_begin {k : Nat} {I : Nat → Nat → Int32} {L : Nat → Nat → Int64} {aa : Nat} (h0 : aa ≠ k) : m2_begin k I L aa = L aa := by
  first | (simp only [m2_begin]; done) | (simp only [m2_begin]; (try (repeat' split)) <;> first | rfl | (simp [uL_off, h0]; done))

def r2_isStuffBitDue (k : Nat) (I : Nat → Nat → Int32) (L : Nat → Nat → Int64) : Bool := (if I k 7 = 5 then true else false)
set_option maxRecDepth 4000 in
theorem v2_isStuffBitDue (g : GlT) {k : Nat} (hk : okG k) (I : Nat → Nat → Int32) (L : Nat → Nat → Int64) (Q : Option Value → MemT → Prop) (hq : Q (some (.int (bI (r2_isStuffBitDue k I L)))) (I, L, R0, 305)) : V g (k2_isStuffBitDue, 1, 0, 0) 0 0 0 [(0, .ref (xA g k))] [] (I, L, R0, 305) Q := by
  refine V_aload_n (pc1 := 1) 0 d2_isStuffBitDue_0 rfl rfl ?_
  refine V_geti (pc1 := 4) (fb_l0 hk) (fb_b0 hk) f2_34 (fun _ => rfl) rfl d2_isStuffBitDue_1 rfl ?_
  refine V_iconst (pc1 := 5) d2_isStuffBitDue_4 vc_5 rfl ?_
  have key2 : ∀ (y13_0 : Int32), y13_0 = bI (if I k 7 = 5 then true else false) → ∀ (lv : List (Nat × Value)), lvsub [(0, .ref (xA g k))] lv → V g (k2_isStuffBitDue, 1, 0, 0) 0 0 13 lv [.int y13_0] (I, L, R0, 305) Q := by
    intro y13_0 ey13_0
    subst ey13_0
    intro lv hlv
    refine V_lv hlv ?_
    refine V_zret rfl (bI_or _) d2_isStuffBitDue_13 (Nat.zero_le _) (Nat.zero_le _) ?_
    have hq2 := hq
    simp only [r2_isStuffBitDue] at hq2
    exact hq2
  refine V_icmp_ne (tgt := 12) (pc1 := 8) d2_isStuffBitDue_5 (by decide) rfl (fun h1 => ?_) (fun h1 => ?_)
  · skip
    refine V_iconst (pc1 := 13) d2_isStuffBitDue_12 vc_0 rfl ?_
    exact key2 _ (by first | rfl | (simp only [if_neg h1]; done) | (simp only [if_neg h1]; rfl)) _ (lvsub_p [0] rfl)
  · skip
    refine V_iconst (pc1 := 9) d2_isStuffBitDue_8 vc_1 rfl ?_
    refine V_goto (tgt := 13) d2_isStuffBitDue_9 (by decide) ?_
    exact key2 _ (by first | rfl | (simp only [if_pos h1]; done) | (simp only [if_pos h1]; rfl)) _ (lvsub_p [0] rfl)
theorem w2_isStuffBitDue (g : GlT) {k : Nat} (hk : okG k) (I : Nat → Nat → Int32) (L : Nat → Nat → Int64) : Call g (k2_isStuffBitDue, 1, 0, 0) [.ref (xA g k)] (I, L, R0, 305) (Qi (bI (r2_isStuffBitDue k I L)) (I) L) := Call.of (by decide) (Nat.le_of_ble_eq_true rfl) rfl (v2_isStuffBitDue g hk   I L  _ (And.intro rfl rfl))

def r2_isInStuffedPart (k : Nat) (I : Nat → Nat → Int32) (L : Nat → Nat → Int64) : Bool := (if (I k 0 < (I k 1) + 15) ∨ ((r2_isStuffBitDue k I L) = true) then true else false)
set_option maxRecDepth 4000 in
theorem v2_isInStuffedPart (g : GlT) {k : Nat} (hk : okG k) (I : Nat → Nat → Int32) (L : Nat → Nat → Int64) (Q : Option Value → MemT → Prop) (hq : Q (some (.int (bI (r2_isInStuffedPart k I L)))) (I, L, R0, 305)) : V g (k2_isInStuffedPart, 2, 0, 0) 0 0 0 [(0, .ref (xA g k))] [] (I, L, R0, 305) Q := by
  refine V_aload_n (pc1 := 1) 0 d2_isInStuffedPart_0 rfl rfl ?_
  refine V_geti (pc1 := 4) (fb_l0 hk) (fb_b0 hk) f2_9 (fun _ => rfl) rfl d2_isInStuffedPart_1 rfl ?_
  refine V_aload_n (pc1 := 5) 0 d2_isInStuffedPart_4 rfl rfl ?_
  refine V_geti (pc1 := 8) (fb_l0 hk) (fb_b0 hk) f2_15 (fun _ => rfl) rfl d2_isInStuffedPart_5 rfl ?_
  refine V_bipush (pc1 := 10) d2_isInStuffedPart_8 vb_15 rfl ?_
  refine V_iadd (pc1 := 11) d2_isInStuffedPart_10 rfl ?_
  have key6 : ∀ (y26_0 : Int32), y26_0 = bI (if (I k 0 < (I k 1) + 15) ∨ ((r2_isStuffBitDue k I L) = true) then true else false) → ∀ (lv : List (Nat × Value)), lvsub [(0, .ref (xA g k))] lv → V g (k2_isInStuffedPart, 2, 0, 0) 0 0 26 lv [.int y26_0] (I, L, R0, 305) Q := by
    intro y26_0 ey26_0
    subst ey26_0
    intro lv hlv
    refine V_lv hlv ?_
    refine V_zret rfl (bI_or _) d2_isInStuffedPart_26 (Nat.zero_le _) (Nat.zero_le _) ?_
    have hq2 := hq
    simp only [r2_isInStuffedPart] at hq2
    exact hq2
  have k2 : ((I k 0 < (I k 1) + 15) ∨ ((r2_isStuffBitDue k I L) = true)) → V g (k2_isInStuffedPart, 2, 0, 0) 0 0 21 [(0, .ref (xA g k))] [] (I, L, R0, 305) Q := by
    intro h1
    refine V_iconst (pc1 := 22) d2_isInStuffedPart_21 vc_1 rfl ?_
    refine V_goto (tgt := 26) d2_isInStuffedPart_22 (by decide) ?_
    exact key6 _ (by first | rfl | (simp only [if_pos h1]; done) | (simp only [if_pos h1]; rfl)) _ (lvsub_p [0] rfl)
  have k3 : ¬ ((I k 0 < (I k 1) + 15) ∨ ((r2_isStuffBitDue k I L) = true)) → V g (k2_isInStuffedPart, 2, 0, 0) 0 0 25 [(0, .ref (xA g k))] [] (I, L, R0, 305) Q := by
    intro h1
    refine V_iconst (pc1 := 26) d2_isInStuffedPart_25 vc_0 rfl ?_
    exact key6 _ (by first | rfl | (simp only [if_neg h1]; done) | (simp only [if_neg h1]; rfl)) _ (lvsub_p [0] rfl)
  refine V_icmp_lt (tgt := 21) (pc1 := 14) d2_isInStuffedPart_11 (by decide) rfl (fun h4 => ?_) (fun h4 => ?_)
  · skip
    exact k2 (Or.inl h4)
  · skip
    refine V_aload_n (pc1 := 15) 0 d2_isInStuffedPart_14 rfl rfl ?_
    refine V_vi (pc1 := 18) (w2_isStuffBitDue g hk   I L ) (fb_l0 hk) (fb_b0 hk) s2_isStuffBitDue l2_46 rfl rfl ⟨Nat.le_of_ble_eq_true rfl, Nat.le_of_ble_eq_true rfl, Nat.le_refl _, Nat.le_refl _⟩ (Nat.le_of_ble_eq_true rfl) rfl d2_isInStuffedPart_15 rfl ?_
    refine V_beq (tgt := 25) (pc1 := 21) d2_isInStuffedPart_18 (by decide) rfl (fun h5 => ?_) (fun h5 => ?_)
    · skip
      exact k3 (fun z => z.elim h4 h5)
    · skip
      exact k2 (Or.inr h5)
theorem w2_isInStuffedPart (g : GlT) {k : Nat} (hk : okG k) (I : Nat → Nat → Int32) (L : Nat → Nat → Int64) : Call g (k2_isInStuffedPart, 2, 0, 0) [.ref (xA g k)] (I, L, R0, 305) (Qi (bI (r2_isInStuffedPart k I L)) (I) L) := Call.of (by decide) (Nat.le_of_ble_eq_true rfl) rfl (v2_isInStuffedPart g hk   I L  _ (And.intro rfl rfl))

def r2_isInArbitration (k : Nat) (I : Nat → Nat → Int32) (L : Nat → Nat → Int64) : Bool := (if (I k 0 < 1) ∨ (12 < I k 0) then false else true)
set_option maxRecDepth 4000 in
theorem v2_isInArbitration (g : GlT) {k : Nat} (hk : okG k) (I : Nat → Nat → Int32) (L : Nat → Nat → Int64) (Q : Option Value → MemT → Prop) (hq : Q (some (.int (bI (r2_isInArbitration k I L)))) (I, L, R0, 305)) : V g (k2_isInArbitration, 1, 0, 0) 0 0 0 [(0, .ref (xA g k))] [] (I, L, R0, 305) Q := by
  refine V_aload_n (pc1 := 1) 0 d2_isInArbitration_0 rfl rfl ?_
  refine V_geti (pc1 := 4) (fb_l0 hk) (fb_b0 hk) f2_9 (fun _ => rfl) rfl d2_isInArbitration_1 rfl ?_
  refine V_iconst (pc1 := 5) d2_isInArbitration_4 vc_1 rfl ?_
  have key6 : ∀ (y22_0 : Int32), y22_0 = bI (if (I k 0 < 1) ∨ (12 < I k 0) then false else true) → ∀ (lv : List (Nat × Value)), lvsub [(0, .ref (xA g k))] lv → V g (k2_isInArbitration, 1, 0, 0) 0 0 22 lv [.int y22_0] (I, L, R0, 305) Q := by
    intro y22_0 ey22_0
    subst ey22_0
    intro lv hlv
    refine V_lv hlv ?_
    refine V_zret rfl (bI_or _) d2_isInArbitration_22 (Nat.zero_le _) (Nat.zero_le _) ?_
    have hq2 := hq
    simp only [r2_isInArbitration] at hq2
    exact hq2
  have k2 : ((I k 0 < 1) ∨ (12 < I k 0)) → V g (k2_isInArbitration, 1, 0, 0) 0 0 21 [(0, .ref (xA g k))] [] (I, L, R0, 305) Q := by
    intro h1
    refine V_iconst (pc1 := 22) d2_isInArbitration_21 vc_0 rfl ?_
    exact key6 _ (by first | rfl | (simp only [if_pos h1]; done) | (simp only [if_pos h1]; rfl)) _ (lvsub_p [0] rfl)
  have k3 : ¬ ((I k 0 < 1) ∨ (12 < I k 0)) → V g (k2_isInArbitration, 1, 0, 0) 0 0 17 [(0, .ref (xA g k))] [] (I, L, R0, 305) Q := by
    intro h1
    refine V_iconst (pc1 := 18) d2_isInArbitration_17 vc_1 rfl ?_
    refine V_goto (tgt := 22) d2_isInArbitration_18 (by decide) ?_
    exact key6 _ (by first | rfl | (simp only [if_neg h1]; done) | (simp only [if_neg h1]; rfl)) _ (lvsub_p [0] rfl)
  refine V_icmp_lt (tgt := 21) (pc1 := 8) d2_isInArbitration_5 (by decide) rfl (fun h4 => ?_) (fun h4 => ?_)
  · skip
    exact k2 (Or.inl h4)
  · skip
    refine V_aload_n (pc1 := 9) 0 d2_isInArbitration_8 rfl rfl ?_
    refine V_geti (pc1 := 12) (fb_l0 hk) (fb_b0 hk) f2_9 (fun _ => rfl) rfl d2_isInArbitration_9 rfl ?_
    refine V_bipush (pc1 := 14) d2_isInArbitration_12 vb_12 rfl ?_
    refine V_icmp_gt (tgt := 21) (pc1 := 17) d2_isInArbitration_14 (by decide) rfl (fun h5 => ?_) (fun h5 => ?_)
    · skip
      exact k2 (Or.inr h5)
    · skip
      exact k3 (fun z => z.elim h4 h5)
theorem w2_isInArbitration (g : GlT) {k : Nat} (hk : okG k) (I : Nat → Nat → Int32) (L : Nat → Nat → Int64) : Call g (k2_isInArbitration, 1, 0, 0) [.ref (xA g k)] (I, L, R0, 305) (Qi (bI (r2_isInArbitration k I L)) (I) L) := Call.of (by decide) (Nat.le_of_ble_eq_true rfl) rfl (v2_isInArbitration g hk   I L  _ (And.intro rfl rfl))

def r2_nextOf (k : Nat) (out : Int64) (I : Nat → Nat → Int32) (L : Nat → Nat → Int64) : Int32 := (if (r2_isInStuffedPart k I L) = true then (if (r2_isStuffBitDue k I L) = true then (1 : Int32) - (I k 6) else (if I k 1 ≤ I k 0 then ((I k 4) >>> (((((I k 1) + 15) - 1) - (I k 0)) &&& 31)) &&& 1 else (((out.toUInt64 >>> (((63 : Int32) - (I k 0)).toInt64.toUInt64 &&& Int64.toUInt64 63)).toInt64).toInt32) &&& 1)) else 1)
set_option maxRecDepth 4000 in
theorem v2_nextOf (g : GlT) {k : Nat} (hk : okG k) (out : Int64) (I : Nat → Nat → Int32) (L : Nat → Nat → Int64) (Q : Option Value → MemT → Prop) (hq : Q (some (.int (r2_nextOf k out I L))) (I, L, R0, 305)) : V g (k2_nextOf, 3, 0, 0) 0 0 0 [(0, .ref (xA g k)), (1, .long out)] [] (I, L, R0, 305) Q := by
  refine V_aload_n (pc1 := 1) 0 d2_nextOf_0 rfl rfl ?_
  refine V_vi (pc1 := 4) (w2_isInStuffedPart g hk   I L ) (fb_l0 hk) (fb_b0 hk) s2_isInStuffedPart l2_50 rfl rfl ⟨Nat.le_of_ble_eq_true rfl, Nat.le_of_ble_eq_true rfl, Nat.le_refl _, Nat.le_refl _⟩ (Nat.le_of_ble_eq_true rfl) rfl d2_nextOf_1 rfl ?_
  refine V_bne (tgt := 9) (pc1 := 7) d2_nextOf_4 (by decide) rfl (fun h1 => ?_) (fun h1 => ?_)
  · skip
    refine V_aload_n (pc1 := 10) 0 d2_nextOf_9 rfl rfl ?_
    refine V_vi (pc1 := 13) (w2_isStuffBitDue g hk   I L ) (fb_l0 hk) (fb_b0 hk) s2_isStuffBitDue l2_46 rfl rfl ⟨Nat.le_of_ble_eq_true rfl, Nat.le_of_ble_eq_true rfl, Nat.le_refl _, Nat.le_refl _⟩ (Nat.le_of_ble_eq_true rfl) rfl d2_nextOf_10 rfl ?_
    refine V_beq (tgt := 23) (pc1 := 16) d2_nextOf_13 (by decide) rfl (fun h2 => ?_) (fun h2 => ?_)
    · skip
      refine V_aload_n (pc1 := 24) 0 d2_nextOf_23 rfl rfl ?_
      refine V_geti (pc1 := 27) (fb_l0 hk) (fb_b0 hk) f2_9 (fun _ => rfl) rfl d2_nextOf_24 rfl ?_
      refine V_aload_n (pc1 := 28) 0 d2_nextOf_27 rfl rfl ?_
      refine V_geti (pc1 := 31) (fb_l0 hk) (fb_b0 hk) f2_15 (fun _ => rfl) rfl d2_nextOf_28 rfl ?_
      refine V_icmp_ge (tgt := 47) (pc1 := 34) d2_nextOf_31 (by decide) rfl (fun h3 => ?_) (fun h3 => ?_)
      · skip
        refine V_aload_n (pc1 := 48) 0 d2_nextOf_47 rfl rfl ?_
        refine V_geti (pc1 := 51) (fb_l0 hk) (fb_b0 hk) f2_25 (fun _ => rfl) rfl d2_nextOf_48 rfl ?_
        refine V_aload_n (pc1 := 52) 0 d2_nextOf_51 rfl rfl ?_
        refine V_geti (pc1 := 55) (fb_l0 hk) (fb_b0 hk) f2_15 (fun _ => rfl) rfl d2_nextOf_52 rfl ?_
        refine V_bipush (pc1 := 57) d2_nextOf_55 vb_15 rfl ?_
        refine V_iadd (pc1 := 58) d2_nextOf_57 rfl ?_
        refine V_iconst (pc1 := 59) d2_nextOf_58 vc_1 rfl ?_
        refine V_isub (pc1 := 60) d2_nextOf_59 rfl ?_
        refine V_aload_n (pc1 := 61) 0 d2_nextOf_60 rfl rfl ?_
        refine V_geti (pc1 := 64) (fb_l0 hk) (fb_b0 hk) f2_9 (fun _ => rfl) rfl d2_nextOf_61 rfl ?_
        refine V_isub (pc1 := 65) d2_nextOf_64 rfl ?_
        refine V_ishr (pc1 := 66) d2_nextOf_65 rfl ?_
        refine V_iconst (pc1 := 67) d2_nextOf_66 vc_1 rfl ?_
        refine V_iand (pc1 := 68) d2_nextOf_67 rfl ?_
        refine V_iret rfl d2_nextOf_68 (Nat.zero_le _) (Nat.zero_le _) ?_
        have hq2 := hq
        simp only [r2_nextOf, if_pos h1, if_neg h2, if_pos h3] at hq2
        exact hq2
      · skip
        refine V_lload_n (pc1 := 35) 1 d2_nextOf_34 rfl rfl ?_
        refine V_bipush (pc1 := 37) d2_nextOf_35 vb_63 rfl ?_
        refine V_aload_n (pc1 := 38) 0 d2_nextOf_37 rfl rfl ?_
        refine V_geti (pc1 := 41) (fb_l0 hk) (fb_b0 hk) f2_9 (fun _ => rfl) rfl d2_nextOf_38 rfl ?_
        refine V_isub (pc1 := 42) d2_nextOf_41 rfl ?_
        refine V_lushr (pc1 := 43) d2_nextOf_42 rfl ?_
        refine V_l2i (pc1 := 44) d2_nextOf_43 rfl ?_
        refine V_iconst (pc1 := 45) d2_nextOf_44 vc_1 rfl ?_
        refine V_iand (pc1 := 46) d2_nextOf_45 rfl ?_
        refine V_iret rfl d2_nextOf_46 (Nat.zero_le _) (Nat.zero_le _) ?_
        have hq2 := hq
        simp only [r2_nextOf, if_pos h1, if_neg h2, if_neg h3] at hq2
        exact hq2
    · skip
      refine V_iconst (pc1 := 17) d2_nextOf_16 vc_1 rfl ?_
      refine V_aload_n (pc1 := 18) 0 d2_nextOf_17 rfl rfl ?_
      refine V_geti (pc1 := 21) (fb_l0 hk) (fb_b0 hk) f2_31 (fun _ => rfl) rfl d2_nextOf_18 rfl ?_
      refine V_isub (pc1 := 22) d2_nextOf_21 rfl ?_
      refine V_iret rfl d2_nextOf_22 (Nat.zero_le _) (Nat.zero_le _) ?_
      have hq2 := hq
      simp only [r2_nextOf, if_pos h1, if_pos h2] at hq2
      exact hq2
  · skip
    refine V_iconst (pc1 := 8) d2_nextOf_7 vc_1 rfl ?_
    refine V_iret rfl d2_nextOf_8 (Nat.zero_le _) (Nat.zero_le _) ?_
    have hq2 := hq
    simp only [r2_nextOf, if_neg h1] at hq2
    exact hq2
theorem w2_nextOf (g : GlT) {k : Nat} (hk : okG k) (out : Int64) (I : Nat → Nat → Int32) (L : Nat → Nat → Int64) : Call g (k2_nextOf, 3, 0, 0) [.ref (xA g k), .long out] (I, L, R0, 305) (Qi (r2_nextOf k out I L) (I) L) := Call.of (by decide) (Nat.le_of_ble_eq_true rfl) rfl (v2_nextOf g hk out  I L  _ (And.intro rfl rfl))

def r2_isCrcRight (k : Nat) (I : Nat → Nat → Int32) (L : Nat → Nat → Int64) : Bool := (if I k 5 = I k 4 then true else false)
set_option maxRecDepth 4000 in
theorem v2_isCrcRight (g : GlT) {k : Nat} (hk : okG k) (I : Nat → Nat → Int32) (L : Nat → Nat → Int64) (Q : Option Value → MemT → Prop) (hq : Q (some (.int (bI (r2_isCrcRight k I L)))) (I, L, R0, 305)) : V g (k2_isCrcRight, 1, 0, 0) 0 0 0 [(0, .ref (xA g k))] [] (I, L, R0, 305) Q := by
  refine V_aload_n (pc1 := 1) 0 d2_isCrcRight_0 rfl rfl ?_
  refine V_geti (pc1 := 4) (fb_l0 hk) (fb_b0 hk) f2_28 (fun _ => rfl) rfl d2_isCrcRight_1 rfl ?_
  refine V_aload_n (pc1 := 5) 0 d2_isCrcRight_4 rfl rfl ?_
  refine V_geti (pc1 := 8) (fb_l0 hk) (fb_b0 hk) f2_25 (fun _ => rfl) rfl d2_isCrcRight_5 rfl ?_
  have key2 : ∀ (y16_0 : Int32), y16_0 = bI (if I k 5 = I k 4 then true else false) → ∀ (lv : List (Nat × Value)), lvsub [(0, .ref (xA g k))] lv → V g (k2_isCrcRight, 1, 0, 0) 0 0 16 lv [.int y16_0] (I, L, R0, 305) Q := by
    intro y16_0 ey16_0
    subst ey16_0
    intro lv hlv
    refine V_lv hlv ?_
    refine V_zret rfl (bI_or _) d2_isCrcRight_16 (Nat.zero_le _) (Nat.zero_le _) ?_
    have hq2 := hq
    simp only [r2_isCrcRight] at hq2
    exact hq2
  refine V_icmp_ne (tgt := 15) (pc1 := 11) d2_isCrcRight_8 (by decide) rfl (fun h1 => ?_) (fun h1 => ?_)
  · skip
    refine V_iconst (pc1 := 16) d2_isCrcRight_15 vc_0 rfl ?_
    exact key2 _ (by first | rfl | (simp only [if_neg h1]; done) | (simp only [if_neg h1]; rfl)) _ (lvsub_p [0] rfl)
  · skip
    refine V_iconst (pc1 := 12) d2_isCrcRight_11 vc_1 rfl ?_
    refine V_goto (tgt := 16) d2_isCrcRight_12 (by decide) ?_
    exact key2 _ (by first | rfl | (simp only [if_pos h1]; done) | (simp only [if_pos h1]; rfl)) _ (lvsub_p [0] rfl)
theorem w2_isCrcRight (g : GlT) {k : Nat} (hk : okG k) (I : Nat → Nat → Int32) (L : Nat → Nat → Int64) : Call g (k2_isCrcRight, 1, 0, 0) [.ref (xA g k)] (I, L, R0, 305) (Qi (bI (r2_isCrcRight k I L)) (I) L) := Call.of (by decide) (Nat.le_of_ble_eq_true rfl) rfl (v2_isCrcRight g hk   I L  _ (And.intro rfl rfl))

def r2_nextOfReceiver (k : Nat) (I : Nat → Nat → Int32) (L : Nat → Nat → Int64) : Int32 := bI (if (¬ (I k 8 = 1)) ∨ (¬ ((r2_isCrcRight k I L) = true)) then true else false)
set_option maxRecDepth 4000 in
theorem v2_nextOfReceiver (g : GlT) {k : Nat} (hk : okG k) (I : Nat → Nat → Int32) (L : Nat → Nat → Int64) (Q : Option Value → MemT → Prop) (hq : Q (some (.int (r2_nextOfReceiver k I L))) (I, L, R0, 305)) : V g (k2_nextOfReceiver, 2, 0, 0) 0 0 0 [(0, .ref (xA g k))] [] (I, L, R0, 305) Q := by
  refine V_aload_n (pc1 := 1) 0 d2_nextOfReceiver_0 rfl rfl ?_
  refine V_geti (pc1 := 4) (fb_l0 hk) (fb_b0 hk) f2_37 (fun _ => rfl) rfl d2_nextOfReceiver_1 rfl ?_
  refine V_iconst (pc1 := 5) d2_nextOfReceiver_4 vc_1 rfl ?_
  have key6 : ∀ (y20_0 : Int32), y20_0 = bI (if (¬ (I k 8 = 1)) ∨ (¬ ((r2_isCrcRight k I L) = true)) then true else false) → ∀ (lv : List (Nat × Value)), lvsub [(0, .ref (xA g k))] lv → V g (k2_nextOfReceiver, 2, 0, 0) 0 0 20 lv [.int y20_0] (I, L, R0, 305) Q := by
    intro y20_0 ey20_0
    subst ey20_0
    intro lv hlv
    refine V_lv hlv ?_
    refine V_iret rfl d2_nextOfReceiver_20 (Nat.zero_le _) (Nat.zero_le _) ?_
    have hq2 := hq
    simp only [r2_nextOfReceiver] at hq2
    exact hq2
  have k2 : ((¬ (I k 8 = 1)) ∨ (¬ ((r2_isCrcRight k I L) = true))) → V g (k2_nextOfReceiver, 2, 0, 0) 0 0 19 [(0, .ref (xA g k))] [] (I, L, R0, 305) Q := by
    intro h1
    refine V_iconst (pc1 := 20) d2_nextOfReceiver_19 vc_1 rfl ?_
    exact key6 _ (by first | rfl | (simp only [if_pos h1]; done) | (simp only [if_pos h1]; rfl)) _ (lvsub_p [0] rfl)
  have k3 : ¬ ((¬ (I k 8 = 1)) ∨ (¬ ((r2_isCrcRight k I L) = true))) → V g (k2_nextOfReceiver, 2, 0, 0) 0 0 15 [(0, .ref (xA g k))] [] (I, L, R0, 305) Q := by
    intro h1
    refine V_iconst (pc1 := 16) d2_nextOfReceiver_15 vc_0 rfl ?_
    refine V_goto (tgt := 20) d2_nextOfReceiver_16 (by decide) ?_
    exact key6 _ (by first | rfl | (simp only [if_neg h1]; done) | (simp only [if_neg h1]; rfl)) _ (lvsub_p [0] rfl)
  refine V_icmp_ne (tgt := 19) (pc1 := 8) d2_nextOfReceiver_5 (by decide) rfl (fun h4 => ?_) (fun h4 => ?_)
  · skip
    exact k2 (Or.inl h4)
  · skip
    refine V_aload_n (pc1 := 9) 0 d2_nextOfReceiver_8 rfl rfl ?_
    refine V_vi (pc1 := 12) (w2_isCrcRight g hk   I L ) (fb_l0 hk) (fb_b0 hk) s2_isCrcRight l2_53 rfl rfl ⟨Nat.le_of_ble_eq_true rfl, Nat.le_of_ble_eq_true rfl, Nat.le_refl _, Nat.le_refl _⟩ (Nat.le_of_ble_eq_true rfl) rfl d2_nextOfReceiver_9 rfl ?_
    refine V_beq (tgt := 19) (pc1 := 15) d2_nextOfReceiver_12 (by decide) rfl (fun h5 => ?_) (fun h5 => ?_)
    · skip
      exact k2 (Or.inr h5)
    · skip
      exact k3 (fun z => z.elim (fun z => z h4) (fun z => z h5))
theorem w2_nextOfReceiver (g : GlT) {k : Nat} (hk : okG k) (I : Nat → Nat → Int32) (L : Nat → Nat → Int64) : Call g (k2_nextOfReceiver, 2, 0, 0) [.ref (xA g k)] (I, L, R0, 305) (Qi (r2_nextOfReceiver k I L) (I) L) := Call.of (by decide) (Nat.le_of_ble_eq_true rfl) rfl (v2_nextOfReceiver g hk   I L  _ (And.intro rfl rfl))

def i2_takeStuffBit (k : Nat) (x : Int32) (I : Nat → Nat → Int32) (L : Nat → Nat → Int64) : Nat → Nat → Int32 := uI (uI I k 7 1) k 6 x
set_option maxRecDepth 4000 in
theorem v2_takeStuffBit (g : GlT) {k : Nat} (hk : okG k) (x : Int32) (I : Nat → Nat → Int32) (L : Nat → Nat → Int64) (Q : Option Value → MemT → Prop) (hq : Q (none) (i2_takeStuffBit k x I L, L, R0, 305)) : V g (k2_takeStuffBit, 1, 0, 0) 0 0 0 [(0, .ref (xA g k)), (1, .int x)] [] (I, L, R0, 305) Q := by
  refine V_aload_n (pc1 := 1) 0 d2_takeStuffBit_0 rfl rfl ?_
  refine V_iconst (pc1 := 2) d2_takeStuffBit_1 vc_1 rfl ?_
  refine V_puti (pc1 := 5) (fb_l0 hk) (fb_b0 hk) f2_34 rfl rfl d2_takeStuffBit_2 rfl ?_
  refine V_aload_n (pc1 := 6) 0 d2_takeStuffBit_5 rfl rfl ?_
  refine V_iload_n (pc1 := 7) 1 d2_takeStuffBit_6 rfl rfl ?_
  refine V_puti (pc1 := 10) (fb_l0 hk) (fb_b0 hk) f2_31 rfl rfl d2_takeStuffBit_7 rfl ?_
  refine V_vret rfl d2_takeStuffBit_10 (Nat.zero_le _) (Nat.zero_le _) ?_
  have hq2 := hq
  simp only [i2_takeStuffBit] at hq2
  exact hq2
theorem w2_takeStuffBit (g : GlT) {k : Nat} (hk : okG k) (x : Int32) (I : Nat → Nat → Int32) (L : Nat → Nat → Int64) : Call g (k2_takeStuffBit, 1, 0, 0) [.ref (xA g k), .int x] (I, L, R0, 305) (Qv (i2_takeStuffBit k x I L) L) := Call.of (by decide) (Nat.le_of_ble_eq_true rfl) rfl (v2_takeStuffBit g hk x  I L  _ (And.intro rfl rfl))
theorem x2_takeStuffBit {k : Nat} {x : Int32} {I : Nat → Nat → Int32} {L : Nat → Nat → Int64} {aa : Nat} (h0 : aa ≠ k) : i2_takeStuffBit k x I L aa = I aa := by
  first | (simp only [i2_takeStuffBit]; done) | (simp only [i2_takeStuffBit]; (try (repeat' split)) <;> first | rfl | (simp [uI_off, h0]; done))

def r2_sampledKey (k : Nat) (I : Nat → Nat → Int32) (L : Nat → Nat → Int64) : Int32 := ((I k 3) >>> (6 &&& 31)) &&& 4095
set_option maxRecDepth 4000 in
theorem v2_sampledKey (g : GlT) {k : Nat} (hk : okG k) (I : Nat → Nat → Int32) (L : Nat → Nat → Int64) (Q : Option Value → MemT → Prop) (hq : Q (some (.int (r2_sampledKey k I L))) (I, L, R0, 305)) : V g (k2_sampledKey, 1, 0, 0) 0 0 0 [(0, .ref (xA g k))] [] (I, L, R0, 305) Q := by
  refine V_aload_n (pc1 := 1) 0 d2_sampledKey_0 rfl rfl ?_
  refine V_geti (pc1 := 4) (fb_l0 hk) (fb_b0 hk) f2_22 (fun _ => rfl) rfl d2_sampledKey_1 rfl ?_
  refine V_bipush (pc1 := 6) d2_sampledKey_4 vb_6 rfl ?_
  refine V_ishr (pc1 := 7) d2_sampledKey_6 rfl ?_
  refine V_sipush (pc1 := 10) d2_sampledKey_7 vs_4095 rfl ?_
  refine V_iand (pc1 := 11) d2_sampledKey_10 rfl ?_
  refine V_iret rfl d2_sampledKey_11 (Nat.zero_le _) (Nat.zero_le _) ?_
  have hq2 := hq
  simp only [r2_sampledKey] at hq2
  exact hq2
theorem w2_sampledKey (g : GlT) {k : Nat} (hk : okG k) (I : Nat → Nat → Int32) (L : Nat → Nat → Int64) : Call g (k2_sampledKey, 1, 0, 0) [.ref (xA g k)] (I, L, R0, 305) (Qi (r2_sampledKey k I L) (I) L) := Call.of (by decide) (Nat.le_of_ble_eq_true rfl) rfl (v2_sampledKey g hk   I L  _ (And.intro rfl rfl))

def r2_sampledLength (k : Nat) (I : Nat → Nat → Int32) (L : Nat → Nat → Int64) : Int32 := (I k 3) &&& 15
set_option maxRecDepth 4000 in
theorem v2_sampledLength (g : GlT) {k : Nat} (hk : okG k) (I : Nat → Nat → Int32) (L : Nat → Nat → Int64) (Q : Option Value → MemT → Prop) (hq : Q (some (.int (r2_sampledLength k I L))) (I, L, R0, 305)) : V g (k2_sampledLength, 1, 0, 0) 0 0 0 [(0, .ref (xA g k))] [] (I, L, R0, 305) Q := by
  refine V_aload_n (pc1 := 1) 0 d2_sampledLength_0 rfl rfl ?_
  refine V_geti (pc1 := 4) (fb_l0 hk) (fb_b0 hk) f2_22 (fun _ => rfl) rfl d2_sampledLength_1 rfl ?_
  refine V_bipush (pc1 := 6) d2_sampledLength_4 vb_15 rfl ?_
  refine V_iand (pc1 := 7) d2_sampledLength_6 rfl ?_
  refine V_iret rfl d2_sampledLength_7 (Nat.zero_le _) (Nat.zero_le _) ?_
  have hq2 := hq
  simp only [r2_sampledLength] at hq2
  exact hq2
theorem w2_sampledLength (g : GlT) {k : Nat} (hk : okG k) (I : Nat → Nat → Int32) (L : Nat → Nat → Int64) : Call g (k2_sampledLength, 1, 0, 0) [.ref (xA g k)] (I, L, R0, 305) (Qi (r2_sampledLength k I L) (I) L) := Call.of (by decide) (Nat.le_of_ble_eq_true rfl) rfl (v2_sampledLength g hk   I L  _ (And.intro rfl rfl))

def i2_takeBasicBit (k : Nat) (x : Int32) (I : Nat → Nat → Int32) (L : Nat → Nat → Int64) : Nat → Nat → Int32 := (if I k 0 < I k 1 then (if (I k 0) + 1 = 19 then uI (uI (uI (uI (uI (uI I k 7 (if x = I k 6 then (I k 7) + 1 else 1)) k 6 x) k 4 ((((I k 4) <<< (1 &&& 31)) &&& 32767) ^^^ (nI (if x ^^^ (((I k 4) >>> (14 &&& 31)) &&& 1) = 1 then 17817 else 0)))) k 0 ((I k 0) + 1)) k 3 ((((L k 2) <<< ((1 : Int32).toInt64 &&& 63)) ||| x.toInt64).toInt32)) k 1 ((19 : Int32) + (r2_dataBitsOf (r2_sampledKey k (uI (uI (uI (uI (uI I k 7 (if x = I k 6 then (I k 7) + 1 else 1)) k 6 x) k 4 ((((I k 4) <<< (1 &&& 31)) &&& 32767) ^^^ (nI (if x ^^^ (((I k 4) >>> (14 &&& 31)) &&& 1) = 1 then 17817 else 0)))) k 0 ((I k 0) + 1)) k 3 ((((L k 2) <<< ((1 : Int32).toInt64 &&& 63)) ||| x.toInt64).toInt32)) (uL L k 2 (((L k 2) <<< ((1 : Int32).toInt64 &&& 63)) ||| x.toInt64))) (r2_sampledLength k (uI (uI (uI (uI (uI I k 7 (if x = I k 6 then (I k 7) + 1 else 1)) k 6 x) k 4 ((((I k 4) <<< (1 &&& 31)) &&& 32767) ^^^ (nI (if x ^^^ (((I k 4) >>> (14 &&& 31)) &&& 1) = 1 then 17817 else 0)))) k 0 ((I k 0) + 1)) k 3 ((((L k 2) <<< ((1 : Int32).toInt64 &&& 63)) ||| x.toInt64).toInt32)) (uL L k 2 (((L k 2) <<< ((1 : Int32).toInt64 &&& 63)) ||| x.toInt64))))) else uI (uI (uI (uI I k 7 (if x = I k 6 then (I k 7) + 1 else 1)) k 6 x) k 4 ((((I k 4) <<< (1 &&& 31)) &&& 32767) ^^^ (nI (if x ^^^ (((I k 4) >>> (14 &&& 31)) &&& 1) = 1 then 17817 else 0)))) k 0 ((I k 0) + 1)) else uI (uI (uI (uI I k 7 (if x = I k 6 then (I k 7) + 1 else 1)) k 6 x) k 5 (((I k 5) <<< (1 &&& 31)) ||| x)) k 0 ((I k 0) + 1))
def m2_takeBasicBit (k : Nat) (x : Int32) (I : Nat → Nat → Int32) (L : Nat → Nat → Int64) : Nat → Nat → Int64 := (if I k 0 < I k 1 then uL L k 2 (((L k 2) <<< ((1 : Int32).toInt64 &&& 63)) ||| x.toInt64) else L)
set_option maxRecDepth 4000 in
theorem v2_takeBasicBit (g : GlT) {k : Nat} (hk : okG k) (x : Int32) (I : Nat → Nat → Int32) (L : Nat → Nat → Int64) (Q : Option Value → MemT → Prop) (hq : Q (none) (i2_takeBasicBit k x I L, m2_takeBasicBit k x I L, R0, 305)) : V g (k2_takeBasicBit, 2, 0, 0) 0 0 0 [(0, .ref (xA g k)), (1, .int x)] [] (I, L, R0, 305) Q := by
  refine V_aload_n (pc1 := 1) 0 d2_takeBasicBit_0 rfl rfl ?_
  refine V_iload_n (pc1 := 2) 1 d2_takeBasicBit_1 rfl rfl ?_
  refine V_aload_n (pc1 := 3) 0 d2_takeBasicBit_2 rfl rfl ?_
  refine V_geti (pc1 := 6) (fb_l0 hk) (fb_b0 hk) f2_31 (fun _ => rfl) rfl d2_takeBasicBit_3 rfl ?_
  have key2 : ∀ (y19_0 : Int32), y19_0 = (if x = I k 6 then (I k 7) + 1 else 1) → ∀ (lv : List (Nat × Value)), lvsub [(0, .ref (xA g k)), (1, .int x)] lv → V g (k2_takeBasicBit, 2, 0, 0) 0 0 19 lv [.int y19_0, .ref (xA g k)] (I, L, R0, 305) Q := by
    intro y19_0 ey19_0
    subst ey19_0
    intro lv hlv
    refine V_lv hlv ?_
    refine V_puti (pc1 := 22) (fb_l0 hk) (fb_b0 hk) f2_34 rfl rfl d2_takeBasicBit_19 rfl ?_
    refine V_aload_n (pc1 := 23) 0 d2_takeBasicBit_22 rfl rfl ?_
    refine V_iload_n (pc1 := 24) 1 d2_takeBasicBit_23 rfl rfl ?_
    refine V_puti (pc1 := 27) (fb_l0 hk) (fb_b0 hk) f2_31 rfl rfl d2_takeBasicBit_24 rfl ?_
    refine V_aload_n (pc1 := 28) 0 d2_takeBasicBit_27 rfl rfl ?_
    refine V_geti (pc1 := 31) (fb_l0 hk) (fb_b0 hk) f2_9 (fun _ => rfl) ((uI_ne _ _ _ (show (0 : Nat) ≠ 6 by decide)).trans (uI_ne _ _ _ (show (0 : Nat) ≠ 7 by decide))) d2_takeBasicBit_28 rfl ?_
    refine V_aload_n (pc1 := 32) 0 d2_takeBasicBit_31 rfl rfl ?_
    refine V_geti (pc1 := 35) (fb_l0 hk) (fb_b0 hk) f2_15 (fun _ => rfl) ((uI_ne _ _ _ (show (1 : Nat) ≠ 6 by decide)).trans (uI_ne _ _ _ (show (1 : Nat) ≠ 7 by decide))) d2_takeBasicBit_32 rfl ?_
    refine V_icmp_lt (tgt := 61) (pc1 := 38) d2_takeBasicBit_35 (by decide) rfl (fun h3 => ?_) (fun h3 => ?_)
    · skip
      refine V_aload_n (pc1 := 62) 0 d2_takeBasicBit_61 rfl rfl ?_
      refine V_aload_n (pc1 := 63) 0 d2_takeBasicBit_62 rfl rfl ?_
      refine V_getl (pc1 := 66) (fb_l0 hk) (fb_b0 hk) f2_18 (fun _ => rfl) rfl d2_takeBasicBit_63 rfl ?_
      refine V_iconst (pc1 := 67) d2_takeBasicBit_66 vc_1 rfl ?_
      refine V_lshl (pc1 := 68) d2_takeBasicBit_67 rfl ?_
      refine V_iload_n (pc1 := 69) 1 d2_takeBasicBit_68 rfl rfl ?_
      refine V_i2l (pc1 := 70) d2_takeBasicBit_69 rfl ?_
      refine V_lor (pc1 := 71) d2_takeBasicBit_70 rfl ?_
      refine V_putl (pc1 := 74) (fb_l0 hk) (fb_b0 hk) f2_18 rfl rfl d2_takeBasicBit_71 rfl ?_
      refine V_iload_n (pc1 := 75) 1 d2_takeBasicBit_74 rfl rfl ?_
      refine V_aload_n (pc1 := 76) 0 d2_takeBasicBit_75 rfl rfl ?_
      refine V_geti (pc1 := 79) (fb_l0 hk) (fb_b0 hk) f2_25 (fun _ => rfl) ((uI_ne _ _ _ (show (4 : Nat) ≠ 6 by decide)).trans (uI_ne _ _ _ (show (4 : Nat) ≠ 7 by decide))) d2_takeBasicBit_76 rfl ?_
      refine V_bipush (pc1 := 81) d2_takeBasicBit_79 vb_14 rfl ?_
      refine V_ishr (pc1 := 82) d2_takeBasicBit_81 rfl ?_
      refine V_iconst (pc1 := 83) d2_takeBasicBit_82 vc_1 rfl ?_
      refine V_iand (pc1 := 84) d2_takeBasicBit_83 rfl ?_
      refine V_ixor (pc1 := 85) d2_takeBasicBit_84 rfl ?_
      refine V_istore_n (pc1 := 86) d2_takeBasicBit_85 (Nat.le_of_ble_eq_true rfl) rfl rfl ?_
      refine V_aload_n (pc1 := 87) 1 d2_takeBasicBit_86 rfl rfl ?_
      refine V_aload_n (pc1 := 88) 1 d2_takeBasicBit_87 rfl rfl ?_
      refine V_geti (pc1 := 91) (fb_l0 hk) (fb_b0 hk) f2_25 (fun _ => rfl) ((uI_ne _ _ _ (show (4 : Nat) ≠ 6 by decide)).trans (uI_ne _ _ _ (show (4 : Nat) ≠ 7 by decide))) d2_takeBasicBit_88 rfl ?_
      refine V_iconst (pc1 := 92) d2_takeBasicBit_91 vc_1 rfl ?_
      refine V_ishl (pc1 := 93) d2_takeBasicBit_92 rfl ?_
      refine V_sipush (pc1 := 96) d2_takeBasicBit_93 vs_32767 rfl ?_
      refine V_iand (pc1 := 97) d2_takeBasicBit_96 rfl ?_
      refine V_iload_n (pc1 := 98) 0 d2_takeBasicBit_97 rfl rfl ?_
      refine V_iconst (pc1 := 99) d2_takeBasicBit_98 vc_1 rfl ?_
      have key5 : ∀ (y109_0 : Int32), y109_0 = nI (if x ^^^ (((I k 4) >>> (14 &&& 31)) &&& 1) = 1 then 17817 else 0) → ∀ (lv : List (Nat × Value)), lvsub [(2, .int (x ^^^ (((I k 4) >>> (14 &&& 31)) &&& 1))), (0, .ref (xA g k)), (1, .int x)] lv → V g (k2_takeBasicBit, 2, 0, 0) 0 0 109 lv [.int y109_0, .int (((I k 4) <<< (1 &&& 31)) &&& 32767), .ref (xA g k)] (uI (uI I k 7 (if x = I k 6 then (I k 7) + 1 else 1)) k 6 x, uL L k 2 (((L k 2) <<< ((1 : Int32).toInt64 &&& 63)) ||| x.toInt64), R0, 305) Q := by
        intro y109_0 ey109_0
        subst ey109_0
        intro lv hlv
        refine V_lv hlv ?_
        refine V_ixor (pc1 := 110) d2_takeBasicBit_109 rfl ?_
        refine V_puti (pc1 := 113) (fb_l0 hk) (fb_b0 hk) f2_25 rfl rfl d2_takeBasicBit_110 rfl ?_
        refine V_aload_n (pc1 := 114) 1 d2_takeBasicBit_113 rfl rfl ?_
        refine V_dup (pc1 := 115) d2_takeBasicBit_114 rfl rfl ?_
        refine V_geti (pc1 := 118) (fb_l0 hk) (fb_b0 hk) f2_9 (fun _ => rfl) ((uI_ne _ _ _ (show (0 : Nat) ≠ 4 by decide)).trans ((uI_ne _ _ _ (show (0 : Nat) ≠ 6 by decide)).trans (uI_ne _ _ _ (show (0 : Nat) ≠ 7 by decide)))) d2_takeBasicBit_115 rfl ?_
        refine V_iconst (pc1 := 119) d2_takeBasicBit_118 vc_1 rfl ?_
        refine V_iadd (pc1 := 120) d2_takeBasicBit_119 rfl ?_
        refine V_puti (pc1 := 123) (fb_l0 hk) (fb_b0 hk) f2_9 rfl rfl d2_takeBasicBit_120 rfl ?_
        refine V_aload_n (pc1 := 124) 1 d2_takeBasicBit_123 rfl rfl ?_
        refine V_geti (pc1 := 127) (fb_l0 hk) (fb_b0 hk) f2_9 (fun _ => rfl) (uI_self _ _ _ _) d2_takeBasicBit_124 rfl ?_
        refine V_bipush (pc1 := 129) d2_takeBasicBit_127 vb_19 rfl ?_
        have key7 : ∀ (zI159 : Nat → Nat → Int32), zI159 = (if (I k 0) + 1 = 19 then uI (uI (uI (uI (uI (uI I k 7 (if x = I k 6 then (I k 7) + 1 else 1)) k 6 x) k 4 ((((I k 4) <<< (1 &&& 31)) &&& 32767) ^^^ (nI (if x ^^^ (((I k 4) >>> (14 &&& 31)) &&& 1) = 1 then 17817 else 0)))) k 0 ((I k 0) + 1)) k 3 ((((L k 2) <<< ((1 : Int32).toInt64 &&& 63)) ||| x.toInt64).toInt32)) k 1 ((19 : Int32) + (r2_dataBitsOf (r2_sampledKey k (uI (uI (uI (uI (uI I k 7 (if x = I k 6 then (I k 7) + 1 else 1)) k 6 x) k 4 ((((I k 4) <<< (1 &&& 31)) &&& 32767) ^^^ (nI (if x ^^^ (((I k 4) >>> (14 &&& 31)) &&& 1) = 1 then 17817 else 0)))) k 0 ((I k 0) + 1)) k 3 ((((L k 2) <<< ((1 : Int32).toInt64 &&& 63)) ||| x.toInt64).toInt32)) (uL L k 2 (((L k 2) <<< ((1 : Int32).toInt64 &&& 63)) ||| x.toInt64))) (r2_sampledLength k (uI (uI (uI (uI (uI I k 7 (if x = I k 6 then (I k 7) + 1 else 1)) k 6 x) k 4 ((((I k 4) <<< (1 &&& 31)) &&& 32767) ^^^ (nI (if x ^^^ (((I k 4) >>> (14 &&& 31)) &&& 1) = 1 then 17817 else 0)))) k 0 ((I k 0) + 1)) k 3 ((((L k 2) <<< ((1 : Int32).toInt64 &&& 63)) ||| x.toInt64).toInt32)) (uL L k 2 (((L k 2) <<< ((1 : Int32).toInt64 &&& 63)) ||| x.toInt64))))) else uI (uI (uI (uI I k 7 (if x = I k 6 then (I k 7) + 1 else 1)) k 6 x) k 4 ((((I k 4) <<< (1 &&& 31)) &&& 32767) ^^^ (nI (if x ^^^ (((I k 4) >>> (14 &&& 31)) &&& 1) = 1 then 17817 else 0)))) k 0 ((I k 0) + 1)) → ∀ (lv : List (Nat × Value)), lvsub [(2, .int (x ^^^ (((I k 4) >>> (14 &&& 31)) &&& 1))), (0, .ref (xA g k)), (1, .int x)] lv → V g (k2_takeBasicBit, 2, 0, 0) 0 0 159 lv [] (zI159, uL L k 2 (((L k 2) <<< ((1 : Int32).toInt64 &&& 63)) ||| x.toInt64), R0, 305) Q := by
          intro zI159 ezI159
          subst ezI159
          intro lv hlv
          refine V_lv hlv ?_
          refine V_vret rfl d2_takeBasicBit_159 (Nat.zero_le _) (Nat.zero_le _) ?_
          have hq2 := hq
          simp only [i2_takeBasicBit, m2_takeBasicBit, if_pos h3] at hq2
          exact hq2
        refine V_icmp_ne (tgt := 159) (pc1 := 132) d2_takeBasicBit_129 (by decide) rfl (fun h6 => ?_) (fun h6 => ?_)
        · skip
          exact key7 _ (by first | rfl | (simp only [if_neg h6]; done) | (simp only [if_neg h6]; rfl)) _ (lvsub_p [0, 1, 2] rfl)
        · skip
          refine V_aload_n (pc1 := 133) 1 d2_takeBasicBit_132 rfl rfl ?_
          refine V_aload_n (pc1 := 134) 1 d2_takeBasicBit_133 rfl rfl ?_
          refine V_getl (pc1 := 137) (fb_l0 hk) (fb_b0 hk) f2_18 (fun _ => rfl) (uL_self _ _ _ _) d2_takeBasicBit_134 rfl ?_
          refine V_l2i (pc1 := 138) d2_takeBasicBit_137 rfl ?_
          refine V_puti (pc1 := 141) (fb_l0 hk) (fb_b0 hk) f2_22 rfl rfl d2_takeBasicBit_138 rfl ?_
          refine V_aload_n (pc1 := 142) 1 d2_takeBasicBit_141 rfl rfl ?_
          refine V_bipush (pc1 := 144) d2_takeBasicBit_142 vb_19 rfl ?_
          refine V_aload_n (pc1 := 145) 1 d2_takeBasicBit_144 rfl rfl ?_
          refine V_vi (pc1 := 148) (w2_sampledKey g hk   (uI (uI (uI (uI (uI I k 7 (if x = I k 6 then (I k 7) + 1 else 1)) k 6 x) k 4 ((((I k 4) <<< (1 &&& 31)) &&& 32767) ^^^ (nI (if x ^^^ (((I k 4) >>> (14 &&& 31)) &&& 1) = 1 then 17817 else 0)))) k 0 ((I k 0) + 1)) k 3 ((((L k 2) <<< ((1 : Int32).toInt64 &&& 63)) ||| x.toInt64).toInt32)) (uL L k 2 (((L k 2) <<< ((1 : Int32).toInt64 &&& 63)) ||| x.toInt64)) ) (fb_l0 hk) (fb_b0 hk) s2_sampledKey l2_56 rfl rfl ⟨Nat.le_of_ble_eq_true rfl, Nat.le_of_ble_eq_true rfl, Nat.le_refl _, Nat.le_refl _⟩ (Nat.le_of_ble_eq_true rfl) rfl d2_takeBasicBit_145 rfl ?_
          refine V_aload_n (pc1 := 149) 1 d2_takeBasicBit_148 rfl rfl ?_
          refine V_vi (pc1 := 152) (w2_sampledLength g hk   (uI (uI (uI (uI (uI I k 7 (if x = I k 6 then (I k 7) + 1 else 1)) k 6 x) k 4 ((((I k 4) <<< (1 &&& 31)) &&& 32767) ^^^ (nI (if x ^^^ (((I k 4) >>> (14 &&& 31)) &&& 1) = 1 then 17817 else 0)))) k 0 ((I k 0) + 1)) k 3 ((((L k 2) <<< ((1 : Int32).toInt64 &&& 63)) ||| x.toInt64).toInt32)) (uL L k 2 (((L k 2) <<< ((1 : Int32).toInt64 &&& 63)) ||| x.toInt64)) ) (fb_l0 hk) (fb_b0 hk) s2_sampledLength l2_60 rfl rfl ⟨Nat.le_of_ble_eq_true rfl, Nat.le_of_ble_eq_true rfl, Nat.le_refl _, Nat.le_refl _⟩ (Nat.le_of_ble_eq_true rfl) rfl d2_takeBasicBit_149 rfl ?_
          refine V_si (pc1 := 155) (w2_dataBitsOf g  (r2_sampledKey k (uI (uI (uI (uI (uI I k 7 (if x = I k 6 then (I k 7) + 1 else 1)) k 6 x) k 4 ((((I k 4) <<< (1 &&& 31)) &&& 32767) ^^^ (nI (if x ^^^ (((I k 4) >>> (14 &&& 31)) &&& 1) = 1 then 17817 else 0)))) k 0 ((I k 0) + 1)) k 3 ((((L k 2) <<< ((1 : Int32).toInt64 &&& 63)) ||| x.toInt64).toInt32)) (uL L k 2 (((L k 2) <<< ((1 : Int32).toInt64 &&& 63)) ||| x.toInt64))) (r2_sampledLength k (uI (uI (uI (uI (uI I k 7 (if x = I k 6 then (I k 7) + 1 else 1)) k 6 x) k 4 ((((I k 4) <<< (1 &&& 31)) &&& 32767) ^^^ (nI (if x ^^^ (((I k 4) >>> (14 &&& 31)) &&& 1) = 1 then 17817 else 0)))) k 0 ((I k 0) + 1)) k 3 ((((L k 2) <<< ((1 : Int32).toInt64 &&& 63)) ||| x.toInt64).toInt32)) (uL L k 2 (((L k 2) <<< ((1 : Int32).toInt64 &&& 63)) ||| x.toInt64)))  (uI (uI (uI (uI (uI I k 7 (if x = I k 6 then (I k 7) + 1 else 1)) k 6 x) k 4 ((((I k 4) <<< (1 &&& 31)) &&& 32767) ^^^ (nI (if x ^^^ (((I k 4) >>> (14 &&& 31)) &&& 1) = 1 then 17817 else 0)))) k 0 ((I k 0) + 1)) k 3 ((((L k 2) <<< ((1 : Int32).toInt64 &&& 63)) ||| x.toInt64).toInt32)) (uL L k 2 (((L k 2) <<< ((1 : Int32).toInt64 &&& 63)) ||| x.toInt64)) ) s2_dataBitsOf l2_40 rfl rfl ⟨Nat.le_of_ble_eq_true rfl, Nat.le_of_ble_eq_true rfl, Nat.le_refl _, Nat.le_refl _⟩ (Nat.le_of_ble_eq_true rfl) rfl d2_takeBasicBit_152 rfl ?_
          refine V_iadd (pc1 := 156) d2_takeBasicBit_155 rfl ?_
          refine V_puti (pc1 := 159) (fb_l0 hk) (fb_b0 hk) f2_15 rfl rfl d2_takeBasicBit_156 rfl ?_
          exact key7 _ (by first | rfl | (simp only [if_pos h6]; done) | (simp only [if_pos h6]; rfl)) _ (lvsub_p [0, 1, 2] rfl)
      refine V_icmp_ne (tgt := 108) (pc1 := 102) d2_takeBasicBit_99 (by decide) rfl (fun h4 => ?_) (fun h4 => ?_)
      · skip
        refine V_iconst (pc1 := 109) d2_takeBasicBit_108 vc_0 rfl ?_
        exact key5 _ (by first | rfl | (simp only [if_neg h4]; done) | (simp only [if_neg h4]; rfl)) _ (lvsub_p [0, 1, 2] rfl)
      · skip
        refine V_sipush (pc1 := 105) d2_takeBasicBit_102 vs_17817 rfl ?_
        refine V_goto (tgt := 109) d2_takeBasicBit_105 (by decide) ?_
        exact key5 _ (by first | rfl | (simp only [if_pos h4]; done) | (simp only [if_pos h4]; rfl)) _ (lvsub_p [0, 1, 2] rfl)
    · skip
      refine V_aload_n (pc1 := 39) 0 d2_takeBasicBit_38 rfl rfl ?_
      refine V_aload_n (pc1 := 40) 0 d2_takeBasicBit_39 rfl rfl ?_
      refine V_geti (pc1 := 43) (fb_l0 hk) (fb_b0 hk) f2_28 (fun _ => rfl) ((uI_ne _ _ _ (show (5 : Nat) ≠ 6 by decide)).trans (uI_ne _ _ _ (show (5 : Nat) ≠ 7 by decide))) d2_takeBasicBit_40 rfl ?_
      refine V_iconst (pc1 := 44) d2_takeBasicBit_43 vc_1 rfl ?_
      refine V_ishl (pc1 := 45) d2_takeBasicBit_44 rfl ?_
      refine V_iload_n (pc1 := 46) 1 d2_takeBasicBit_45 rfl rfl ?_
      refine V_ior (pc1 := 47) d2_takeBasicBit_46 rfl ?_
      refine V_puti (pc1 := 50) (fb_l0 hk) (fb_b0 hk) f2_28 rfl rfl d2_takeBasicBit_47 rfl ?_
      refine V_aload_n (pc1 := 51) 0 d2_takeBasicBit_50 rfl rfl ?_
      refine V_dup (pc1 := 52) d2_takeBasicBit_51 rfl rfl ?_
      refine V_geti (pc1 := 55) (fb_l0 hk) (fb_b0 hk) f2_9 (fun _ => rfl) ((uI_ne _ _ _ (show (0 : Nat) ≠ 5 by decide)).trans ((uI_ne _ _ _ (show (0 : Nat) ≠ 6 by decide)).trans (uI_ne _ _ _ (show (0 : Nat) ≠ 7 by decide)))) d2_takeBasicBit_52 rfl ?_
      refine V_iconst (pc1 := 56) d2_takeBasicBit_55 vc_1 rfl ?_
      refine V_iadd (pc1 := 57) d2_takeBasicBit_56 rfl ?_
      refine V_puti (pc1 := 60) (fb_l0 hk) (fb_b0 hk) f2_9 rfl rfl d2_takeBasicBit_57 rfl ?_
      refine V_vret rfl d2_takeBasicBit_60 (Nat.zero_le _) (Nat.zero_le _) ?_
      have hq2 := hq
      simp only [i2_takeBasicBit, m2_takeBasicBit, if_neg h3] at hq2
      exact hq2
  refine V_icmp_ne (tgt := 18) (pc1 := 9) d2_takeBasicBit_6 (by decide) rfl (fun h1 => ?_) (fun h1 => ?_)
  · skip
    refine V_iconst (pc1 := 19) d2_takeBasicBit_18 vc_1 rfl ?_
    exact key2 _ (by first | rfl | (simp only [if_neg h1]; done) | (simp only [if_neg h1]; rfl)) _ (lvsub_p [0, 1] rfl)
  · skip
    refine V_aload_n (pc1 := 10) 0 d2_takeBasicBit_9 rfl rfl ?_
    refine V_geti (pc1 := 13) (fb_l0 hk) (fb_b0 hk) f2_34 (fun _ => rfl) rfl d2_takeBasicBit_10 rfl ?_
    refine V_iconst (pc1 := 14) d2_takeBasicBit_13 vc_1 rfl ?_
    refine V_iadd (pc1 := 15) d2_takeBasicBit_14 rfl ?_
    refine V_goto (tgt := 19) d2_takeBasicBit_15 (by decide) ?_
    exact key2 _ (by first | rfl | (simp only [if_pos h1]; done) | (simp only [if_pos h1]; rfl)) _ (lvsub_p [0, 1] rfl)
theorem w2_takeBasicBit (g : GlT) {k : Nat} (hk : okG k) (x : Int32) (I : Nat → Nat → Int32) (L : Nat → Nat → Int64) : Call g (k2_takeBasicBit, 2, 0, 0) [.ref (xA g k), .int x] (I, L, R0, 305) (Qv (i2_takeBasicBit k x I L) (m2_takeBasicBit k x I L)) := Call.of (by decide) (Nat.le_of_ble_eq_true rfl) rfl (v2_takeBasicBit g hk x  I L  _ (And.intro rfl rfl))
theorem x2_takeBasicBit {k : Nat} {x : Int32} {I : Nat → Nat → Int32} {L : Nat → Nat → Int64} {aa : Nat} (h0 : aa ≠ k) : i2_takeBasicBit k x I L aa = I aa := by
  first | (simp only [i2_takeBasicBit]; done) | (simp only [i2_takeBasicBit]; (try (repeat' split)) <;> first | rfl | (simp [uI_off, h0]; done))
theorem y2_takeBasicBit {k : Nat} {x : Int32} {I : Nat → Nat → Int32} {L : Nat → Nat → Int64} {aa : Nat} (h0 : aa ≠ k) : m2_takeBasicBit k x I L aa = L aa := by
  first | (simp only [m2_takeBasicBit]; done) | (simp only [m2_takeBasicBit]; (try (repeat' split)) <;> first | rfl | (simp [uL_off, h0]; done))

def r2_hasWrongHeader (k : Nat) (I : Nat → Nat → Int32) (L : Nat → Nat → Int64) : Bool := (if I k 0 = 14 then (if I k 6 = 1 then true else false) else (if (¬ (I k 0 = 19)) ∨ (r2_sampledLength k I L ≤ 4) then false else true))
set_option maxRecDepth 4000 in
theorem v2_hasWrongHeader (g : GlT) {k : Nat} (hk : okG k) (I : Nat → Nat → Int32) (L : Nat → Nat → Int64) (Q : Option Value → MemT → Prop) (hq : Q (some (.int (bI (r2_hasWrongHeader k I L)))) (I, L, R0, 305)) : V g (k2_hasWrongHeader, 2, 0, 0) 0 0 0 [(0, .ref (xA g k))] [] (I, L, R0, 305) Q := by
  refine V_aload_n (pc1 := 1) 0 d2_hasWrongHeader_0 rfl rfl ?_
  refine V_geti (pc1 := 4) (fb_l0 hk) (fb_b0 hk) f2_9 (fun _ => rfl) rfl d2_hasWrongHeader_1 rfl ?_
  refine V_bipush (pc1 := 6) d2_hasWrongHeader_4 vb_14 rfl ?_
  refine V_icmp_ne (tgt := 23) (pc1 := 9) d2_hasWrongHeader_6 (by decide) rfl (fun h1 => ?_) (fun h1 => ?_)
  · skip
    refine V_aload_n (pc1 := 24) 0 d2_hasWrongHeader_23 rfl rfl ?_
    refine V_geti (pc1 := 27) (fb_l0 hk) (fb_b0 hk) f2_9 (fun _ => rfl) rfl d2_hasWrongHeader_24 rfl ?_
    refine V_bipush (pc1 := 29) d2_hasWrongHeader_27 vb_19 rfl ?_
    have key7 : ∀ (y45_0 : Int32), y45_0 = bI (if (¬ (I k 0 = 19)) ∨ (r2_sampledLength k I L ≤ 4) then false else true) → ∀ (lv : List (Nat × Value)), lvsub [(0, .ref (xA g k))] lv → V g (k2_hasWrongHeader, 2, 0, 0) 0 0 45 lv [.int y45_0] (I, L, R0, 305) Q := by
      intro y45_0 ey45_0
      subst ey45_0
      intro lv hlv
      refine V_lv hlv ?_
      refine V_zret rfl (bI_or _) d2_hasWrongHeader_45 (Nat.zero_le _) (Nat.zero_le _) ?_
      have hq2 := hq
      simp only [r2_hasWrongHeader, if_neg h1] at hq2
      exact hq2
    have k3 : ((¬ (I k 0 = 19)) ∨ (r2_sampledLength k I L ≤ 4)) → V g (k2_hasWrongHeader, 2, 0, 0) 0 0 44 [(0, .ref (xA g k))] [] (I, L, R0, 305) Q := by
      intro h2
      refine V_iconst (pc1 := 45) d2_hasWrongHeader_44 vc_0 rfl ?_
      exact key7 _ (by first | rfl | (simp only [if_pos h2]; done) | (simp only [if_pos h2]; rfl)) _ (lvsub_p [0] rfl)
    have k4 : ¬ ((¬ (I k 0 = 19)) ∨ (r2_sampledLength k I L ≤ 4)) → V g (k2_hasWrongHeader, 2, 0, 0) 0 0 40 [(0, .ref (xA g k))] [] (I, L, R0, 305) Q := by
      intro h2
      refine V_iconst (pc1 := 41) d2_hasWrongHeader_40 vc_1 rfl ?_
      refine V_goto (tgt := 45) d2_hasWrongHeader_41 (by decide) ?_
      exact key7 _ (by first | rfl | (simp only [if_neg h2]; done) | (simp only [if_neg h2]; rfl)) _ (lvsub_p [0] rfl)
    refine V_icmp_ne (tgt := 44) (pc1 := 32) d2_hasWrongHeader_29 (by decide) rfl (fun h5 => ?_) (fun h5 => ?_)
    · skip
      exact k3 (Or.inl h5)
    · skip
      refine V_aload_n (pc1 := 33) 0 d2_hasWrongHeader_32 rfl rfl ?_
      refine V_vi (pc1 := 36) (w2_sampledLength g hk   I L ) (fb_l0 hk) (fb_b0 hk) s2_sampledLength l2_60 rfl rfl ⟨Nat.le_of_ble_eq_true rfl, Nat.le_of_ble_eq_true rfl, Nat.le_refl _, Nat.le_refl _⟩ (Nat.le_of_ble_eq_true rfl) rfl d2_hasWrongHeader_33 rfl ?_
      refine V_iconst (pc1 := 37) d2_hasWrongHeader_36 vc_4 rfl ?_
      refine V_icmp_le (tgt := 44) (pc1 := 40) d2_hasWrongHeader_37 (by decide) rfl (fun h6 => ?_) (fun h6 => ?_)
      · skip
        exact k3 (Or.inr h6)
      · skip
        exact k4 (fun z => z.elim (fun z => z h5) h6)
  · skip
    refine V_aload_n (pc1 := 10) 0 d2_hasWrongHeader_9 rfl rfl ?_
    refine V_geti (pc1 := 13) (fb_l0 hk) (fb_b0 hk) f2_31 (fun _ => rfl) rfl d2_hasWrongHeader_10 rfl ?_
    refine V_iconst (pc1 := 14) d2_hasWrongHeader_13 vc_1 rfl ?_
    have key9 : ∀ (y22_0 : Int32), y22_0 = bI (if I k 6 = 1 then true else false) → ∀ (lv : List (Nat × Value)), lvsub [(0, .ref (xA g k))] lv → V g (k2_hasWrongHeader, 2, 0, 0) 0 0 22 lv [.int y22_0] (I, L, R0, 305) Q := by
      intro y22_0 ey22_0
      subst ey22_0
      intro lv hlv
      refine V_lv hlv ?_
      refine V_zret rfl (bI_or _) d2_hasWrongHeader_22 (Nat.zero_le _) (Nat.zero_le _) ?_
      have hq2 := hq
      simp only [r2_hasWrongHeader, if_pos h1] at hq2
      exact hq2
    refine V_icmp_ne (tgt := 21) (pc1 := 17) d2_hasWrongHeader_14 (by decide) rfl (fun h8 => ?_) (fun h8 => ?_)
    · skip
      refine V_iconst (pc1 := 22) d2_hasWrongHeader_21 vc_0 rfl ?_
      exact key9 _ (by first | rfl | (simp only [if_neg h8]; done) | (simp only [if_neg h8]; rfl)) _ (lvsub_p [0] rfl)
    · skip
      refine V_iconst (pc1 := 18) d2_hasWrongHeader_17 vc_1 rfl ?_
      refine V_goto (tgt := 22) d2_hasWrongHeader_18 (by decide) ?_
      exact key9 _ (by first | rfl | (simp only [if_pos h8]; done) | (simp only [if_pos h8]; rfl)) _ (lvsub_p [0] rfl)
theorem w2_hasWrongHeader (g : GlT) {k : Nat} (hk : okG k) (I : Nat → Nat → Int32) (L : Nat → Nat → Int64) : Call g (k2_hasWrongHeader, 2, 0, 0) [.ref (xA g k)] (I, L, R0, 305) (Qi (bI (r2_hasWrongHeader k I L)) (I) L) := Call.of (by decide) (Nat.le_of_ble_eq_true rfl) rfl (v2_hasWrongHeader g hk   I L  _ (And.intro rfl rfl))

def r2_sampledData (k : Nat) (I : Nat → Nat → Int32) (L : Nat → Nat → Int64) : Int32 := ((L k 2) &&& (((1 : Int64) <<< (((I k 1) - 19).toInt64 &&& 63)) - 1)).toInt32
set_option maxRecDepth 4000 in
theorem v2_sampledData (g : GlT) {k : Nat} (hk : okG k) (I : Nat → Nat → Int32) (L : Nat → Nat → Int64) (Q : Option Value → MemT → Prop) (hq : Q (some (.int (r2_sampledData k I L))) (I, L, R0, 305)) : V g (k2_sampledData, 1, 0, 0) 0 0 0 [(0, .ref (xA g k))] [] (I, L, R0, 305) Q := by
  refine V_aload_n (pc1 := 1) 0 d2_sampledData_0 rfl rfl ?_
  refine V_geti (pc1 := 4) (fb_l0 hk) (fb_b0 hk) f2_15 (fun _ => rfl) rfl d2_sampledData_1 rfl ?_
  refine V_bipush (pc1 := 6) d2_sampledData_4 vb_19 rfl ?_
  refine V_isub (pc1 := 7) d2_sampledData_6 rfl ?_
  refine V_istore_n (pc1 := 8) d2_sampledData_7 (Nat.le_of_ble_eq_true rfl) rfl rfl ?_
  refine V_aload_n (pc1 := 9) 1 d2_sampledData_8 rfl rfl ?_
  refine V_getl (pc1 := 12) (fb_l0 hk) (fb_b0 hk) f2_18 (fun _ => rfl) rfl d2_sampledData_9 rfl ?_
  refine V_lconst (pc1 := 13) (v := 1) d2_sampledData_12 rfl rfl ?_
  refine V_iload_n (pc1 := 14) 0 d2_sampledData_13 rfl rfl ?_
  refine V_lshl (pc1 := 15) d2_sampledData_14 rfl ?_
  refine V_lconst (pc1 := 16) (v := 1) d2_sampledData_15 rfl rfl ?_
  refine V_lsub (pc1 := 17) d2_sampledData_16 rfl ?_
  refine V_land (pc1 := 18) d2_sampledData_17 rfl ?_
  refine V_l2i (pc1 := 19) d2_sampledData_18 rfl ?_
  refine V_iret rfl d2_sampledData_19 (Nat.zero_le _) (Nat.zero_le _) ?_
  have hq2 := hq
  simp only [r2_sampledData] at hq2
  exact hq2
theorem w2_sampledData (g : GlT) {k : Nat} (hk : okG k) (I : Nat → Nat → Int32) (L : Nat → Nat → Int64) : Call g (k2_sampledData, 1, 0, 0) [.ref (xA g k)] (I, L, R0, 305) (Qi (r2_sampledData k I L) (I) L) := Call.of (by decide) (Nat.le_of_ble_eq_true rfl) rfl (v2_sampledData g hk   I L  _ (And.intro rfl rfl))

def i2_copyFrom (k : Nat) (k2 : Nat) (I : Nat → Nat → Int32) (L : Nat → Nat → Int64) : Nat → Nat → Int32 := uI (uI (uI (uI (uI (uI (uI (uI I k 0 (I k2 0)) k 1 (I k2 1)) k 3 (I k2 3)) k 4 (I k2 4)) k 5 (I k2 5)) k 6 (I k2 6)) k 7 (I k2 7)) k 8 (I k2 8)
def m2_copyFrom (k : Nat) (k2 : Nat) (I : Nat → Nat → Int32) (L : Nat → Nat → Int64) : Nat → Nat → Int64 := uL L k 2 (L k2 2)
set_option maxRecDepth 4000 in
theorem v2_copyFrom (g : GlT) {k : Nat} {k2 : Nat} (hk : okG k) (hk2 : okG k2) (hap : k ≠ k2) (I : Nat → Nat → Int32) (L : Nat → Nat → Int64) (Q : Option Value → MemT → Prop) (hq : Q (none) (i2_copyFrom k k2 I L, m2_copyFrom k k2 I L, R0, 305)) : V g (k2_copyFrom, 1, 0, 0) 0 0 0 [(0, .ref (xA g k)), (1, .ref (xA g k2))] [] (I, L, R0, 305) Q := by
  refine V_aload_n (pc1 := 1) 0 d2_copyFrom_0 rfl rfl ?_
  refine V_aload_n (pc1 := 2) 1 d2_copyFrom_1 rfl rfl ?_
  refine V_geti (pc1 := 5) (fb_l0 hk2) (fb_b0 hk2) f2_9 (fun _ => rfl) rfl d2_copyFrom_2 rfl ?_
  refine V_puti (pc1 := 8) (fb_l0 hk) (fb_b0 hk) f2_9 rfl rfl d2_copyFrom_5 rfl ?_
  refine V_aload_n (pc1 := 9) 0 d2_copyFrom_8 rfl rfl ?_
  refine V_aload_n (pc1 := 10) 1 d2_copyFrom_9 rfl rfl ?_
  refine V_geti (pc1 := 13) (fb_l0 hk2) (fb_b0 hk2) f2_15 (fun _ => rfl) (congrFun (uI_off _ _ _ (show (k2 : Nat) ≠ k by omega)) _) d2_copyFrom_10 rfl ?_
  refine V_puti (pc1 := 16) (fb_l0 hk) (fb_b0 hk) f2_15 rfl rfl d2_copyFrom_13 rfl ?_
  refine V_aload_n (pc1 := 17) 0 d2_copyFrom_16 rfl rfl ?_
  refine V_aload_n (pc1 := 18) 1 d2_copyFrom_17 rfl rfl ?_
  refine V_getl (pc1 := 21) (fb_l0 hk2) (fb_b0 hk2) f2_18 (fun _ => rfl) rfl d2_copyFrom_18 rfl ?_
  refine V_putl (pc1 := 24) (fb_l0 hk) (fb_b0 hk) f2_18 rfl rfl d2_copyFrom_21 rfl ?_
  refine V_aload_n (pc1 := 25) 0 d2_copyFrom_24 rfl rfl ?_
  refine V_aload_n (pc1 := 26) 1 d2_copyFrom_25 rfl rfl ?_
  refine V_geti (pc1 := 29) (fb_l0 hk2) (fb_b0 hk2) f2_22 (fun _ => rfl) ((congrFun (uI_off _ _ _ (show (k2 : Nat) ≠ k by omega)) _).trans (congrFun (uI_off _ _ _ (show (k2 : Nat) ≠ k by omega)) _)) d2_copyFrom_26 rfl ?_
  refine V_puti (pc1 := 32) (fb_l0 hk) (fb_b0 hk) f2_22 rfl rfl d2_copyFrom_29 rfl ?_
  refine V_aload_n (pc1 := 33) 0 d2_copyFrom_32 rfl rfl ?_
  refine V_aload_n (pc1 := 34) 1 d2_copyFrom_33 rfl rfl ?_
  refine V_geti (pc1 := 37) (fb_l0 hk2) (fb_b0 hk2) f2_25 (fun _ => rfl) ((congrFun (uI_off _ _ _ (show (k2 : Nat) ≠ k by omega)) _).trans ((congrFun (uI_off _ _ _ (show (k2 : Nat) ≠ k by omega)) _).trans (congrFun (uI_off _ _ _ (show (k2 : Nat) ≠ k by omega)) _))) d2_copyFrom_34 rfl ?_
  refine V_puti (pc1 := 40) (fb_l0 hk) (fb_b0 hk) f2_25 rfl rfl d2_copyFrom_37 rfl ?_
  refine V_aload_n (pc1 := 41) 0 d2_copyFrom_40 rfl rfl ?_
  refine V_aload_n (pc1 := 42) 1 d2_copyFrom_41 rfl rfl ?_
  refine V_geti (pc1 := 45) (fb_l0 hk2) (fb_b0 hk2) f2_28 (fun _ => rfl) ((congrFun (uI_off _ _ _ (show (k2 : Nat) ≠ k by omega)) _).trans ((congrFun (uI_off _ _ _ (show (k2 : Nat) ≠ k by omega)) _).trans ((congrFun (uI_off _ _ _ (show (k2 : Nat) ≠ k by omega)) _).trans (congrFun (uI_off _ _ _ (show (k2 : Nat) ≠ k by omega)) _)))) d2_copyFrom_42 rfl ?_
  refine V_puti (pc1 := 48) (fb_l0 hk) (fb_b0 hk) f2_28 rfl rfl d2_copyFrom_45 rfl ?_
  refine V_aload_n (pc1 := 49) 0 d2_copyFrom_48 rfl rfl ?_
  refine V_aload_n (pc1 := 50) 1 d2_copyFrom_49 rfl rfl ?_
  refine V_geti (pc1 := 53) (fb_l0 hk2) (fb_b0 hk2) f2_31 (fun _ => rfl) ((congrFun (uI_off _ _ _ (show (k2 : Nat) ≠ k by omega)) _).trans ((congrFun (uI_off _ _ _ (show (k2 : Nat) ≠ k by omega)) _).trans ((congrFun (uI_off _ _ _ (show (k2 : Nat) ≠ k by omega)) _).trans ((congrFun (uI_off _ _ _ (show (k2 : Nat) ≠ k by omega)) _).trans (congrFun (uI_off _ _ _ (show (k2 : Nat) ≠ k by omega)) _))))) d2_copyFrom_50 rfl ?_
  refine V_puti (pc1 := 56) (fb_l0 hk) (fb_b0 hk) f2_31 rfl rfl d2_copyFrom_53 rfl ?_
  refine V_aload_n (pc1 := 57) 0 d2_copyFrom_56 rfl rfl ?_
  refine V_aload_n (pc1 := 58) 1 d2_copyFrom_57 rfl rfl ?_
  refine V_geti (pc1 := 61) (fb_l0 hk2) (fb_b0 hk2) f2_34 (fun _ => rfl) ((congrFun (uI_off _ _ _ (show (k2 : Nat) ≠ k by omega)) _).trans ((congrFun (uI_off _ _ _ (show (k2 : Nat) ≠ k by omega)) _).trans ((congrFun (uI_off _ _ _ (show (k2 : Nat) ≠ k by omega)) _).trans ((congrFun (uI_off _ _ _ (show (k2 : Nat) ≠ k by omega)) _).trans ((congrFun (uI_off _ _ _ (show (k2 : Nat) ≠ k by omega)) _).trans (congrFun (uI_off _ _ _ (show (k2 : Nat) ≠ k by omega)) _)))))) d2_copyFrom_58 rfl ?_
  refine V_puti (pc1 := 64) (fb_l0 hk) (fb_b0 hk) f2_34 rfl rfl d2_copyFrom_61 rfl ?_
  refine V_aload_n (pc1 := 65) 0 d2_copyFrom_64 rfl rfl ?_
  refine V_aload_n (pc1 := 66) 1 d2_copyFrom_65 rfl rfl ?_
  refine V_geti (pc1 := 69) (fb_l0 hk2) (fb_b0 hk2) f2_37 (fun _ => rfl) ((congrFun (uI_off _ _ _ (show (k2 : Nat) ≠ k by omega)) _).trans ((congrFun (uI_off _ _ _ (show (k2 : Nat) ≠ k by omega)) _).trans ((congrFun (uI_off _ _ _ (show (k2 : Nat) ≠ k by omega)) _).trans ((congrFun (uI_off _ _ _ (show (k2 : Nat) ≠ k by omega)) _).trans ((congrFun (uI_off _ _ _ (show (k2 : Nat) ≠ k by omega)) _).trans ((congrFun (uI_off _ _ _ (show (k2 : Nat) ≠ k by omega)) _).trans (congrFun (uI_off _ _ _ (show (k2 : Nat) ≠ k by omega)) _))))))) d2_copyFrom_66 rfl ?_
  refine V_puti (pc1 := 72) (fb_l0 hk) (fb_b0 hk) f2_37 rfl rfl d2_copyFrom_69 rfl ?_
  refine V_vret rfl d2_copyFrom_72 (Nat.zero_le _) (Nat.zero_le _) ?_
  have hq2 := hq
  simp only [i2_copyFrom, m2_copyFrom] at hq2
  exact hq2
theorem w2_copyFrom (g : GlT) {k : Nat} {k2 : Nat} (hk : okG k) (hk2 : okG k2) (hap : k ≠ k2) (I : Nat → Nat → Int32) (L : Nat → Nat → Int64) : Call g (k2_copyFrom, 1, 0, 0) [.ref (xA g k), .ref (xA g k2)] (I, L, R0, 305) (Qv (i2_copyFrom k k2 I L) (m2_copyFrom k k2 I L)) := Call.of (by decide) (Nat.le_of_ble_eq_true rfl) rfl (v2_copyFrom g hk hk2  hap I L  _ (And.intro rfl rfl))
theorem x2_copyFrom {k : Nat} {k2 : Nat} {I : Nat → Nat → Int32} {L : Nat → Nat → Int64} {aa : Nat} (h0 : aa ≠ k) : i2_copyFrom k k2 I L aa = I aa := by
  first | (simp only [i2_copyFrom]; done) | (simp only [i2_copyFrom]; (try (repeat' split)) <;> first | rfl | (simp [uI_off, h0]; done))
theorem y2_copyFrom {k : Nat} {k2 : Nat} {I : Nat → Nat → Int32} {L : Nat → Nat → Int64} {aa : Nat} (h0 : aa ≠ k) : m2_copyFrom k k2 I L aa = L aa := by
  first | (simp only [m2_copyFrom]; done) | (simp only [m2_copyFrom]; (try (repeat' split)) <;> first | rfl | (simp [uL_off, h0]; done))
