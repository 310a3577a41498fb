def r11_onBus_11 (b : Nat) (x : Int32) : Nat → Nat → Nat → Nat → Int32 → (Nat → Nat → Int32) → (Nat → Nat → Int64) → Int32
  | 0, c, s, k, la, I, L => 0
  | n + 1, c, s, k, la, I, L => (if (nI k < nI b) ∨ (nI s = 5) then (if nI s = 5 then (if nI c = x then (1 : Int32) - la else r11_onBus_11 b x n (c + 1) (if (¬ ((1 : Int32) - la = la)) ∨ (5 ≤ nI s) then 1 else s + 1) k ((1 : Int32) - la) I L) else (if nI c = x then I 303 k else r11_onBus_11 b x n (c + 1) (if (¬ (I 303 k = la)) ∨ (5 ≤ nI s) then 1 else s + 1) (k + 1) (I 303 k) I L)) else (if 0 ≤ x then (if (nI c) + 10 ≤ x then (-5) else 1) else (nI c) + 10))
set_option maxRecDepth 4000 in
theorem t11_onBus_11 (g : GlT)  (b : Nat) (x : Int32) (hb6 : b ≤ 66) : ∀ (n c s k : Nat) (la : Int32) (I : Nat → Nat → Int32) (L : Nat → Nat → Int64), (hs5 : s ≤ 5) → (hkb : k ≤ b) → (hfu : 2 * (b - k) + s / 5 < n) → ∀ (Q : Option Value → MemT → Prop), Q (some (.int (r11_onBus_11 b x n c s k la I L))) (I, L, R0, 305) → V g (k11_onBus, 1, 0, 0) 0 0 11 [(0, .ref (xA g 296)), (1, .int (nI b)), (2, .int x), (3, .int (nI c)), (4, .int (nI s)), (5, .int la), (6, .int (nI k))] [] (I, L, R0, 305) Q := by
  intro n
  induction n with
  | zero =>
    intro c s k la I L hs5 hkb hfu Q hq
    exact absurd hfu (Nat.not_lt_zero _)
  | succ n ih =>
    intro c s k la I L hs5 hkb hfu Q hq
    refine V_iload (pc1 := 13) 6 d11_onBus_11 rfl rfl ?_
    refine V_iload_n (pc1 := 14) 1 d11_onBus_13 rfl rfl ?_
    have k2 : ((nI k < nI b) ∨ (nI s = 5)) → V g (k11_onBus, 1, 0, 0) 0 0 23 [(0, .ref (xA g 296)), (1, .int (nI b)), (2, .int x), (3, .int (nI c)), (4, .int (nI s)), (5, .int la), (6, .int (nI k))] [] (I, L, R0, 305) Q := by
      intro h1
      refine V_iload (pc1 := 25) 4 d11_onBus_23 rfl rfl ?_
      refine V_iconst (pc1 := 26) d11_onBus_25 vc_5 rfl ?_
      refine V_icmp_ne (tgt := 36) (pc1 := 29) d11_onBus_26 (by decide) rfl (fun h4 => ?_) (fun h4 => ?_)
      · skip
        have hsn : s ≠ 5 := fun e => h4 (by rw [e]; decide)
        have hkb2 : k < b := (nI_ltI (by omega) (by omega)).mp (h1.resolve_right h4)
        refine V_aload_n (pc1 := 37) 0 d11_onBus_36 rfl rfl ?_
        refine V_getr (pc1 := 40) ly296 (lt305 rfl) f11_29 (fun _ => rfl) rf296_8 d11_onBus_37 rfl ?_
        refine V_iload (pc1 := 42) 6 d11_onBus_40 rfl rfl ?_
        refine V_iald2 (pc1 := 43) k ly303 (lt305 rfl) rfl (by omega) rfl d11_onBus_42 rfl ?_
        refine V_istore (pc1 := 45) d11_onBus_43 (Nat.le_of_ble_eq_true rfl) rfl rfl ?_
        refine V_iload (pc1 := 47) 7 d11_onBus_45 rfl rfl ?_
        refine V_iload (pc1 := 49) 5 d11_onBus_47 rfl rfl ?_
        refine V_iconst (pc1 := 50) d11_onBus_49 vc_5 rfl ?_
        refine V_icmp_ne (tgt := 57) (pc1 := 53) d11_onBus_50 (by decide) rfl (fun _ => ?_) (fun h5 => absurd h5 h4)
        refine V_iconst (pc1 := 58) d11_onBus_57 vc_1 rfl ?_
        refine V_addN (pc1 := 59) (a := k) (b := 1) (c := k + 1) rfl rfl (by omega) d11_onBus_58 rfl ?_
        refine V_istore (pc1 := 61) d11_onBus_59 (Nat.le_of_ble_eq_true rfl) rfl rfl ?_
        refine V_iload (pc1 := 63) 1 d11_onBus_61 rfl rfl ?_
        refine V_iload (pc1 := 65) 7 d11_onBus_63 rfl rfl ?_
        have key11 : ∀ (y82_0 : Int32), y82_0 = nI (if (¬ (I 303 k = la)) ∨ (5 ≤ nI s) then 1 else s + 1) → ∀ (lv : List (Nat × Value)), lvsub [(6, .int (nI (k + 1))), (7, .int (I 303 k)), (0, .ref (xA g 296)), (1, .int (nI b)), (2, .int x), (3, .int (nI c)), (4, .int (nI s)), (5, .int la)] lv → V g (k11_onBus, 1, 0, 0) 0 0 82 lv [.int y82_0] (I, L, R0, 305) Q := by
          intro y82_0 ey82_0
          subst ey82_0
          intro lv hlv
          refine V_lv hlv ?_
          refine V_istore (pc1 := 84) d11_onBus_82 (Nat.le_of_ble_eq_true rfl) rfl rfl ?_
          refine V_iload (pc1 := 86) 2 d11_onBus_84 rfl rfl ?_
          refine V_istore (pc1 := 88) d11_onBus_86 (Nat.le_of_ble_eq_true rfl) rfl rfl ?_
          refine V_iload_n (pc1 := 89) 7 d11_onBus_88 rfl rfl ?_
          refine V_iload_n (pc1 := 90) 6 d11_onBus_89 rfl rfl ?_
          refine V_icmp_ne (tgt := 96) (pc1 := 93) d11_onBus_90 (by decide) rfl (fun h12 => ?_) (fun h12 => ?_)
          · skip
            refine V_iinc (pc1 := 99) 7 (v := nI (c + 1)) d11_onBus_96 rfl (nI_1 _) (Nat.le_of_ble_eq_true rfl) rfl rfl ?_
            refine V_goto (tgt := 11) d11_onBus_99 (by decide) ?_
            refine V_lv (lv1 := [(0, .ref (xA g 296)), (1, .int (nI b)), (2, .int x), (3, .int (nI (c + 1))), (4, .int (nI (if (¬ (I 303 k = la)) ∨ (5 ≤ nI s) then 1 else s + 1))), (5, .int (I 303 k)), (6, .int (nI (k + 1)))]) (lvsub_p [5, 6, 7, 0, 2, 1, 3] rfl) ?_
            have hq2 := hq
            simp only [r11_onBus_11, if_pos h1, if_neg h4, if_neg h12] at hq2
            exact ih (c + 1) (if (¬ (I 303 k = la)) ∨ (5 ≤ nI s) then 1 else s + 1) (k + 1) (I 303 k) I L (by split <;> omega) (by omega) (by split <;> omega) Q hq2
          · skip
            refine V_iload (pc1 := 95) 3 d11_onBus_93 rfl rfl ?_
            refine V_iret rfl d11_onBus_95 (Nat.zero_le _) (Nat.zero_le _) ?_
            have hq2 := hq
            simp only [r11_onBus_11, if_pos h1, if_neg h4, if_pos h12] at hq2
            exact hq2
        have k7 : ((¬ (I 303 k = la)) ∨ (5 ≤ nI s)) → V g (k11_onBus, 1, 0, 0) 0 0 81 [(6, .int (nI (k + 1))), (7, .int (I 303 k)), (0, .ref (xA g 296)), (1, .int (nI b)), (2, .int x), (3, .int (nI c)), (4, .int (nI s)), (5, .int la)] [] (I, L, R0, 305) Q := by
          intro h6
          refine V_iconst (pc1 := 82) d11_onBus_81 vc_1 rfl ?_
          exact key11 _ (by first | rfl | (simp only [if_pos h6]; done) | (simp only [if_pos h6]; rfl)) _ (lvsub_p [0, 1, 2, 3, 4, 5, 6, 7] rfl)
        have k8 : ¬ ((¬ (I 303 k = la)) ∨ (5 ≤ nI s)) → V g (k11_onBus, 1, 0, 0) 0 0 74 [(6, .int (nI (k + 1))), (7, .int (I 303 k)), (0, .ref (xA g 296)), (1, .int (nI b)), (2, .int x), (3, .int (nI c)), (4, .int (nI s)), (5, .int la)] [] (I, L, R0, 305) Q := by
          intro h6
          refine V_iload (pc1 := 76) 6 d11_onBus_74 rfl rfl ?_
          refine V_iconst (pc1 := 77) d11_onBus_76 vc_1 rfl ?_
          refine V_addN (pc1 := 78) (a := s) (b := 1) (c := s + 1) rfl rfl (by omega) d11_onBus_77 rfl ?_
          refine V_goto (tgt := 82) d11_onBus_78 (by decide) ?_
          exact key11 _ (by first | rfl | (simp only [if_neg h6]; done) | (simp only [if_neg h6]; rfl)) _ (lvsub_p [0, 1, 2, 3, 4, 5, 6, 7] rfl)
        refine V_icmp_ne (tgt := 81) (pc1 := 68) d11_onBus_65 (by decide) rfl (fun h9 => ?_) (fun h9 => ?_)
        · skip
          exact k7 (Or.inl h9)
        · skip
          refine V_iload (pc1 := 70) 6 d11_onBus_68 rfl rfl ?_
          refine V_iconst (pc1 := 71) d11_onBus_70 vc_5 rfl ?_
          refine V_icmp_ge (tgt := 81) (pc1 := 74) d11_onBus_71 (by decide) rfl (fun h10 => ?_) (fun h10 => ?_)
          · skip
            exact k7 (Or.inr h10)
          · skip
            exact k8 (fun z => z.elim (fun z => z h9) h10)
      · skip
        have hse : s = 5 := (nI_eq (by omega) (by omega)).mp h4
        refine V_iconst (pc1 := 30) d11_onBus_29 vc_1 rfl ?_
        refine V_iload (pc1 := 32) 5 d11_onBus_30 rfl rfl ?_
        refine V_isub (pc1 := 33) d11_onBus_32 rfl ?_
        refine V_goto (tgt := 43) d11_onBus_33 (by decide) ?_
        refine V_istore (pc1 := 45) d11_onBus_43 (Nat.le_of_ble_eq_true rfl) rfl rfl ?_
        refine V_iload (pc1 := 47) 7 d11_onBus_45 rfl rfl ?_
        refine V_iload (pc1 := 49) 5 d11_onBus_47 rfl rfl ?_
        refine V_iconst (pc1 := 50) d11_onBus_49 vc_5 rfl ?_
        refine V_icmp_ne (tgt := 57) (pc1 := 53) d11_onBus_50 (by decide) rfl (fun h13 => absurd h4 h13) (fun _ => ?_)
        refine V_iconst (pc1 := 54) d11_onBus_53 vc_0 rfl ?_
        refine V_goto (tgt := 58) d11_onBus_54 (by decide) ?_
        refine V_addN (pc1 := 59) (a := k) (b := 0) (c := k) rfl rfl (by omega) d11_onBus_58 rfl ?_
        refine V_istore (pc1 := 61) d11_onBus_59 (Nat.le_of_ble_eq_true rfl) rfl rfl ?_
        refine V_iload (pc1 := 63) 1 d11_onBus_61 rfl rfl ?_
        refine V_iload (pc1 := 65) 7 d11_onBus_63 rfl rfl ?_
        have key19 : ∀ (y82_0 : Int32), y82_0 = nI (if (¬ ((1 : Int32) - la = la)) ∨ (5 ≤ nI s) then 1 else s + 1) → ∀ (lv : List (Nat × Value)), lvsub [(6, .int (nI k)), (7, .int ((1 : Int32) - la)), (0, .ref (xA g 296)), (1, .int (nI b)), (2, .int x), (3, .int (nI c)), (4, .int (nI s)), (5, .int la)] lv → V g (k11_onBus, 1, 0, 0) 0 0 82 lv [.int y82_0] (I, L, R0, 305) Q := by
          intro y82_0 ey82_0
          subst ey82_0
          intro lv hlv
          refine V_lv hlv ?_
          refine V_istore (pc1 := 84) d11_onBus_82 (Nat.le_of_ble_eq_true rfl) rfl rfl ?_
          refine V_iload (pc1 := 86) 2 d11_onBus_84 rfl rfl ?_
          refine V_istore (pc1 := 88) d11_onBus_86 (Nat.le_of_ble_eq_true rfl) rfl rfl ?_
          refine V_iload_n (pc1 := 89) 7 d11_onBus_88 rfl rfl ?_
          refine V_iload_n (pc1 := 90) 6 d11_onBus_89 rfl rfl ?_
          refine V_icmp_ne (tgt := 96) (pc1 := 93) d11_onBus_90 (by decide) rfl (fun h20 => ?_) (fun h20 => ?_)
          · skip
            refine V_iinc (pc1 := 99) 7 (v := nI (c + 1)) d11_onBus_96 rfl (nI_1 _) (Nat.le_of_ble_eq_true rfl) rfl rfl ?_
            refine V_goto (tgt := 11) d11_onBus_99 (by decide) ?_
            refine V_lv (lv1 := [(0, .ref (xA g 296)), (1, .int (nI b)), (2, .int x), (3, .int (nI (c + 1))), (4, .int (nI (if (¬ ((1 : Int32) - la = la)) ∨ (5 ≤ nI s) then 1 else s + 1))), (5, .int ((1 : Int32) - la)), (6, .int (nI k))]) (lvsub_p [5, 6, 7, 0, 2, 1, 3] rfl) ?_
            have hq2 := hq
            simp only [r11_onBus_11, if_pos h1, if_pos h4, if_neg h20] at hq2
            exact ih (c + 1) (if (¬ ((1 : Int32) - la = la)) ∨ (5 ≤ nI s) then 1 else s + 1) k ((1 : Int32) - la) I L (by split; omega; rename_i hh; exact absurd (Or.inr (by rw [hse]; decide)) hh) (by omega) (by split; omega; rename_i hh; exact absurd (Or.inr (by rw [hse]; decide)) hh) Q hq2
          · skip
            refine V_iload (pc1 := 95) 3 d11_onBus_93 rfl rfl ?_
            refine V_iret rfl d11_onBus_95 (Nat.zero_le _) (Nat.zero_le _) ?_
            have hq2 := hq
            simp only [r11_onBus_11, if_pos h1, if_pos h4, if_pos h20] at hq2
            exact hq2
        have k15 : ((¬ ((1 : Int32) - la = la)) ∨ (5 ≤ nI s)) → V g (k11_onBus, 1, 0, 0) 0 0 81 [(6, .int (nI k)), (7, .int ((1 : Int32) - la)), (0, .ref (xA g 296)), (1, .int (nI b)), (2, .int x), (3, .int (nI c)), (4, .int (nI s)), (5, .int la)] [] (I, L, R0, 305) Q := by
          intro h14
          refine V_iconst (pc1 := 82) d11_onBus_81 vc_1 rfl ?_
          exact key19 _ (by first | rfl | (simp only [if_pos h14]; done) | (simp only [if_pos h14]; rfl)) _ (lvsub_p [0, 1, 2, 3, 4, 5, 6, 7] rfl)
        have k16 : ¬ ((¬ ((1 : Int32) - la = la)) ∨ (5 ≤ nI s)) → V g (k11_onBus, 1, 0, 0) 0 0 74 [(6, .int (nI k)), (7, .int ((1 : Int32) - la)), (0, .ref (xA g 296)), (1, .int (nI b)), (2, .int x), (3, .int (nI c)), (4, .int (nI s)), (5, .int la)] [] (I, L, R0, 305) Q := by
          intro h14
          refine V_iload (pc1 := 76) 6 d11_onBus_74 rfl rfl ?_
          refine V_iconst (pc1 := 77) d11_onBus_76 vc_1 rfl ?_
          refine V_addN (pc1 := 78) (a := s) (b := 1) (c := s + 1) rfl rfl (by omega) d11_onBus_77 rfl ?_
          refine V_goto (tgt := 82) d11_onBus_78 (by decide) ?_
          exact key19 _ (by first | rfl | (simp only [if_neg h14]; done) | (simp only [if_neg h14]; rfl)) _ (lvsub_p [0, 1, 2, 3, 4, 5, 6, 7] rfl)
        refine V_icmp_ne (tgt := 81) (pc1 := 68) d11_onBus_65 (by decide) rfl (fun h17 => ?_) (fun h17 => ?_)
        · skip
          exact k15 (Or.inl h17)
        · skip
          refine V_iload (pc1 := 70) 6 d11_onBus_68 rfl rfl ?_
          refine V_iconst (pc1 := 71) d11_onBus_70 vc_5 rfl ?_
          refine V_icmp_ge (tgt := 81) (pc1 := 74) d11_onBus_71 (by decide) rfl (fun h18 => ?_) (fun h18 => ?_)
          · skip
            exact k15 (Or.inr h18)
          · skip
            exact k16 (fun z => z.elim (fun z => z h17) h18)
    have k3 : ¬ ((nI k < nI b) ∨ (nI s = 5)) → V g (k11_onBus, 1, 0, 0) 0 0 102 [(0, .ref (xA g 296)), (1, .int (nI b)), (2, .int x), (3, .int (nI c)), (4, .int (nI s)), (5, .int la), (6, .int (nI k))] [] (I, L, R0, 305) Q := by
      intro h1
      refine V_iinc (pc1 := 105) 3 (v := (nI c) + 10) d11_onBus_102 rfl rfl (Nat.le_of_ble_eq_true rfl) rfl rfl ?_
      refine V_iload_n (pc1 := 106) 3 d11_onBus_105 rfl rfl ?_
      have key23 : ∀ (y124_0 : Int32), y124_0 = (if 0 ≤ x then (if (nI c) + 10 ≤ x then (-5) else 1) else (nI c) + 10) → ∀ (lv : List (Nat × Value)), lvsub [(3, .int ((nI c) + 10)), (0, .ref (xA g 296)), (1, .int (nI b)), (2, .int x), (4, .int (nI s)), (5, .int la), (6, .int (nI k))] lv → V g (k11_onBus, 1, 0, 0) 0 0 124 lv [.int y124_0] (I, L, R0, 305) Q := by
        intro y124_0 ey124_0
        subst ey124_0
        intro lv hlv
        refine V_lv hlv ?_
        refine V_iret rfl d11_onBus_124 (Nat.zero_le _) (Nat.zero_le _) ?_
        have hq2 := hq
        simp only [r11_onBus_11, if_neg h1] at hq2
        exact hq2
      refine V_if_ge (tgt := 113) (pc1 := 109) d11_onBus_106 (by decide) rfl (fun h21 => ?_) (fun h21 => ?_)
      · skip
        refine V_iload_n (pc1 := 114) 3 d11_onBus_113 rfl rfl ?_
        refine V_iload_n (pc1 := 115) 0 d11_onBus_114 rfl rfl ?_
        refine V_icmp_ge (tgt := 122) (pc1 := 118) d11_onBus_115 (by decide) rfl (fun h22 => ?_) (fun h22 => ?_)
        · skip
          refine V_bipush (pc1 := 124) d11_onBus_122 vb_m5 rfl ?_
          exact key23 _ (by first | rfl | (simp only [if_pos h21, if_pos h22]; done) | (simp only [if_pos h21, if_pos h22]; rfl)) _ (lvsub_p [0, 1, 2, 3, 4, 5, 6] rfl)
        · skip
          refine V_iconst (pc1 := 119) d11_onBus_118 vc_1 rfl ?_
          refine V_goto (tgt := 124) d11_onBus_119 (by decide) ?_
          exact key23 _ (by first | rfl | (simp only [if_pos h21, if_neg h22]; done) | (simp only [if_pos h21, if_neg h22]; rfl)) _ (lvsub_p [0, 1, 2, 3, 4, 5, 6] rfl)
      · skip
        refine V_iload_n (pc1 := 110) 0 d11_onBus_109 rfl rfl ?_
        refine V_goto (tgt := 124) d11_onBus_110 (by decide) ?_
        exact key23 _ (by first | rfl | (simp only [if_neg h21]; done) | (simp only [if_neg h21]; rfl)) _ (lvsub_p [0, 1, 2, 3, 4, 5, 6] rfl)
    refine V_icmp_lt (tgt := 23) (pc1 := 17) d11_onBus_14 (by decide) rfl (fun h24 => ?_) (fun h24 => ?_)
    · skip
      exact k2 (Or.inl h24)
    · skip
      refine V_iload (pc1 := 19) 4 d11_onBus_17 rfl rfl ?_
      refine V_iconst (pc1 := 20) d11_onBus_19 vc_5 rfl ?_
      refine V_icmp_ne (tgt := 102) (pc1 := 23) d11_onBus_20 (by decide) rfl (fun h25 => ?_) (fun h25 => ?_)
      · skip
        exact k3 (fun z => z.elim h24 h25)
      · skip
        exact k2 (Or.inr h25)
def r11_onBus (b : Nat) (x : Int32) (I : Nat → Nat → Int32) (L : Nat → Nat → Int64) : Int32 := r11_onBus_11 b x 134 0 0 0 (-1) I L
set_option maxRecDepth 4000 in
theorem v11_onBus (g : GlT)  (b : Nat) (x : Int32) (hb6 : b ≤ 66) (I : Nat → Nat → Int32) (L : Nat → Nat → Int64) (Q : Option Value → MemT → Prop) (hq : Q (some (.int (r11_onBus b x I L))) (I, L, R0, 305)) : V g (k11_onBus, 1, 0, 0) 0 0 0 [(0, .ref (xA g 296)), (1, .int (nI b)), (2, .int x)] [] (I, L, R0, 305) Q := by
  refine V_iconst (pc1 := 1) d11_onBus_0 vc_0 rfl ?_
  refine V_istore_n (pc1 := 2) d11_onBus_1 (Nat.le_of_ble_eq_true rfl) rfl rfl ?_
  refine V_iconst (pc1 := 3) d11_onBus_2 vc_0 rfl ?_
  refine V_istore (pc1 := 5) d11_onBus_3 (Nat.le_of_ble_eq_true rfl) rfl rfl ?_
  refine V_iconst (pc1 := 6) d11_onBus_5 vc_m1 rfl ?_
  refine V_istore (pc1 := 8) d11_onBus_6 (Nat.le_of_ble_eq_true rfl) rfl rfl ?_
  refine V_iconst (pc1 := 9) d11_onBus_8 vc_0 rfl ?_
  refine V_istore (pc1 := 11) d11_onBus_9 (Nat.le_of_ble_eq_true rfl) rfl rfl ?_
  refine V_lv (lv1 := [(0, .ref (xA g 296)), (1, .int (nI b)), (2, .int x), (3, .int (nI 0)), (4, .int (nI 0)), (5, .int (-1)), (6, .int (nI 0))]) (lvsub_p [4, 5, 6, 3, 2, 1, 0] rfl) ?_
  have hq2 := hq
  simp only [r11_onBus] at hq2
  exact t11_onBus_11 g  _ _ hb6 134 0 0 0 (-1) I L (by omega) (by omega) (by omega) Q hq2
theorem w11_onBus (g : GlT)  (b : Nat) (x : Int32) (hb6 : b ≤ 66) (I : Nat → Nat → Int32) (L : Nat → Nat → Int64) : Call g (k11_onBus, 1, 0, 0) [.ref (xA g 296), .int (nI b), .int x] (I, L, R0, 305) (Qi (r11_onBus b x I L) (I) L) := Call.of (by decide) (Nat.le_of_ble_eq_true rfl) rfl (v11_onBus g  b x hb6 I L  _ (And.intro rfl rfl))


theorem ite8_le {c : Prop} [Decidable c] {n : Nat} (h : n ≤ 4) : (if c then 0 else 8 * n) ≤ 32 := by split <;> omega
theorem ln_nat {idn rm ln dt : Int32} (h : r11_isFrame idn rm ln dt = true) : ∃ n, n ≤ 4 ∧ ln = nI n := by
  have h2 : r11_in ln 0 4 = true := by
    cases hc : r11_in ln 0 4 with
    | true => rfl
    | false =>
      unfold r11_isFrame at h
      rw [hc] at h
      simp at h
  obtain ⟨n, hn, -, e⟩ := within_nat (a := 0) (b := 4) (by omega) (by omega) h2
  exact ⟨n, by omega, e⟩

def r11_crc (idn : Int32) (rm : Int32) (ln : Int32) (dt : Int32) (I : Nat → Nat → Int32) (L : Nat → Nat → Int64) : Int32 := (if (r11_isFrame idn rm ln dt) = true then r11_crcOf 303 0 ((if bI (if rm = 0 then false else true) = 1 then 0 else 8 * (ln.toNatClampNeg)) + 19) (i11_lays 303 0 idn (bI (if rm = 0 then false else true)) (ln.toNatClampNeg) dt I L) L else (-2))
def i11_crc (idn : Int32) (rm : Int32) (ln : Int32) (dt : Int32) (I : Nat → Nat → Int32) (L : Nat → Nat → Int64) : Nat → Nat → Int32 := (if (r11_isFrame idn rm ln dt) = true then i11_lays 303 0 idn (bI (if rm = 0 then false else true)) (ln.toNatClampNeg) dt I L else I)
set_option maxRecDepth 4000 in
theorem v11_crc (g : GlT)  (idn : Int32) (rm : Int32) (ln : Int32) (dt : Int32) (I : Nat → Nat → Int32) (L : Nat → Nat → Int64) (Q : Option Value → MemT → Prop) (hq : Q (some (.int (r11_crc idn rm ln dt I L))) (i11_crc idn rm ln dt I L, L, R0, 305)) : V g (k11_crc, 3, 0, 0) 0 0 0 [(0, .ref (xA g 296)), (1, .int idn), (2, .int rm), (3, .int ln), (4, .int dt)] [] (I, L, R0, 305) Q := by
  refine V_iload_n (pc1 := 1) 1 d11_crc_0 rfl rfl ?_
  refine V_iload_n (pc1 := 2) 2 d11_crc_1 rfl rfl ?_
  refine V_iload_n (pc1 := 3) 3 d11_crc_2 rfl rfl ?_
  refine V_iload (pc1 := 5) 4 d11_crc_3 rfl rfl ?_
  refine V_si (pc1 := 8) (w11_isFrame g  idn rm ln dt  I L ) s11_isFrame l11_51 rfl rfl ⟨Nat.le_of_ble_eq_true rfl, Nat.le_of_ble_eq_true rfl, Nat.le_refl _, Nat.le_refl _⟩ (Nat.le_of_ble_eq_true rfl) rfl d11_crc_5 rfl ?_
  refine V_bne (tgt := 14) (pc1 := 11) d11_crc_8 (by decide) rfl (fun h1 => ?_) (fun h1 => ?_)
  · skip
    obtain ⟨fl, hfl, rfl⟩ := ln_nat h1
    have hfl3 : (nI fl).toNatClampNeg = fl := nI_clamp (by omega)
    refine V_aload_n (pc1 := 15) 0 d11_crc_14 rfl rfl ?_
    refine V_getr (pc1 := 18) ly296 (lt305 rfl) f11_29 (fun _ => rfl) rf296_8 d11_crc_15 rfl ?_
    refine V_iconst (pc1 := 19) d11_crc_18 vc_0 rfl ?_
    refine V_iload_n (pc1 := 20) 1 d11_crc_19 rfl rfl ?_
    refine V_iload_n (pc1 := 21) 2 d11_crc_20 rfl rfl ?_
    have key3 : ∀ (y29_0 : Int32), y29_0 = bI (if rm = 0 then false else true) → ∀ (lv : List (Nat × Value)), lvsub [(0, .ref (xA g 296)), (1, .int idn), (2, .int rm), (3, .int (nI fl)), (4, .int dt)] lv → V g (k11_crc, 3, 0, 0) 0 0 29 lv [.int y29_0, .int idn, .int 0, .ref (xA g 303)] (I, L, R0, 305) Q := by
      intro y29_0 ey29_0
      subst ey29_0
      intro lv hlv
      refine V_lv hlv ?_
      refine V_iload_n (pc1 := 30) 3 d11_crc_29 rfl rfl ?_
      refine V_iload (pc1 := 32) 4 d11_crc_30 rfl rfl ?_
      refine V_si (pc1 := 35) (w11_lays g ly303 (lt305 rfl) 0 idn (bI (if rm = 0 then false else true)) fl dt (by omega) (by omega) I L ) s11_lays l11_55 rfl rfl ⟨Nat.le_of_ble_eq_true rfl, Nat.le_of_ble_eq_true rfl, Nat.le_refl _, Nat.le_refl _⟩ (Nat.le_of_ble_eq_true rfl) rfl d11_crc_32 rfl ?_
      obtain ⟨bn, hbn, hbe⟩ : ∃ b, b ≤ 32 ∧ (if bI (if rm = 0 then false else true) = 1 then 0 else 8 * fl) = b := ⟨_, ite8_le hfl, rfl⟩
      rw [show r11_lays 303 0 idn (bI (if rm = 0 then false else true)) fl dt I L = nI (bn + 34) from by rw [← hbe]; rfl]
      refine V_istore (pc1 := 37) d11_crc_35 (Nat.le_of_ble_eq_true rfl) rfl rfl ?_
      refine V_aload_n (pc1 := 38) 1 d11_crc_37 rfl rfl ?_
      refine V_getr (pc1 := 41) ly296 (lt305 rfl) f11_29 (fun _ => rfl) rf296_8 d11_crc_38 rfl ?_
      refine V_iconst (pc1 := 42) d11_crc_41 vc_0 rfl ?_
      refine V_iload (pc1 := 44) 0 d11_crc_42 rfl rfl ?_
      refine V_bipush (pc1 := 46) d11_crc_44 vb_15 rfl ?_
      refine V_subN (pc1 := 47) (a := bn + 34) (b := 15) (c := bn + 19) rfl rfl (by omega) d11_crc_46 rfl ?_
      refine V_si (pc1 := 50) (w11_crcOf g ly303 (lt305 rfl) 0 (bn + 19) (by omega) (by omega) (i11_lays 303 0 idn (bI (if rm = 0 then false else true)) fl dt I L) L ) s11_crcOf l11_47 rfl rfl ⟨Nat.le_of_ble_eq_true rfl, Nat.le_of_ble_eq_true rfl, Nat.le_refl _, Nat.le_refl _⟩ (Nat.le_of_ble_eq_true rfl) rfl d11_crc_47 rfl ?_
      refine V_iret rfl d11_crc_50 (Nat.zero_le _) (Nat.zero_le _) ?_
      have hq2 := hq
      simp only [r11_crc, i11_crc, if_pos h1, hfl3, hbe] at hq2
      exact hq2
    refine V_if_eq (tgt := 28) (pc1 := 24) d11_crc_21 (by decide) rfl (fun h2 => ?_) (fun h2 => ?_)
    · skip
      refine V_iconst (pc1 := 29) d11_crc_28 vc_0 rfl ?_
      exact key3 _ (by first | rfl | (simp only [hfl3, if_pos h2]; done) | (simp only [hfl3, if_pos h2]; rfl)) _ (lvsub_p [0, 1, 2, 3, 4] rfl)
    · skip
      refine V_iconst (pc1 := 25) d11_crc_24 vc_1 rfl ?_
      refine V_goto (tgt := 29) d11_crc_25 (by decide) ?_
      exact key3 _ (by first | rfl | (simp only [hfl3, if_neg h2]; done) | (simp only [hfl3, if_neg h2]; rfl)) _ (lvsub_p [0, 1, 2, 3, 4] rfl)
  · skip
    refine V_bipush (pc1 := 13) d11_crc_11 vb_m2 rfl ?_
    refine V_iret rfl d11_crc_13 (Nat.zero_le _) (Nat.zero_le _) ?_
    have hq2 := hq
    simp only [r11_crc, i11_crc, if_neg h1] at hq2
    exact hq2
theorem w11_crc (g : GlT)  (idn : Int32) (rm : Int32) (ln : Int32) (dt : Int32) (I : Nat → Nat → Int32) (L : Nat → Nat → Int64) : Call g (k11_crc, 3, 0, 0) [.ref (xA g 296), .int idn, .int rm, .int ln, .int dt] (I, L, R0, 305) (Qi (r11_crc idn rm ln dt I L) (i11_crc idn rm ln dt I L) L) := Call.of (by decide) (Nat.le_of_ble_eq_true rfl) rfl (v11_crc g  idn rm ln dt  I L  _ (And.intro rfl rfl))


def r11_frameBits (idn : Int32) (rm : Int32) (ln : Int32) (dt : Int32) (I : Nat → Nat → Int32) (L : Nat → Nat → Int64) : Int32 := (if (r11_isFrame idn rm ln dt) = true then r11_onBus ((if bI (if rm = 0 then false else true) = 1 then 0 else 8 * (ln.toNatClampNeg)) + 34) (-1) (i11_lays 303 0 idn (bI (if rm = 0 then false else true)) (ln.toNatClampNeg) dt I L) L else (-2))
def i11_frameBits (idn : Int32) (rm : Int32) (ln : Int32) (dt : Int32) (I : Nat → Nat → Int32) (L : Nat → Nat → Int64) : Nat → Nat → Int32 := (if (r11_isFrame idn rm ln dt) = true then i11_lays 303 0 idn (bI (if rm = 0 then false else true)) (ln.toNatClampNeg) dt I L else I)
set_option maxRecDepth 4000 in
theorem v11_frameBits (g : GlT)  (idn : Int32) (rm : Int32) (ln : Int32) (dt : Int32) (I : Nat → Nat → Int32) (L : Nat → Nat → Int64) (Q : Option Value → MemT → Prop) (hq : Q (some (.int (r11_frameBits idn rm ln dt I L))) (i11_frameBits idn rm ln dt I L, L, R0, 305)) : V g (k11_frameBits, 3, 0, 0) 0 0 0 [(0, .ref (xA g 296)), (1, .int idn), (2, .int rm), (3, .int ln), (4, .int dt)] [] (I, L, R0, 305) Q := by
  refine V_iload_n (pc1 := 1) 1 d11_frameBits_0 rfl rfl ?_
  refine V_iload_n (pc1 := 2) 2 d11_frameBits_1 rfl rfl ?_
  refine V_iload_n (pc1 := 3) 3 d11_frameBits_2 rfl rfl ?_
  refine V_iload (pc1 := 5) 4 d11_frameBits_3 rfl rfl ?_
  refine V_si (pc1 := 8) (w11_isFrame g  idn rm ln dt  I L ) s11_isFrame l11_51 rfl rfl ⟨Nat.le_of_ble_eq_true rfl, Nat.le_of_ble_eq_true rfl, Nat.le_refl _, Nat.le_refl _⟩ (Nat.le_of_ble_eq_true rfl) rfl d11_frameBits_5 rfl ?_
  refine V_bne (tgt := 14) (pc1 := 11) d11_frameBits_8 (by decide) rfl (fun h1 => ?_) (fun h1 => ?_)
  · skip
    obtain ⟨fl, hfl, rfl⟩ := ln_nat h1
    have hfl3 : (nI fl).toNatClampNeg = fl := nI_clamp (by omega)
    refine V_aload_n (pc1 := 15) 0 d11_frameBits_14 rfl rfl ?_
    refine V_aload_n (pc1 := 16) 0 d11_frameBits_15 rfl rfl ?_
    refine V_getr (pc1 := 19) ly296 (lt305 rfl) f11_29 (fun _ => rfl) rf296_8 d11_frameBits_16 rfl ?_
    refine V_iconst (pc1 := 20) d11_frameBits_19 vc_0 rfl ?_
    refine V_iload_n (pc1 := 21) 1 d11_frameBits_20 rfl rfl ?_
    refine V_iload_n (pc1 := 22) 2 d11_frameBits_21 rfl rfl ?_
    have key3 : ∀ (y30_0 : Int32), y30_0 = bI (if rm = 0 then false else true) → ∀ (lv : List (Nat × Value)), lvsub [(0, .ref (xA g 296)), (1, .int idn), (2, .int rm), (3, .int (nI fl)), (4, .int dt)] lv → V g (k11_frameBits, 3, 0, 0) 0 0 30 lv [.int y30_0, .int idn, .int 0, .ref (xA g 303), .ref (xA g 296)] (I, L, R0, 305) Q := by
      intro y30_0 ey30_0
      subst ey30_0
      intro lv hlv
      refine V_lv hlv ?_
      refine V_iload_n (pc1 := 31) 3 d11_frameBits_30 rfl rfl ?_
      refine V_iload (pc1 := 33) 4 d11_frameBits_31 rfl rfl ?_
      refine V_si (pc1 := 36) (w11_lays g ly303 (lt305 rfl) 0 idn (bI (if rm = 0 then false else true)) fl dt (by omega) (by omega) I L ) s11_lays l11_55 rfl rfl ⟨Nat.le_of_ble_eq_true rfl, Nat.le_of_ble_eq_true rfl, Nat.le_refl _, Nat.le_refl _⟩ (Nat.le_of_ble_eq_true rfl) rfl d11_frameBits_33 rfl ?_
      obtain ⟨bn, hbn, hbe⟩ : ∃ b, b ≤ 32 ∧ (if bI (if rm = 0 then false else true) = 1 then 0 else 8 * fl) = b := ⟨_, ite8_le hfl, rfl⟩
      rw [show r11_lays 303 0 idn (bI (if rm = 0 then false else true)) fl dt I L = nI (bn + 34) from by rw [← hbe]; rfl]
      refine V_iconst (pc1 := 37) d11_frameBits_36 vc_m1 rfl ?_
      refine V_vi (pc1 := 40) (w11_onBus g  (bn + 34) (-1) (by omega) (i11_lays 303 0 idn (bI (if rm = 0 then false else true)) fl dt I L) L ) ly296 (lt305 rfl) s11_onBus l11_59 rfl rfl ⟨Nat.le_of_ble_eq_true rfl, Nat.le_of_ble_eq_true rfl, Nat.le_refl _, Nat.le_refl _⟩ (Nat.le_of_ble_eq_true rfl) rfl d11_frameBits_37 rfl ?_
      refine V_iret rfl d11_frameBits_40 (Nat.zero_le _) (Nat.zero_le _) ?_
      have hq2 := hq
      simp only [r11_frameBits, i11_frameBits, if_pos h1, hfl3, hbe] at hq2
      exact hq2
    refine V_if_eq (tgt := 29) (pc1 := 25) d11_frameBits_22 (by decide) rfl (fun h2 => ?_) (fun h2 => ?_)
    · skip
      refine V_iconst (pc1 := 30) d11_frameBits_29 vc_0 rfl ?_
      exact key3 _ (by first | rfl | (simp only [hfl3, if_pos h2]; done) | (simp only [hfl3, if_pos h2]; rfl)) _ (lvsub_p [0, 1, 2, 3, 4] rfl)
    · skip
      refine V_iconst (pc1 := 26) d11_frameBits_25 vc_1 rfl ?_
      refine V_goto (tgt := 30) d11_frameBits_26 (by decide) ?_
      exact key3 _ (by first | rfl | (simp only [hfl3, if_neg h2]; done) | (simp only [hfl3, if_neg h2]; rfl)) _ (lvsub_p [0, 1, 2, 3, 4] rfl)
  · skip
    refine V_bipush (pc1 := 13) d11_frameBits_11 vb_m2 rfl ?_
    refine V_iret rfl d11_frameBits_13 (Nat.zero_le _) (Nat.zero_le _) ?_
    have hq2 := hq
    simp only [r11_frameBits, i11_frameBits, if_neg h1] at hq2
    exact hq2
theorem w11_frameBits (g : GlT)  (idn : Int32) (rm : Int32) (ln : Int32) (dt : Int32) (I : Nat → Nat → Int32) (L : Nat → Nat → Int64) : Call g (k11_frameBits, 3, 0, 0) [.ref (xA g 296), .int idn, .int rm, .int ln, .int dt] (I, L, R0, 305) (Qi (r11_frameBits idn rm ln dt I L) (i11_frameBits idn rm ln dt I L) L) := Call.of (by decide) (Nat.le_of_ble_eq_true rfl) rfl (v11_frameBits g  idn rm ln dt  I L  _ (And.intro rfl rfl))


def r11_frameBit (idn : Int32) (rm : Int32) (ln : Int32) (dt : Int32) (x : Int32) (I : Nat → Nat → Int32) (L : Nat → Nat → Int64) : Int32 := (if (r11_isFrame idn rm ln dt) = true then (if 0 ≤ x then r11_onBus ((if bI (if rm = 0 then false else true) = 1 then 0 else 8 * (ln.toNatClampNeg)) + 34) x (i11_lays 303 0 idn (bI (if rm = 0 then false else true)) (ln.toNatClampNeg) dt I L) L else (-5)) else (-2))
def i11_frameBit (idn : Int32) (rm : Int32) (ln : Int32) (dt : Int32) (x : Int32) (I : Nat → Nat → Int32) (L : Nat → Nat → Int64) : Nat → Nat → Int32 := (if (r11_isFrame idn rm ln dt) = true then (if 0 ≤ x then i11_lays 303 0 idn (bI (if rm = 0 then false else true)) (ln.toNatClampNeg) dt I L else I) else I)
set_option maxRecDepth 4000 in
theorem v11_frameBit (g : GlT)  (idn : Int32) (rm : Int32) (ln : Int32) (dt : Int32) (x : Int32) (I : Nat → Nat → Int32) (L : Nat → Nat → Int64) (Q : Option Value → MemT → Prop) (hq : Q (some (.int (r11_frameBit idn rm ln dt x I L))) (i11_frameBit idn rm ln dt x I L, L, R0, 305)) : V g (k11_frameBit, 3, 0, 0) 0 0 0 [(0, .ref (xA g 296)), (1, .int idn), (2, .int rm), (3, .int ln), (4, .int dt), (5, .int x)] [] (I, L, R0, 305) Q := by
  refine V_iload_n (pc1 := 1) 1 d11_frameBit_0 rfl rfl ?_
  refine V_iload_n (pc1 := 2) 2 d11_frameBit_1 rfl rfl ?_
  refine V_iload_n (pc1 := 3) 3 d11_frameBit_2 rfl rfl ?_
  refine V_iload (pc1 := 5) 4 d11_frameBit_3 rfl rfl ?_
  refine V_si (pc1 := 8) (w11_isFrame g  idn rm ln dt  I L ) s11_isFrame l11_51 rfl rfl ⟨Nat.le_of_ble_eq_true rfl, Nat.le_of_ble_eq_true rfl, Nat.le_refl _, Nat.le_refl _⟩ (Nat.le_of_ble_eq_true rfl) rfl d11_frameBit_5 rfl ?_
  refine V_bne (tgt := 14) (pc1 := 11) d11_frameBit_8 (by decide) rfl (fun h1 => ?_) (fun h1 => ?_)
  · skip
    obtain ⟨fl, hfl, rfl⟩ := ln_nat h1
    have hfl3 : (nI fl).toNatClampNeg = fl := nI_clamp (by omega)
    refine V_iload (pc1 := 16) 5 d11_frameBit_14 rfl rfl ?_
    refine V_if_ge (tgt := 24) (pc1 := 19) d11_frameBit_16 (by decide) rfl (fun h2 => ?_) (fun h2 => ?_)
    · skip
      refine V_aload_n (pc1 := 25) 0 d11_frameBit_24 rfl rfl ?_
      refine V_aload_n (pc1 := 26) 0 d11_frameBit_25 rfl rfl ?_
      refine V_getr (pc1 := 29) ly296 (lt305 rfl) f11_29 (fun _ => rfl) rf296_8 d11_frameBit_26 rfl ?_
      refine V_iconst (pc1 := 30) d11_frameBit_29 vc_0 rfl ?_
      refine V_iload_n (pc1 := 31) 1 d11_frameBit_30 rfl rfl ?_
      refine V_iload_n (pc1 := 32) 2 d11_frameBit_31 rfl rfl ?_
      have key4 : ∀ (y40_0 : Int32), y40_0 = bI (if rm = 0 then false else true) → ∀ (lv : List (Nat × Value)), lvsub [(0, .ref (xA g 296)), (1, .int idn), (2, .int rm), (3, .int (nI fl)), (4, .int dt), (5, .int x)] lv → V g (k11_frameBit, 3, 0, 0) 0 0 40 lv [.int y40_0, .int idn, .int 0, .ref (xA g 303), .ref (xA g 296)] (I, L, R0, 305) Q := by
        intro y40_0 ey40_0
        subst ey40_0
        intro lv hlv
        refine V_lv hlv ?_
        refine V_iload_n (pc1 := 41) 3 d11_frameBit_40 rfl rfl ?_
        refine V_iload (pc1 := 43) 4 d11_frameBit_41 rfl rfl ?_
        refine V_si (pc1 := 46) (w11_lays g ly303 (lt305 rfl) 0 idn (bI (if rm = 0 then false else true)) fl dt (by omega) (by omega) I L ) s11_lays l11_55 rfl rfl ⟨Nat.le_of_ble_eq_true rfl, Nat.le_of_ble_eq_true rfl, Nat.le_refl _, Nat.le_refl _⟩ (Nat.le_of_ble_eq_true rfl) rfl d11_frameBit_43 rfl ?_
        obtain ⟨bn, hbn, hbe⟩ : ∃ b, b ≤ 32 ∧ (if bI (if rm = 0 then false else true) = 1 then 0 else 8 * fl) = b := ⟨_, ite8_le hfl, rfl⟩
        rw [show r11_lays 303 0 idn (bI (if rm = 0 then false else true)) fl dt I L = nI (bn + 34) from by rw [← hbe]; rfl]
        refine V_iload (pc1 := 48) 5 d11_frameBit_46 rfl rfl ?_
        refine V_vi (pc1 := 51) (w11_onBus g  (bn + 34) x (by omega) (i11_lays 303 0 idn (bI (if rm = 0 then false else true)) fl dt I L) L ) ly296 (lt305 rfl) s11_onBus l11_59 rfl rfl ⟨Nat.le_of_ble_eq_true rfl, Nat.le_of_ble_eq_true rfl, Nat.le_refl _, Nat.le_refl _⟩ (Nat.le_of_ble_eq_true rfl) rfl d11_frameBit_48 rfl ?_
        refine V_iret rfl d11_frameBit_51 (Nat.zero_le _) (Nat.zero_le _) ?_
        have hq2 := hq
        simp only [r11_frameBit, i11_frameBit, if_pos h1, hfl3, if_pos h2, hbe] at hq2
        exact hq2
      refine V_if_eq (tgt := 39) (pc1 := 35) d11_frameBit_32 (by decide) rfl (fun h3 => ?_) (fun h3 => ?_)
      · skip
        refine V_iconst (pc1 := 40) d11_frameBit_39 vc_0 rfl ?_
        exact key4 _ (by first | rfl | (simp only [hfl3, if_pos h3]; done) | (simp only [hfl3, if_pos h3]; rfl)) _ (lvsub_p [0, 1, 2, 3, 4, 5] rfl)
      · skip
        refine V_iconst (pc1 := 36) d11_frameBit_35 vc_1 rfl ?_
        refine V_goto (tgt := 40) d11_frameBit_36 (by decide) ?_
        exact key4 _ (by first | rfl | (simp only [hfl3, if_neg h3]; done) | (simp only [hfl3, if_neg h3]; rfl)) _ (lvsub_p [0, 1, 2, 3, 4, 5] rfl)
    · skip
      refine V_bipush (pc1 := 21) d11_frameBit_19 vb_m5 rfl ?_
      refine V_goto (tgt := 51) d11_frameBit_21 (by decide) ?_
      refine V_iret rfl d11_frameBit_51 (Nat.zero_le _) (Nat.zero_le _) ?_
      have hq2 := hq
      simp only [r11_frameBit, i11_frameBit, if_pos h1, hfl3, if_neg h2] at hq2
      exact hq2
  · skip
    refine V_bipush (pc1 := 13) d11_frameBit_11 vb_m2 rfl ?_
    refine V_iret rfl d11_frameBit_13 (Nat.zero_le _) (Nat.zero_le _) ?_
    have hq2 := hq
    simp only [r11_frameBit, i11_frameBit, if_neg h1] at hq2
    exact hq2
theorem w11_frameBit (g : GlT)  (idn : Int32) (rm : Int32) (ln : Int32) (dt : Int32) (x : Int32) (I : Nat → Nat → Int32) (L : Nat → Nat → Int64) : Call g (k11_frameBit, 3, 0, 0) [.ref (xA g 296), .int idn, .int rm, .int ln, .int dt, .int x] (I, L, R0, 305) (Qi (r11_frameBit idn rm ln dt x I L) (i11_frameBit idn rm ln dt x I L) L) := Call.of (by decide) (Nat.le_of_ble_eq_true rfl) rfl (v11_frameBit g  idn rm ln dt x  I L  _ (And.intro rfl rfl))

