def r11_inverted_4 : Nat → Nat → Int32 → (Nat → Nat → Int32) → (Nat → Nat → Int64) → Int32
  | 0, j, z, I, L => z
  | n + 1, j, z, I, L => r11_inverted_4  n (j + 1) (z ||| (if I 297 (2 * j + 1029) = I 297 1024 then I 297 (2 * j + 1030) else 0)) I L
set_option maxRecDepth 4000 in
theorem t11_inverted_4 (g : GlT)  (d : Nat) (hd8 : d ≤ 8) : ∀ (n j : Nat) (z : Int32) (I : Nat → Nat → Int32) (L : Nat → Nat → Int64), (hd : I 297 1028 = nI d) → (hn : j + n = d) → ∀ (Q : Option Value → MemT → Prop), Q (some (.int (r11_inverted_4 n j z I L))) (I, L, R0, 305) → V g (k11_inverted, 1, 0, 0) 0 0 4 [(0, .ref (xA g 296)), (1, .int z), (2, .int (nI j))] [] (I, L, R0, 305) Q := by
  intro n
  induction n with
  | zero =>
    intro j z I L hd hn Q hq
    refine V_iload_n (pc1 := 5) 2 d11_inverted_4 rfl rfl ?_
    refine V_aload_n (pc1 := 6) 0 d11_inverted_5 rfl rfl ?_
    refine V_getr (pc1 := 9) ly296 (lt305 rfl) f11_7 (fun _ => rfl) rf296_0 d11_inverted_6 rfl ?_
    refine V_sipush (pc1 := 12) d11_inverted_9 vs_1028 rfl ?_
    refine V_iald2 (pc1 := 13) 1028 ly297 (lt305 rfl) rfl (Nat.le_of_ble_eq_true rfl) hd d11_inverted_12 rfl ?_
    refine V_icmp_ge (tgt := 66) (pc1 := 16) d11_inverted_13 (by decide) rfl (fun _ => ?_) (fun h1 => absurd (nI_le (by omega) (by omega)) h1)
    refine V_iload_n (pc1 := 67) 1 d11_inverted_66 rfl rfl ?_
    refine V_iret rfl d11_inverted_67 (Nat.zero_le _) (Nat.zero_le _) ?_
    have hq2 := hq
    simp only [r11_inverted_4] at hq2
    exact hq2
  | succ n ih =>
    intro j z I L hd hn Q hq
    refine V_iload_n (pc1 := 5) 2 d11_inverted_4 rfl rfl ?_
    refine V_aload_n (pc1 := 6) 0 d11_inverted_5 rfl rfl ?_
    refine V_getr (pc1 := 9) ly296 (lt305 rfl) f11_7 (fun _ => rfl) rf296_0 d11_inverted_6 rfl ?_
    refine V_sipush (pc1 := 12) d11_inverted_9 vs_1028 rfl ?_
    refine V_iald2 (pc1 := 13) 1028 ly297 (lt305 rfl) rfl (Nat.le_of_ble_eq_true rfl) hd d11_inverted_12 rfl ?_
    refine V_icmp_ge (tgt := 66) (pc1 := 16) d11_inverted_13 (by decide) rfl (fun h1 => absurd h1 (nI_ge (by omega) (by omega))) (fun _ => ?_)
    refine V_iload_n (pc1 := 17) 1 d11_inverted_16 rfl rfl ?_
    refine V_aload_n (pc1 := 18) 0 d11_inverted_17 rfl rfl ?_
    refine V_getr (pc1 := 21) ly296 (lt305 rfl) f11_7 (fun _ => rfl) rf296_0 d11_inverted_18 rfl ?_
    refine V_sipush (pc1 := 24) d11_inverted_21 vs_1029 rfl ?_
    refine V_iconst (pc1 := 25) d11_inverted_24 vc_2 rfl ?_
    refine V_iload_n (pc1 := 26) 2 d11_inverted_25 rfl rfl ?_
    refine V_mulN (pc1 := 27) (a := 2) (b := j) (c := 2 * j) rfl rfl (by omega) d11_inverted_26 rfl ?_
    refine V_addN (pc1 := 28) (a := 1029) (b := 2 * j) (c := 2 * j + 1029) rfl rfl (by omega) d11_inverted_27 rfl ?_
    refine V_iald2 (pc1 := 29) (2 * j + 1029) ly297 (lt305 rfl) rfl (by omega) rfl d11_inverted_28 rfl ?_
    refine V_aload_n (pc1 := 30) 0 d11_inverted_29 rfl rfl ?_
    refine V_getr (pc1 := 33) ly296 (lt305 rfl) f11_7 (fun _ => rfl) rf296_0 d11_inverted_30 rfl ?_
    refine V_sipush (pc1 := 36) d11_inverted_33 vs_1024 rfl ?_
    refine V_iald2 (pc1 := 37) 1024 ly297 (lt305 rfl) rfl (Nat.le_of_ble_eq_true rfl) rfl d11_inverted_36 rfl ?_
    have key3 : ∀ (y58_0 : Int32), y58_0 = (if I 297 (2 * j + 1029) = I 297 1024 then I 297 (2 * j + 1030) else 0) → ∀ (lv : List (Nat × Value)), lvsub [(0, .ref (xA g 296)), (1, .int z), (2, .int (nI j))] lv → V g (k11_inverted, 1, 0, 0) 0 0 58 lv [.int y58_0, .int z] (I, L, R0, 305) Q := by
      intro y58_0 ey58_0
      subst ey58_0
      intro lv hlv
      refine V_lv hlv ?_
      refine V_ior (pc1 := 59) d11_inverted_58 rfl ?_
      refine V_istore_n (pc1 := 60) d11_inverted_59 (Nat.le_of_ble_eq_true rfl) rfl rfl ?_
      refine V_iinc (pc1 := 63) 2 (v := nI (j + 1)) d11_inverted_60 rfl (nI_1 _) (Nat.le_of_ble_eq_true rfl) rfl rfl ?_
      refine V_goto (tgt := 4) d11_inverted_63 (by decide) ?_
      refine V_lv (lv1 := [(0, .ref (xA g 296)), (1, .int (z ||| (if I 297 (2 * j + 1029) = I 297 1024 then I 297 (2 * j + 1030) else 0))), (2, .int (nI (j + 1)))]) (lvsub_p [2, 1, 0] rfl) ?_
      have hq2 := hq
      simp only [r11_inverted_4] at hq2
      exact ih (j + 1) (z ||| (if I 297 (2 * j + 1029) = I 297 1024 then I 297 (2 * j + 1030) else 0)) I L hd (by omega) Q hq2
    refine V_icmp_ne (tgt := 57) (pc1 := 40) d11_inverted_37 (by decide) rfl (fun h2 => ?_) (fun h2 => ?_)
    · skip
      refine V_iconst (pc1 := 58) d11_inverted_57 vc_0 rfl ?_
      exact key3 _ (by first | rfl | (simp only [if_neg h2]; done) | (simp only [if_neg h2]; rfl)) _ (lvsub_p [0, 1, 2] rfl)
    · skip
      refine V_aload_n (pc1 := 41) 0 d11_inverted_40 rfl rfl ?_
      refine V_getr (pc1 := 44) ly296 (lt305 rfl) f11_7 (fun _ => rfl) rf296_0 d11_inverted_41 rfl ?_
      refine V_sipush (pc1 := 47) d11_inverted_44 vs_1029 rfl ?_
      refine V_iconst (pc1 := 48) d11_inverted_47 vc_2 rfl ?_
      refine V_iload_n (pc1 := 49) 2 d11_inverted_48 rfl rfl ?_
      refine V_mulN (pc1 := 50) (a := 2) (b := j) (c := 2 * j) rfl rfl (by omega) d11_inverted_49 rfl ?_
      refine V_addN (pc1 := 51) (a := 1029) (b := 2 * j) (c := 2 * j + 1029) rfl rfl (by omega) d11_inverted_50 rfl ?_
      refine V_iconst (pc1 := 52) d11_inverted_51 vc_1 rfl ?_
      refine V_addN (pc1 := 53) (a := 2 * j + 1029) (b := 1) (c := 2 * j + 1030) rfl rfl (by omega) d11_inverted_52 rfl ?_
      refine V_iald2 (pc1 := 54) (2 * j + 1030) ly297 (lt305 rfl) rfl (by omega) rfl d11_inverted_53 rfl ?_
      refine V_goto (tgt := 58) d11_inverted_54 (by decide) ?_
      exact key3 _ (by first | rfl | (simp only [if_pos h2]; done) | (simp only [if_pos h2]; rfl)) _ (lvsub_p [0, 1, 2] rfl)
def r11_inverted (I : Nat → Nat → Int32) (L : Nat → Nat → Int64) : Int32 := r11_inverted_4  ((I 297 1028).toNatClampNeg) 0 0 I L
set_option maxRecDepth 4000 in
theorem v11_inverted (g : GlT)  (d : Nat) (hd8 : d ≤ 8) (I : Nat → Nat → Int32) (L : Nat → Nat → Int64) (hd : I 297 1028 = nI d) (Q : Option Value → MemT → Prop) (hq : Q (some (.int (r11_inverted I L))) (I, L, R0, 305)) : V g (k11_inverted, 1, 0, 0) 0 0 0 [(0, .ref (xA g 296))] [] (I, L, R0, 305) Q := by
  have hd3 : (I 297 1028).toNatClampNeg = d := by rw [hd]; exact nI_clamp (by omega)
  refine V_iconst (pc1 := 1) d11_inverted_0 vc_0 rfl ?_
  refine V_istore_n (pc1 := 2) d11_inverted_1 (Nat.le_of_ble_eq_true rfl) rfl rfl ?_
  refine V_iconst (pc1 := 3) d11_inverted_2 vc_0 rfl ?_
  refine V_istore_n (pc1 := 4) d11_inverted_3 (Nat.le_of_ble_eq_true rfl) rfl rfl ?_
  refine V_lv (lv1 := [(0, .ref (xA g 296)), (1, .int 0), (2, .int (nI 0))]) (lvsub_p [2, 1, 0] rfl) ?_
  have hq2 := hq
  simp only [r11_inverted, hd3] at hq2
  exact t11_inverted_4 g   _ hd8 d 0 0 I L hd (by omega) Q hq2
theorem w11_inverted (g : GlT)  (d : Nat) (hd8 : d ≤ 8) (I : Nat → Nat → Int32) (L : Nat → Nat → Int64) (hd : I 297 1028 = nI d) : Call g (k11_inverted, 1, 0, 0) [.ref (xA g 296)] (I, L, R0, 305) (Qi (r11_inverted I L) (I) L) := Call.of (by decide) (Nat.le_of_ble_eq_true rfl) rfl (v11_inverted g   d hd8 I L hd _ (And.intro rfl rfl))


def i11_passes_4 : Nat → Nat → Nat → (Nat → Nat → Int32) → (Nat → Nat → Int64) → (Nat → Nat → Int32)
  | 0, j, q, I, L => uI I 297 1028 (nI q)
  | n + 1, j, q, I, L => i11_passes_4  n (j + 1) (if I 297 (2 * j + 1029) < I 297 1024 then q else q + 1) (if I 297 (2 * j + 1029) < I 297 1024 then I else uI (uI I 297 (2 * q + 1029) (I 297 (2 * j + 1029))) 297 (2 * q + 1030) ((uI I 297 (2 * q + 1029) (I 297 (2 * j + 1029))) 297 (2 * j + 1030))) L
set_option maxRecDepth 4000 in
theorem t11_passes_4 (g : GlT)  (d : Nat) (hd8 : d ≤ 8) : ∀ (n j q : Nat) (I : Nat → Nat → Int32) (L : Nat → Nat → Int64), (hd : I 297 1028 = nI d) → (hn : j + n = d) → (hq0 : q ≤ j) → ∀ (Q : Option Value → MemT → Prop), Q (none) (i11_passes_4 n j q I L, L, R0, 305) → V g (k11_passes, 1, 0, 0) 0 0 4 [(0, .ref (xA g 296)), (1, .int (nI q)), (2, .int (nI j))] [] (I, L, R0, 305) Q := by
  intro n
  induction n with
  | zero =>
    intro j q I L hd hn hq0 Q hq
    refine V_iload_n (pc1 := 5) 2 d11_passes_4 rfl rfl ?_
    refine V_aload_n (pc1 := 6) 0 d11_passes_5 rfl rfl ?_
    refine V_getr (pc1 := 9) ly296 (lt305 rfl) f11_7 (fun _ => rfl) rf296_0 d11_passes_6 rfl ?_
    refine V_sipush (pc1 := 12) d11_passes_9 vs_1028 rfl ?_
    refine V_iald2 (pc1 := 13) 1028 ly297 (lt305 rfl) rfl (Nat.le_of_ble_eq_true rfl) hd d11_passes_12 rfl ?_
    refine V_icmp_ge (tgt := 100) (pc1 := 16) d11_passes_13 (by decide) rfl (fun _ => ?_) (fun h1 => absurd (nI_le (by omega) (by omega)) h1)
    refine V_aload_n (pc1 := 101) 0 d11_passes_100 rfl rfl ?_
    refine V_getr (pc1 := 104) ly296 (lt305 rfl) f11_7 (fun _ => rfl) rf296_0 d11_passes_101 rfl ?_
    refine V_sipush (pc1 := 107) d11_passes_104 vs_1028 rfl ?_
    refine V_iload_n (pc1 := 108) 1 d11_passes_107 rfl rfl ?_
    refine V_iast (pc1 := 109) 1028 ly297 (lt305 rfl) rfl (Nat.le_of_ble_eq_true rfl) d11_passes_108 rfl ?_
    refine V_vret rfl d11_passes_109 (Nat.zero_le _) (Nat.zero_le _) ?_
    have hq2 := hq
    simp only [i11_passes_4] at hq2
    exact hq2
  | succ n ih =>
    intro j q I L hd hn hq0 Q hq
    refine V_iload_n (pc1 := 5) 2 d11_passes_4 rfl rfl ?_
    refine V_aload_n (pc1 := 6) 0 d11_passes_5 rfl rfl ?_
    refine V_getr (pc1 := 9) ly296 (lt305 rfl) f11_7 (fun _ => rfl) rf296_0 d11_passes_6 rfl ?_
    refine V_sipush (pc1 := 12) d11_passes_9 vs_1028 rfl ?_
    refine V_iald2 (pc1 := 13) 1028 ly297 (lt305 rfl) rfl (Nat.le_of_ble_eq_true rfl) hd d11_passes_12 rfl ?_
    refine V_icmp_ge (tgt := 100) (pc1 := 16) d11_passes_13 (by decide) rfl (fun h1 => absurd h1 (nI_ge (by omega) (by omega))) (fun _ => ?_)
    refine V_aload_n (pc1 := 17) 0 d11_passes_16 rfl rfl ?_
    refine V_getr (pc1 := 20) ly296 (lt305 rfl) f11_7 (fun _ => rfl) rf296_0 d11_passes_17 rfl ?_
    refine V_sipush (pc1 := 23) d11_passes_20 vs_1029 rfl ?_
    refine V_iconst (pc1 := 24) d11_passes_23 vc_2 rfl ?_
    refine V_iload_n (pc1 := 25) 2 d11_passes_24 rfl rfl ?_
    refine V_mulN (pc1 := 26) (a := 2) (b := j) (c := 2 * j) rfl rfl (by omega) d11_passes_25 rfl ?_
    refine V_addN (pc1 := 27) (a := 1029) (b := 2 * j) (c := 2 * j + 1029) rfl rfl (by omega) d11_passes_26 rfl ?_
    refine V_iald2 (pc1 := 28) (2 * j + 1029) ly297 (lt305 rfl) rfl (by omega) rfl d11_passes_27 rfl ?_
    refine V_aload_n (pc1 := 29) 0 d11_passes_28 rfl rfl ?_
    refine V_getr (pc1 := 32) ly296 (lt305 rfl) f11_7 (fun _ => rfl) rf296_0 d11_passes_29 rfl ?_
    refine V_sipush (pc1 := 35) d11_passes_32 vs_1024 rfl ?_
    refine V_iald2 (pc1 := 36) 1024 ly297 (lt305 rfl) rfl (Nat.le_of_ble_eq_true rfl) rfl d11_passes_35 rfl ?_
    have key3 : ∀ (z94_1 : Int32), z94_1 = nI (if I 297 (2 * j + 1029) < I 297 1024 then q else q + 1) → ∀ (zI94 : Nat → Nat → Int32), zI94 = (if I 297 (2 * j + 1029) < I 297 1024 then I else uI (uI I 297 (2 * q + 1029) (I 297 (2 * j + 1029))) 297 (2 * q + 1030) ((uI I 297 (2 * q + 1029) (I 297 (2 * j + 1029))) 297 (2 * j + 1030))) → ∀ (lv : List (Nat × Value)), lvsub [(0, .ref (xA g 296)), (1, .int z94_1), (2, .int (nI j))] lv → V g (k11_passes, 1, 0, 0) 0 0 94 lv [] (zI94, L, R0, 305) Q := by
      intro z94_1 ez94_1 zI94 ezI94
      subst ez94_1
      subst ezI94
      intro lv hlv
      refine V_lv hlv ?_
      refine V_iinc (pc1 := 97) 2 (v := nI (j + 1)) d11_passes_94 rfl (nI_1 _) (Nat.le_of_ble_eq_true rfl) rfl rfl ?_
      refine V_goto (tgt := 4) d11_passes_97 (by decide) ?_
      refine V_lv (lv1 := [(0, .ref (xA g 296)), (1, .int (nI (if I 297 (2 * j + 1029) < I 297 1024 then q else q + 1))), (2, .int (nI (j + 1)))]) (lvsub_p [1, 2, 0] rfl) ?_
      have hq2 := hq
      simp only [i11_passes_4] at hq2
      exact ih (j + 1) (if I 297 (2 * j + 1029) < I 297 1024 then q else q + 1) (if I 297 (2 * j + 1029) < I 297 1024 then I else uI (uI I 297 (2 * q + 1029) (I 297 (2 * j + 1029))) 297 (2 * q + 1030) ((uI I 297 (2 * q + 1029) (I 297 (2 * j + 1029))) 297 (2 * j + 1030))) L ((ite_get rfl ((uI_ne (uI I 297 (2 * q + 1029) (I 297 (2 * j + 1029))) 297 ((uI I 297 (2 * q + 1029) (I 297 (2 * j + 1029))) 297 (2 * j + 1030)) (show (1028 : Nat) ≠ 2 * q + 1030 by omega)).trans (uI_ne I 297 (I 297 (2 * j + 1029)) (show (1028 : Nat) ≠ 2 * q + 1029 by omega)))).trans hd) (by omega) (by split <;> omega) Q hq2
    refine V_icmp_lt (tgt := 94) (pc1 := 39) d11_passes_36 (by decide) rfl (fun h2 => ?_) (fun h2 => ?_)
    · skip
      exact key3 _ (by first | rfl | (simp only [if_pos h2]; done) | (simp only [if_pos h2]; rfl)) _ (by first | rfl | (simp only [if_pos h2]; done) | (simp only [if_pos h2]; rfl)) _ (lvsub_p [0, 1, 2] rfl)
    · skip
      refine V_aload_n (pc1 := 40) 0 d11_passes_39 rfl rfl ?_
      refine V_getr (pc1 := 43) ly296 (lt305 rfl) f11_7 (fun _ => rfl) rf296_0 d11_passes_40 rfl ?_
      refine V_sipush (pc1 := 46) d11_passes_43 vs_1029 rfl ?_
      refine V_iconst (pc1 := 47) d11_passes_46 vc_2 rfl ?_
      refine V_iload_n (pc1 := 48) 1 d11_passes_47 rfl rfl ?_
      refine V_mulN (pc1 := 49) (a := 2) (b := q) (c := 2 * q) rfl rfl (by omega) d11_passes_48 rfl ?_
      refine V_addN (pc1 := 50) (a := 1029) (b := 2 * q) (c := 2 * q + 1029) rfl rfl (by omega) d11_passes_49 rfl ?_
      refine V_aload_n (pc1 := 51) 0 d11_passes_50 rfl rfl ?_
      refine V_getr (pc1 := 54) ly296 (lt305 rfl) f11_7 (fun _ => rfl) rf296_0 d11_passes_51 rfl ?_
      refine V_sipush (pc1 := 57) d11_passes_54 vs_1029 rfl ?_
      refine V_iconst (pc1 := 58) d11_passes_57 vc_2 rfl ?_
      refine V_iload_n (pc1 := 59) 2 d11_passes_58 rfl rfl ?_
      refine V_mulN (pc1 := 60) (a := 2) (b := j) (c := 2 * j) rfl rfl (by omega) d11_passes_59 rfl ?_
      refine V_addN (pc1 := 61) (a := 1029) (b := 2 * j) (c := 2 * j + 1029) rfl rfl (by omega) d11_passes_60 rfl ?_
      refine V_iald2 (pc1 := 62) (2 * j + 1029) ly297 (lt305 rfl) rfl (by omega) rfl d11_passes_61 rfl ?_
      refine V_iast (pc1 := 63) (2 * q + 1029) ly297 (lt305 rfl) rfl (by omega) d11_passes_62 rfl ?_
      refine V_aload_n (pc1 := 64) 0 d11_passes_63 rfl rfl ?_
      refine V_getr (pc1 := 67) ly296 (lt305 rfl) f11_7 (fun _ => rfl) rf296_0 d11_passes_64 rfl ?_
      refine V_sipush (pc1 := 70) d11_passes_67 vs_1029 rfl ?_
      refine V_iconst (pc1 := 71) d11_passes_70 vc_2 rfl ?_
      refine V_iload_n (pc1 := 72) 1 d11_passes_71 rfl rfl ?_
      refine V_mulN (pc1 := 73) (a := 2) (b := q) (c := 2 * q) rfl rfl (by omega) d11_passes_72 rfl ?_
      refine V_addN (pc1 := 74) (a := 1029) (b := 2 * q) (c := 2 * q + 1029) rfl rfl (by omega) d11_passes_73 rfl ?_
      refine V_iconst (pc1 := 75) d11_passes_74 vc_1 rfl ?_
      refine V_addN (pc1 := 76) (a := 2 * q + 1029) (b := 1) (c := 2 * q + 1030) rfl rfl (by omega) d11_passes_75 rfl ?_
      refine V_aload_n (pc1 := 77) 0 d11_passes_76 rfl rfl ?_
      refine V_getr (pc1 := 80) ly296 (lt305 rfl) f11_7 (fun _ => rfl) rf296_0 d11_passes_77 rfl ?_
      refine V_sipush (pc1 := 83) d11_passes_80 vs_1029 rfl ?_
      refine V_iconst (pc1 := 84) d11_passes_83 vc_2 rfl ?_
      refine V_iload_n (pc1 := 85) 2 d11_passes_84 rfl rfl ?_
      refine V_mulN (pc1 := 86) (a := 2) (b := j) (c := 2 * j) rfl rfl (by omega) d11_passes_85 rfl ?_
      refine V_addN (pc1 := 87) (a := 1029) (b := 2 * j) (c := 2 * j + 1029) rfl rfl (by omega) d11_passes_86 rfl ?_
      refine V_iconst (pc1 := 88) d11_passes_87 vc_1 rfl ?_
      refine V_addN (pc1 := 89) (a := 2 * j + 1029) (b := 1) (c := 2 * j + 1030) rfl rfl (by omega) d11_passes_88 rfl ?_
      refine V_iald2 (pc1 := 90) (2 * j + 1030) ly297 (lt305 rfl) rfl (by omega) rfl d11_passes_89 rfl ?_
      refine V_iast (pc1 := 91) (2 * q + 1030) ly297 (lt305 rfl) rfl (by omega) d11_passes_90 rfl ?_
      refine V_iinc (pc1 := 94) 1 (v := nI (q + 1)) d11_passes_91 rfl (nI_1 _) (Nat.le_of_ble_eq_true rfl) rfl rfl ?_
      exact key3 _ (by first | rfl | (simp only [if_neg h2]; done) | (simp only [if_neg h2]; rfl)) _ (by first | rfl | (simp only [if_neg h2]; done) | (simp only [if_neg h2]; rfl)) _ (lvsub_p [1, 0, 2] rfl)
def i11_passes (I : Nat → Nat → Int32) (L : Nat → Nat → Int64) : Nat → Nat → Int32 := i11_passes_4  ((I 297 1028).toNatClampNeg) 0 0 I L
set_option maxRecDepth 4000 in
theorem v11_passes (g : GlT)  (d : Nat) (hd8 : d ≤ 8) (I : Nat → Nat → Int32) (L : Nat → Nat → Int64) (hd : I 297 1028 = nI d) (Q : Option Value → MemT → Prop) (hq : Q (none) (i11_passes I L, L, R0, 305)) : V g (k11_passes, 1, 0, 0) 0 0 0 [(0, .ref (xA g 296))] [] (I, L, R0, 305) Q := by
  have hd3 : (I 297 1028).toNatClampNeg = d := by rw [hd]; exact nI_clamp (by omega)
  refine V_iconst (pc1 := 1) d11_passes_0 vc_0 rfl ?_
  refine V_istore_n (pc1 := 2) d11_passes_1 (Nat.le_of_ble_eq_true rfl) rfl rfl ?_
  refine V_iconst (pc1 := 3) d11_passes_2 vc_0 rfl ?_
  refine V_istore_n (pc1 := 4) d11_passes_3 (Nat.le_of_ble_eq_true rfl) rfl rfl ?_
  refine V_lv (lv1 := [(0, .ref (xA g 296)), (1, .int (nI 0)), (2, .int (nI 0))]) (lvsub_p [2, 1, 0] rfl) ?_
  have hq2 := hq
  simp only [i11_passes, hd3] at hq2
  exact t11_passes_4 g   _ hd8 d 0 0 I L hd (by omega) (by omega) Q hq2
theorem w11_passes (g : GlT)  (d : Nat) (hd8 : d ≤ 8) (I : Nat → Nat → Int32) (L : Nat → Nat → Int64) (hd : I 297 1028 = nI d) : Call g (k11_passes, 1, 0, 0) [.ref (xA g 296)] (I, L, R0, 305) (Qv (i11_passes I L) L) := Call.of (by decide) (Nat.le_of_ble_eq_true rfl) rfl (v11_passes g   d hd8 I L hd _ (And.intro rfl rfl))


def r11_sentByAll (I : Nat → Nat → Int32) (L : Nat → Nat → Int64) : Int32 := (((I 297 14) + (I 297 270)) + (I 297 526)) + (I 297 782)
set_option maxRecDepth 4000 in
theorem v11_sentByAll (g : GlT)  (I : Nat → Nat → Int32) (L : Nat → Nat → Int64) (Q : Option Value → MemT → Prop) (hq : Q (some (.int (r11_sentByAll I L))) (I, L, R0, 305)) : V g (k11_sentByAll, 2, 0, 0) 0 0 0 [(0, .ref (xA g 296))] [] (I, L, R0, 305) Q := by
  refine V_aload_n (pc1 := 1) 0 d11_sentByAll_0 rfl rfl ?_
  refine V_getr (pc1 := 4) ly296 (lt305 rfl) f11_7 (fun _ => rfl) rf296_0 d11_sentByAll_1 rfl ?_
  refine V_iconst (pc1 := 5) d11_sentByAll_4 vc_0 rfl ?_
  refine V_bipush (pc1 := 7) d11_sentByAll_5 vb_14 rfl ?_
  refine V_si (pc1 := 10) (w11_at2 g  0 14 14 (by omega) I L ) s11_at l11_35 rfl rfl ⟨Nat.le_of_ble_eq_true rfl, Nat.le_of_ble_eq_true rfl, Nat.le_refl _, Nat.le_refl _⟩ (Nat.le_of_ble_eq_true rfl) rfl d11_sentByAll_7 rfl ?_
  refine V_iald2 (pc1 := 11) 14 ly297 (lt305 rfl) rfl (Nat.le_of_ble_eq_true rfl) rfl d11_sentByAll_10 rfl ?_
  refine V_aload_n (pc1 := 12) 0 d11_sentByAll_11 rfl rfl ?_
  refine V_getr (pc1 := 15) ly296 (lt305 rfl) f11_7 (fun _ => rfl) rf296_0 d11_sentByAll_12 rfl ?_
  refine V_iconst (pc1 := 16) d11_sentByAll_15 vc_1 rfl ?_
  refine V_bipush (pc1 := 18) d11_sentByAll_16 vb_14 rfl ?_
  refine V_si (pc1 := 21) (w11_at2 g  1 14 270 (by omega) I L ) s11_at l11_35 rfl rfl ⟨Nat.le_of_ble_eq_true rfl, Nat.le_of_ble_eq_true rfl, Nat.le_refl _, Nat.le_refl _⟩ (Nat.le_of_ble_eq_true rfl) rfl d11_sentByAll_18 rfl ?_
  refine V_iald2 (pc1 := 22) 270 ly297 (lt305 rfl) rfl (Nat.le_of_ble_eq_true rfl) rfl d11_sentByAll_21 rfl ?_
  refine V_iadd (pc1 := 23) d11_sentByAll_22 rfl ?_
  refine V_aload_n (pc1 := 24) 0 d11_sentByAll_23 rfl rfl ?_
  refine V_getr (pc1 := 27) ly296 (lt305 rfl) f11_7 (fun _ => rfl) rf296_0 d11_sentByAll_24 rfl ?_
  refine V_iconst (pc1 := 28) d11_sentByAll_27 vc_2 rfl ?_
  refine V_bipush (pc1 := 30) d11_sentByAll_28 vb_14 rfl ?_
  refine V_si (pc1 := 33) (w11_at2 g  2 14 526 (by omega) I L ) s11_at l11_35 rfl rfl ⟨Nat.le_of_ble_eq_true rfl, Nat.le_of_ble_eq_true rfl, Nat.le_refl _, Nat.le_refl _⟩ (Nat.le_of_ble_eq_true rfl) rfl d11_sentByAll_30 rfl ?_
  refine V_iald2 (pc1 := 34) 526 ly297 (lt305 rfl) rfl (Nat.le_of_ble_eq_true rfl) rfl d11_sentByAll_33 rfl ?_
  refine V_iadd (pc1 := 35) d11_sentByAll_34 rfl ?_
  refine V_aload_n (pc1 := 36) 0 d11_sentByAll_35 rfl rfl ?_
  refine V_getr (pc1 := 39) ly296 (lt305 rfl) f11_7 (fun _ => rfl) rf296_0 d11_sentByAll_36 rfl ?_
  refine V_iconst (pc1 := 40) d11_sentByAll_39 vc_3 rfl ?_
  refine V_bipush (pc1 := 42) d11_sentByAll_40 vb_14 rfl ?_
  refine V_si (pc1 := 45) (w11_at2 g  3 14 782 (by omega) I L ) s11_at l11_35 rfl rfl ⟨Nat.le_of_ble_eq_true rfl, Nat.le_of_ble_eq_true rfl, Nat.le_refl _, Nat.le_refl _⟩ (Nat.le_of_ble_eq_true rfl) rfl d11_sentByAll_42 rfl ?_
  refine V_iald2 (pc1 := 46) 782 ly297 (lt305 rfl) rfl (Nat.le_of_ble_eq_true rfl) rfl d11_sentByAll_45 rfl ?_
  refine V_iadd (pc1 := 47) d11_sentByAll_46 rfl ?_
  refine V_iret rfl d11_sentByAll_47 (Nat.zero_le _) (Nat.zero_le _) ?_
  have hq2 := hq
  simp only [r11_sentByAll] at hq2
  exact hq2
theorem w11_sentByAll (g : GlT)  (I : Nat → Nat → Int32) (L : Nat → Nat → Int64) : Call g (k11_sentByAll, 2, 0, 0) [.ref (xA g 296)] (I, L, R0, 305) (Qi (r11_sentByAll I L) (I) L) := Call.of (by decide) (Nat.le_of_ble_eq_true rfl) rfl (v11_sentByAll g    I L  _ (And.intro rfl rfl))


def r11_isSettled_4 : Nat → Nat → Bool → (Nat → Nat → Int32) → (Nat → Nat → Int64) → Bool
  | 0, i, z, I, L => z
  | n + 1, i, z, I, L => r11_isSettled_4  n (i + 1) (if z = true then (if (I 297 (256 * i) = 0) ∨ ((I 297 (256 * i) = 1) ∨ ((I 297 (256 * i) = 3) ∧ (I 297 (256 * i + 23) = 0))) then true else false) else false) I L
set_option maxRecDepth 4000 in
theorem t11_isSettled_4 (g : GlT)   : ∀ (n i : Nat) (z : Bool) (I : Nat → Nat → Int32) (L : Nat → Nat → Int64), (hn : i + n = 4) → ∀ (Q : Option Value → MemT → Prop), Q (some (.int (bI (r11_isSettled_4 n i z I L)))) (I, L, R0, 305) → V g (k11_isSettled, 2, 0, 0) 0 0 4 [(0, .ref (xA g 296)), (1, .int (bI z)), (2, .int (nI i))] [] (I, L, R0, 305) Q := by
  intro n
  induction n with
  | zero =>
    intro i z I L hn Q hq
    refine V_iload_n (pc1 := 5) 2 d11_isSettled_4 rfl rfl ?_
    refine V_iconst (pc1 := 6) d11_isSettled_5 vc_4 rfl ?_
    refine V_icmp_ge (tgt := 64) (pc1 := 9) d11_isSettled_6 (by decide) rfl (fun _ => ?_) (fun h1 => absurd (by rw [show i = 4 by omega]; decide) h1)
    refine V_iload_n (pc1 := 65) 1 d11_isSettled_64 rfl rfl ?_
    refine V_zret rfl (bI_or _) d11_isSettled_65 (Nat.zero_le _) (Nat.zero_le _) ?_
    have hq2 := hq
    simp only [r11_isSettled_4] at hq2
    exact hq2
  | succ n ih =>
    intro i z I L hn Q hq
    refine V_iload_n (pc1 := 5) 2 d11_isSettled_4 rfl rfl ?_
    refine V_iconst (pc1 := 6) d11_isSettled_5 vc_4 rfl ?_
    refine V_icmp_ge (tgt := 64) (pc1 := 9) d11_isSettled_6 (by decide) rfl (fun h1 => absurd h1 (nI_ge (b := 4) (by omega) (by omega))) (fun _ => ?_)
    refine V_aload_n (pc1 := 10) 0 d11_isSettled_9 rfl rfl ?_
    refine V_getr (pc1 := 13) ly296 (lt305 rfl) f11_7 (fun _ => rfl) rf296_0 d11_isSettled_10 rfl ?_
    refine V_iload_n (pc1 := 14) 2 d11_isSettled_13 rfl rfl ?_
    refine V_iconst (pc1 := 15) d11_isSettled_14 vc_0 rfl ?_
    refine V_si (pc1 := 18) (w11_at2 g  i 0 (256 * i) (by omega) I L ) s11_at l11_35 rfl rfl ⟨Nat.le_of_ble_eq_true rfl, Nat.le_of_ble_eq_true rfl, Nat.le_refl _, Nat.le_refl _⟩ (Nat.le_of_ble_eq_true rfl) rfl d11_isSettled_15 rfl ?_
    refine V_iald2 (pc1 := 19) (256 * i) ly297 (lt305 rfl) rfl (by omega) rfl d11_isSettled_18 rfl ?_
    refine V_istore_n (pc1 := 20) d11_isSettled_19 (Nat.le_of_ble_eq_true rfl) rfl rfl ?_
    refine V_iload_n (pc1 := 21) 2 d11_isSettled_20 rfl rfl ?_
    have key10 : ∀ (y57_0 : Int32), y57_0 = bI (if z = true then (if (I 297 (256 * i) = 0) ∨ ((I 297 (256 * i) = 1) ∨ ((I 297 (256 * i) = 3) ∧ (I 297 (256 * i + 23) = 0))) then true else false) else false) → ∀ (lv : List (Nat × Value)), lvsub [(3, .int (I 297 (256 * i))), (0, .ref (xA g 296)), (1, .int (bI z)), (2, .int (nI i))] lv → V g (k11_isSettled, 2, 0, 0) 0 0 57 lv [.int y57_0] (I, L, R0, 305) Q := by
      intro y57_0 ey57_0
      subst ey57_0
      intro lv hlv
      refine V_lv hlv ?_
      refine V_istore_n (pc1 := 58) d11_isSettled_57 (Nat.le_of_ble_eq_true rfl) rfl rfl ?_
      refine V_iinc (pc1 := 61) 3 (v := nI (i + 1)) d11_isSettled_58 rfl (nI_1 _) (Nat.le_of_ble_eq_true rfl) rfl rfl ?_
      refine V_goto (tgt := 4) d11_isSettled_61 (by decide) ?_
      refine V_lv (lv1 := [(0, .ref (xA g 296)), (1, .int (bI (if z = true then (if (I 297 (256 * i) = 0) ∨ ((I 297 (256 * i) = 1) ∨ ((I 297 (256 * i) = 3) ∧ (I 297 (256 * i + 23) = 0))) then true else false) else false))), (2, .int (nI (i + 1)))]) (lvsub_p [3, 1, 0] rfl) ?_
      have hq2 := hq
      simp only [r11_isSettled_4] at hq2
      exact ih (i + 1) (if z = true then (if (I 297 (256 * i) = 0) ∨ ((I 297 (256 * i) = 1) ∨ ((I 297 (256 * i) = 3) ∧ (I 297 (256 * i + 23) = 0))) then true else false) else false) I L (by omega) Q hq2
    refine V_beq (tgt := 56) (pc1 := 24) d11_isSettled_21 (by decide) rfl (fun h2 => ?_) (fun h2 => ?_)
    · skip
      refine V_iconst (pc1 := 57) d11_isSettled_56 vc_0 rfl ?_
      exact key10 _ (by first | rfl | (simp only [if_neg h2]; done) | (simp only [if_neg h2]; rfl)) _ (lvsub_p [0, 1, 2, 3] rfl)
    · skip
      refine V_iload_n (pc1 := 25) 0 d11_isSettled_24 rfl rfl ?_
      have k4 : ((I 297 (256 * i) = 0) ∨ ((I 297 (256 * i) = 1) ∨ ((I 297 (256 * i) = 3) ∧ (I 297 (256 * i + 23) = 0)))) → V g (k11_isSettled, 2, 0, 0) 0 0 52 [(3, .int (I 297 (256 * i))), (0, .ref (xA g 296)), (1, .int (bI z)), (2, .int (nI i))] [] (I, L, R0, 305) Q := by
        intro h3
        refine V_iconst (pc1 := 53) d11_isSettled_52 vc_1 rfl ?_
        refine V_goto (tgt := 57) d11_isSettled_53 (by decide) ?_
        exact key10 _ (by first | rfl | (simp only [if_pos h2, if_pos h3]; done) | (simp only [if_pos h2, if_pos h3]; rfl)) _ (lvsub_p [0, 1, 2, 3] rfl)
      have k5 : ¬ ((I 297 (256 * i) = 0) ∨ ((I 297 (256 * i) = 1) ∨ ((I 297 (256 * i) = 3) ∧ (I 297 (256 * i + 23) = 0)))) → V g (k11_isSettled, 2, 0, 0) 0 0 56 [(3, .int (I 297 (256 * i))), (0, .ref (xA g 296)), (1, .int (bI z)), (2, .int (nI i))] [] (I, L, R0, 305) Q := by
        intro h3
        refine V_iconst (pc1 := 57) d11_isSettled_56 vc_0 rfl ?_
        exact key10 _ (by first | rfl | (simp only [if_pos h2, if_neg h3]; done) | (simp only [if_pos h2, if_neg h3]; rfl)) _ (lvsub_p [0, 1, 2, 3] rfl)
      refine V_if_eq (tgt := 52) (pc1 := 28) d11_isSettled_25 (by decide) rfl (fun h6 => ?_) (fun h6 => ?_)
      · skip
        exact k4 (Or.inl h6)
      · skip
        refine V_iload_n (pc1 := 29) 0 d11_isSettled_28 rfl rfl ?_
        refine V_iconst (pc1 := 30) d11_isSettled_29 vc_1 rfl ?_
        refine V_icmp_eq (tgt := 52) (pc1 := 33) d11_isSettled_30 (by decide) rfl (fun h7 => ?_) (fun h7 => ?_)
        · skip
          exact k4 (Or.inr (Or.inl h7))
        · skip
          refine V_iload_n (pc1 := 34) 0 d11_isSettled_33 rfl rfl ?_
          refine V_iconst (pc1 := 35) d11_isSettled_34 vc_3 rfl ?_
          refine V_icmp_ne (tgt := 56) (pc1 := 38) d11_isSettled_35 (by decide) rfl (fun h8 => ?_) (fun h8 => ?_)
          · skip
            exact k5 (fun z => z.elim h6 (fun z => z.elim h7 (fun z => h8 z.1)))
          · skip
            refine V_aload_n (pc1 := 39) 1 d11_isSettled_38 rfl rfl ?_
            refine V_getr (pc1 := 42) ly296 (lt305 rfl) f11_7 (fun _ => rfl) rf296_0 d11_isSettled_39 rfl ?_
            refine V_iload_n (pc1 := 43) 3 d11_isSettled_42 rfl rfl ?_
            refine V_bipush (pc1 := 45) d11_isSettled_43 vb_23 rfl ?_
            refine V_si (pc1 := 48) (w11_at2 g  i 23 (256 * i + 23) (by omega) I L ) s11_at l11_35 rfl rfl ⟨Nat.le_of_ble_eq_true rfl, Nat.le_of_ble_eq_true rfl, Nat.le_refl _, Nat.le_refl _⟩ (Nat.le_of_ble_eq_true rfl) rfl d11_isSettled_45 rfl ?_
            refine V_iald2 (pc1 := 49) (256 * i + 23) ly297 (lt305 rfl) rfl (by omega) rfl d11_isSettled_48 rfl ?_
            refine V_if_ne (tgt := 56) (pc1 := 52) d11_isSettled_49 (by decide) rfl (fun h9 => ?_) (fun h9 => ?_)
            · skip
              exact k5 (fun z => z.elim h6 (fun z => z.elim h7 (fun z => h9 z.2)))
            · skip
              exact k4 (Or.inr (Or.inr ⟨h8, h9⟩))
def r11_isSettled (I : Nat → Nat → Int32) (L : Nat → Nat → Int64) : Bool := r11_isSettled_4  4 0 true I L
set_option maxRecDepth 4000 in
theorem v11_isSettled (g : GlT)  (I : Nat → Nat → Int32) (L : Nat → Nat → Int64) (Q : Option Value → MemT → Prop) (hq : Q (some (.int (bI (r11_isSettled I L)))) (I, L, R0, 305)) : V g (k11_isSettled, 2, 0, 0) 0 0 0 [(0, .ref (xA g 296))] [] (I, L, R0, 305) Q := by
  refine V_iconst (pc1 := 1) d11_isSettled_0 vc_1 rfl ?_
  refine V_istore_n (pc1 := 2) d11_isSettled_1 (Nat.le_of_ble_eq_true rfl) rfl rfl ?_
  refine V_iconst (pc1 := 3) d11_isSettled_2 vc_0 rfl ?_
  refine V_istore_n (pc1 := 4) d11_isSettled_3 (Nat.le_of_ble_eq_true rfl) rfl rfl ?_
  refine V_lv (lv1 := [(0, .ref (xA g 296)), (1, .int (bI true)), (2, .int (nI 0))]) (lvsub_p [2, 1, 0] rfl) ?_
  have hq2 := hq
  simp only [r11_isSettled] at hq2
  exact t11_isSettled_4 g    4 0 true I L rfl Q hq2
theorem w11_isSettled (g : GlT)  (I : Nat → Nat → Int32) (L : Nat → Nat → Int64) : Call g (k11_isSettled, 2, 0, 0) [.ref (xA g 296)] (I, L, R0, 305) (Qi (bI (r11_isSettled I L)) (I) L) := Call.of (by decide) (Nat.le_of_ble_eq_true rfl) rfl (v11_isSettled g    I L  _ (And.intro rfl rfl))


def i11_ends_39 (i : Nat) (x : Int32) : Nat → Nat → (Nat → Nat → Int32) → (Nat → Nat → Int64) → (Nat → Nat → Int32)
  | 0, j, I, L => I
  | n + 1, j, I, L => (if I 297 (256 * i + 5 * j + 34) = 0 then i11_ends_39 i x n (j + 1) I L else i11_goes i 8 (uI (uI (i11_unwaits i j I L) 297 (256 * i + 14) (((i11_unwaits i j I L) 297 (256 * i + 14)) + 1)) 297 (256 * i + 4) (((i11_unwaits i j I L) 297 (256 * i + 4)) - (bI (if (i11_unwaits i j I L) 297 (256 * i + 4) ≤ 0 then false else true)))) L)
set_option maxRecDepth 4000 in
theorem t11_ends_39 (g : GlT)  (i : Nat) (x : Int32) (hi : i < 4) (w : Nat) (hw4 : w ≤ 4) : ∀ (n j : Nat) (I : Nat → Nat → Int32) (L : Nat → Nat → Int64), (hw : I 297 (256 * i + 23) = nI w) → (hw1 : 1 ≤ w) → (hf : ∃ s, j ≤ s ∧ s < j + n ∧ s ≤ 3 ∧ ¬ I 297 (256 * i + 5 * s + 34) = 0) → ∀ (Q : Option Value → MemT → Prop), Q (none) (i11_ends_39 i x n j I L, L, R0, 305) → V g (k11_ends, 5, 0, 0) 0 0 39 [(0, .ref (xA g 296)), (1, .int (nI i)), (3, .int (nI j))] [] (I, L, R0, 305) Q := by
  intro n
  induction n with
  | zero =>
    intro j I L hw hw1 hf Q hq
    obtain ⟨s, h1, h2, h3⟩ := hf; exact absurd h2 (by omega)
  | succ n ih =>
    intro j I L hw hw1 hf Q hq
    have hj3 : j ≤ 3 := by obtain ⟨s, h1, h2, h3, h4⟩ := hf; omega
    refine V_aload_n (pc1 := 40) 0 d11_ends_39 rfl rfl ?_
    refine V_getr (pc1 := 43) ly296 (lt305 rfl) f11_7 (fun _ => rfl) rf296_0 d11_ends_40 rfl ?_
    refine V_iload_n (pc1 := 44) 1 d11_ends_43 rfl rfl ?_
    refine V_iload_n (pc1 := 45) 2 d11_ends_44 rfl rfl ?_
    refine V_iconst (pc1 := 46) d11_ends_45 vc_4 rfl ?_
    refine V_si (pc1 := 49) (w11_wait2 g  i j 4 (256 * i + 5 * j + 34) (by omega) I L ) s11_wait l11_81 rfl rfl ⟨Nat.le_of_ble_eq_true rfl, Nat.le_of_ble_eq_true rfl, Nat.le_refl _, Nat.le_refl _⟩ (Nat.le_of_ble_eq_true rfl) rfl d11_ends_46 rfl ?_
    refine V_iald2 (pc1 := 50) (256 * i + 5 * j + 34) ly297 (lt305 rfl) rfl (by omega) rfl d11_ends_49 rfl ?_
    refine V_if_ne (tgt := 59) (pc1 := 53) d11_ends_50 (by decide) rfl (fun h1 => ?_) (fun h1 => ?_)
    · skip
      refine V_aload_n (pc1 := 60) 0 d11_ends_59 rfl rfl ?_
      refine V_iload_n (pc1 := 61) 1 d11_ends_60 rfl rfl ?_
      refine V_iload_n (pc1 := 62) 2 d11_ends_61 rfl rfl ?_
      refine V_vv (pc1 := 65) (w11_unwaits g  i j hi hj3 w hw1 hw4 I L hw) ly296 (lt305 rfl) s11_unwaits l11_95 rfl rfl ⟨Nat.le_of_ble_eq_true rfl, Nat.le_of_ble_eq_true rfl, Nat.le_refl _, Nat.le_refl _⟩ (Nat.le_of_ble_eq_true rfl) rfl d11_ends_62 rfl ?_
      refine V_aload_n (pc1 := 66) 0 d11_ends_65 rfl rfl ?_
      refine V_getr (pc1 := 69) ly296 (lt305 rfl) f11_7 (fun _ => rfl) rf296_0 d11_ends_66 rfl ?_
      refine V_iload_n (pc1 := 70) 1 d11_ends_69 rfl rfl ?_
      refine V_bipush (pc1 := 72) d11_ends_70 vb_14 rfl ?_
      refine V_si (pc1 := 75) (w11_at2 g  i 14 (256 * i + 14) (by omega) (i11_unwaits i j I L) L ) s11_at l11_35 rfl rfl ⟨Nat.le_of_ble_eq_true rfl, Nat.le_of_ble_eq_true rfl, Nat.le_refl _, Nat.le_refl _⟩ (Nat.le_of_ble_eq_true rfl) rfl d11_ends_72 rfl ?_
      refine V_dup2 (pc1 := 76) d11_ends_75 rfl rfl rfl ?_
      refine V_iald2 (pc1 := 77) (256 * i + 14) ly297 (lt305 rfl) rfl (by omega) rfl d11_ends_76 rfl ?_
      refine V_iconst (pc1 := 78) d11_ends_77 vc_1 rfl ?_
      refine V_iadd (pc1 := 79) d11_ends_78 rfl ?_
      refine V_iast (pc1 := 80) (256 * i + 14) ly297 (lt305 rfl) rfl (by omega) d11_ends_79 rfl ?_
      refine V_aload_n (pc1 := 81) 0 d11_ends_80 rfl rfl ?_
      refine V_getr (pc1 := 84) ly296 (lt305 rfl) f11_7 (fun _ => rfl) rf296_0 d11_ends_81 rfl ?_
      refine V_iload_n (pc1 := 85) 1 d11_ends_84 rfl rfl ?_
      refine V_iconst (pc1 := 86) d11_ends_85 vc_4 rfl ?_
      refine V_si (pc1 := 89) (w11_at2 g  i 4 (256 * i + 4) (by omega) (uI (i11_unwaits i j I L) 297 (256 * i + 14) (((i11_unwaits i j I L) 297 (256 * i + 14)) + 1)) L ) s11_at l11_35 rfl rfl ⟨Nat.le_of_ble_eq_true rfl, Nat.le_of_ble_eq_true rfl, Nat.le_refl _, Nat.le_refl _⟩ (Nat.le_of_ble_eq_true rfl) rfl d11_ends_86 rfl ?_
      refine V_dup2 (pc1 := 90) d11_ends_89 rfl rfl rfl ?_
      refine V_iald2 (pc1 := 91) (256 * i + 4) ly297 (lt305 rfl) rfl (by omega) (uI_ne (i11_unwaits i j I L) 297 (((i11_unwaits i j I L) 297 (256 * i + 14)) + 1) (show (256 * i + 4 : Nat) ≠ 256 * i + 14 by omega)) d11_ends_90 rfl ?_
      refine V_aload_n (pc1 := 92) 0 d11_ends_91 rfl rfl ?_
      refine V_getr (pc1 := 95) ly296 (lt305 rfl) f11_7 (fun _ => rfl) rf296_0 d11_ends_92 rfl ?_
      refine V_iload_n (pc1 := 96) 1 d11_ends_95 rfl rfl ?_
      refine V_iconst (pc1 := 97) d11_ends_96 vc_4 rfl ?_
      refine V_si (pc1 := 100) (w11_at2 g  i 4 (256 * i + 4) (by omega) (uI (i11_unwaits i j I L) 297 (256 * i + 14) (((i11_unwaits i j I L) 297 (256 * i + 14)) + 1)) L ) s11_at l11_35 rfl rfl ⟨Nat.le_of_ble_eq_true rfl, Nat.le_of_ble_eq_true rfl, Nat.le_refl _, Nat.le_refl _⟩ (Nat.le_of_ble_eq_true rfl) rfl d11_ends_97 rfl ?_
      refine V_iald2 (pc1 := 101) (256 * i + 4) ly297 (lt305 rfl) rfl (by omega) (uI_ne (i11_unwaits i j I L) 297 (((i11_unwaits i j I L) 297 (256 * i + 14)) + 1) (show (256 * i + 4 : Nat) ≠ 256 * i + 14 by omega)) d11_ends_100 rfl ?_
      have key3 : ∀ (y109_0 : Int32), y109_0 = bI (if (i11_unwaits i j I L) 297 (256 * i + 4) ≤ 0 then false else true) → ∀ (lv : List (Nat × Value)), lvsub [(0, .ref (xA g 296)), (1, .int (nI i)), (3, .int (nI j))] lv → V g (k11_ends, 5, 0, 0) 0 0 109 lv [.int y109_0, .int ((i11_unwaits i j I L) 297 (256 * i + 4)), .int (nI (256 * i + 4)), .ref (xA g 297)] (uI (i11_unwaits i j I L) 297 (256 * i + 14) (((i11_unwaits i j I L) 297 (256 * i + 14)) + 1), L, R0, 305) Q := by
        intro y109_0 ey109_0
        subst ey109_0
        intro lv hlv
        refine V_lv hlv ?_
        refine V_isub (pc1 := 110) d11_ends_109 rfl ?_
        refine V_iast (pc1 := 111) (256 * i + 4) ly297 (lt305 rfl) rfl (by omega) d11_ends_110 rfl ?_
        refine V_aload_n (pc1 := 112) 0 d11_ends_111 rfl rfl ?_
        refine V_iload_n (pc1 := 113) 1 d11_ends_112 rfl rfl ?_
        refine V_bipush (pc1 := 115) d11_ends_113 vb_8 rfl ?_
        refine V_vv (pc1 := 118) (w11_goes g  i 8 hi (uI (uI (i11_unwaits i j I L) 297 (256 * i + 14) (((i11_unwaits i j I L) 297 (256 * i + 14)) + 1)) 297 (256 * i + 4) (((i11_unwaits i j I L) 297 (256 * i + 4)) - (bI (if (i11_unwaits i j I L) 297 (256 * i + 4) ≤ 0 then false else true)))) L ) ly296 (lt305 rfl) s11_goes l11_84 rfl rfl ⟨Nat.le_of_ble_eq_true rfl, Nat.le_of_ble_eq_true rfl, Nat.le_refl _, Nat.le_refl _⟩ (Nat.le_of_ble_eq_true rfl) rfl d11_ends_115 rfl ?_
        refine V_vret rfl d11_ends_118 (Nat.zero_le _) (Nat.zero_le _) ?_
        have hq2 := hq
        simp only [i11_ends_39, if_neg h1] at hq2
        exact hq2
      refine V_if_le (tgt := 108) (pc1 := 104) d11_ends_101 (by decide) rfl (fun h2 => ?_) (fun h2 => ?_)
      · skip
        refine V_iconst (pc1 := 109) d11_ends_108 vc_0 rfl ?_
        exact key3 _ (by first | rfl | (simp only [if_pos h2]; done) | (simp only [if_pos h2]; rfl)) _ (lvsub_p [0, 1, 2] rfl)
      · skip
        refine V_iconst (pc1 := 105) d11_ends_104 vc_1 rfl ?_
        refine V_goto (tgt := 109) d11_ends_105 (by decide) ?_
        exact key3 _ (by first | rfl | (simp only [if_neg h2]; done) | (simp only [if_neg h2]; rfl)) _ (lvsub_p [0, 1, 2] rfl)
    · skip
      refine V_iinc (pc1 := 56) 2 (v := nI (j + 1)) d11_ends_53 rfl (nI_1 _) (Nat.le_of_ble_eq_true rfl) rfl rfl ?_
      refine V_goto (tgt := 39) d11_ends_56 (by decide) ?_
      refine V_lv (lv1 := [(0, .ref (xA g 296)), (1, .int (nI i)), (3, .int (nI (j + 1)))]) (lvsub_p [1, 2, 0] rfl) ?_
      have hq2 := hq
      simp only [i11_ends_39, if_pos h1] at hq2
      exact ih (j + 1) I L hw hw1 (by obtain ⟨s, h1, h2, h3, h4⟩ := hf; refine ⟨s, ?_, by omega, h3, h4⟩; rcases Nat.lt_or_ge j s with q0 | q0; exact q0; exact absurd (by rw [show s = j by omega]; assumption) h4) Q hq2
def i11_ends (i : Nat) (x : Int32) (I : Nat → Nat → Int32) (L : Nat → Nat → Int64) : Nat → Nat → Int32 := (if x = 0 then (if (r11_isTransmitting i I L) = true then i11_errs i 1 I L else i11_goes i 6 I L) else (if (r11_isTransmitting i I L) = true then i11_ends_39 i x 4 0 I L else i11_goes i 8 I L))
set_option maxRecDepth 4000 in
theorem v11_ends (g : GlT)  (i : Nat) (x : Int32) (hi : i < 4) (w : Nat) (hw4 : w ≤ 4) (I : Nat → Nat → Int32) (L : Nat → Nat → Int64) (hw : I 297 (256 * i + 23) = nI w) (hf : (r11_isTransmitting i I L) = true → 1 ≤ w ∧ ∃ s, s ≤ 3 ∧ ¬ I 297 (256 * i + 5 * s + 34) = 0) (Q : Option Value → MemT → Prop) (hq : Q (none) (i11_ends i x I L, L, R0, 305)) : V g (k11_ends, 5, 0, 0) 0 0 0 [(0, .ref (xA g 296)), (1, .int (nI i)), (2, .int x)] [] (I, L, R0, 305) Q := by
  refine V_iload_n (pc1 := 1) 2 d11_ends_0 rfl rfl ?_
  refine V_if_ne (tgt := 29) (pc1 := 4) d11_ends_1 (by decide) rfl (fun h1 => ?_) (fun h1 => ?_)
  · skip
    refine V_aload_n (pc1 := 30) 0 d11_ends_29 rfl rfl ?_
    refine V_iload_n (pc1 := 31) 1 d11_ends_30 rfl rfl ?_
    refine V_vi (pc1 := 34) (w11_isTransmitting g  i hi I L ) ly296 (lt305 rfl) s11_isTransmitting l11_110 rfl rfl ⟨Nat.le_of_ble_eq_true rfl, Nat.le_of_ble_eq_true rfl, Nat.le_refl _, Nat.le_refl _⟩ (Nat.le_of_ble_eq_true rfl) rfl d11_ends_31 rfl ?_
    refine V_beq (tgt := 111) (pc1 := 37) d11_ends_34 (by decide) rfl (fun h2 => ?_) (fun h2 => ?_)
    · skip
      refine V_aload_n (pc1 := 112) 0 d11_ends_111 rfl rfl ?_
      refine V_iload_n (pc1 := 113) 1 d11_ends_112 rfl rfl ?_
      refine V_bipush (pc1 := 115) d11_ends_113 vb_8 rfl ?_
      refine V_vv (pc1 := 118) (w11_goes g  i 8 hi I L ) ly296 (lt305 rfl) s11_goes l11_84 rfl rfl ⟨Nat.le_of_ble_eq_true rfl, Nat.le_of_ble_eq_true rfl, Nat.le_refl _, Nat.le_refl _⟩ (Nat.le_of_ble_eq_true rfl) rfl d11_ends_115 rfl ?_
      refine V_vret rfl d11_ends_118 (Nat.zero_le _) (Nat.zero_le _) ?_
      have hq2 := hq
      simp only [i11_ends, if_neg h1, if_neg h2] at hq2
      exact hq2
    · skip
      refine V_iconst (pc1 := 38) d11_ends_37 vc_0 rfl ?_
      refine V_istore_n (pc1 := 39) d11_ends_38 (Nat.le_of_ble_eq_true rfl) rfl rfl ?_
      refine V_lv (lv1 := [(0, .ref (xA g 296)), (1, .int (nI i)), (3, .int (nI 0))]) (lvsub_p [1, 2, 0] rfl) ?_
      have hq2 := hq
      simp only [i11_ends, if_neg h1, if_pos h2] at hq2
      exact t11_ends_39 g  _ _ hi _ hw4 4 0 I L hw (hf h2).1 (by obtain ⟨-, s, h1, h2⟩ := hf h2; exact ⟨s, by omega, by omega, h1, h2⟩) Q hq2
  · skip
    refine V_aload_n (pc1 := 5) 0 d11_ends_4 rfl rfl ?_
    refine V_iload_n (pc1 := 6) 1 d11_ends_5 rfl rfl ?_
    refine V_vi (pc1 := 9) (w11_isTransmitting g  i hi I L ) ly296 (lt305 rfl) s11_isTransmitting l11_110 rfl rfl ⟨Nat.le_of_ble_eq_true rfl, Nat.le_of_ble_eq_true rfl, Nat.le_refl _, Nat.le_refl _⟩ (Nat.le_of_ble_eq_true rfl) rfl d11_ends_6 rfl ?_
    have key4 : ∀ (zI28 : Nat → Nat → Int32), zI28 = (if (r11_isTransmitting i I L) = true then i11_errs i 1 I L else i11_goes i 6 I L) → ∀ (lv : List (Nat × Value)), lvsub [(0, .ref (xA g 296)), (1, .int (nI i)), (2, .int x)] lv → V g (k11_ends, 5, 0, 0) 0 0 28 lv [] (zI28, L, R0, 305) Q := by
      intro zI28 ezI28
      subst ezI28
      intro lv hlv
      refine V_lv hlv ?_
      refine V_vret rfl d11_ends_28 (Nat.zero_le _) (Nat.zero_le _) ?_
      have hq2 := hq
      simp only [i11_ends, if_pos h1] at hq2
      exact hq2
    refine V_beq (tgt := 21) (pc1 := 12) d11_ends_9 (by decide) rfl (fun h3 => ?_) (fun h3 => ?_)
    · skip
      refine V_aload_n (pc1 := 22) 0 d11_ends_21 rfl rfl ?_
      refine V_iload_n (pc1 := 23) 1 d11_ends_22 rfl rfl ?_
      refine V_bipush (pc1 := 25) d11_ends_23 vb_6 rfl ?_
      refine V_vv (pc1 := 28) (w11_goes g  i 6 hi I L ) ly296 (lt305 rfl) s11_goes l11_84 rfl rfl ⟨Nat.le_of_ble_eq_true rfl, Nat.le_of_ble_eq_true rfl, Nat.le_refl _, Nat.le_refl _⟩ (Nat.le_of_ble_eq_true rfl) rfl d11_ends_25 rfl ?_
      exact key4 _ (by first | rfl | (simp only [if_neg h3]; done) | (simp only [if_neg h3]; rfl)) _ (lvsub_p [0, 1, 2] rfl)
    · skip
      refine V_aload_n (pc1 := 13) 0 d11_ends_12 rfl rfl ?_
      refine V_iload_n (pc1 := 14) 1 d11_ends_13 rfl rfl ?_
      refine V_iconst (pc1 := 15) d11_ends_14 vc_1 rfl ?_
      refine V_vv (pc1 := 18) (w11_errs g  i 1 hi (by first | decide | omega | (split <;> decide)) I L ) ly296 (lt305 rfl) s11_errs l11_150 rfl rfl ⟨Nat.le_of_ble_eq_true rfl, Nat.le_of_ble_eq_true rfl, Nat.le_refl _, Nat.le_refl _⟩ (Nat.le_of_ble_eq_true rfl) rfl d11_ends_15 rfl ?_
      refine V_goto (tgt := 28) d11_ends_18 (by decide) ?_
      exact key4 _ (by first | rfl | (simp only [if_pos h3]; done) | (simp only [if_pos h3]; rfl)) _ (lvsub_p [0, 1, 2] rfl)
theorem w11_ends (g : GlT)  (i : Nat) (x : Int32) (hi : i < 4) (w : Nat) (hw4 : w ≤ 4) (I : Nat → Nat → Int32) (L : Nat → Nat → Int64) (hw : I 297 (256 * i + 23) = nI w) (hf : (r11_isTransmitting i I L) = true → 1 ≤ w ∧ ∃ s, s ≤ 3 ∧ ¬ I 297 (256 * i + 5 * s + 34) = 0) : Call g (k11_ends, 5, 0, 0) [.ref (xA g 296), .int (nI i), .int x] (I, L, R0, 305) (Qv (i11_ends i x I L) L) := Call.of (by decide) (Nat.le_of_ble_eq_true rfl) rfl (v11_ends g  i x hi w hw4 I L hw hf _ (And.intro rfl rfl))

