def r11_save_14 (x : Int32) : Nat → Nat → Nat → (Nat → Nat → Int32) → (Nat → Nat → Int64) → Int32
  | 0, j, si, I, L => I 297 1024
  | n + 1, j, si, I, L => r11_save_14 x n (j + 1) si (uI I 299 (j + 1310 * si) (I 297 j)) L
def i11_save_14 (x : Int32) : Nat → Nat → Nat → (Nat → Nat → Int32) → (Nat → Nat → Int64) → (Nat → Nat → Int32)
  | 0, j, si, I, L => uI I 300 si 1
  | n + 1, j, si, I, L => i11_save_14 x n (j + 1) si (uI I 299 (j + 1310 * si) (I 297 j)) L
set_option maxRecDepth 4000 in
theorem t11_save_14 (g : GlT)  (x : Int32)  : ∀ (n j si : Nat) (I : Nat → Nat → Int32) (L : Nat → Nat → Int64), (hsi : si ≤ 1) → (hn : j + n = 1310) → ∀ (Q : Option Value → MemT → Prop), Q (some (.int (r11_save_14 x n j si I L))) (i11_save_14 x n j si I L, L, R0, 305) → V g (k11_save, 2, 0, 0) 0 0 14 [(0, .ref (xA g 296)), (1, .int (nI si)), (2, .int (nI j))] [] (I, L, R0, 305) Q := by
  intro n
  induction n with
  | zero =>
    intro j si I L hsi hn Q hq
    refine V_iload_n (pc1 := 15) 2 d11_save_14 rfl rfl ?_
    refine V_sipush (pc1 := 18) d11_save_15 vs_1310 rfl ?_
    refine V_icmp_ge (tgt := 45) (pc1 := 21) d11_save_18 (by decide) rfl (fun _ => ?_) (fun h1 => absurd (nI_le (a := 1310) (by omega) (by omega)) h1)
    refine V_aload_n (pc1 := 46) 0 d11_save_45 rfl rfl ?_
    refine V_getr (pc1 := 49) ly296 (lt305 rfl) f11_19 (fun _ => rfl) rf296_3 d11_save_46 rfl ?_
    refine V_iload_n (pc1 := 50) 1 d11_save_49 rfl rfl ?_
    refine V_iconst (pc1 := 51) d11_save_50 vc_1 rfl ?_
    refine V_zast (pc1 := 52) si ly300 (lt305 rfl) rfl (by omega) (Or.inr rfl) d11_save_51 rfl rfl ?_
    refine V_aload_n (pc1 := 53) 0 d11_save_52 rfl rfl ?_
    refine V_getr (pc1 := 56) ly296 (lt305 rfl) f11_7 (fun _ => rfl) rf296_0 d11_save_53 rfl ?_
    refine V_sipush (pc1 := 59) d11_save_56 vs_1024 rfl ?_
    refine V_iald2 (pc1 := 60) 1024 ly297 (lt305 rfl) rfl (Nat.le_of_ble_eq_true rfl) (congrFun (uI_off I si 1 (show (297 : Nat) ≠ 300 by decide)) _) d11_save_59 rfl ?_
    refine V_iret rfl d11_save_60 (Nat.zero_le _) (Nat.zero_le _) ?_
    have hq2 := hq
    simp only [r11_save_14, i11_save_14] at hq2
    exact hq2
  | succ n ih =>
    intro j si I L hsi hn Q hq
    refine V_iload_n (pc1 := 15) 2 d11_save_14 rfl rfl ?_
    refine V_sipush (pc1 := 18) d11_save_15 vs_1310 rfl ?_
    refine V_icmp_ge (tgt := 45) (pc1 := 21) d11_save_18 (by decide) rfl (fun h1 => absurd h1 (nI_ge (b := 1310) (by omega) (by omega))) (fun _ => ?_)
    refine V_aload_n (pc1 := 22) 0 d11_save_21 rfl rfl ?_
    refine V_getr (pc1 := 25) ly296 (lt305 rfl) f11_16 (fun _ => rfl) rf296_2 d11_save_22 rfl ?_
    refine V_sipush (pc1 := 28) d11_save_25 vs_1310 rfl ?_
    refine V_iload_n (pc1 := 29) 1 d11_save_28 rfl rfl ?_
    refine V_mulN (pc1 := 30) (a := 1310) (b := si) (c := 1310 * si) rfl rfl (by omega) d11_save_29 rfl ?_
    refine V_iload_n (pc1 := 31) 2 d11_save_30 rfl rfl ?_
    refine V_addN (pc1 := 32) (a := 1310 * si) (b := j) (c := j + 1310 * si) rfl rfl (by omega) d11_save_31 rfl ?_
    refine V_aload_n (pc1 := 33) 0 d11_save_32 rfl rfl ?_
    refine V_getr (pc1 := 36) ly296 (lt305 rfl) f11_7 (fun _ => rfl) rf296_0 d11_save_33 rfl ?_
    refine V_iload_n (pc1 := 37) 2 d11_save_36 rfl rfl ?_
    refine V_iald2 (pc1 := 38) j ly297 (lt305 rfl) rfl (by omega) rfl d11_save_37 rfl ?_
    refine V_iast (pc1 := 39) (j + 1310 * si) ly299 (lt305 rfl) rfl (by omega) d11_save_38 rfl ?_
    refine V_iinc (pc1 := 42) 2 (v := nI (j + 1)) d11_save_39 rfl (nI_1 _) (Nat.le_of_ble_eq_true rfl) rfl rfl ?_
    refine V_goto (tgt := 14) d11_save_42 (by decide) ?_
    refine V_lv (lv1 := [(0, .ref (xA g 296)), (1, .int (nI si)), (2, .int (nI (j + 1)))]) (lvsub_p [1, 2, 0] rfl) ?_
    have hq2 := hq
    simp only [r11_save_14, i11_save_14] at hq2
    exact ih (j + 1) si (uI I 299 (j + 1310 * si) (I 297 j)) L hsi (by omega) Q hq2
def r11_save (x : Int32) (I : Nat → Nat → Int32) (L : Nat → Nat → Int64) : Int32 := (if (r11_in x 0 1) = true then r11_save_14 x 1310 0 (x.toNatClampNeg) I L else (-2))
def i11_save (x : Int32) (I : Nat → Nat → Int32) (L : Nat → Nat → Int64) : Nat → Nat → Int32 := (if (r11_in x 0 1) = true then i11_save_14 x 1310 0 (x.toNatClampNeg) I L else I)
set_option maxRecDepth 4000 in
theorem v11_save (g : GlT)  (x : Int32) (I : Nat → Nat → Int32) (L : Nat → Nat → Int64) (Q : Option Value → MemT → Prop) (hq : Q (some (.int (r11_save x I L))) (i11_save x I L, L, R0, 305)) : V g (k11_save, 2, 0, 0) 0 0 0 [(0, .ref (xA g 296)), (1, .int x)] [] (I, L, R0, 305) Q := by
  refine V_iload_n (pc1 := 1) 1 d11_save_0 rfl rfl ?_
  refine V_iconst (pc1 := 2) d11_save_1 vc_0 rfl ?_
  refine V_iconst (pc1 := 3) d11_save_2 vc_1 rfl ?_
  refine V_si (pc1 := 6) (w11_in g  x 0 1  I L ) s11_in l11_39 rfl rfl ⟨Nat.le_of_ble_eq_true rfl, Nat.le_of_ble_eq_true rfl, Nat.le_refl _, Nat.le_refl _⟩ (Nat.le_of_ble_eq_true rfl) rfl d11_save_3 rfl ?_
  refine V_bne (tgt := 12) (pc1 := 9) d11_save_6 (by decide) rfl (fun h1 => ?_) (fun h1 => ?_)
  · skip
    obtain ⟨si, hsi, hsia, rfl⟩ := within_nat (a := 0) (b := 1) (by omega) (by omega) h1
    have hsi3 : (nI si).toNatClampNeg = si := nI_clamp (by omega)
    refine V_iconst (pc1 := 13) d11_save_12 vc_0 rfl ?_
    refine V_istore_n (pc1 := 14) d11_save_13 (Nat.le_of_ble_eq_true rfl) rfl rfl ?_
    refine V_lv (lv1 := [(0, .ref (xA g 296)), (1, .int (nI si)), (2, .int (nI 0))]) (lvsub_p [1, 2, 0] rfl) ?_
    have hq2 := hq
    simp only [r11_save, i11_save, if_pos h1, hsi3] at hq2
    exact t11_save_14 g  _  1310 0 si I L hsi rfl Q hq2
  · skip
    refine V_bipush (pc1 := 11) d11_save_9 vb_m2 rfl ?_
    refine V_iret rfl d11_save_11 (Nat.zero_le _) (Nat.zero_le _) ?_
    have hq2 := hq
    simp only [r11_save, i11_save, if_neg h1] at hq2
    exact hq2
theorem w11_save (g : GlT)  (x : Int32) (I : Nat → Nat → Int32) (L : Nat → Nat → Int64) : Call g (k11_save, 2, 0, 0) [.ref (xA g 296), .int x] (I, L, R0, 305) (Qi (r11_save x I L) (i11_save x I L) L) := Call.of (by decide) (Nat.le_of_ble_eq_true rfl) rfl (v11_save g  x  I L  _ (And.intro rfl rfl))


def r11_restore_26 (x : Int32) : Nat → Nat → Nat → (Nat → Nat → Int32) → (Nat → Nat → Int64) → Int32
  | 0, j, si, I, L => I 297 1024
  | n + 1, j, si, I, L => r11_restore_26 x n (j + 1) si (uI I 297 j (I 299 (j + 1310 * si))) L
def i11_restore_26 (x : Int32) : Nat → Nat → Nat → (Nat → Nat → Int32) → (Nat → Nat → Int64) → (Nat → Nat → Int32)
  | 0, j, si, I, L => I
  | n + 1, j, si, I, L => i11_restore_26 x n (j + 1) si (uI I 297 j (I 299 (j + 1310 * si))) L
set_option maxRecDepth 4000 in
theorem t11_restore_26 (g : GlT)  (x : Int32)  : ∀ (n j si : Nat) (I : Nat → Nat → Int32) (L : Nat → Nat → Int64), (hsi : si ≤ 1) → (hn : j + n = 1310) → ∀ (Q : Option Value → MemT → Prop), Q (some (.int (r11_restore_26 x n j si I L))) (i11_restore_26 x n j si I L, L, R0, 305) → V g (k11_restore, 2, 0, 0) 0 0 26 [(0, .ref (xA g 296)), (1, .int (nI si)), (2, .int (nI j))] [] (I, L, R0, 305) Q := by
  intro n
  induction n with
  | zero =>
    intro j si I L hsi hn Q hq
    refine V_iload_n (pc1 := 27) 2 d11_restore_26 rfl rfl ?_
    refine V_sipush (pc1 := 30) d11_restore_27 vs_1310 rfl ?_
    refine V_icmp_ge (tgt := 57) (pc1 := 33) d11_restore_30 (by decide) rfl (fun _ => ?_) (fun h1 => absurd (nI_le (a := 1310) (by omega) (by omega)) h1)
    refine V_aload_n (pc1 := 58) 0 d11_restore_57 rfl rfl ?_
    refine V_getr (pc1 := 61) ly296 (lt305 rfl) f11_7 (fun _ => rfl) rf296_0 d11_restore_58 rfl ?_
    refine V_sipush (pc1 := 64) d11_restore_61 vs_1024 rfl ?_
    refine V_iald2 (pc1 := 65) 1024 ly297 (lt305 rfl) rfl (Nat.le_of_ble_eq_true rfl) rfl d11_restore_64 rfl ?_
    refine V_iret rfl d11_restore_65 (Nat.zero_le _) (Nat.zero_le _) ?_
    have hq2 := hq
    simp only [r11_restore_26, i11_restore_26] at hq2
    exact hq2
  | succ n ih =>
    intro j si I L hsi hn Q hq
    refine V_iload_n (pc1 := 27) 2 d11_restore_26 rfl rfl ?_
    refine V_sipush (pc1 := 30) d11_restore_27 vs_1310 rfl ?_
    refine V_icmp_ge (tgt := 57) (pc1 := 33) d11_restore_30 (by decide) rfl (fun h1 => absurd h1 (nI_ge (b := 1310) (by omega) (by omega))) (fun _ => ?_)
    refine V_aload_n (pc1 := 34) 0 d11_restore_33 rfl rfl ?_
    refine V_getr (pc1 := 37) ly296 (lt305 rfl) f11_7 (fun _ => rfl) rf296_0 d11_restore_34 rfl ?_
    refine V_iload_n (pc1 := 38) 2 d11_restore_37 rfl rfl ?_
    refine V_aload_n (pc1 := 39) 0 d11_restore_38 rfl rfl ?_
    refine V_getr (pc1 := 42) ly296 (lt305 rfl) f11_16 (fun _ => rfl) rf296_2 d11_restore_39 rfl ?_
    refine V_sipush (pc1 := 45) d11_restore_42 vs_1310 rfl ?_
    refine V_iload_n (pc1 := 46) 1 d11_restore_45 rfl rfl ?_
    refine V_mulN (pc1 := 47) (a := 1310) (b := si) (c := 1310 * si) rfl rfl (by omega) d11_restore_46 rfl ?_
    refine V_iload_n (pc1 := 48) 2 d11_restore_47 rfl rfl ?_
    refine V_addN (pc1 := 49) (a := 1310 * si) (b := j) (c := j + 1310 * si) rfl rfl (by omega) d11_restore_48 rfl ?_
    refine V_iald2 (pc1 := 50) (j + 1310 * si) ly299 (lt305 rfl) rfl (by omega) rfl d11_restore_49 rfl ?_
    refine V_iast (pc1 := 51) j ly297 (lt305 rfl) rfl (by omega) d11_restore_50 rfl ?_
    refine V_iinc (pc1 := 54) 2 (v := nI (j + 1)) d11_restore_51 rfl (nI_1 _) (Nat.le_of_ble_eq_true rfl) rfl rfl ?_
    refine V_goto (tgt := 26) d11_restore_54 (by decide) ?_
    refine V_lv (lv1 := [(0, .ref (xA g 296)), (1, .int (nI si)), (2, .int (nI (j + 1)))]) (lvsub_p [1, 2, 0] rfl) ?_
    have hq2 := hq
    simp only [r11_restore_26, i11_restore_26] at hq2
    exact ih (j + 1) si (uI I 297 j (I 299 (j + 1310 * si))) L hsi (by omega) Q hq2
def r11_restore (x : Int32) (I : Nat → Nat → Int32) (L : Nat → Nat → Int64) : Int32 := (if (r11_in x 0 1) = true then (if I 300 (x.toNatClampNeg) = 0 then (-5) else r11_restore_26 x 1310 0 (x.toNatClampNeg) I L) else (-2))
def i11_restore (x : Int32) (I : Nat → Nat → Int32) (L : Nat → Nat → Int64) : Nat → Nat → Int32 := (if (r11_in x 0 1) = true then (if I 300 (x.toNatClampNeg) = 0 then I else i11_restore_26 x 1310 0 (x.toNatClampNeg) I L) else I)
set_option maxRecDepth 4000 in
theorem v11_restore (g : GlT)  (x : Int32) (I : Nat → Nat → Int32) (L : Nat → Nat → Int64) (Q : Option Value → MemT → Prop) (hq : Q (some (.int (r11_restore x I L))) (i11_restore x I L, L, R0, 305)) : V g (k11_restore, 2, 0, 0) 0 0 0 [(0, .ref (xA g 296)), (1, .int x)] [] (I, L, R0, 305) Q := by
  refine V_iload_n (pc1 := 1) 1 d11_restore_0 rfl rfl ?_
  refine V_iconst (pc1 := 2) d11_restore_1 vc_0 rfl ?_
  refine V_iconst (pc1 := 3) d11_restore_2 vc_1 rfl ?_
  refine V_si (pc1 := 6) (w11_in g  x 0 1  I L ) s11_in l11_39 rfl rfl ⟨Nat.le_of_ble_eq_true rfl, Nat.le_of_ble_eq_true rfl, Nat.le_refl _, Nat.le_refl _⟩ (Nat.le_of_ble_eq_true rfl) rfl d11_restore_3 rfl ?_
  refine V_bne (tgt := 12) (pc1 := 9) d11_restore_6 (by decide) rfl (fun h1 => ?_) (fun h1 => ?_)
  · skip
    obtain ⟨si, hsi, hsia, rfl⟩ := within_nat (a := 0) (b := 1) (by omega) (by omega) h1
    have hsi3 : (nI si).toNatClampNeg = si := nI_clamp (by omega)
    refine V_aload_n (pc1 := 13) 0 d11_restore_12 rfl rfl ?_
    refine V_getr (pc1 := 16) ly296 (lt305 rfl) f11_19 (fun _ => rfl) rf296_3 d11_restore_13 rfl ?_
    refine V_iload_n (pc1 := 17) 1 d11_restore_16 rfl rfl ?_
    refine V_zald2 (pc1 := 18) si ly300 (lt305 rfl) rfl (by omega) rfl d11_restore_17 rfl ?_
    refine V_if_ne (tgt := 24) (pc1 := 21) d11_restore_18 (by decide) rfl (fun h2 => ?_) (fun h2 => ?_)
    · skip
      refine V_iconst (pc1 := 25) d11_restore_24 vc_0 rfl ?_
      refine V_istore_n (pc1 := 26) d11_restore_25 (Nat.le_of_ble_eq_true rfl) rfl rfl ?_
      refine V_lv (lv1 := [(0, .ref (xA g 296)), (1, .int (nI si)), (2, .int (nI 0))]) (lvsub_p [1, 2, 0] rfl) ?_
      have hq2 := hq
      simp only [r11_restore, i11_restore, if_pos h1, hsi3, if_neg h2] at hq2
      exact t11_restore_26 g  _  1310 0 si I L hsi rfl Q hq2
    · skip
      refine V_bipush (pc1 := 23) d11_restore_21 vb_m5 rfl ?_
      refine V_iret rfl d11_restore_23 (Nat.zero_le _) (Nat.zero_le _) ?_
      have hq2 := hq
      simp only [r11_restore, i11_restore, if_pos h1, hsi3, if_pos h2] at hq2
      exact hq2
  · skip
    refine V_bipush (pc1 := 11) d11_restore_9 vb_m2 rfl ?_
    refine V_iret rfl d11_restore_11 (Nat.zero_le _) (Nat.zero_le _) ?_
    have hq2 := hq
    simp only [r11_restore, i11_restore, if_neg h1] at hq2
    exact hq2
theorem w11_restore (g : GlT)  (x : Int32) (I : Nat → Nat → Int32) (L : Nat → Nat → Int64) : Call g (k11_restore, 2, 0, 0) [.ref (xA g 296), .int x] (I, L, R0, 305) (Qi (r11_restore x I L) (i11_restore x I L) L) := Call.of (by decide) (Nat.le_of_ble_eq_true rfl) rfl (v11_restore g  x  I L  _ (And.intro rfl rfl))


def r11_moreOf_236 (h : Int64) (i : Nat) : Nat → Nat → Int64 → (Nat → Nat → Int32) → (Nat → Nat → Int64) → Int64
  | 0, j, z, I, L => z
  | n + 1, j, z, I, L => r11_moreOf_236 h i n (j + 1) (r11_more (r11_more (r11_more z (r11_gotKey i j I L)) (I 297 (256 * i + 4 * j + 52))) (I 297 (256 * i + 4 * j + 53))) I L
set_option maxRecDepth 4000 in
theorem t11_moreOf_236 (g : GlT)  (h : Int64) (i : Nat) (hi : i < 4) (w : Nat) (hw4 : w ≤ 4) (r : Nat) (hr6 : r ≤ 6) : ∀ (n j : Nat) (z : Int64) (I : Nat → Nat → Int32) (L : Nat → Nat → Int64), (hw : I 297 (256 * i + 23) = nI w) → (hr : I 297 (256 * i + 24) = nI r) → (hn : j + n = r) → ∀ (Q : Option Value → MemT → Prop), Q (some (.long (r11_moreOf_236 h i n j z I L))) (I, L, R0, 305) → V g (k11_moreOf, 3, 0, 0) 0 0 236 [(0, .ref (xA g 296)), (3, .int (nI i)), (4, .long z), (6, .int (nI j))] [] (I, L, R0, 305) Q := by
  intro n
  induction n with
  | zero =>
    intro j z I L hw hr hn Q hq
    have hw3 : (I 297 (256 * i + 23)).toNatClampNeg = w := by rw [hw]; exact nI_clamp (by omega)
    have hr3 : (I 297 (256 * i + 24)).toNatClampNeg = r := by rw [hr]; exact nI_clamp (by omega)
    refine V_iload (pc1 := 238) 3 d11_moreOf_236 rfl rfl ?_
    refine V_aload_n (pc1 := 239) 0 d11_moreOf_238 rfl rfl ?_
    refine V_getr (pc1 := 242) ly296 (lt305 rfl) f11_7 (fun _ => rfl) rf296_0 d11_moreOf_239 rfl ?_
    refine V_iload_n (pc1 := 243) 1 d11_moreOf_242 rfl rfl ?_
    refine V_bipush (pc1 := 245) d11_moreOf_243 vb_24 rfl ?_
    refine V_si (pc1 := 248) (w11_at2 g  i 24 (256 * i + 24) (by omega) I L ) s11_at l11_35 rfl rfl ⟨Nat.le_of_ble_eq_true rfl, Nat.le_of_ble_eq_true rfl, Nat.le_refl _, Nat.le_refl _⟩ (Nat.le_of_ble_eq_true rfl) rfl d11_moreOf_245 rfl ?_
    refine V_iald2 (pc1 := 249) (256 * i + 24) ly297 (lt305 rfl) rfl (by omega) hr d11_moreOf_248 rfl ?_
    refine V_icmp_ge (tgt := 302) (pc1 := 252) d11_moreOf_249 (by decide) rfl (fun _ => ?_) (fun h1 => absurd (nI_le (by omega) (by omega)) h1)
    refine V_lload (pc1 := 304) 2 d11_moreOf_302 rfl rfl ?_
    refine V_lret rfl d11_moreOf_304 (Nat.zero_le _) (Nat.zero_le _) ?_
    have hq2 := hq
    simp only [r11_moreOf_236, hw3, hr3] at hq2
    exact hq2
  | succ n ih =>
    intro j z I L hw hr hn Q hq
    have hw3 : (I 297 (256 * i + 23)).toNatClampNeg = w := by rw [hw]; exact nI_clamp (by omega)
    have hr3 : (I 297 (256 * i + 24)).toNatClampNeg = r := by rw [hr]; exact nI_clamp (by omega)
    refine V_iload (pc1 := 238) 3 d11_moreOf_236 rfl rfl ?_
    refine V_aload_n (pc1 := 239) 0 d11_moreOf_238 rfl rfl ?_
    refine V_getr (pc1 := 242) ly296 (lt305 rfl) f11_7 (fun _ => rfl) rf296_0 d11_moreOf_239 rfl ?_
    refine V_iload_n (pc1 := 243) 1 d11_moreOf_242 rfl rfl ?_
    refine V_bipush (pc1 := 245) d11_moreOf_243 vb_24 rfl ?_
    refine V_si (pc1 := 248) (w11_at2 g  i 24 (256 * i + 24) (by omega) I L ) s11_at l11_35 rfl rfl ⟨Nat.le_of_ble_eq_true rfl, Nat.le_of_ble_eq_true rfl, Nat.le_refl _, Nat.le_refl _⟩ (Nat.le_of_ble_eq_true rfl) rfl d11_moreOf_245 rfl ?_
    refine V_iald2 (pc1 := 249) (256 * i + 24) ly297 (lt305 rfl) rfl (by omega) hr d11_moreOf_248 rfl ?_
    refine V_icmp_ge (tgt := 302) (pc1 := 252) d11_moreOf_249 (by decide) rfl (fun h1 => absurd h1 (nI_ge (by omega) (by omega))) (fun _ => ?_)
    refine V_lload (pc1 := 254) 2 d11_moreOf_252 rfl rfl ?_
    refine V_aload_n (pc1 := 255) 0 d11_moreOf_254 rfl rfl ?_
    refine V_iload_n (pc1 := 256) 1 d11_moreOf_255 rfl rfl ?_
    refine V_iload (pc1 := 258) 3 d11_moreOf_256 rfl rfl ?_
    refine V_vi (pc1 := 261) (w11_gotKey g  i j hi (by omega) I L ) ly296 (lt305 rfl) s11_gotKey l11_198 rfl rfl ⟨Nat.le_of_ble_eq_true rfl, Nat.le_of_ble_eq_true rfl, Nat.le_refl _, Nat.le_refl _⟩ (Nat.le_of_ble_eq_true rfl) rfl d11_moreOf_258 rfl ?_
    refine V_sl (pc1 := 264) (w11_more g  z (r11_gotKey i j I L)  I L ) s11_more l11_232 rfl rfl ⟨Nat.le_of_ble_eq_true rfl, Nat.le_of_ble_eq_true rfl, Nat.le_refl _, Nat.le_refl _⟩ (Nat.le_of_ble_eq_true rfl) rfl d11_moreOf_261 rfl ?_
    refine V_aload_n (pc1 := 265) 0 d11_moreOf_264 rfl rfl ?_
    refine V_getr (pc1 := 268) ly296 (lt305 rfl) f11_7 (fun _ => rfl) rf296_0 d11_moreOf_265 rfl ?_
    refine V_iload_n (pc1 := 269) 1 d11_moreOf_268 rfl rfl ?_
    refine V_iload (pc1 := 271) 3 d11_moreOf_269 rfl rfl ?_
    refine V_iconst (pc1 := 272) d11_moreOf_271 vc_2 rfl ?_
    refine V_si (pc1 := 275) (w11_got2 g  i j 2 (256 * i + 4 * j + 52) (by omega) I L ) s11_got l11_159 rfl rfl ⟨Nat.le_of_ble_eq_true rfl, Nat.le_of_ble_eq_true rfl, Nat.le_refl _, Nat.le_refl _⟩ (Nat.le_of_ble_eq_true rfl) rfl d11_moreOf_272 rfl ?_
    refine V_iald2 (pc1 := 276) (256 * i + 4 * j + 52) ly297 (lt305 rfl) rfl (by omega) rfl d11_moreOf_275 rfl ?_
    refine V_sl (pc1 := 279) (w11_more g  (r11_more z (r11_gotKey i j I L)) (I 297 (256 * i + 4 * j + 52))  I L ) s11_more l11_232 rfl rfl ⟨Nat.le_of_ble_eq_true rfl, Nat.le_of_ble_eq_true rfl, Nat.le_refl _, Nat.le_refl _⟩ (Nat.le_of_ble_eq_true rfl) rfl d11_moreOf_276 rfl ?_
    refine V_aload_n (pc1 := 280) 0 d11_moreOf_279 rfl rfl ?_
    refine V_getr (pc1 := 283) ly296 (lt305 rfl) f11_7 (fun _ => rfl) rf296_0 d11_moreOf_280 rfl ?_
    refine V_iload_n (pc1 := 284) 1 d11_moreOf_283 rfl rfl ?_
    refine V_iload (pc1 := 286) 3 d11_moreOf_284 rfl rfl ?_
    refine V_iconst (pc1 := 287) d11_moreOf_286 vc_3 rfl ?_
    refine V_si (pc1 := 290) (w11_got2 g  i j 3 (256 * i + 4 * j + 53) (by omega) I L ) s11_got l11_159 rfl rfl ⟨Nat.le_of_ble_eq_true rfl, Nat.le_of_ble_eq_true rfl, Nat.le_refl _, Nat.le_refl _⟩ (Nat.le_of_ble_eq_true rfl) rfl d11_moreOf_287 rfl ?_
    refine V_iald2 (pc1 := 291) (256 * i + 4 * j + 53) ly297 (lt305 rfl) rfl (by omega) rfl d11_moreOf_290 rfl ?_
    refine V_sl (pc1 := 294) (w11_more g  (r11_more (r11_more z (r11_gotKey i j I L)) (I 297 (256 * i + 4 * j + 52))) (I 297 (256 * i + 4 * j + 53))  I L ) s11_more l11_232 rfl rfl ⟨Nat.le_of_ble_eq_true rfl, Nat.le_of_ble_eq_true rfl, Nat.le_refl _, Nat.le_refl _⟩ (Nat.le_of_ble_eq_true rfl) rfl d11_moreOf_291 rfl ?_
    refine V_lstore (pc1 := 296) d11_moreOf_294 (Nat.le_of_ble_eq_true rfl) rfl rfl ?_
    refine V_iinc (pc1 := 299) 3 (v := nI (j + 1)) d11_moreOf_296 rfl (nI_1 _) (Nat.le_of_ble_eq_true rfl) rfl rfl ?_
    refine V_goto (tgt := 236) d11_moreOf_299 (by decide) ?_
    refine V_lv (lv1 := [(0, .ref (xA g 296)), (3, .int (nI i)), (4, .long (r11_more (r11_more (r11_more z (r11_gotKey i j I L)) (I 297 (256 * i + 4 * j + 52))) (I 297 (256 * i + 4 * j + 53)))), (6, .int (nI (j + 1)))]) (lvsub_p [2, 3, 1, 0] rfl) ?_
    have hq2 := hq
    simp only [r11_moreOf_236, hw3, hr3] at hq2
    exact ih (j + 1) (r11_more (r11_more (r11_more z (r11_gotKey i j I L)) (I 297 (256 * i + 4 * j + 52))) (I 297 (256 * i + 4 * j + 53))) I L hw hr (by omega) Q hq2
def r11_moreOf_179 (h : Int64) (i : Nat) : Nat → Nat → Int64 → (Nat → Nat → Int32) → (Nat → Nat → Int64) → Int64
  | 0, j, z, I, L => r11_moreOf_236 h i ((I 297 (256 * i + 24)).toNatClampNeg) 0 (r11_more z (I 297 (256 * i + 24))) I L
  | n + 1, j, z, I, L => r11_moreOf_179 h i n (j + 1) (r11_more z (r11_keyOf i j I L)) I L
set_option maxRecDepth 4000 in
theorem t11_moreOf_179 (g : GlT)  (h : Int64) (i : Nat) (hi : i < 4) (w : Nat) (hw4 : w ≤ 4) (r : Nat) (hr6 : r ≤ 6) : ∀ (n j : Nat) (z : Int64) (I : Nat → Nat → Int32) (L : Nat → Nat → Int64), (hw : I 297 (256 * i + 23) = nI w) → (hr : I 297 (256 * i + 24) = nI r) → (hn : j + n = w) → ∀ (Q : Option Value → MemT → Prop), Q (some (.long (r11_moreOf_179 h i n j z I L))) (I, L, R0, 305) → V g (k11_moreOf, 3, 0, 0) 0 0 179 [(0, .ref (xA g 296)), (3, .int (nI i)), (4, .long z), (6, .int (nI j))] [] (I, L, R0, 305) Q := by
  intro n
  induction n with
  | zero =>
    intro j z I L hw hr hn Q hq
    have hw3 : (I 297 (256 * i + 23)).toNatClampNeg = w := by rw [hw]; exact nI_clamp (by omega)
    have hr3 : (I 297 (256 * i + 24)).toNatClampNeg = r := by rw [hr]; exact nI_clamp (by omega)
    refine V_iload (pc1 := 181) 3 d11_moreOf_179 rfl rfl ?_
    refine V_aload_n (pc1 := 182) 0 d11_moreOf_181 rfl rfl ?_
    refine V_getr (pc1 := 185) ly296 (lt305 rfl) f11_7 (fun _ => rfl) rf296_0 d11_moreOf_182 rfl ?_
    refine V_iload_n (pc1 := 186) 1 d11_moreOf_185 rfl rfl ?_
    refine V_bipush (pc1 := 188) d11_moreOf_186 vb_23 rfl ?_
    refine V_si (pc1 := 191) (w11_at2 g  i 23 (256 * i + 23) (by omega) I L ) s11_at l11_35 rfl rfl ⟨Nat.le_of_ble_eq_true rfl, Nat.le_of_ble_eq_true rfl, Nat.le_refl _, Nat.le_refl _⟩ (Nat.le_of_ble_eq_true rfl) rfl d11_moreOf_188 rfl ?_
    refine V_iald2 (pc1 := 192) (256 * i + 23) ly297 (lt305 rfl) rfl (by omega) hw d11_moreOf_191 rfl ?_
    refine V_icmp_ge (tgt := 215) (pc1 := 195) d11_moreOf_192 (by decide) rfl (fun _ => ?_) (fun h1 => absurd (nI_le (by omega) (by omega)) h1)
    refine V_lload (pc1 := 217) 2 d11_moreOf_215 rfl rfl ?_
    refine V_aload_n (pc1 := 218) 0 d11_moreOf_217 rfl rfl ?_
    refine V_getr (pc1 := 221) ly296 (lt305 rfl) f11_7 (fun _ => rfl) rf296_0 d11_moreOf_218 rfl ?_
    refine V_iload_n (pc1 := 222) 1 d11_moreOf_221 rfl rfl ?_
    refine V_bipush (pc1 := 224) d11_moreOf_222 vb_24 rfl ?_
    refine V_si (pc1 := 227) (w11_at2 g  i 24 (256 * i + 24) (by omega) I L ) s11_at l11_35 rfl rfl ⟨Nat.le_of_ble_eq_true rfl, Nat.le_of_ble_eq_true rfl, Nat.le_refl _, Nat.le_refl _⟩ (Nat.le_of_ble_eq_true rfl) rfl d11_moreOf_224 rfl ?_
    refine V_iald2 (pc1 := 228) (256 * i + 24) ly297 (lt305 rfl) rfl (by omega) rfl d11_moreOf_227 rfl ?_
    refine V_sl (pc1 := 231) (w11_more g  z (I 297 (256 * i + 24))  I L ) s11_more l11_232 rfl rfl ⟨Nat.le_of_ble_eq_true rfl, Nat.le_of_ble_eq_true rfl, Nat.le_refl _, Nat.le_refl _⟩ (Nat.le_of_ble_eq_true rfl) rfl d11_moreOf_228 rfl ?_
    refine V_lstore (pc1 := 233) d11_moreOf_231 (Nat.le_of_ble_eq_true rfl) rfl rfl ?_
    refine V_iconst (pc1 := 234) d11_moreOf_233 vc_0 rfl ?_
    refine V_istore (pc1 := 236) d11_moreOf_234 (Nat.le_of_ble_eq_true rfl) rfl rfl ?_
    refine V_lv (lv1 := [(0, .ref (xA g 296)), (3, .int (nI i)), (4, .long (r11_more z (I 297 (256 * i + 24)))), (6, .int (nI 0))]) (lvsub_p [2, 3, 1, 0] rfl) ?_
    have hq2 := hq
    simp only [r11_moreOf_179, hw3, hr3] at hq2
    exact t11_moreOf_236 g  _ _ hi _ hw4 _ hr6 r 0 (r11_more z (I 297 (256 * i + 24))) I L hw hr (by omega) Q hq2
  | succ n ih =>
    intro j z I L hw hr hn Q hq
    have hw3 : (I 297 (256 * i + 23)).toNatClampNeg = w := by rw [hw]; exact nI_clamp (by omega)
    have hr3 : (I 297 (256 * i + 24)).toNatClampNeg = r := by rw [hr]; exact nI_clamp (by omega)
    refine V_iload (pc1 := 181) 3 d11_moreOf_179 rfl rfl ?_
    refine V_aload_n (pc1 := 182) 0 d11_moreOf_181 rfl rfl ?_
    refine V_getr (pc1 := 185) ly296 (lt305 rfl) f11_7 (fun _ => rfl) rf296_0 d11_moreOf_182 rfl ?_
    refine V_iload_n (pc1 := 186) 1 d11_moreOf_185 rfl rfl ?_
    refine V_bipush (pc1 := 188) d11_moreOf_186 vb_23 rfl ?_
    refine V_si (pc1 := 191) (w11_at2 g  i 23 (256 * i + 23) (by omega) I L ) s11_at l11_35 rfl rfl ⟨Nat.le_of_ble_eq_true rfl, Nat.le_of_ble_eq_true rfl, Nat.le_refl _, Nat.le_refl _⟩ (Nat.le_of_ble_eq_true rfl) rfl d11_moreOf_188 rfl ?_
    refine V_iald2 (pc1 := 192) (256 * i + 23) ly297 (lt305 rfl) rfl (by omega) hw d11_moreOf_191 rfl ?_
    refine V_icmp_ge (tgt := 215) (pc1 := 195) d11_moreOf_192 (by decide) rfl (fun h1 => absurd h1 (nI_ge (by omega) (by omega))) (fun _ => ?_)
    refine V_lload (pc1 := 197) 2 d11_moreOf_195 rfl rfl ?_
    refine V_aload_n (pc1 := 198) 0 d11_moreOf_197 rfl rfl ?_
    refine V_iload_n (pc1 := 199) 1 d11_moreOf_198 rfl rfl ?_
    refine V_iload (pc1 := 201) 3 d11_moreOf_199 rfl rfl ?_
    refine V_vi (pc1 := 204) (w11_keyOf g  i j hi (by omega) I L ) ly296 (lt305 rfl) s11_keyOf l11_191 rfl rfl ⟨Nat.le_of_ble_eq_true rfl, Nat.le_of_ble_eq_true rfl, Nat.le_refl _, Nat.le_refl _⟩ (Nat.le_of_ble_eq_true rfl) rfl d11_moreOf_201 rfl ?_
    refine V_sl (pc1 := 207) (w11_more g  z (r11_keyOf i j I L)  I L ) s11_more l11_232 rfl rfl ⟨Nat.le_of_ble_eq_true rfl, Nat.le_of_ble_eq_true rfl, Nat.le_refl _, Nat.le_refl _⟩ (Nat.le_of_ble_eq_true rfl) rfl d11_moreOf_204 rfl ?_
    refine V_lstore (pc1 := 209) d11_moreOf_207 (Nat.le_of_ble_eq_true rfl) rfl rfl ?_
    refine V_iinc (pc1 := 212) 3 (v := nI (j + 1)) d11_moreOf_209 rfl (nI_1 _) (Nat.le_of_ble_eq_true rfl) rfl rfl ?_
    refine V_goto (tgt := 179) d11_moreOf_212 (by decide) ?_
    refine V_lv (lv1 := [(0, .ref (xA g 296)), (3, .int (nI i)), (4, .long (r11_more z (r11_keyOf i j I L))), (6, .int (nI (j + 1)))]) (lvsub_p [2, 3, 1, 0] rfl) ?_
    have hq2 := hq
    simp only [r11_moreOf_179, hw3, hr3] at hq2
    exact ih (j + 1) (r11_more z (r11_keyOf i j I L)) I L hw hr (by omega) Q hq2
def r11_moreOf_58 (h : Int64) (i : Nat) : Nat → Nat → Int64 → (Nat → Nat → Int32) → (Nat → Nat → Int64) → Int64
  | 0, j, z, I, L => r11_moreOf_179 h i ((I 297 (256 * i + 23)).toNatClampNeg) 0 (r11_more (r11_more (r11_more (r11_more (r11_more (r11_more z (r11_lastOf i I L)) (I 297 (256 * i + 12))) (I 297 (256 * i + 13))) (I 297 (256 * i + 14))) (I 297 (256 * i + 15))) (I 297 (256 * i + 23))) I L
  | n + 1, j, z, I, L => r11_moreOf_58 h i n (j + 1) (r11_more z (I 297 (256 * i + j + 5))) I L
set_option maxRecDepth 4000 in
theorem t11_moreOf_58 (g : GlT)  (h : Int64) (i : Nat) (hi : i < 4) (w : Nat) (hw4 : w ≤ 4) (r : Nat) (hr6 : r ≤ 6) : ∀ (n j : Nat) (z : Int64) (I : Nat → Nat → Int32) (L : Nat → Nat → Int64), (hw : I 297 (256 * i + 23) = nI w) → (hr : I 297 (256 * i + 24) = nI r) → (hn : j + n = 6) → ∀ (Q : Option Value → MemT → Prop), Q (some (.long (r11_moreOf_58 h i n j z I L))) (I, L, R0, 305) → V g (k11_moreOf, 3, 0, 0) 0 0 58 [(0, .ref (xA g 296)), (3, .int (nI i)), (4, .long z), (6, .int (nI j))] [] (I, L, R0, 305) Q := by
  intro n
  induction n with
  | zero =>
    intro j z I L hw hr hn Q hq
    have hw3 : (I 297 (256 * i + 23)).toNatClampNeg = w := by rw [hw]; exact nI_clamp (by omega)
    have hr3 : (I 297 (256 * i + 24)).toNatClampNeg = r := by rw [hr]; exact nI_clamp (by omega)
    refine V_iload (pc1 := 60) 3 d11_moreOf_58 rfl rfl ?_
    refine V_iconst (pc1 := 61) d11_moreOf_60 vc_5 rfl ?_
    refine V_icmp_gt (tgt := 90) (pc1 := 64) d11_moreOf_61 (by decide) rfl (fun _ => ?_) (fun h1 => absurd (by rw [show j = 6 by omega]; decide) h1)
    refine V_lload (pc1 := 92) 2 d11_moreOf_90 rfl rfl ?_
    refine V_aload_n (pc1 := 93) 0 d11_moreOf_92 rfl rfl ?_
    refine V_iload_n (pc1 := 94) 1 d11_moreOf_93 rfl rfl ?_
    refine V_vi (pc1 := 97) (w11_lastOf g  i hi I L ) ly296 (lt305 rfl) s11_lastOf l11_188 rfl rfl ⟨Nat.le_of_ble_eq_true rfl, Nat.le_of_ble_eq_true rfl, Nat.le_refl _, Nat.le_refl _⟩ (Nat.le_of_ble_eq_true rfl) rfl d11_moreOf_94 rfl ?_
    refine V_sl (pc1 := 100) (w11_more g  z (r11_lastOf i I L)  I L ) s11_more l11_232 rfl rfl ⟨Nat.le_of_ble_eq_true rfl, Nat.le_of_ble_eq_true rfl, Nat.le_refl _, Nat.le_refl _⟩ (Nat.le_of_ble_eq_true rfl) rfl d11_moreOf_97 rfl ?_
    refine V_aload_n (pc1 := 101) 0 d11_moreOf_100 rfl rfl ?_
    refine V_getr (pc1 := 104) ly296 (lt305 rfl) f11_7 (fun _ => rfl) rf296_0 d11_moreOf_101 rfl ?_
    refine V_iload_n (pc1 := 105) 1 d11_moreOf_104 rfl rfl ?_
    refine V_bipush (pc1 := 107) d11_moreOf_105 vb_12 rfl ?_
    refine V_si (pc1 := 110) (w11_at2 g  i 12 (256 * i + 12) (by omega) I L ) s11_at l11_35 rfl rfl ⟨Nat.le_of_ble_eq_true rfl, Nat.le_of_ble_eq_true rfl, Nat.le_refl _, Nat.le_refl _⟩ (Nat.le_of_ble_eq_true rfl) rfl d11_moreOf_107 rfl ?_
    refine V_iald2 (pc1 := 111) (256 * i + 12) ly297 (lt305 rfl) rfl (by omega) rfl d11_moreOf_110 rfl ?_
    refine V_sl (pc1 := 114) (w11_more g  (r11_more z (r11_lastOf i I L)) (I 297 (256 * i + 12))  I L ) s11_more l11_232 rfl rfl ⟨Nat.le_of_ble_eq_true rfl, Nat.le_of_ble_eq_true rfl, Nat.le_refl _, Nat.le_refl _⟩ (Nat.le_of_ble_eq_true rfl) rfl d11_moreOf_111 rfl ?_
    refine V_aload_n (pc1 := 115) 0 d11_moreOf_114 rfl rfl ?_
    refine V_getr (pc1 := 118) ly296 (lt305 rfl) f11_7 (fun _ => rfl) rf296_0 d11_moreOf_115 rfl ?_
    refine V_iload_n (pc1 := 119) 1 d11_moreOf_118 rfl rfl ?_
    refine V_bipush (pc1 := 121) d11_moreOf_119 vb_13 rfl ?_
    refine V_si (pc1 := 124) (w11_at2 g  i 13 (256 * i + 13) (by omega) I L ) s11_at l11_35 rfl rfl ⟨Nat.le_of_ble_eq_true rfl, Nat.le_of_ble_eq_true rfl, Nat.le_refl _, Nat.le_refl _⟩ (Nat.le_of_ble_eq_true rfl) rfl d11_moreOf_121 rfl ?_
    refine V_iald2 (pc1 := 125) (256 * i + 13) ly297 (lt305 rfl) rfl (by omega) rfl d11_moreOf_124 rfl ?_
    refine V_sl (pc1 := 128) (w11_more g  (r11_more (r11_more z (r11_lastOf i I L)) (I 297 (256 * i + 12))) (I 297 (256 * i + 13))  I L ) s11_more l11_232 rfl rfl ⟨Nat.le_of_ble_eq_true rfl, Nat.le_of_ble_eq_true rfl, Nat.le_refl _, Nat.le_refl _⟩ (Nat.le_of_ble_eq_true rfl) rfl d11_moreOf_125 rfl ?_
    refine V_aload_n (pc1 := 129) 0 d11_moreOf_128 rfl rfl ?_
    refine V_getr (pc1 := 132) ly296 (lt305 rfl) f11_7 (fun _ => rfl) rf296_0 d11_moreOf_129 rfl ?_
    refine V_iload_n (pc1 := 133) 1 d11_moreOf_132 rfl rfl ?_
    refine V_bipush (pc1 := 135) d11_moreOf_133 vb_14 rfl ?_
    refine V_si (pc1 := 138) (w11_at2 g  i 14 (256 * i + 14) (by omega) I L ) s11_at l11_35 rfl rfl ⟨Nat.le_of_ble_eq_true rfl, Nat.le_of_ble_eq_true rfl, Nat.le_refl _, Nat.le_refl _⟩ (Nat.le_of_ble_eq_true rfl) rfl d11_moreOf_135 rfl ?_
    refine V_iald2 (pc1 := 139) (256 * i + 14) ly297 (lt305 rfl) rfl (by omega) rfl d11_moreOf_138 rfl ?_
    refine V_sl (pc1 := 142) (w11_more g  (r11_more (r11_more (r11_more z (r11_lastOf i I L)) (I 297 (256 * i + 12))) (I 297 (256 * i + 13))) (I 297 (256 * i + 14))  I L ) s11_more l11_232 rfl rfl ⟨Nat.le_of_ble_eq_true rfl, Nat.le_of_ble_eq_true rfl, Nat.le_refl _, Nat.le_refl _⟩ (Nat.le_of_ble_eq_true rfl) rfl d11_moreOf_139 rfl ?_
    refine V_lstore (pc1 := 144) d11_moreOf_142 (Nat.le_of_ble_eq_true rfl) rfl rfl ?_
    refine V_lload (pc1 := 146) 0 d11_moreOf_144 rfl rfl ?_
    refine V_aload_n (pc1 := 147) 1 d11_moreOf_146 rfl rfl ?_
    refine V_getr (pc1 := 150) ly296 (lt305 rfl) f11_7 (fun _ => rfl) rf296_0 d11_moreOf_147 rfl ?_
    refine V_iload_n (pc1 := 151) 2 d11_moreOf_150 rfl rfl ?_
    refine V_bipush (pc1 := 153) d11_moreOf_151 vb_15 rfl ?_
    refine V_si (pc1 := 156) (w11_at2 g  i 15 (256 * i + 15) (by omega) I L ) s11_at l11_35 rfl rfl ⟨Nat.le_of_ble_eq_true rfl, Nat.le_of_ble_eq_true rfl, Nat.le_refl _, Nat.le_refl _⟩ (Nat.le_of_ble_eq_true rfl) rfl d11_moreOf_153 rfl ?_
    refine V_iald2 (pc1 := 157) (256 * i + 15) ly297 (lt305 rfl) rfl (by omega) rfl d11_moreOf_156 rfl ?_
    refine V_sl (pc1 := 160) (w11_more g  (r11_more (r11_more (r11_more (r11_more z (r11_lastOf i I L)) (I 297 (256 * i + 12))) (I 297 (256 * i + 13))) (I 297 (256 * i + 14))) (I 297 (256 * i + 15))  I L ) s11_more l11_232 rfl rfl ⟨Nat.le_of_ble_eq_true rfl, Nat.le_of_ble_eq_true rfl, Nat.le_refl _, Nat.le_refl _⟩ (Nat.le_of_ble_eq_true rfl) rfl d11_moreOf_157 rfl ?_
    refine V_aload_n (pc1 := 161) 1 d11_moreOf_160 rfl rfl ?_
    refine V_getr (pc1 := 164) ly296 (lt305 rfl) f11_7 (fun _ => rfl) rf296_0 d11_moreOf_161 rfl ?_
    refine V_iload_n (pc1 := 165) 2 d11_moreOf_164 rfl rfl ?_
    refine V_bipush (pc1 := 167) d11_moreOf_165 vb_23 rfl ?_
    refine V_si (pc1 := 170) (w11_at2 g  i 23 (256 * i + 23) (by omega) I L ) s11_at l11_35 rfl rfl ⟨Nat.le_of_ble_eq_true rfl, Nat.le_of_ble_eq_true rfl, Nat.le_refl _, Nat.le_refl _⟩ (Nat.le_of_ble_eq_true rfl) rfl d11_moreOf_167 rfl ?_
    refine V_iald2 (pc1 := 171) (256 * i + 23) ly297 (lt305 rfl) rfl (by omega) rfl d11_moreOf_170 rfl ?_
    refine V_sl (pc1 := 174) (w11_more g  (r11_more (r11_more (r11_more (r11_more (r11_more z (r11_lastOf i I L)) (I 297 (256 * i + 12))) (I 297 (256 * i + 13))) (I 297 (256 * i + 14))) (I 297 (256 * i + 15))) (I 297 (256 * i + 23))  I L ) s11_more l11_232 rfl rfl ⟨Nat.le_of_ble_eq_true rfl, Nat.le_of_ble_eq_true rfl, Nat.le_refl _, Nat.le_refl _⟩ (Nat.le_of_ble_eq_true rfl) rfl d11_moreOf_171 rfl ?_
    refine V_lstore (pc1 := 176) d11_moreOf_174 (Nat.le_of_ble_eq_true rfl) rfl rfl ?_
    refine V_iconst (pc1 := 177) d11_moreOf_176 vc_0 rfl ?_
    refine V_istore (pc1 := 179) d11_moreOf_177 (Nat.le_of_ble_eq_true rfl) rfl rfl ?_
    refine V_lv (lv1 := [(0, .ref (xA g 296)), (3, .int (nI i)), (4, .long (r11_more (r11_more (r11_more (r11_more (r11_more (r11_more z (r11_lastOf i I L)) (I 297 (256 * i + 12))) (I 297 (256 * i + 13))) (I 297 (256 * i + 14))) (I 297 (256 * i + 15))) (I 297 (256 * i + 23)))), (6, .int (nI 0))]) (lvsub_p [2, 3, 1, 0] rfl) ?_
    have hq2 := hq
    simp only [r11_moreOf_58, hw3, hr3] at hq2
    exact t11_moreOf_179 g  _ _ hi _ hw4 _ hr6 w 0 (r11_more (r11_more (r11_more (r11_more (r11_more (r11_more z (r11_lastOf i I L)) (I 297 (256 * i + 12))) (I 297 (256 * i + 13))) (I 297 (256 * i + 14))) (I 297 (256 * i + 15))) (I 297 (256 * i + 23))) I L hw hr (by omega) Q hq2
  | succ n ih =>
    intro j z I L hw hr hn Q hq
    have hw3 : (I 297 (256 * i + 23)).toNatClampNeg = w := by rw [hw]; exact nI_clamp (by omega)
    have hr3 : (I 297 (256 * i + 24)).toNatClampNeg = r := by rw [hr]; exact nI_clamp (by omega)
    refine V_iload (pc1 := 60) 3 d11_moreOf_58 rfl rfl ?_
    refine V_iconst (pc1 := 61) d11_moreOf_60 vc_5 rfl ?_
    refine V_icmp_gt (tgt := 90) (pc1 := 64) d11_moreOf_61 (by decide) rfl (fun h1 => absurd h1 (nI_nlt (a := 5) (by omega) (by omega))) (fun _ => ?_)
    refine V_lload (pc1 := 66) 2 d11_moreOf_64 rfl rfl ?_
    refine V_aload_n (pc1 := 67) 0 d11_moreOf_66 rfl rfl ?_
    refine V_getr (pc1 := 70) ly296 (lt305 rfl) f11_7 (fun _ => rfl) rf296_0 d11_moreOf_67 rfl ?_
    refine V_iload_n (pc1 := 71) 1 d11_moreOf_70 rfl rfl ?_
    refine V_iconst (pc1 := 72) d11_moreOf_71 vc_5 rfl ?_
    refine V_iload (pc1 := 74) 3 d11_moreOf_72 rfl rfl ?_
    refine V_addN (pc1 := 75) (a := 5) (b := j) (c := j + 5) rfl rfl (by omega) d11_moreOf_74 rfl ?_
    refine V_si (pc1 := 78) (w11_at2 g  i (j + 5) (256 * i + j + 5) (by omega) I L ) s11_at l11_35 rfl rfl ⟨Nat.le_of_ble_eq_true rfl, Nat.le_of_ble_eq_true rfl, Nat.le_refl _, Nat.le_refl _⟩ (Nat.le_of_ble_eq_true rfl) rfl d11_moreOf_75 rfl ?_
    refine V_iald2 (pc1 := 79) (256 * i + j + 5) ly297 (lt305 rfl) rfl (by omega) rfl d11_moreOf_78 rfl ?_
    refine V_sl (pc1 := 82) (w11_more g  z (I 297 (256 * i + j + 5))  I L ) s11_more l11_232 rfl rfl ⟨Nat.le_of_ble_eq_true rfl, Nat.le_of_ble_eq_true rfl, Nat.le_refl _, Nat.le_refl _⟩ (Nat.le_of_ble_eq_true rfl) rfl d11_moreOf_79 rfl ?_
    refine V_lstore (pc1 := 84) d11_moreOf_82 (Nat.le_of_ble_eq_true rfl) rfl rfl ?_
    refine V_iinc (pc1 := 87) 3 (v := nI (j + 1)) d11_moreOf_84 rfl (nI_1 _) (Nat.le_of_ble_eq_true rfl) rfl rfl ?_
    refine V_goto (tgt := 58) d11_moreOf_87 (by decide) ?_
    refine V_lv (lv1 := [(0, .ref (xA g 296)), (3, .int (nI i)), (4, .long (r11_more z (I 297 (256 * i + j + 5)))), (6, .int (nI (j + 1)))]) (lvsub_p [2, 3, 1, 0] rfl) ?_
    have hq2 := hq
    simp only [r11_moreOf_58, hw3, hr3] at hq2
    exact ih (j + 1) (r11_more z (I 297 (256 * i + j + 5))) I L hw hr (by omega) Q hq2
def r11_moreOf (h : Int64) (i : Nat) (I : Nat → Nat → Int32) (L : Nat → Nat → Int64) : Int64 := r11_moreOf_58 h i 5 1 (r11_more (r11_more (r11_more (r11_more h (I 297 (256 * i))) (I 297 (256 * i + 1))) (I 297 (256 * i + 4))) (I 297 (256 * i + 5))) I L
set_option maxRecDepth 4000 in
theorem v11_moreOf (g : GlT)  (h : Int64) (i : Nat) (hi : i < 4) (w : Nat) (hw4 : w ≤ 4) (r : Nat) (hr6 : r ≤ 6) (I : Nat → Nat → Int32) (L : Nat → Nat → Int64) (hw : I 297 (256 * i + 23) = nI w) (hr : I 297 (256 * i + 24) = nI r) (Q : Option Value → MemT → Prop) (hq : Q (some (.long (r11_moreOf h i I L))) (I, L, R0, 305)) : V g (k11_moreOf, 3, 0, 0) 0 0 0 [(0, .ref (xA g 296)), (1, .long h), (3, .int (nI i))] [] (I, L, R0, 305) Q := by
  have hw3 : (I 297 (256 * i + 23)).toNatClampNeg = w := by rw [hw]; exact nI_clamp (by omega)
  have hr3 : (I 297 (256 * i + 24)).toNatClampNeg = r := by rw [hr]; exact nI_clamp (by omega)
  refine V_lload_n (pc1 := 1) 1 d11_moreOf_0 rfl rfl ?_
  refine V_aload_n (pc1 := 2) 0 d11_moreOf_1 rfl rfl ?_
  refine V_getr (pc1 := 5) ly296 (lt305 rfl) f11_7 (fun _ => rfl) rf296_0 d11_moreOf_2 rfl ?_
  refine V_iload_n (pc1 := 6) 2 d11_moreOf_5 rfl rfl ?_
  refine V_iconst (pc1 := 7) d11_moreOf_6 vc_0 rfl ?_
  refine V_si (pc1 := 10) (w11_at2 g  i 0 (256 * i) (by omega) I L ) s11_at l11_35 rfl rfl ⟨Nat.le_of_ble_eq_true rfl, Nat.le_of_ble_eq_true rfl, Nat.le_refl _, Nat.le_refl _⟩ (Nat.le_of_ble_eq_true rfl) rfl d11_moreOf_7 rfl ?_
  refine V_iald2 (pc1 := 11) (256 * i) ly297 (lt305 rfl) rfl (by omega) rfl d11_moreOf_10 rfl ?_
  refine V_sl (pc1 := 14) (w11_more g  h (I 297 (256 * i))  I L ) s11_more l11_232 rfl rfl ⟨Nat.le_of_ble_eq_true rfl, Nat.le_of_ble_eq_true rfl, Nat.le_refl _, Nat.le_refl _⟩ (Nat.le_of_ble_eq_true rfl) rfl d11_moreOf_11 rfl ?_
  refine V_aload_n (pc1 := 15) 0 d11_moreOf_14 rfl rfl ?_
  refine V_getr (pc1 := 18) ly296 (lt305 rfl) f11_7 (fun _ => rfl) rf296_0 d11_moreOf_15 rfl ?_
  refine V_iload_n (pc1 := 19) 2 d11_moreOf_18 rfl rfl ?_
  refine V_iconst (pc1 := 20) d11_moreOf_19 vc_1 rfl ?_
  refine V_si (pc1 := 23) (w11_at2 g  i 1 (256 * i + 1) (by omega) I L ) s11_at l11_35 rfl rfl ⟨Nat.le_of_ble_eq_true rfl, Nat.le_of_ble_eq_true rfl, Nat.le_refl _, Nat.le_refl _⟩ (Nat.le_of_ble_eq_true rfl) rfl d11_moreOf_20 rfl ?_
  refine V_iald2 (pc1 := 24) (256 * i + 1) ly297 (lt305 rfl) rfl (by omega) rfl d11_moreOf_23 rfl ?_
  refine V_sl (pc1 := 27) (w11_more g  (r11_more h (I 297 (256 * i))) (I 297 (256 * i + 1))  I L ) s11_more l11_232 rfl rfl ⟨Nat.le_of_ble_eq_true rfl, Nat.le_of_ble_eq_true rfl, Nat.le_refl _, Nat.le_refl _⟩ (Nat.le_of_ble_eq_true rfl) rfl d11_moreOf_24 rfl ?_
  refine V_aload_n (pc1 := 28) 0 d11_moreOf_27 rfl rfl ?_
  refine V_getr (pc1 := 31) ly296 (lt305 rfl) f11_7 (fun _ => rfl) rf296_0 d11_moreOf_28 rfl ?_
  refine V_iload_n (pc1 := 32) 2 d11_moreOf_31 rfl rfl ?_
  refine V_iconst (pc1 := 33) d11_moreOf_32 vc_4 rfl ?_
  refine V_si (pc1 := 36) (w11_at2 g  i 4 (256 * i + 4) (by omega) I L ) s11_at l11_35 rfl rfl ⟨Nat.le_of_ble_eq_true rfl, Nat.le_of_ble_eq_true rfl, Nat.le_refl _, Nat.le_refl _⟩ (Nat.le_of_ble_eq_true rfl) rfl d11_moreOf_33 rfl ?_
  refine V_iald2 (pc1 := 37) (256 * i + 4) ly297 (lt305 rfl) rfl (by omega) rfl d11_moreOf_36 rfl ?_
  refine V_sl (pc1 := 40) (w11_more g  (r11_more (r11_more h (I 297 (256 * i))) (I 297 (256 * i + 1))) (I 297 (256 * i + 4))  I L ) s11_more l11_232 rfl rfl ⟨Nat.le_of_ble_eq_true rfl, Nat.le_of_ble_eq_true rfl, Nat.le_refl _, Nat.le_refl _⟩ (Nat.le_of_ble_eq_true rfl) rfl d11_moreOf_37 rfl ?_
  refine V_aload_n (pc1 := 41) 0 d11_moreOf_40 rfl rfl ?_
  refine V_getr (pc1 := 44) ly296 (lt305 rfl) f11_7 (fun _ => rfl) rf296_0 d11_moreOf_41 rfl ?_
  refine V_iload_n (pc1 := 45) 2 d11_moreOf_44 rfl rfl ?_
  refine V_iconst (pc1 := 46) d11_moreOf_45 vc_5 rfl ?_
  refine V_si (pc1 := 49) (w11_at2 g  i 5 (256 * i + 5) (by omega) I L ) s11_at l11_35 rfl rfl ⟨Nat.le_of_ble_eq_true rfl, Nat.le_of_ble_eq_true rfl, Nat.le_refl _, Nat.le_refl _⟩ (Nat.le_of_ble_eq_true rfl) rfl d11_moreOf_46 rfl ?_
  refine V_iald2 (pc1 := 50) (256 * i + 5) ly297 (lt305 rfl) rfl (by omega) rfl d11_moreOf_49 rfl ?_
  refine V_sl (pc1 := 53) (w11_more g  (r11_more (r11_more (r11_more h (I 297 (256 * i))) (I 297 (256 * i + 1))) (I 297 (256 * i + 4))) (I 297 (256 * i + 5))  I L ) s11_more l11_232 rfl rfl ⟨Nat.le_of_ble_eq_true rfl, Nat.le_of_ble_eq_true rfl, Nat.le_refl _, Nat.le_refl _⟩ (Nat.le_of_ble_eq_true rfl) rfl d11_moreOf_50 rfl ?_
  refine V_lstore (pc1 := 55) d11_moreOf_53 (Nat.le_of_ble_eq_true rfl) rfl rfl ?_
  refine V_iconst (pc1 := 56) d11_moreOf_55 vc_1 rfl ?_
  refine V_istore (pc1 := 58) d11_moreOf_56 (Nat.le_of_ble_eq_true rfl) rfl rfl ?_
  refine V_lv (lv1 := [(0, .ref (xA g 296)), (3, .int (nI i)), (4, .long (r11_more (r11_more (r11_more (r11_more h (I 297 (256 * i))) (I 297 (256 * i + 1))) (I 297 (256 * i + 4))) (I 297 (256 * i + 5)))), (6, .int (nI 1))]) (lvsub_p [2, 4, 1, 0] rfl) ?_
  have hq2 := hq
  simp only [r11_moreOf, hw3, hr3] at hq2
  exact t11_moreOf_58 g  _ _ hi _ hw4 _ hr6 5 1 (r11_more (r11_more (r11_more (r11_more h (I 297 (256 * i))) (I 297 (256 * i + 1))) (I 297 (256 * i + 4))) (I 297 (256 * i + 5))) I L hw hr rfl Q hq2
theorem w11_moreOf (g : GlT)  (h : Int64) (i : Nat) (hi : i < 4) (w : Nat) (hw4 : w ≤ 4) (r : Nat) (hr6 : r ≤ 6) (I : Nat → Nat → Int32) (L : Nat → Nat → Int64) (hw : I 297 (256 * i + 23) = nI w) (hr : I 297 (256 * i + 24) = nI r) : Call g (k11_moreOf, 3, 0, 0) [.ref (xA g 296), .long h, .int (nI i)] (I, L, R0, 305) (Ql (r11_moreOf h i I L) (I) L) := Call.of (by decide) (Nat.le_of_ble_eq_true rfl) rfl (v11_moreOf g  h i hi w hw4 r hr6 I L hw hr _ (And.intro rfl rfl))


def r11_checksum_37 : Nat → Nat → Int64 → (Nat → Nat → Int32) → (Nat → Nat → Int64) → Int64
  | 0, i, z, I, L => z
  | n + 1, i, z, I, L => r11_checksum_37  n (i + 1) (r11_more z (r11_level (nI i) I L)) I L
set_option maxRecDepth 4000 in
theorem t11_checksum_37 (g : GlT)  (t : Nat) (ht9 : t < 2 ^ 30) : ∀ (n i : Nat) (z : Int64) (I : Nat → Nat → Int32) (L : Nat → Nat → Int64), (ht : I 297 1024 = nI t) → (hn : i + n = 33) → ∀ (Q : Option Value → MemT → Prop), Q (some (.long (r11_checksum_37 n i z I L))) (I, L, R0, 305) → V g (k11_checksum, 4, 0, 0) 0 0 37 [(0, .ref (xA g 296)), (1, .long z), (3, .int (nI i))] [] (I, L, R0, 305) Q := by
  intro n
  induction n with
  | zero =>
    intro i z I L ht hn Q hq
    refine V_iload_n (pc1 := 38) 2 d11_checksum_37 rfl rfl ?_
    refine V_bipush (pc1 := 40) d11_checksum_38 vb_32 rfl ?_
    refine V_icmp_gt (tgt := 59) (pc1 := 43) d11_checksum_40 (by decide) rfl (fun _ => ?_) (fun h1 => absurd (by rw [show i = 33 by omega]; decide) h1)
    refine V_lload_n (pc1 := 60) 1 d11_checksum_59 rfl rfl ?_
    refine V_lret rfl d11_checksum_60 (Nat.zero_le _) (Nat.zero_le _) ?_
    have hq2 := hq
    simp only [r11_checksum_37] at hq2
    exact hq2
  | succ n ih =>
    intro i z I L ht hn Q hq
    refine V_iload_n (pc1 := 38) 2 d11_checksum_37 rfl rfl ?_
    refine V_bipush (pc1 := 40) d11_checksum_38 vb_32 rfl ?_
    refine V_icmp_gt (tgt := 59) (pc1 := 43) d11_checksum_40 (by decide) rfl (fun h1 => absurd h1 (nI_nlt (a := 32) (by omega) (by omega))) (fun _ => ?_)
    refine V_lload_n (pc1 := 44) 1 d11_checksum_43 rfl rfl ?_
    refine V_aload_n (pc1 := 45) 0 d11_checksum_44 rfl rfl ?_
    refine V_iload_n (pc1 := 46) 2 d11_checksum_45 rfl rfl ?_
    refine V_vi (pc1 := 49) (w11_level g  (nI i) t ht9 I L ht) ly296 (lt305 rfl) s11_level l11_241 rfl rfl ⟨Nat.le_of_ble_eq_true rfl, Nat.le_of_ble_eq_true rfl, Nat.le_refl _, Nat.le_refl _⟩ (Nat.le_of_ble_eq_true rfl) rfl d11_checksum_46 rfl ?_
    refine V_sl (pc1 := 52) (w11_more g  z (r11_level (nI i) I L)  I L ) s11_more l11_232 rfl rfl ⟨Nat.le_of_ble_eq_true rfl, Nat.le_of_ble_eq_true rfl, Nat.le_refl _, Nat.le_refl _⟩ (Nat.le_of_ble_eq_true rfl) rfl d11_checksum_49 rfl ?_
    refine V_lstore_n (pc1 := 53) d11_checksum_52 (Nat.le_of_ble_eq_true rfl) rfl rfl ?_
    refine V_iinc (pc1 := 56) 2 (v := nI (i + 1)) d11_checksum_53 rfl (nI_1 _) (Nat.le_of_ble_eq_true rfl) rfl rfl ?_
    refine V_goto (tgt := 37) d11_checksum_56 (by decide) ?_
    refine V_lv (lv1 := [(0, .ref (xA g 296)), (1, .long (r11_more z (r11_level (nI i) I L))), (3, .int (nI (i + 1)))]) (lvsub_p [2, 1, 0] rfl) ?_
    have hq2 := hq
    simp only [r11_checksum_37] at hq2
    exact ih (i + 1) (r11_more z (r11_level (nI i) I L)) I L ht (by omega) Q hq2
def r11_checksum_17 : Nat → Nat → Int64 → (Nat → Nat → Int32) → (Nat → Nat → Int64) → Int64
  | 0, i, z, I, L => r11_checksum_37  32 1 z I L
  | n + 1, i, z, I, L => r11_checksum_17  n (i + 1) (r11_moreOf z i I L) I L
set_option maxRecDepth 4000 in
theorem t11_checksum_17 (g : GlT)  (t : Nat) (ht9 : t < 2 ^ 30) : ∀ (n i : Nat) (z : Int64) (I : Nat → Nat → Int32) (L : Nat → Nat → Int64), (hv : rV I) → (ht : I 297 1024 = nI t) → (hn : i + n = 4) → ∀ (Q : Option Value → MemT → Prop), Q (some (.long (r11_checksum_17 n i z I L))) (I, L, R0, 305) → V g (k11_checksum, 4, 0, 0) 0 0 17 [(0, .ref (xA g 296)), (1, .long z), (3, .int (nI i))] [] (I, L, R0, 305) Q := by
  intro n
  induction n with
  | zero =>
    intro i z I L hv ht hn Q hq
    refine V_iload_n (pc1 := 18) 2 d11_checksum_17 rfl rfl ?_
    refine V_iconst (pc1 := 19) d11_checksum_18 vc_4 rfl ?_
    refine V_icmp_ge (tgt := 35) (pc1 := 22) d11_checksum_19 (by decide) rfl (fun _ => ?_) (fun h1 => absurd (by rw [show i = 4 by omega]; decide) h1)
    refine V_iconst (pc1 := 36) d11_checksum_35 vc_1 rfl ?_
    refine V_istore_n (pc1 := 37) d11_checksum_36 (Nat.le_of_ble_eq_true rfl) rfl rfl ?_
    refine V_lv (lv1 := [(0, .ref (xA g 296)), (1, .long z), (3, .int (nI 1))]) (lvsub_p [1, 2, 0] rfl) ?_
    have hq2 := hq
    simp only [r11_checksum_17] at hq2
    exact t11_checksum_37 g   _ ht9 32 1 z I L ht rfl Q hq2
  | succ n ih =>
    intro i z I L hv ht hn Q hq
    refine V_iload_n (pc1 := 18) 2 d11_checksum_17 rfl rfl ?_
    refine V_iconst (pc1 := 19) d11_checksum_18 vc_4 rfl ?_
    refine V_icmp_ge (tgt := 35) (pc1 := 22) d11_checksum_19 (by decide) rfl (fun h1 => absurd h1 (nI_ge (b := 4) (by omega) (by omega))) (fun _ => ?_)
    obtain ⟨⟨w, hw4, hw⟩, ⟨r, hr6, hr⟩, -⟩ := hv i (by omega)
    refine V_aload_n (pc1 := 23) 0 d11_checksum_22 rfl rfl ?_
    refine V_lload_n (pc1 := 24) 1 d11_checksum_23 rfl rfl ?_
    refine V_iload_n (pc1 := 25) 2 d11_checksum_24 rfl rfl ?_
    refine V_vl (pc1 := 28) (w11_moreOf g  z i (by omega) w hw4 r hr6 I L hw hr) ly296 (lt305 rfl) s11_moreOf l11_238 rfl rfl ⟨Nat.le_of_ble_eq_true rfl, Nat.le_of_ble_eq_true rfl, Nat.le_refl _, Nat.le_refl _⟩ (Nat.le_of_ble_eq_true rfl) rfl d11_checksum_25 rfl ?_
    refine V_lstore_n (pc1 := 29) d11_checksum_28 (Nat.le_of_ble_eq_true rfl) rfl rfl ?_
    refine V_iinc (pc1 := 32) 2 (v := nI (i + 1)) d11_checksum_29 rfl (nI_1 _) (Nat.le_of_ble_eq_true rfl) rfl rfl ?_
    refine V_goto (tgt := 17) d11_checksum_32 (by decide) ?_
    refine V_lv (lv1 := [(0, .ref (xA g 296)), (1, .long (r11_moreOf z i I L)), (3, .int (nI (i + 1)))]) (lvsub_p [2, 1, 0] rfl) ?_
    have hq2 := hq
    simp only [r11_checksum_17] at hq2
    exact ih (i + 1) (r11_moreOf z i I L) I L hv ht (by omega) Q hq2
def r11_checksum (I : Nat → Nat → Int32) (L : Nat → Nat → Int64) : Int64 := r11_checksum_17  4 0 (r11_more 11 (I 297 1024)) I L
set_option maxRecDepth 4000 in
theorem v11_checksum (g : GlT)  (t : Nat) (ht9 : t < 2 ^ 30) (I : Nat → Nat → Int32) (L : Nat → Nat → Int64) (hv : rV I) (ht : I 297 1024 = nI t) (Q : Option Value → MemT → Prop) (hq : Q (some (.long (r11_checksum I L))) (I, L, R0, 305)) : V g (k11_checksum, 4, 0, 0) 0 0 0 [(0, .ref (xA g 296))] [] (I, L, R0, 305) Q := by
  refine V_ldc2 (pc1 := 3) d11_checksum_0 q11_236 rfl ?_
  refine V_aload_n (pc1 := 4) 0 d11_checksum_3 rfl rfl ?_
  refine V_getr (pc1 := 7) ly296 (lt305 rfl) f11_7 (fun _ => rfl) rf296_0 d11_checksum_4 rfl ?_
  refine V_sipush (pc1 := 10) d11_checksum_7 vs_1024 rfl ?_
  refine V_iald2 (pc1 := 11) 1024 ly297 (lt305 rfl) rfl (Nat.le_of_ble_eq_true rfl) rfl d11_checksum_10 rfl ?_
  refine V_sl (pc1 := 14) (w11_more g  11 (I 297 1024)  I L ) s11_more l11_232 rfl rfl ⟨Nat.le_of_ble_eq_true rfl, Nat.le_of_ble_eq_true rfl, Nat.le_refl _, Nat.le_refl _⟩ (Nat.le_of_ble_eq_true rfl) rfl d11_checksum_11 rfl ?_
  refine V_lstore_n (pc1 := 15) d11_checksum_14 (Nat.le_of_ble_eq_true rfl) rfl rfl ?_
  refine V_iconst (pc1 := 16) d11_checksum_15 vc_0 rfl ?_
  refine V_istore_n (pc1 := 17) d11_checksum_16 (Nat.le_of_ble_eq_true rfl) rfl rfl ?_
  refine V_lv (lv1 := [(0, .ref (xA g 296)), (1, .long (r11_more 11 (I 297 1024))), (3, .int (nI 0))]) (lvsub_p [2, 1, 0] rfl) ?_
  have hq2 := hq
  simp only [r11_checksum] at hq2
  exact t11_checksum_17 g   _ ht9 4 0 (r11_more 11 (I 297 1024)) I L hv ht rfl Q hq2
theorem w11_checksum (g : GlT)  (t : Nat) (ht9 : t < 2 ^ 30) (I : Nat → Nat → Int32) (L : Nat → Nat → Int64) (hv : rV I) (ht : I 297 1024 = nI t) : Call g (k11_checksum, 4, 0, 0) [.ref (xA g 296)] (I, L, R0, 305) (Ql (r11_checksum I L) (I) L) := Call.of (by decide) (Nat.le_of_ble_eq_true rfl) rfl (v11_checksum g   t ht9 I L hv ht _ (And.intro rfl rfl))

