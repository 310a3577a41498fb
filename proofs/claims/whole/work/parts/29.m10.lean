def r11_receivedData (nd : Int32) (x : Int32) (I : Nat → Nat → Int32) (L : Nat → Nat → Int64) : Int32 := (if (r11_isNode nd) = true then (if (r11_isGot (nd.toNatClampNeg) x I L) = true then I 297 (4 * (x.toNatClampNeg) + 256 * (nd.toNatClampNeg) + 53) else 0) else 0)
set_option maxRecDepth 4000 in
theorem v11_receivedData (g : GlT)  (nd : Int32) (x : Int32) (I : Nat → Nat → Int32) (L : Nat → Nat → Int64) (hv : rV I) (Q : Option Value → MemT → Prop) (hq : Q (some (.int (r11_receivedData nd x I L))) (I, L, R0, 305)) : V g (k11_receivedData, 3, 0, 0) 0 0 0 [(0, .ref (xA g 296)), (1, .int nd), (2, .int x)] [] (I, L, R0, 305) Q := by
  refine V_iload_n (pc1 := 1) 1 d11_receivedData_0 rfl rfl ?_
  refine V_si (pc1 := 4) (w11_isNode g  nd  I L ) s11_isNode l11_66 rfl rfl ⟨Nat.le_of_ble_eq_true rfl, Nat.le_of_ble_eq_true rfl, Nat.le_refl _, Nat.le_refl _⟩ (Nat.le_of_ble_eq_true rfl) rfl d11_receivedData_1 rfl ?_
  have key3 : ∀ (z31_1 : Int32), z31_1 = (if (r11_isNode nd) = true then nI (nd.toNatClampNeg) else nd) → ∀ (z31_2 : Int32), z31_2 = (if (r11_isNode nd) = true then (if (r11_isGot (nd.toNatClampNeg) x I L) = true then nI (x.toNatClampNeg) else x) else x) → ∀ (y31_0 : Int32), y31_0 = (if (r11_isNode nd) = true then (if (r11_isGot (nd.toNatClampNeg) x I L) = true then I 297 (4 * (x.toNatClampNeg) + 256 * (nd.toNatClampNeg) + 53) else 0) else 0) → ∀ (lv : List (Nat × Value)), lvsub [(0, .ref (xA g 296)), (1, .int z31_1), (2, .int z31_2)] lv → V g (k11_receivedData, 3, 0, 0) 0 0 31 lv [.int y31_0] (I, L, R0, 305) Q := by
    intro z31_1 ez31_1 z31_2 ez31_2 y31_0 ey31_0
    subst ez31_1
    subst ez31_2
    subst ey31_0
    intro lv hlv
    refine V_lv hlv ?_
    refine V_iret rfl d11_receivedData_31 (Nat.zero_le _) (Nat.zero_le _) ?_
    have hq2 := hq
    simp only [r11_receivedData] at hq2
    exact hq2
  refine V_beq (tgt := 30) (pc1 := 7) d11_receivedData_4 (by decide) rfl (fun h1 => ?_) (fun h1 => ?_)
  · skip
    refine V_iconst (pc1 := 31) d11_receivedData_30 vc_0 rfl ?_
    exact key3 _ (by first | rfl | (simp only [if_neg h1]; done) | (simp only [if_neg h1]; rfl)) _ (by first | rfl | (simp only [if_neg h1]; done) | (simp only [if_neg h1]; rfl)) _ (by first | rfl | (simp only [if_neg h1]; done) | (simp only [if_neg h1]; rfl)) _ (lvsub_p [0, 1, 2] rfl)
  · skip
    obtain ⟨ni, hni, rfl⟩ := isNode11 h1
    have hn3 : (nI ni).toNatClampNeg = ni := nI_clamp (by omega)
    obtain ⟨⟨w, hw4, hw⟩, ⟨r, hr6, hr⟩, q, hq4, hq0⟩ := hv ni hni
    refine V_aload_n (pc1 := 8) 0 d11_receivedData_7 rfl rfl ?_
    refine V_iload_n (pc1 := 9) 1 d11_receivedData_8 rfl rfl ?_
    refine V_iload_n (pc1 := 10) 2 d11_receivedData_9 rfl rfl ?_
    refine V_vi (pc1 := 13) (w11_isGot g  ni x hni I L ) ly296 (lt305 rfl) s11_isGot l11_194 rfl rfl ⟨Nat.le_of_ble_eq_true rfl, Nat.le_of_ble_eq_true rfl, Nat.le_refl _, Nat.le_refl _⟩ (Nat.le_of_ble_eq_true rfl) rfl d11_receivedData_10 rfl ?_
    refine V_beq (tgt := 30) (pc1 := 16) d11_receivedData_13 (by decide) rfl (fun h2 => ?_) (fun h2 => ?_)
    · skip
      refine V_iconst (pc1 := 31) d11_receivedData_30 vc_0 rfl ?_
      exact key3 _ (by first | rfl | (simp only [if_pos h1, hn3, if_neg h2]; done) | (simp only [if_pos h1, hn3, if_neg h2]; rfl)) _ (by first | rfl | (simp only [if_pos h1, hn3, if_neg h2]; done) | (simp only [if_pos h1, hn3, if_neg h2]; rfl)) _ (by first | rfl | (simp only [if_pos h1, hn3, if_neg h2]; done) | (simp only [if_pos h1, hn3, if_neg h2]; rfl)) _ (lvsub_p [0, 1, 2] rfl)
    · skip
      obtain ⟨jn, hjn, rfl⟩ := in_nat hr (by omega) (by have h0 := h2; unfold r11_isGot at h0; exact h0)
      have hjn3 : (nI jn).toNatClampNeg = jn := nI_clamp (by omega)
      refine V_aload_n (pc1 := 17) 0 d11_receivedData_16 rfl rfl ?_
      refine V_getr (pc1 := 20) ly296 (lt305 rfl) f11_7 (fun _ => rfl) rf296_0 d11_receivedData_17 rfl ?_
      refine V_iload_n (pc1 := 21) 1 d11_receivedData_20 rfl rfl ?_
      refine V_iload_n (pc1 := 22) 2 d11_receivedData_21 rfl rfl ?_
      refine V_iconst (pc1 := 23) d11_receivedData_22 vc_3 rfl ?_
      refine V_si (pc1 := 26) (w11_got2 g  ni jn 3 (4 * jn + 256 * ni + 53) (by omega) I L ) s11_got l11_159 rfl rfl ⟨Nat.le_of_ble_eq_true rfl, Nat.le_of_ble_eq_true rfl, Nat.le_refl _, Nat.le_refl _⟩ (Nat.le_of_ble_eq_true rfl) rfl d11_receivedData_23 rfl ?_
      refine V_iald2 (pc1 := 27) (4 * jn + 256 * ni + 53) ly297 (lt305 rfl) rfl (by omega) rfl d11_receivedData_26 rfl ?_
      refine V_goto (tgt := 31) d11_receivedData_27 (by decide) ?_
      exact key3 _ (by first | rfl | (simp only [if_pos h1, hn3, if_pos h2, hjn3]; done) | (simp only [if_pos h1, hn3, if_pos h2, hjn3]; rfl)) _ (by first | rfl | (simp only [if_pos h1, hn3, if_pos h2, hjn3]; done) | (simp only [if_pos h1, hn3, if_pos h2, hjn3]; rfl)) _ (by first | rfl | (simp only [if_pos h1, hn3, if_pos h2, hjn3]; done) | (simp only [if_pos h1, hn3, if_pos h2, hjn3]; rfl)) _ (lvsub_p [0, 1, 2] rfl)
theorem w11_receivedData (g : GlT)  (nd : Int32) (x : Int32) (I : Nat → Nat → Int32) (L : Nat → Nat → Int64) (hv : rV I) : Call g (k11_receivedData, 3, 0, 0) [.ref (xA g 296), .int nd, .int x] (I, L, R0, 305) (Qi (r11_receivedData nd x I L) (I) L) := Call.of (by decide) (Nat.le_of_ble_eq_true rfl) rfl (v11_receivedData g  nd x  I L hv _ (And.intro rfl rfl))


def r11_discard_48 (nd : Int32) : Nat → Nat → Nat → Nat → (Nat → Nat → Int32) → (Nat → Nat → Int64) → Int32
  | 0, t, ni, q, I, L => I 297 (256 * ni + 24)
  | n + 1, t, ni, q, I, L => r11_discard_48 nd n (t + 1) ni q (uI I 297 (256 * ni + t) (I 297 (256 * ni + t + 4))) L
def i11_discard_48 (nd : Int32) : Nat → Nat → Nat → Nat → (Nat → Nat → Int32) → (Nat → Nat → Int64) → (Nat → Nat → Int32)
  | 0, t, ni, q, I, L => I
  | n + 1, t, ni, q, I, L => i11_discard_48 nd n (t + 1) ni q (uI I 297 (256 * ni + t) (I 297 (256 * ni + t + 4))) L
set_option maxRecDepth 4000 in
theorem t11_discard_48 (g : GlT)  (nd : Int32)  : ∀ (n t ni q : Nat) (I : Nat → Nat → Int32) (L : Nat → Nat → Int64), (hni : ni < 4) → (hq0 : I 297 (256 * ni + 24) = nI q) → (hq3 : q ≤ 5) → (hn : t + n = 4 * q + 50) → (ht : 50 ≤ t) → ∀ (Q : Option Value → MemT → Prop), Q (some (.int (r11_discard_48 nd n t ni q I L))) (i11_discard_48 nd n t ni q I L, L, R0, 305) → V g (k11_discard, 3, 0, 0) 0 0 48 [(0, .ref (xA g 296)), (1, .int (nI ni)), (2, .int (nI (256 * ni + t)))] [] (I, L, R0, 305) Q := by
  intro n
  induction n with
  | zero =>
    intro t ni q I L hni hq0 hq3 hn ht Q hq
    refine V_iload_n (pc1 := 49) 2 d11_discard_48 rfl rfl ?_
    refine V_iload_n (pc1 := 50) 1 d11_discard_49 rfl rfl ?_
    refine V_aload_n (pc1 := 51) 0 d11_discard_50 rfl rfl ?_
    refine V_getr (pc1 := 54) ly296 (lt305 rfl) f11_7 (fun _ => rfl) rf296_0 d11_discard_51 rfl ?_
    refine V_iload_n (pc1 := 55) 1 d11_discard_54 rfl rfl ?_
    refine V_bipush (pc1 := 57) d11_discard_55 vb_24 rfl ?_
    refine V_si (pc1 := 60) (w11_at2 g  ni 24 (256 * ni + 24) (by omega) I L ) s11_at l11_35 rfl rfl ⟨Nat.le_of_ble_eq_true rfl, Nat.le_of_ble_eq_true rfl, Nat.le_refl _, Nat.le_refl _⟩ (Nat.le_of_ble_eq_true rfl) rfl d11_discard_57 rfl ?_
    refine V_iald2 (pc1 := 61) (256 * ni + 24) ly297 (lt305 rfl) rfl (by omega) hq0 d11_discard_60 rfl ?_
    refine V_iconst (pc1 := 62) d11_discard_61 vc_0 rfl ?_
    refine V_si (pc1 := 65) (w11_got2 g  ni q 0 (256 * ni + 4 * q + 50) (by omega) I L ) s11_got l11_159 rfl rfl ⟨Nat.le_of_ble_eq_true rfl, Nat.le_of_ble_eq_true rfl, Nat.le_refl _, Nat.le_refl _⟩ (Nat.le_of_ble_eq_true rfl) rfl d11_discard_62 rfl ?_
    refine V_icmp_ge (tgt := 88) (pc1 := 68) d11_discard_65 (by decide) rfl (fun _ => ?_) (fun h1 => absurd (nI_le (by omega) (by omega)) h1)
    refine V_aload_n (pc1 := 89) 0 d11_discard_88 rfl rfl ?_
    refine V_getr (pc1 := 92) ly296 (lt305 rfl) f11_7 (fun _ => rfl) rf296_0 d11_discard_89 rfl ?_
    refine V_iload_n (pc1 := 93) 1 d11_discard_92 rfl rfl ?_
    refine V_bipush (pc1 := 95) d11_discard_93 vb_24 rfl ?_
    refine V_si (pc1 := 98) (w11_at2 g  ni 24 (256 * ni + 24) (by omega) I L ) s11_at l11_35 rfl rfl ⟨Nat.le_of_ble_eq_true rfl, Nat.le_of_ble_eq_true rfl, Nat.le_refl _, Nat.le_refl _⟩ (Nat.le_of_ble_eq_true rfl) rfl d11_discard_95 rfl ?_
    refine V_iald2 (pc1 := 99) (256 * ni + 24) ly297 (lt305 rfl) rfl (by omega) rfl d11_discard_98 rfl ?_
    refine V_iret rfl d11_discard_99 (Nat.zero_le _) (Nat.zero_le _) ?_
    have hq2 := hq
    simp only [r11_discard_48, i11_discard_48] at hq2
    exact hq2
  | succ n ih =>
    intro t ni q I L hni hq0 hq3 hn ht Q hq
    refine V_iload_n (pc1 := 49) 2 d11_discard_48 rfl rfl ?_
    refine V_iload_n (pc1 := 50) 1 d11_discard_49 rfl rfl ?_
    refine V_aload_n (pc1 := 51) 0 d11_discard_50 rfl rfl ?_
    refine V_getr (pc1 := 54) ly296 (lt305 rfl) f11_7 (fun _ => rfl) rf296_0 d11_discard_51 rfl ?_
    refine V_iload_n (pc1 := 55) 1 d11_discard_54 rfl rfl ?_
    refine V_bipush (pc1 := 57) d11_discard_55 vb_24 rfl ?_
    refine V_si (pc1 := 60) (w11_at2 g  ni 24 (256 * ni + 24) (by omega) I L ) s11_at l11_35 rfl rfl ⟨Nat.le_of_ble_eq_true rfl, Nat.le_of_ble_eq_true rfl, Nat.le_refl _, Nat.le_refl _⟩ (Nat.le_of_ble_eq_true rfl) rfl d11_discard_57 rfl ?_
    refine V_iald2 (pc1 := 61) (256 * ni + 24) ly297 (lt305 rfl) rfl (by omega) hq0 d11_discard_60 rfl ?_
    refine V_iconst (pc1 := 62) d11_discard_61 vc_0 rfl ?_
    refine V_si (pc1 := 65) (w11_got2 g  ni q 0 (256 * ni + 4 * q + 50) (by omega) I L ) s11_got l11_159 rfl rfl ⟨Nat.le_of_ble_eq_true rfl, Nat.le_of_ble_eq_true rfl, Nat.le_refl _, Nat.le_refl _⟩ (Nat.le_of_ble_eq_true rfl) rfl d11_discard_62 rfl ?_
    refine V_icmp_ge (tgt := 88) (pc1 := 68) d11_discard_65 (by decide) rfl (fun h1 => absurd h1 (nI_ge (by omega) (by omega))) (fun _ => ?_)
    refine V_aload_n (pc1 := 69) 0 d11_discard_68 rfl rfl ?_
    refine V_getr (pc1 := 72) ly296 (lt305 rfl) f11_7 (fun _ => rfl) rf296_0 d11_discard_69 rfl ?_
    refine V_iload_n (pc1 := 73) 2 d11_discard_72 rfl rfl ?_
    refine V_aload_n (pc1 := 74) 0 d11_discard_73 rfl rfl ?_
    refine V_getr (pc1 := 77) ly296 (lt305 rfl) f11_7 (fun _ => rfl) rf296_0 d11_discard_74 rfl ?_
    refine V_iload_n (pc1 := 78) 2 d11_discard_77 rfl rfl ?_
    refine V_iconst (pc1 := 79) d11_discard_78 vc_4 rfl ?_
    refine V_addN (pc1 := 80) (a := 256 * ni + t) (b := 4) (c := 256 * ni + t + 4) rfl rfl (by omega) d11_discard_79 rfl ?_
    refine V_iald2 (pc1 := 81) (256 * ni + t + 4) ly297 (lt305 rfl) rfl (by omega) rfl d11_discard_80 rfl ?_
    refine V_iast (pc1 := 82) (256 * ni + t) ly297 (lt305 rfl) rfl (by omega) d11_discard_81 rfl ?_
    refine V_iinc (pc1 := 85) 2 (v := nI ((256 * ni + t) + 1)) d11_discard_82 rfl (nI_1 _) (Nat.le_of_ble_eq_true rfl) rfl rfl ?_
    refine V_goto (tgt := 48) d11_discard_85 (by decide) ?_
    refine V_lv (lv1 := [(0, .ref (xA g 296)), (1, .int (nI ni)), (2, .int (nI (256 * ni + (t + 1))))]) (lvsub_p [1, 2, 0] rfl) ?_
    have hq2 := hq
    simp only [r11_discard_48, i11_discard_48] at hq2
    exact ih (t + 1) ni q (uI I 297 (256 * ni + t) (I 297 (256 * ni + t + 4))) L hni ((uI_ne I 297 (I 297 (256 * ni + t + 4)) (show (256 * ni + 24 : Nat) ≠ 256 * ni + t by omega)).trans hq0) hq3 (by omega) (by omega) Q hq2
def r11_discard (nd : Int32) (I : Nat → Nat → Int32) (L : Nat → Nat → Int64) : Int32 := (if (r11_isNode nd) = true then (if nI ((I 297 (256 * (nd.toNatClampNeg) + 24)).toNatClampNeg) = 0 then (-5) else r11_discard_48 nd (4 * (((I 297 (256 * (nd.toNatClampNeg) + 24)).toNatClampNeg) - 1)) 50 (nd.toNatClampNeg) (((I 297 (256 * (nd.toNatClampNeg) + 24)).toNatClampNeg) - 1) (uI I 297 (256 * (nd.toNatClampNeg) + 24) (nI (((I 297 (256 * (nd.toNatClampNeg) + 24)).toNatClampNeg) - 1))) L) else (-1))
def i11_discard (nd : Int32) (I : Nat → Nat → Int32) (L : Nat → Nat → Int64) : Nat → Nat → Int32 := (if (r11_isNode nd) = true then (if nI ((I 297 (256 * (nd.toNatClampNeg) + 24)).toNatClampNeg) = 0 then I else i11_discard_48 nd (4 * (((I 297 (256 * (nd.toNatClampNeg) + 24)).toNatClampNeg) - 1)) 50 (nd.toNatClampNeg) (((I 297 (256 * (nd.toNatClampNeg) + 24)).toNatClampNeg) - 1) (uI I 297 (256 * (nd.toNatClampNeg) + 24) (nI (((I 297 (256 * (nd.toNatClampNeg) + 24)).toNatClampNeg) - 1))) L) else I)
set_option maxRecDepth 4000 in
theorem v11_discard (g : GlT)  (nd : Int32) (I : Nat → Nat → Int32) (L : Nat → Nat → Int64) (hv : rV I) (Q : Option Value → MemT → Prop) (hq : Q (some (.int (r11_discard nd I L))) (i11_discard nd I L, L, R0, 305)) : V g (k11_discard, 3, 0, 0) 0 0 0 [(0, .ref (xA g 296)), (1, .int nd)] [] (I, L, R0, 305) Q := by
  refine V_iload_n (pc1 := 1) 1 d11_discard_0 rfl rfl ?_
  refine V_si (pc1 := 4) (w11_isNode g  nd  I L ) s11_isNode l11_66 rfl rfl ⟨Nat.le_of_ble_eq_true rfl, Nat.le_of_ble_eq_true rfl, Nat.le_refl _, Nat.le_refl _⟩ (Nat.le_of_ble_eq_true rfl) rfl d11_discard_1 rfl ?_
  refine V_bne (tgt := 9) (pc1 := 7) d11_discard_4 (by decide) rfl (fun h1 => ?_) (fun h1 => ?_)
  · skip
    obtain ⟨ni, hni, rfl⟩ := isNode11 h1
    have hn3 : (nI ni).toNatClampNeg = ni := nI_clamp (by omega)
    obtain ⟨⟨w, hw4, hw⟩, ⟨r, hr6, hr⟩, q, hq4, hq0⟩ := hv ni hni
    have hr3 : (I 297 (256 * ni + 24)).toNatClampNeg = r := by rw [hr]; exact nI_clamp (by omega)
    refine V_aload_n (pc1 := 10) 0 d11_discard_9 rfl rfl ?_
    refine V_getr (pc1 := 13) ly296 (lt305 rfl) f11_7 (fun _ => rfl) rf296_0 d11_discard_10 rfl ?_
    refine V_iload_n (pc1 := 14) 1 d11_discard_13 rfl rfl ?_
    refine V_bipush (pc1 := 16) d11_discard_14 vb_24 rfl ?_
    refine V_si (pc1 := 19) (w11_at2 g  ni 24 (256 * ni + 24) (by omega) I L ) s11_at l11_35 rfl rfl ⟨Nat.le_of_ble_eq_true rfl, Nat.le_of_ble_eq_true rfl, Nat.le_refl _, Nat.le_refl _⟩ (Nat.le_of_ble_eq_true rfl) rfl d11_discard_16 rfl ?_
    refine V_iald2 (pc1 := 20) (256 * ni + 24) ly297 (lt305 rfl) rfl (by omega) hr d11_discard_19 rfl ?_
    refine V_if_ne (tgt := 26) (pc1 := 23) d11_discard_20 (by decide) rfl (fun h2 => ?_) (fun h2 => ?_)
    · skip
      have hr1 := ni0_ne (by omega) h2
      refine V_aload_n (pc1 := 27) 0 d11_discard_26 rfl rfl ?_
      refine V_getr (pc1 := 30) ly296 (lt305 rfl) f11_7 (fun _ => rfl) rf296_0 d11_discard_27 rfl ?_
      refine V_iload_n (pc1 := 31) 1 d11_discard_30 rfl rfl ?_
      refine V_bipush (pc1 := 33) d11_discard_31 vb_24 rfl ?_
      refine V_si (pc1 := 36) (w11_at2 g  ni 24 (256 * ni + 24) (by omega) I L ) s11_at l11_35 rfl rfl ⟨Nat.le_of_ble_eq_true rfl, Nat.le_of_ble_eq_true rfl, Nat.le_refl _, Nat.le_refl _⟩ (Nat.le_of_ble_eq_true rfl) rfl d11_discard_33 rfl ?_
      refine V_dup2 (pc1 := 37) d11_discard_36 rfl rfl rfl ?_
      refine V_iald2 (pc1 := 38) (256 * ni + 24) ly297 (lt305 rfl) rfl (by omega) hr d11_discard_37 rfl ?_
      refine V_iconst (pc1 := 39) d11_discard_38 vc_1 rfl ?_
      refine V_subN (pc1 := 40) (a := r) (b := 1) (c := r - 1) rfl rfl (by omega) d11_discard_39 rfl ?_
      refine V_iast (pc1 := 41) (256 * ni + 24) ly297 (lt305 rfl) rfl (by omega) d11_discard_40 rfl ?_
      refine V_iload_n (pc1 := 42) 1 d11_discard_41 rfl rfl ?_
      refine V_iconst (pc1 := 43) d11_discard_42 vc_0 rfl ?_
      refine V_iconst (pc1 := 44) d11_discard_43 vc_0 rfl ?_
      refine V_si (pc1 := 47) (w11_got2 g  ni 0 0 (256 * ni + 50) (by omega) (uI I 297 (256 * ni + 24) (nI (r - 1))) L ) s11_got l11_159 rfl rfl ⟨Nat.le_of_ble_eq_true rfl, Nat.le_of_ble_eq_true rfl, Nat.le_refl _, Nat.le_refl _⟩ (Nat.le_of_ble_eq_true rfl) rfl d11_discard_44 rfl ?_
      refine V_istore_n (pc1 := 48) d11_discard_47 (Nat.le_of_ble_eq_true rfl) rfl rfl ?_
      refine V_lv (lv1 := [(0, .ref (xA g 296)), (1, .int (nI ni)), (2, .int (nI (256 * ni + 50)))]) (lvsub_p [1, 2, 0] rfl) ?_
      have hq2 := hq
      simp only [r11_discard, i11_discard, if_pos h1, hn3, hr3, if_neg h2] at hq2
      exact t11_discard_48 g  _  (4 * (r - 1)) 50 ni (r - 1) (uI I 297 (256 * ni + 24) (nI (r - 1))) L hni (uI_self I 297 (256 * ni + 24) (nI (r - 1))) (by omega) (by omega) (by omega) Q hq2
    · skip
      refine V_bipush (pc1 := 25) d11_discard_23 vb_m5 rfl ?_
      refine V_iret rfl d11_discard_25 (Nat.zero_le _) (Nat.zero_le _) ?_
      have hq2 := hq
      simp only [r11_discard, i11_discard, if_pos h1, hn3, hr3, if_pos h2] at hq2
      exact hq2
  · skip
    refine V_iconst (pc1 := 8) d11_discard_7 vc_m1 rfl ?_
    refine V_iret rfl d11_discard_8 (Nat.zero_le _) (Nat.zero_le _) ?_
    have hq2 := hq
    simp only [r11_discard, i11_discard, if_neg h1] at hq2
    exact hq2
theorem w11_discard (g : GlT)  (nd : Int32) (I : Nat → Nat → Int32) (L : Nat → Nat → Int64) (hv : rV I) : Call g (k11_discard, 3, 0, 0) [.ref (xA g 296), .int nd] (I, L, R0, 305) (Qi (r11_discard nd I L) (i11_discard nd I L) L) := Call.of (by decide) (Nat.le_of_ble_eq_true rfl) rfl (v11_discard g  nd  I L hv _ (And.intro rfl rfl))


def r11_level (x : Int32) (I : Nat → Nat → Int32) (L : Nat → Nat → Int64) : Int32 := (if (r11_in x 1 256) = true then (if nI (x.toNatClampNeg) ≤ nI ((I 297 1024).toNatClampNeg) then I 297 ((1050) + ((((I 297 1024).toNatClampNeg) - (x.toNatClampNeg)) % 256)) else (-5)) else (-2))
set_option maxRecDepth 4000 in
theorem v11_level (g : GlT)  (x : Int32) (t : Nat) (ht9 : t < 2 ^ 30) (I : Nat → Nat → Int32) (L : Nat → Nat → Int64) (ht : I 297 1024 = nI t) (Q : Option Value → MemT → Prop) (hq : Q (some (.int (r11_level x I L))) (I, L, R0, 305)) : V g (k11_level, 2, 0, 0) 0 0 0 [(0, .ref (xA g 296)), (1, .int x)] [] (I, L, R0, 305) Q := by
  have ht3 : (I 297 1024).toNatClampNeg = t := by rw [ht]; exact nI_clamp (by omega)
  refine V_iload_n (pc1 := 1) 1 d11_level_0 rfl rfl ?_
  refine V_iconst (pc1 := 2) d11_level_1 vc_1 rfl ?_
  refine V_sipush (pc1 := 5) d11_level_2 vs_256 rfl ?_
  refine V_si (pc1 := 8) (w11_in g  x 1 256  I L ) s11_in l11_39 rfl rfl ⟨Nat.le_of_ble_eq_true rfl, Nat.le_of_ble_eq_true rfl, Nat.le_refl _, Nat.le_refl _⟩ (Nat.le_of_ble_eq_true rfl) rfl d11_level_5 rfl ?_
  refine V_bne (tgt := 14) (pc1 := 11) d11_level_8 (by decide) rfl (fun h1 => ?_) (fun h1 => ?_)
  · skip
    obtain ⟨bk, hbk, hbka, rfl⟩ := within_nat (a := 1) (b := 256) (by omega) (by omega) h1
    have hbk3 : (nI bk).toNatClampNeg = bk := nI_clamp (by omega)
    refine V_iload_n (pc1 := 15) 1 d11_level_14 rfl rfl ?_
    refine V_aload_n (pc1 := 16) 0 d11_level_15 rfl rfl ?_
    refine V_getr (pc1 := 19) ly296 (lt305 rfl) f11_7 (fun _ => rfl) rf296_0 d11_level_16 rfl ?_
    refine V_sipush (pc1 := 22) d11_level_19 vs_1024 rfl ?_
    refine V_iald2 (pc1 := 23) 1024 ly297 (lt305 rfl) rfl (Nat.le_of_ble_eq_true rfl) ht d11_level_22 rfl ?_
    have key3 : ∀ (y54_0 : Int32), y54_0 = (if nI bk ≤ nI t then I 297 ((1050) + ((t - bk) % 256)) else (-5)) → ∀ (lv : List (Nat × Value)), lvsub [(0, .ref (xA g 296)), (1, .int (nI bk))] lv → V g (k11_level, 2, 0, 0) 0 0 54 lv [.int y54_0] (I, L, R0, 305) Q := by
      intro y54_0 ey54_0
      subst ey54_0
      intro lv hlv
      refine V_lv hlv ?_
      refine V_iret rfl d11_level_54 (Nat.zero_le _) (Nat.zero_le _) ?_
      have hq2 := hq
      simp only [r11_level, ht3, if_pos h1, hbk3] at hq2
      exact hq2
    refine V_icmp_le (tgt := 31) (pc1 := 26) d11_level_23 (by decide) rfl (fun h2 => ?_) (fun h2 => ?_)
    · skip
      have hbt : bk ≤ t := (nI_leI (by omega) (by omega)).mp h2
      refine V_aload_n (pc1 := 32) 0 d11_level_31 rfl rfl ?_
      refine V_getr (pc1 := 35) ly296 (lt305 rfl) f11_7 (fun _ => rfl) rf296_0 d11_level_32 rfl ?_
      refine V_sipush (pc1 := 38) d11_level_35 vs_1050 rfl ?_
      refine V_aload_n (pc1 := 39) 0 d11_level_38 rfl rfl ?_
      refine V_getr (pc1 := 42) ly296 (lt305 rfl) f11_7 (fun _ => rfl) rf296_0 d11_level_39 rfl ?_
      refine V_sipush (pc1 := 45) d11_level_42 vs_1024 rfl ?_
      refine V_iald2 (pc1 := 46) 1024 ly297 (lt305 rfl) rfl (Nat.le_of_ble_eq_true rfl) ht d11_level_45 rfl ?_
      refine V_iload_n (pc1 := 47) 1 d11_level_46 rfl rfl ?_
      refine V_subN (pc1 := 48) (a := t) (b := bk) (c := t - bk) rfl rfl (by omega) d11_level_47 rfl ?_
      refine V_sipush (pc1 := 51) d11_level_48 vs_256 rfl ?_
      refine V_irem (pc1 := 52) d11_level_51 (by decide) rfl ?_
      rw [show nI (t - bk) - nI (t - bk) / 256 * 256 = nI ((t - bk) % 256) from pk_rem (d := 256) (by omega) (by omega) (by omega)]
      refine V_addN (pc1 := 53) (a := 1050) (b := (t - bk) % 256) (c := (1050) + ((t - bk) % 256)) rfl rfl (by omega) d11_level_52 rfl ?_
      refine V_iald2 (pc1 := 54) ((1050) + ((t - bk) % 256)) ly297 (lt305 rfl) rfl (by omega) rfl d11_level_53 rfl ?_
      exact key3 _ (by first | rfl | (simp only [ht3, hbk3, if_pos h2]; done) | (simp only [ht3, hbk3, if_pos h2]; rfl)) _ (lvsub_p [0, 1] rfl)
    · skip
      refine V_bipush (pc1 := 28) d11_level_26 vb_m5 rfl ?_
      refine V_goto (tgt := 54) d11_level_28 (by decide) ?_
      exact key3 _ (by first | rfl | (simp only [ht3, hbk3, if_neg h2]; done) | (simp only [ht3, hbk3, if_neg h2]; rfl)) _ (lvsub_p [0, 1] rfl)
  · skip
    refine V_bipush (pc1 := 13) d11_level_11 vb_m2 rfl ?_
    refine V_iret rfl d11_level_13 (Nat.zero_le _) (Nat.zero_le _) ?_
    have hq2 := hq
    simp only [r11_level, ht3, if_neg h1] at hq2
    exact hq2
theorem w11_level (g : GlT)  (x : Int32) (t : Nat) (ht9 : t < 2 ^ 30) (I : Nat → Nat → Int32) (L : Nat → Nat → Int64) (ht : I 297 1024 = nI t) : Call g (k11_level, 2, 0, 0) [.ref (xA g 296), .int x] (I, L, R0, 305) (Qi (r11_level x I L) (I) L) := Call.of (by decide) (Nat.le_of_ble_eq_true rfl) rfl (v11_level g  x t ht9 I L ht _ (And.intro rfl rfl))


theorem wz {z : Int32} (h : z = (-5) ∨ ∃ p, p < 4 ∧ z = nI p) (h5 : ¬ z = (-5)) : nI (z.toNatClampNeg) = (-5) ∨ ∃ p, p < 4 ∧ nI (z.toNatClampNeg) = nI p := by
  obtain ⟨p, hp, rfl⟩ := h.resolve_left h5
  exact Or.inr ⟨p, hp, by rw [nI_clamp (by omega)]⟩

def r11_winner_5 : Nat → Nat → Int32 → (Nat → Nat → Int32) → (Nat → Nat → Int64) → Int32
  | 0, i, z, I, L => z
  | n + 1, i, z, I, L => r11_winner_5  n (i + 1) (if (if (I 297 (256 * i) = 0) ∨ ((I 297 (256 * i) = 1) ∨ (I 297 (256 * i + 23) ≤ 0)) then false else true) = true then (if z = (-5) then nI i else (if r11_keyOf (z.toNatClampNeg) 0 I L ≤ r11_keyOf i 0 I L then nI (z.toNatClampNeg) else nI i)) else z) I L
set_option maxRecDepth 4000 in
theorem t11_winner_5 (g : GlT)   : ∀ (n i : Nat) (z : Int32) (I : Nat → Nat → Int32) (L : Nat → Nat → Int64), (hz : z = (-5) ∨ ∃ p, p < 4 ∧ z = nI p) → (hn : i + n = 4) → ∀ (Q : Option Value → MemT → Prop), Q (some (.int (r11_winner_5 n i z I L))) (I, L, R0, 305) → V g (k11_winner, 3, 0, 0) 0 0 5 [(0, .ref (xA g 296)), (1, .int z), (2, .int (nI i))] [] (I, L, R0, 305) Q := by
  intro n
  induction n with
  | zero =>
    intro i z I L hz hn Q hq
    refine V_iload_n (pc1 := 6) 2 d11_winner_5 rfl rfl ?_
    refine V_iconst (pc1 := 7) d11_winner_6 vc_4 rfl ?_
    refine V_icmp_ge (tgt := 94) (pc1 := 10) d11_winner_7 (by decide) rfl (fun _ => ?_) (fun h1 => absurd (by rw [show i = 4 by omega]; decide) h1)
    refine V_iload_n (pc1 := 95) 1 d11_winner_94 rfl rfl ?_
    refine V_iret rfl d11_winner_95 (Nat.zero_le _) (Nat.zero_le _) ?_
    have hq2 := hq
    simp only [r11_winner_5] at hq2
    exact hq2
  | succ n ih =>
    intro i z I L hz hn Q hq
    refine V_iload_n (pc1 := 6) 2 d11_winner_5 rfl rfl ?_
    refine V_iconst (pc1 := 7) d11_winner_6 vc_4 rfl ?_
    refine V_icmp_ge (tgt := 94) (pc1 := 10) d11_winner_7 (by decide) rfl (fun h1 => absurd h1 (nI_ge (b := 4) (by omega) (by omega))) (fun _ => ?_)
    refine V_aload_n (pc1 := 11) 0 d11_winner_10 rfl rfl ?_
    refine V_getr (pc1 := 14) ly296 (lt305 rfl) f11_7 (fun _ => rfl) rf296_0 d11_winner_11 rfl ?_
    refine V_iload_n (pc1 := 15) 2 d11_winner_14 rfl rfl ?_
    refine V_iconst (pc1 := 16) d11_winner_15 vc_0 rfl ?_
    refine V_si (pc1 := 19) (w11_at2 g  i 0 (256 * i) (by omega) I L ) s11_at l11_35 rfl rfl ⟨Nat.le_of_ble_eq_true rfl, Nat.le_of_ble_eq_true rfl, Nat.le_refl _, Nat.le_refl _⟩ (Nat.le_of_ble_eq_true rfl) rfl d11_winner_16 rfl ?_
    refine V_iald2 (pc1 := 20) (256 * i) ly297 (lt305 rfl) rfl (by omega) rfl d11_winner_19 rfl ?_
    have key8 : ∀ (y56_0 : Int32), y56_0 = bI (if (I 297 (256 * i) = 0) ∨ ((I 297 (256 * i) = 1) ∨ (I 297 (256 * i + 23) ≤ 0)) then false else true) → ∀ (lv : List (Nat × Value)), lvsub [(0, .ref (xA g 296)), (1, .int z), (2, .int (nI i))] lv → V g (k11_winner, 3, 0, 0) 0 0 56 lv [.int y56_0] (I, L, R0, 305) Q := by
      intro y56_0 ey56_0
      subst ey56_0
      intro lv hlv
      refine V_lv hlv ?_
      refine V_istore_n (pc1 := 57) d11_winner_56 (Nat.le_of_ble_eq_true rfl) rfl rfl ?_
      refine V_iload_n (pc1 := 58) 0 d11_winner_57 rfl rfl ?_
      have key12 : ∀ (z87_1 : Int32), z87_1 = (if (if (I 297 (256 * i) = 0) ∨ ((I 297 (256 * i) = 1) ∨ (I 297 (256 * i + 23) ≤ 0)) then false else true) = true then (if z = (-5) then z else nI (z.toNatClampNeg)) else z) → ∀ (y87_0 : Int32), y87_0 = (if (if (I 297 (256 * i) = 0) ∨ ((I 297 (256 * i) = 1) ∨ (I 297 (256 * i + 23) ≤ 0)) then false else true) = true then (if z = (-5) then nI i else (if r11_keyOf (z.toNatClampNeg) 0 I L ≤ r11_keyOf i 0 I L then nI (z.toNatClampNeg) else nI i)) else z) → ∀ (lv : List (Nat × Value)), lvsub [(3, .int (bI (if (I 297 (256 * i) = 0) ∨ ((I 297 (256 * i) = 1) ∨ (I 297 (256 * i + 23) ≤ 0)) then false else true))), (0, .ref (xA g 296)), (1, .int z87_1), (2, .int (nI i))] lv → V g (k11_winner, 3, 0, 0) 0 0 87 lv [.int y87_0] (I, L, R0, 305) Q := by
        intro z87_1 ez87_1 y87_0 ey87_0
        subst ez87_1
        subst ey87_0
        intro lv hlv
        refine V_lv hlv ?_
        refine V_istore_n (pc1 := 88) d11_winner_87 (Nat.le_of_ble_eq_true rfl) rfl rfl ?_
        refine V_iinc (pc1 := 91) 3 (v := nI (i + 1)) d11_winner_88 rfl (nI_1 _) (Nat.le_of_ble_eq_true rfl) rfl rfl ?_
        refine V_goto (tgt := 5) d11_winner_91 (by decide) ?_
        refine V_lv (lv1 := [(0, .ref (xA g 296)), (1, .int (if (if (I 297 (256 * i) = 0) ∨ ((I 297 (256 * i) = 1) ∨ (I 297 (256 * i + 23) ≤ 0)) then false else true) = true then (if z = (-5) then nI i else (if r11_keyOf (z.toNatClampNeg) 0 I L ≤ r11_keyOf i 0 I L then nI (z.toNatClampNeg) else nI i)) else z)), (2, .int (nI (i + 1)))]) (lvsub_p [3, 1, 0] rfl) ?_
        have hq2 := hq
        simp only [r11_winner_5] at hq2
        exact ih (i + 1) (if (if (I 297 (256 * i) = 0) ∨ ((I 297 (256 * i) = 1) ∨ (I 297 (256 * i + 23) ≤ 0)) then false else true) = true then (if z = (-5) then nI i else (if r11_keyOf (z.toNatClampNeg) 0 I L ≤ r11_keyOf i 0 I L then nI (z.toNatClampNeg) else nI i)) else z) I L (by (repeat' split) <;> first | exact Or.inr ⟨i, by omega, rfl⟩ | exact hz | exact wz hz (by assumption)) (by omega) Q hq2
      refine V_beq (tgt := 86) (pc1 := 61) d11_winner_58 (by decide) rfl (fun h9 => ?_) (fun h9 => ?_)
      · skip
        refine V_iload_n (pc1 := 87) 2 d11_winner_86 rfl rfl ?_
        exact key12 _ (by first | rfl | (simp only [if_neg h9]; done) | (simp only [if_neg h9]; rfl)) _ (by first | rfl | (simp only [if_neg h9]; done) | (simp only [if_neg h9]; rfl)) _ (lvsub_p [0, 1, 2, 3] rfl)
      · skip
        refine V_iload_n (pc1 := 62) 2 d11_winner_61 rfl rfl ?_
        refine V_bipush (pc1 := 64) d11_winner_62 vb_m5 rfl ?_
        refine V_icmp_eq (tgt := 82) (pc1 := 67) d11_winner_64 (by decide) rfl (fun h10 => ?_) (fun h10 => ?_)
        · skip
          refine V_iload_n (pc1 := 83) 3 d11_winner_82 rfl rfl ?_
          refine V_goto (tgt := 87) d11_winner_83 (by decide) ?_
          exact key12 _ (by first | rfl | (simp only [if_pos h9, if_pos h10]; done) | (simp only [if_pos h9, if_pos h10]; rfl)) _ (by first | rfl | (simp only [if_pos h9, if_pos h10]; done) | (simp only [if_pos h9, if_pos h10]; rfl)) _ (lvsub_p [0, 1, 2, 3] rfl)
        · skip
          obtain ⟨p, hp, rfl⟩ := hz.resolve_left h10
          have hp3 : (nI p).toNatClampNeg = p := nI_clamp (by omega)
          refine V_aload_n (pc1 := 68) 1 d11_winner_67 rfl rfl ?_
          refine V_iload_n (pc1 := 69) 3 d11_winner_68 rfl rfl ?_
          refine V_iconst (pc1 := 70) d11_winner_69 vc_0 rfl ?_
          refine V_vi (pc1 := 73) (w11_keyOf g  i 0 (by omega) (by omega) I L ) ly296 (lt305 rfl) s11_keyOf l11_191 rfl rfl ⟨Nat.le_of_ble_eq_true rfl, Nat.le_of_ble_eq_true rfl, Nat.le_refl _, Nat.le_refl _⟩ (Nat.le_of_ble_eq_true rfl) rfl d11_winner_70 rfl ?_
          refine V_aload_n (pc1 := 74) 1 d11_winner_73 rfl rfl ?_
          refine V_iload_n (pc1 := 75) 2 d11_winner_74 rfl rfl ?_
          refine V_iconst (pc1 := 76) d11_winner_75 vc_0 rfl ?_
          refine V_vi (pc1 := 79) (w11_keyOf g  p 0 (by omega) (by omega) I L ) ly296 (lt305 rfl) s11_keyOf l11_191 rfl rfl ⟨Nat.le_of_ble_eq_true rfl, Nat.le_of_ble_eq_true rfl, Nat.le_refl _, Nat.le_refl _⟩ (Nat.le_of_ble_eq_true rfl) rfl d11_winner_76 rfl ?_
          refine V_icmp_ge (tgt := 86) (pc1 := 82) d11_winner_79 (by decide) rfl (fun h11 => ?_) (fun h11 => ?_)
          · skip
            refine V_iload_n (pc1 := 87) 2 d11_winner_86 rfl rfl ?_
            exact key12 _ (by first | rfl | (simp only [if_pos h9, if_neg h10, hp3, if_pos h11]; done) | (simp only [if_pos h9, if_neg h10, hp3, if_pos h11]; rfl)) _ (by first | rfl | (simp only [if_pos h9, if_neg h10, hp3, if_pos h11]; done) | (simp only [if_pos h9, if_neg h10, hp3, if_pos h11]; rfl)) _ (lvsub_p [0, 1, 2, 3] rfl)
          · skip
            refine V_iload_n (pc1 := 83) 3 d11_winner_82 rfl rfl ?_
            refine V_goto (tgt := 87) d11_winner_83 (by decide) ?_
            exact key12 _ (by first | rfl | (simp only [if_pos h9, if_neg h10, hp3, if_neg h11]; done) | (simp only [if_pos h9, if_neg h10, hp3, if_neg h11]; rfl)) _ (by first | rfl | (simp only [if_pos h9, if_neg h10, hp3, if_neg h11]; done) | (simp only [if_pos h9, if_neg h10, hp3, if_neg h11]; rfl)) _ (lvsub_p [0, 1, 2, 3] rfl)
    have k3 : ((I 297 (256 * i) = 0) ∨ ((I 297 (256 * i) = 1) ∨ (I 297 (256 * i + 23) ≤ 0))) → V g (k11_winner, 3, 0, 0) 0 0 55 [(0, .ref (xA g 296)), (1, .int z), (2, .int (nI i))] [] (I, L, R0, 305) Q := by
      intro h2
      refine V_iconst (pc1 := 56) d11_winner_55 vc_0 rfl ?_
      exact key8 _ (by first | rfl | (simp only [if_pos h2]; done) | (simp only [if_pos h2]; rfl)) _ (lvsub_p [0, 1, 2] rfl)
    have k4 : ¬ ((I 297 (256 * i) = 0) ∨ ((I 297 (256 * i) = 1) ∨ (I 297 (256 * i + 23) ≤ 0))) → V g (k11_winner, 3, 0, 0) 0 0 51 [(0, .ref (xA g 296)), (1, .int z), (2, .int (nI i))] [] (I, L, R0, 305) Q := by
      intro h2
      refine V_iconst (pc1 := 52) d11_winner_51 vc_1 rfl ?_
      refine V_goto (tgt := 56) d11_winner_52 (by decide) ?_
      exact key8 _ (by first | rfl | (simp only [if_neg h2]; done) | (simp only [if_neg h2]; rfl)) _ (lvsub_p [0, 1, 2] rfl)
    refine V_if_eq (tgt := 55) (pc1 := 23) d11_winner_20 (by decide) rfl (fun h5 => ?_) (fun h5 => ?_)
    · skip
      exact k3 (Or.inl h5)
    · skip
      refine V_aload_n (pc1 := 24) 0 d11_winner_23 rfl rfl ?_
      refine V_getr (pc1 := 27) ly296 (lt305 rfl) f11_7 (fun _ => rfl) rf296_0 d11_winner_24 rfl ?_
      refine V_iload_n (pc1 := 28) 2 d11_winner_27 rfl rfl ?_
      refine V_iconst (pc1 := 29) d11_winner_28 vc_0 rfl ?_
      refine V_si (pc1 := 32) (w11_at2 g  i 0 (256 * i) (by omega) I L ) s11_at l11_35 rfl rfl ⟨Nat.le_of_ble_eq_true rfl, Nat.le_of_ble_eq_true rfl, Nat.le_refl _, Nat.le_refl _⟩ (Nat.le_of_ble_eq_true rfl) rfl d11_winner_29 rfl ?_
      refine V_iald2 (pc1 := 33) (256 * i) ly297 (lt305 rfl) rfl (by omega) rfl d11_winner_32 rfl ?_
      refine V_iconst (pc1 := 34) d11_winner_33 vc_1 rfl ?_
      refine V_icmp_eq (tgt := 55) (pc1 := 37) d11_winner_34 (by decide) rfl (fun h6 => ?_) (fun h6 => ?_)
      · skip
        exact k3 (Or.inr (Or.inl h6))
      · skip
        refine V_aload_n (pc1 := 38) 0 d11_winner_37 rfl rfl ?_
        refine V_getr (pc1 := 41) ly296 (lt305 rfl) f11_7 (fun _ => rfl) rf296_0 d11_winner_38 rfl ?_
        refine V_iload_n (pc1 := 42) 2 d11_winner_41 rfl rfl ?_
        refine V_bipush (pc1 := 44) d11_winner_42 vb_23 rfl ?_
        refine V_si (pc1 := 47) (w11_at2 g  i 23 (256 * i + 23) (by omega) I L ) s11_at l11_35 rfl rfl ⟨Nat.le_of_ble_eq_true rfl, Nat.le_of_ble_eq_true rfl, Nat.le_refl _, Nat.le_refl _⟩ (Nat.le_of_ble_eq_true rfl) rfl d11_winner_44 rfl ?_
        refine V_iald2 (pc1 := 48) (256 * i + 23) ly297 (lt305 rfl) rfl (by omega) rfl d11_winner_47 rfl ?_
        refine V_if_le (tgt := 55) (pc1 := 51) d11_winner_48 (by decide) rfl (fun h7 => ?_) (fun h7 => ?_)
        · skip
          exact k3 (Or.inr (Or.inr h7))
        · skip
          exact k4 (fun z => z.elim h5 (fun z => z.elim h6 h7))
def r11_winner (I : Nat → Nat → Int32) (L : Nat → Nat → Int64) : Int32 := r11_winner_5  4 0 (-5) I L
set_option maxRecDepth 4000 in
theorem v11_winner (g : GlT)  (I : Nat → Nat → Int32) (L : Nat → Nat → Int64) (Q : Option Value → MemT → Prop) (hq : Q (some (.int (r11_winner I L))) (I, L, R0, 305)) : V g (k11_winner, 3, 0, 0) 0 0 0 [(0, .ref (xA g 296))] [] (I, L, R0, 305) Q := by
  refine V_bipush (pc1 := 2) d11_winner_0 vb_m5 rfl ?_
  refine V_istore_n (pc1 := 3) d11_winner_2 (Nat.le_of_ble_eq_true rfl) rfl rfl ?_
  refine V_iconst (pc1 := 4) d11_winner_3 vc_0 rfl ?_
  refine V_istore_n (pc1 := 5) d11_winner_4 (Nat.le_of_ble_eq_true rfl) rfl rfl ?_
  refine V_lv (lv1 := [(0, .ref (xA g 296)), (1, .int (-5)), (2, .int (nI 0))]) (lvsub_p [2, 1, 0] rfl) ?_
  have hq2 := hq
  simp only [r11_winner] at hq2
  exact t11_winner_5 g    4 0 (-5) I L (Or.inl rfl) rfl Q hq2
theorem w11_winner (g : GlT)  (I : Nat → Nat → Int32) (L : Nat → Nat → Int64) : Call g (k11_winner, 3, 0, 0) [.ref (xA g 296)] (I, L, R0, 305) (Qi (r11_winner I L) (I) L) := Call.of (by decide) (Nat.le_of_ble_eq_true rfl) rfl (v11_winner g    I L  _ (And.intro rfl rfl))


def r11_disturb (a : Int32) (x : Int32) (I : Nat → Nat → Int32) (L : Nat → Nat → Int64) : Int32 := (if (¬ ((r11_in a 1 15) = true)) ∨ (¬ ((r11_in x 0 200) = true)) then (-2) else (if nI ((I 297 1028).toNatClampNeg) = 8 then (-3) else (I 297 1028) + 1))
def i11_disturb (a : Int32) (x : Int32) (I : Nat → Nat → Int32) (L : Nat → Nat → Int64) : Nat → Nat → Int32 := (if (¬ ((r11_in a 1 15) = true)) ∨ (¬ ((r11_in x 0 200) = true)) then I else (if nI ((I 297 1028).toNatClampNeg) = 8 then I else uI (uI (uI I 297 (2 * ((I 297 1028).toNatClampNeg) + 1029) ((I 297 1024) + x)) 297 (2 * ((I 297 1028).toNatClampNeg) + 1030) a) 297 1028 ((I 297 1028) + 1)))
set_option maxRecDepth 4000 in
theorem v11_disturb (g : GlT)  (a : Int32) (x : Int32) (d : Nat) (hd8 : d ≤ 8) (I : Nat → Nat → Int32) (L : Nat → Nat → Int64) (hd : I 297 1028 = nI d) (Q : Option Value → MemT → Prop) (hq : Q (some (.int (r11_disturb a x I L))) (i11_disturb a x I L, L, R0, 305)) : V g (k11_disturb, 2, 0, 0) 0 0 0 [(0, .ref (xA g 296)), (1, .int a), (2, .int x)] [] (I, L, R0, 305) Q := by
  have hd3 : (I 297 1028).toNatClampNeg = d := by rw [hd]; exact nI_clamp (by omega)
  refine V_iload_n (pc1 := 1) 1 d11_disturb_0 rfl rfl ?_
  refine V_iconst (pc1 := 2) d11_disturb_1 vc_1 rfl ?_
  refine V_bipush (pc1 := 4) d11_disturb_2 vb_15 rfl ?_
  refine V_si (pc1 := 7) (w11_in g  a 1 15  I L ) s11_in l11_39 rfl rfl ⟨Nat.le_of_ble_eq_true rfl, Nat.le_of_ble_eq_true rfl, Nat.le_refl _, Nat.le_refl _⟩ (Nat.le_of_ble_eq_true rfl) rfl d11_disturb_4 rfl ?_
  have k2 : ((¬ ((r11_in a 1 15) = true)) ∨ (¬ ((r11_in x 0 200) = true))) → V g (k11_disturb, 2, 0, 0) 0 0 21 [(0, .ref (xA g 296)), (1, .int a), (2, .int x)] [] (I, L, R0, 305) Q := by
    intro h1
    refine V_bipush (pc1 := 23) d11_disturb_21 vb_m2 rfl ?_
    refine V_iret rfl d11_disturb_23 (Nat.zero_le _) (Nat.zero_le _) ?_
    have hq2 := hq
    simp only [r11_disturb, i11_disturb, hd3, if_pos h1] at hq2
    exact hq2
  have k3 : ¬ ((¬ ((r11_in a 1 15) = true)) ∨ (¬ ((r11_in x 0 200) = true))) → V g (k11_disturb, 2, 0, 0) 0 0 24 [(0, .ref (xA g 296)), (1, .int a), (2, .int x)] [] (I, L, R0, 305) Q := by
    intro h1
    refine V_aload_n (pc1 := 25) 0 d11_disturb_24 rfl rfl ?_
    refine V_getr (pc1 := 28) ly296 (lt305 rfl) f11_7 (fun _ => rfl) rf296_0 d11_disturb_25 rfl ?_
    refine V_sipush (pc1 := 31) d11_disturb_28 vs_1028 rfl ?_
    refine V_iald2 (pc1 := 32) 1028 ly297 (lt305 rfl) rfl (Nat.le_of_ble_eq_true rfl) hd d11_disturb_31 rfl ?_
    refine V_bipush (pc1 := 34) d11_disturb_32 vb_8 rfl ?_
    refine V_icmp_ne (tgt := 40) (pc1 := 37) d11_disturb_34 (by decide) rfl (fun h4 => ?_) (fun h4 => ?_)
    · skip
      have hd7 := q4_lt (n := 8) rfl (by omega) hd8 h4
      refine V_aload_n (pc1 := 41) 0 d11_disturb_40 rfl rfl ?_
      refine V_getr (pc1 := 44) ly296 (lt305 rfl) f11_7 (fun _ => rfl) rf296_0 d11_disturb_41 rfl ?_
      refine V_sipush (pc1 := 47) d11_disturb_44 vs_1029 rfl ?_
      refine V_iconst (pc1 := 48) d11_disturb_47 vc_2 rfl ?_
      refine V_aload_n (pc1 := 49) 0 d11_disturb_48 rfl rfl ?_
      refine V_getr (pc1 := 52) ly296 (lt305 rfl) f11_7 (fun _ => rfl) rf296_0 d11_disturb_49 rfl ?_
      refine V_sipush (pc1 := 55) d11_disturb_52 vs_1028 rfl ?_
      refine V_iald2 (pc1 := 56) 1028 ly297 (lt305 rfl) rfl (Nat.le_of_ble_eq_true rfl) hd d11_disturb_55 rfl ?_
      refine V_mulN (pc1 := 57) (a := 2) (b := d) (c := 2 * d) rfl rfl (by omega) d11_disturb_56 rfl ?_
      refine V_addN (pc1 := 58) (a := 1029) (b := 2 * d) (c := 2 * d + 1029) rfl rfl (by omega) d11_disturb_57 rfl ?_
      refine V_aload_n (pc1 := 59) 0 d11_disturb_58 rfl rfl ?_
      refine V_getr (pc1 := 62) ly296 (lt305 rfl) f11_7 (fun _ => rfl) rf296_0 d11_disturb_59 rfl ?_
      refine V_sipush (pc1 := 65) d11_disturb_62 vs_1024 rfl ?_
      refine V_iald2 (pc1 := 66) 1024 ly297 (lt305 rfl) rfl (Nat.le_of_ble_eq_true rfl) rfl d11_disturb_65 rfl ?_
      refine V_iload_n (pc1 := 67) 2 d11_disturb_66 rfl rfl ?_
      refine V_iadd (pc1 := 68) d11_disturb_67 rfl ?_
      refine V_iast (pc1 := 69) (2 * d + 1029) ly297 (lt305 rfl) rfl (by omega) d11_disturb_68 rfl ?_
      refine V_aload_n (pc1 := 70) 0 d11_disturb_69 rfl rfl ?_
      refine V_getr (pc1 := 73) ly296 (lt305 rfl) f11_7 (fun _ => rfl) rf296_0 d11_disturb_70 rfl ?_
      refine V_sipush (pc1 := 76) d11_disturb_73 vs_1029 rfl ?_
      refine V_iconst (pc1 := 77) d11_disturb_76 vc_2 rfl ?_
      refine V_aload_n (pc1 := 78) 0 d11_disturb_77 rfl rfl ?_
      refine V_getr (pc1 := 81) ly296 (lt305 rfl) f11_7 (fun _ => rfl) rf296_0 d11_disturb_78 rfl ?_
      refine V_sipush (pc1 := 84) d11_disturb_81 vs_1028 rfl ?_
      refine V_iald2 (pc1 := 85) 1028 ly297 (lt305 rfl) rfl (Nat.le_of_ble_eq_true rfl) ((uI_ne I 297 ((I 297 1024) + x) (show (1028 : Nat) ≠ 2 * d + 1029 by omega)).trans hd) d11_disturb_84 rfl ?_
      refine V_mulN (pc1 := 86) (a := 2) (b := d) (c := 2 * d) rfl rfl (by omega) d11_disturb_85 rfl ?_
      refine V_addN (pc1 := 87) (a := 1029) (b := 2 * d) (c := 2 * d + 1029) rfl rfl (by omega) d11_disturb_86 rfl ?_
      refine V_iconst (pc1 := 88) d11_disturb_87 vc_1 rfl ?_
      refine V_addN (pc1 := 89) (a := 2 * d + 1029) (b := 1) (c := 2 * d + 1030) rfl rfl (by omega) d11_disturb_88 rfl ?_
      refine V_iload_n (pc1 := 90) 1 d11_disturb_89 rfl rfl ?_
      refine V_iast (pc1 := 91) (2 * d + 1030) ly297 (lt305 rfl) rfl (by omega) d11_disturb_90 rfl ?_
      refine V_aload_n (pc1 := 92) 0 d11_disturb_91 rfl rfl ?_
      refine V_getr (pc1 := 95) ly296 (lt305 rfl) f11_7 (fun _ => rfl) rf296_0 d11_disturb_92 rfl ?_
      refine V_sipush (pc1 := 98) d11_disturb_95 vs_1028 rfl ?_
      refine V_dup2 (pc1 := 99) d11_disturb_98 rfl rfl rfl ?_
      refine V_iald2 (pc1 := 100) 1028 ly297 (lt305 rfl) rfl (Nat.le_of_ble_eq_true rfl) ((uI_ne (uI I 297 (2 * d + 1029) ((I 297 1024) + x)) 297 a (show (1028 : Nat) ≠ 2 * d + 1030 by omega)).trans (uI_ne I 297 ((I 297 1024) + x) (show (1028 : Nat) ≠ 2 * d + 1029 by omega))) d11_disturb_99 rfl ?_
      refine V_iconst (pc1 := 101) d11_disturb_100 vc_1 rfl ?_
      refine V_iadd (pc1 := 102) d11_disturb_101 rfl ?_
      refine V_iast (pc1 := 103) 1028 ly297 (lt305 rfl) rfl (Nat.le_of_ble_eq_true rfl) d11_disturb_102 rfl ?_
      refine V_aload_n (pc1 := 104) 0 d11_disturb_103 rfl rfl ?_
      refine V_getr (pc1 := 107) ly296 (lt305 rfl) f11_7 (fun _ => rfl) rf296_0 d11_disturb_104 rfl ?_
      refine V_sipush (pc1 := 110) d11_disturb_107 vs_1028 rfl ?_
      refine V_iald2 (pc1 := 111) 1028 ly297 (lt305 rfl) rfl (Nat.le_of_ble_eq_true rfl) (uI_self (uI (uI I 297 (2 * d + 1029) ((I 297 1024) + x)) 297 (2 * d + 1030) a) 297 1028 ((I 297 1028) + 1)) d11_disturb_110 rfl ?_
      refine V_iret rfl d11_disturb_111 (Nat.zero_le _) (Nat.zero_le _) ?_
      have hq2 := hq
      simp only [r11_disturb, i11_disturb, hd3, if_neg h1, if_neg h4] at hq2
      exact hq2
    · skip
      refine V_bipush (pc1 := 39) d11_disturb_37 vb_m3 rfl ?_
      refine V_iret rfl d11_disturb_39 (Nat.zero_le _) (Nat.zero_le _) ?_
      have hq2 := hq
      simp only [r11_disturb, i11_disturb, hd3, if_neg h1, if_pos h4] at hq2
      exact hq2
  refine V_beq (tgt := 21) (pc1 := 10) d11_disturb_7 (by decide) rfl (fun h5 => ?_) (fun h5 => ?_)
  · skip
    exact k2 (Or.inl h5)
  · skip
    refine V_iload_n (pc1 := 11) 2 d11_disturb_10 rfl rfl ?_
    refine V_iconst (pc1 := 12) d11_disturb_11 vc_0 rfl ?_
    refine V_sipush (pc1 := 15) d11_disturb_12 vs_200 rfl ?_
    refine V_si (pc1 := 18) (w11_in g  x 0 200  I L ) s11_in l11_39 rfl rfl ⟨Nat.le_of_ble_eq_true rfl, Nat.le_of_ble_eq_true rfl, Nat.le_refl _, Nat.le_refl _⟩ (Nat.le_of_ble_eq_true rfl) rfl d11_disturb_15 rfl ?_
    refine V_bne (tgt := 24) (pc1 := 21) d11_disturb_18 (by decide) rfl (fun h6 => ?_) (fun h6 => ?_)
    · skip
      exact k3 (fun z => z.elim (fun z => z h5) (fun z => z h6))
    · skip
      exact k2 (Or.inr h6)
theorem w11_disturb (g : GlT)  (a : Int32) (x : Int32) (d : Nat) (hd8 : d ≤ 8) (I : Nat → Nat → Int32) (L : Nat → Nat → Int64) (hd : I 297 1028 = nI d) : Call g (k11_disturb, 2, 0, 0) [.ref (xA g 296), .int a, .int x] (I, L, R0, 305) (Qi (r11_disturb a x I L) (i11_disturb a x I L) L) := Call.of (by decide) (Nat.le_of_ble_eq_true rfl) rfl (v11_disturb g  a x d hd8 I L hd _ (And.intro rfl rfl))

