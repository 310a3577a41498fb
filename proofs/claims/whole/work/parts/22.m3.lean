def r11_isChecked (i : Nat) (I : Nat → Nat → Int32) (L : Nat → Nat → Int64) : Bool := (if r11_crcOf 297 (256 * i + 90) (((r11_total i I L).toNatClampNeg) - 15) I L = r11_sampled i (((r11_total i I L).toNatClampNeg) - 15) 15 I L then true else false)
set_option maxRecDepth 4000 in
theorem v11_isChecked (g : GlT)  (i : Nat) (hi : i < 4) (T : Nat) (hT1 : 15 ≤ T) (hT2 : T ≤ 70) (I : Nat → Nat → Int32) (L : Nat → Nat → Int64) (hT : r11_total i I L = nI T) (Q : Option Value → MemT → Prop) (hq : Q (some (.int (bI (r11_isChecked i I L)))) (I, L, R0, 305)) : V g (k11_isChecked, 5, 0, 0) 0 0 0 [(0, .ref (xA g 296)), (1, .int (nI i))] [] (I, L, R0, 305) Q := by
  have hT3 : (r11_total i I L).toNatClampNeg = T := by rw [hT]; exact nI_clamp (by omega)
  refine V_aload_n (pc1 := 1) 0 d11_isChecked_0 rfl rfl ?_
  refine V_iload_n (pc1 := 2) 1 d11_isChecked_1 rfl rfl ?_
  refine V_vi (pc1 := 5) (w11_total g  i hi I L ) ly296 (lt305 rfl) s11_total l11_104 rfl rfl ⟨Nat.le_of_ble_eq_true rfl, Nat.le_of_ble_eq_true rfl, Nat.le_refl _, Nat.le_refl _⟩ (Nat.le_of_ble_eq_true rfl) rfl d11_isChecked_2 rfl ?_
  rw [hT]
  refine V_istore_n (pc1 := 6) d11_isChecked_5 (Nat.le_of_ble_eq_true rfl) rfl rfl ?_
  refine V_aload_n (pc1 := 7) 1 d11_isChecked_6 rfl rfl ?_
  refine V_getr (pc1 := 10) ly296 (lt305 rfl) f11_7 (fun _ => rfl) rf296_0 d11_isChecked_7 rfl ?_
  refine V_iload_n (pc1 := 11) 2 d11_isChecked_10 rfl rfl ?_
  refine V_bipush (pc1 := 13) d11_isChecked_11 vb_90 rfl ?_
  refine V_si (pc1 := 16) (w11_at2 g  i 90 (256 * i + 90) (by omega) I L ) s11_at l11_35 rfl rfl ⟨Nat.le_of_ble_eq_true rfl, Nat.le_of_ble_eq_true rfl, Nat.le_refl _, Nat.le_refl _⟩ (Nat.le_of_ble_eq_true rfl) rfl d11_isChecked_13 rfl ?_
  refine V_iload_n (pc1 := 17) 0 d11_isChecked_16 rfl rfl ?_
  refine V_bipush (pc1 := 19) d11_isChecked_17 vb_15 rfl ?_
  refine V_subN (pc1 := 20) (a := T) (b := 15) (c := T - 15) rfl rfl (by omega) d11_isChecked_19 rfl ?_
  refine V_si (pc1 := 23) (w11_crcOf g ly297 (lt305 rfl) (256 * i + 90) (T - 15) (by omega) (by omega) I L ) s11_crcOf l11_47 rfl rfl ⟨Nat.le_of_ble_eq_true rfl, Nat.le_of_ble_eq_true rfl, Nat.le_refl _, Nat.le_refl _⟩ (Nat.le_of_ble_eq_true rfl) rfl d11_isChecked_20 rfl ?_
  refine V_aload_n (pc1 := 24) 1 d11_isChecked_23 rfl rfl ?_
  refine V_iload_n (pc1 := 25) 2 d11_isChecked_24 rfl rfl ?_
  refine V_iload_n (pc1 := 26) 0 d11_isChecked_25 rfl rfl ?_
  refine V_bipush (pc1 := 28) d11_isChecked_26 vb_15 rfl ?_
  refine V_subN (pc1 := 29) (a := T) (b := 15) (c := T - 15) rfl rfl (by omega) d11_isChecked_28 rfl ?_
  refine V_bipush (pc1 := 31) d11_isChecked_29 vb_15 rfl ?_
  refine V_vi (pc1 := 34) (w11_sampled g  i (T - 15) 15 hi (by omega) I L ) ly296 (lt305 rfl) s11_sampled l11_101 rfl rfl ⟨Nat.le_of_ble_eq_true rfl, Nat.le_of_ble_eq_true rfl, Nat.le_refl _, Nat.le_refl _⟩ (Nat.le_of_ble_eq_true rfl) rfl d11_isChecked_31 rfl ?_
  have key2 : ∀ (y42_0 : Int32), y42_0 = bI (if r11_crcOf 297 (256 * i + 90) (T - 15) I L = r11_sampled i (T - 15) 15 I L then true else false) → ∀ (lv : List (Nat × Value)), lvsub [(2, .int (nI T)), (0, .ref (xA g 296)), (1, .int (nI i))] lv → V g (k11_isChecked, 5, 0, 0) 0 0 42 lv [.int y42_0] (I, L, R0, 305) Q := by
    intro y42_0 ey42_0
    subst ey42_0
    intro lv hlv
    refine V_lv hlv ?_
    refine V_zret rfl (bI_or _) d11_isChecked_42 (Nat.zero_le _) (Nat.zero_le _) ?_
    have hq2 := hq
    simp only [r11_isChecked, hT3] at hq2
    exact hq2
  refine V_icmp_ne (tgt := 41) (pc1 := 37) d11_isChecked_34 (by decide) rfl (fun h1 => ?_) (fun h1 => ?_)
  · skip
    refine V_iconst (pc1 := 42) d11_isChecked_41 vc_0 rfl ?_
    exact key2 _ (by first | rfl | (simp only [hT3, if_neg h1]; done) | (simp only [hT3, if_neg h1]; rfl)) _ (lvsub_p [0, 1, 2] rfl)
  · skip
    refine V_iconst (pc1 := 38) d11_isChecked_37 vc_1 rfl ?_
    refine V_goto (tgt := 42) d11_isChecked_38 (by decide) ?_
    exact key2 _ (by first | rfl | (simp only [hT3, if_pos h1]; done) | (simp only [hT3, if_pos h1]; rfl)) _ (lvsub_p [0, 1, 2] rfl)
theorem w11_isChecked (g : GlT)  (i : Nat) (hi : i < 4) (T : Nat) (hT1 : 15 ≤ T) (hT2 : T ≤ 70) (I : Nat → Nat → Int32) (L : Nat → Nat → Int64) (hT : r11_total i I L = nI T) : Call g (k11_isChecked, 5, 0, 0) [.ref (xA g 296), .int (nI i)] (I, L, R0, 305) (Qi (bI (r11_isChecked i I L)) (I) L) := Call.of (by decide) (Nat.le_of_ble_eq_true rfl) rfl (v11_isChecked g  i hi T hT1 hT2 I L hT _ (And.intro rfl rfl))


/-- how many basic bits the frame has is known, and few -/
def tOK (i : Nat) (I : Nat → Nat → Int32) (L : Nat → Nat → Int64) : Prop := ∃ T, 15 ≤ T ∧ T ≤ 70 ∧ r11_total i I L = nI T

def r11_drivesFrame (i : Nat) (I : Nat → Nat → Int32) (L : Nat → Nat → Int64) : Int32 := (if (r11_isTransmitting i I L) = true then (if I 297 (256 * i + 22) < 0 then (if I 297 (256 * i + 20) = 5 then (1 : Int32) - (I 297 (256 * i + 21)) else I 297 (((I 297 (256 * i + 19)).toNatClampNeg) + 256 * i + 160)) else 1) else bI (if I 297 (256 * i + 22) = 1 then (if (r11_isChecked i I L) = true then false else true) else true))
set_option maxRecDepth 4000 in
theorem v11_drivesFrame (g : GlT)  (i : Nat) (hi : i < 4) (b : Nat) (hb2 : b ≤ 100) (I : Nat → Nat → Int32) (L : Nat → Nat → Int64) (hb : I 297 (256 * i + 19) = nI b) (hck : I 297 (256 * i + 22) = 1 → tOK i I L) (Q : Option Value → MemT → Prop) (hq : Q (some (.int (r11_drivesFrame i I L))) (I, L, R0, 305)) : V g (k11_drivesFrame, 6, 0, 0) 0 0 0 [(0, .ref (xA g 296)), (1, .int (nI i))] [] (I, L, R0, 305) Q := by
  have hb3 : (I 297 (256 * i + 19)).toNatClampNeg = b := by rw [hb]; exact nI_clamp (by omega)
  refine V_aload_n (pc1 := 1) 0 d11_drivesFrame_0 rfl rfl ?_
  refine V_getr (pc1 := 4) ly296 (lt305 rfl) f11_7 (fun _ => rfl) rf296_0 d11_drivesFrame_1 rfl ?_
  refine V_iload_n (pc1 := 5) 1 d11_drivesFrame_4 rfl rfl ?_
  refine V_bipush (pc1 := 7) d11_drivesFrame_5 vb_22 rfl ?_
  refine V_si (pc1 := 10) (w11_at2 g  i 22 (256 * i + 22) (by omega) I L ) s11_at l11_35 rfl rfl ⟨Nat.le_of_ble_eq_true rfl, Nat.le_of_ble_eq_true rfl, Nat.le_refl _, Nat.le_refl _⟩ (Nat.le_of_ble_eq_true rfl) rfl d11_drivesFrame_7 rfl ?_
  refine V_iald2 (pc1 := 11) (256 * i + 22) ly297 (lt305 rfl) rfl (by omega) rfl d11_drivesFrame_10 rfl ?_
  refine V_istore_n (pc1 := 12) d11_drivesFrame_11 (Nat.le_of_ble_eq_true rfl) rfl rfl ?_
  refine V_aload_n (pc1 := 13) 1 d11_drivesFrame_12 rfl rfl ?_
  refine V_iload_n (pc1 := 14) 2 d11_drivesFrame_13 rfl rfl ?_
  refine V_vi (pc1 := 17) (w11_isTransmitting g  i hi I L ) ly296 (lt305 rfl) s11_isTransmitting l11_110 rfl rfl ⟨Nat.le_of_ble_eq_true rfl, Nat.le_of_ble_eq_true rfl, Nat.le_refl _, Nat.le_refl _⟩ (Nat.le_of_ble_eq_true rfl) rfl d11_drivesFrame_14 rfl ?_
  refine V_bne (tgt := 39) (pc1 := 20) d11_drivesFrame_17 (by decide) rfl (fun h1 => ?_) (fun h1 => ?_)
  · skip
    refine V_iload_n (pc1 := 40) 0 d11_drivesFrame_39 rfl rfl ?_
    refine V_if_lt (tgt := 45) (pc1 := 43) d11_drivesFrame_40 (by decide) rfl (fun h2 => ?_) (fun h2 => ?_)
    · skip
      refine V_aload_n (pc1 := 46) 1 d11_drivesFrame_45 rfl rfl ?_
      refine V_getr (pc1 := 49) ly296 (lt305 rfl) f11_7 (fun _ => rfl) rf296_0 d11_drivesFrame_46 rfl ?_
      refine V_iload_n (pc1 := 50) 2 d11_drivesFrame_49 rfl rfl ?_
      refine V_bipush (pc1 := 52) d11_drivesFrame_50 vb_20 rfl ?_
      refine V_si (pc1 := 55) (w11_at2 g  i 20 (256 * i + 20) (by omega) I L ) s11_at l11_35 rfl rfl ⟨Nat.le_of_ble_eq_true rfl, Nat.le_of_ble_eq_true rfl, Nat.le_refl _, Nat.le_refl _⟩ (Nat.le_of_ble_eq_true rfl) rfl d11_drivesFrame_52 rfl ?_
      refine V_iald2 (pc1 := 56) (256 * i + 20) ly297 (lt305 rfl) rfl (by omega) rfl d11_drivesFrame_55 rfl ?_
      refine V_iconst (pc1 := 57) d11_drivesFrame_56 vc_5 rfl ?_
      have key4 : ∀ (y100_0 : Int32), y100_0 = (if I 297 (256 * i + 20) = 5 then (1 : Int32) - (I 297 (256 * i + 21)) else I 297 (b + 256 * i + 160)) → ∀ (lv : List (Nat × Value)), lvsub [(2, .int (I 297 (256 * i + 22))), (0, .ref (xA g 296)), (1, .int (nI i))] lv → V g (k11_drivesFrame, 6, 0, 0) 0 0 100 lv [.int y100_0] (I, L, R0, 305) Q := by
        intro y100_0 ey100_0
        subst ey100_0
        intro lv hlv
        refine V_lv hlv ?_
        refine V_iret rfl d11_drivesFrame_100 (Nat.zero_le _) (Nat.zero_le _) ?_
        have hq2 := hq
        simp only [r11_drivesFrame, hb3, if_pos h1, if_pos h2] at hq2
        exact hq2
      refine V_icmp_ne (tgt := 76) (pc1 := 60) d11_drivesFrame_57 (by decide) rfl (fun h3 => ?_) (fun h3 => ?_)
      · skip
        refine V_aload_n (pc1 := 77) 1 d11_drivesFrame_76 rfl rfl ?_
        refine V_getr (pc1 := 80) ly296 (lt305 rfl) f11_7 (fun _ => rfl) rf296_0 d11_drivesFrame_77 rfl ?_
        refine V_iload_n (pc1 := 81) 2 d11_drivesFrame_80 rfl rfl ?_
        refine V_sipush (pc1 := 84) d11_drivesFrame_81 vs_160 rfl ?_
        refine V_aload_n (pc1 := 85) 1 d11_drivesFrame_84 rfl rfl ?_
        refine V_getr (pc1 := 88) ly296 (lt305 rfl) f11_7 (fun _ => rfl) rf296_0 d11_drivesFrame_85 rfl ?_
        refine V_iload_n (pc1 := 89) 2 d11_drivesFrame_88 rfl rfl ?_
        refine V_bipush (pc1 := 91) d11_drivesFrame_89 vb_19 rfl ?_
        refine V_si (pc1 := 94) (w11_at2 g  i 19 (256 * i + 19) (by omega) I L ) s11_at l11_35 rfl rfl ⟨Nat.le_of_ble_eq_true rfl, Nat.le_of_ble_eq_true rfl, Nat.le_refl _, Nat.le_refl _⟩ (Nat.le_of_ble_eq_true rfl) rfl d11_drivesFrame_91 rfl ?_
        refine V_iald2 (pc1 := 95) (256 * i + 19) ly297 (lt305 rfl) rfl (by omega) hb d11_drivesFrame_94 rfl ?_
        refine V_addN (pc1 := 96) (a := 160) (b := b) (c := b + 160) rfl rfl (by omega) d11_drivesFrame_95 rfl ?_
        refine V_si (pc1 := 99) (w11_at2 g  i (b + 160) (b + 256 * i + 160) (by omega) I L ) s11_at l11_35 rfl rfl ⟨Nat.le_of_ble_eq_true rfl, Nat.le_of_ble_eq_true rfl, Nat.le_refl _, Nat.le_refl _⟩ (Nat.le_of_ble_eq_true rfl) rfl d11_drivesFrame_96 rfl ?_
        refine V_iald2 (pc1 := 100) (b + 256 * i + 160) ly297 (lt305 rfl) rfl (by omega) rfl d11_drivesFrame_99 rfl ?_
        exact key4 _ (by first | rfl | (simp only [hb3, if_neg h3]; done) | (simp only [hb3, if_neg h3]; rfl)) _ (lvsub_p [0, 1, 2] rfl)
      · skip
        refine V_iconst (pc1 := 61) d11_drivesFrame_60 vc_1 rfl ?_
        refine V_aload_n (pc1 := 62) 1 d11_drivesFrame_61 rfl rfl ?_
        refine V_getr (pc1 := 65) ly296 (lt305 rfl) f11_7 (fun _ => rfl) rf296_0 d11_drivesFrame_62 rfl ?_
        refine V_iload_n (pc1 := 66) 2 d11_drivesFrame_65 rfl rfl ?_
        refine V_bipush (pc1 := 68) d11_drivesFrame_66 vb_21 rfl ?_
        refine V_si (pc1 := 71) (w11_at2 g  i 21 (256 * i + 21) (by omega) I L ) s11_at l11_35 rfl rfl ⟨Nat.le_of_ble_eq_true rfl, Nat.le_of_ble_eq_true rfl, Nat.le_refl _, Nat.le_refl _⟩ (Nat.le_of_ble_eq_true rfl) rfl d11_drivesFrame_68 rfl ?_
        refine V_iald2 (pc1 := 72) (256 * i + 21) ly297 (lt305 rfl) rfl (by omega) rfl d11_drivesFrame_71 rfl ?_
        refine V_isub (pc1 := 73) d11_drivesFrame_72 rfl ?_
        refine V_goto (tgt := 100) d11_drivesFrame_73 (by decide) ?_
        exact key4 _ (by first | rfl | (simp only [hb3, if_pos h3]; done) | (simp only [hb3, if_pos h3]; rfl)) _ (lvsub_p [0, 1, 2] rfl)
    · skip
      refine V_iconst (pc1 := 44) d11_drivesFrame_43 vc_1 rfl ?_
      refine V_iret rfl d11_drivesFrame_44 (Nat.zero_le _) (Nat.zero_le _) ?_
      have hq2 := hq
      simp only [r11_drivesFrame, hb3, if_pos h1, if_neg h2] at hq2
      exact hq2
  · skip
    refine V_iload_n (pc1 := 21) 0 d11_drivesFrame_20 rfl rfl ?_
    refine V_iconst (pc1 := 22) d11_drivesFrame_21 vc_1 rfl ?_
    have key7 : ∀ (y38_0 : Int32), y38_0 = bI (if I 297 (256 * i + 22) = 1 then (if (r11_isChecked i I L) = true then false else true) else true) → ∀ (lv : List (Nat × Value)), lvsub [(2, .int (I 297 (256 * i + 22))), (0, .ref (xA g 296)), (1, .int (nI i))] lv → V g (k11_drivesFrame, 6, 0, 0) 0 0 38 lv [.int y38_0] (I, L, R0, 305) Q := by
      intro y38_0 ey38_0
      subst ey38_0
      intro lv hlv
      refine V_lv hlv ?_
      refine V_iret rfl d11_drivesFrame_38 (Nat.zero_le _) (Nat.zero_le _) ?_
      have hq2 := hq
      simp only [r11_drivesFrame, hb3, if_neg h1] at hq2
      exact hq2
    refine V_icmp_ne (tgt := 37) (pc1 := 25) d11_drivesFrame_22 (by decide) rfl (fun h5 => ?_) (fun h5 => ?_)
    · skip
      refine V_iconst (pc1 := 38) d11_drivesFrame_37 vc_1 rfl ?_
      exact key7 _ (by first | rfl | (simp only [hb3, if_neg h5]; done) | (simp only [hb3, if_neg h5]; rfl)) _ (lvsub_p [0, 1, 2] rfl)
    · skip
      obtain ⟨T, hT1, hT2, hT⟩ := hck h5
      refine V_aload_n (pc1 := 26) 1 d11_drivesFrame_25 rfl rfl ?_
      refine V_iload_n (pc1 := 27) 2 d11_drivesFrame_26 rfl rfl ?_
      refine V_vi (pc1 := 30) (w11_isChecked g  i hi T hT1 hT2 I L hT) ly296 (lt305 rfl) s11_isChecked l11_113 rfl rfl ⟨Nat.le_of_ble_eq_true rfl, Nat.le_of_ble_eq_true rfl, Nat.le_refl _, Nat.le_refl _⟩ (Nat.le_of_ble_eq_true rfl) rfl d11_drivesFrame_27 rfl ?_
      refine V_beq (tgt := 37) (pc1 := 33) d11_drivesFrame_30 (by decide) rfl (fun h6 => ?_) (fun h6 => ?_)
      · skip
        refine V_iconst (pc1 := 38) d11_drivesFrame_37 vc_1 rfl ?_
        exact key7 _ (by first | rfl | (simp only [hb3, if_pos h5, if_neg h6]; done) | (simp only [hb3, if_pos h5, if_neg h6]; rfl)) _ (lvsub_p [0, 1, 2] rfl)
      · skip
        refine V_iconst (pc1 := 34) d11_drivesFrame_33 vc_0 rfl ?_
        refine V_goto (tgt := 38) d11_drivesFrame_34 (by decide) ?_
        exact key7 _ (by first | rfl | (simp only [hb3, if_pos h5, if_pos h6]; done) | (simp only [hb3, if_pos h5, if_pos h6]; rfl)) _ (lvsub_p [0, 1, 2] rfl)
theorem w11_drivesFrame (g : GlT)  (i : Nat) (hi : i < 4) (b : Nat) (hb2 : b ≤ 100) (I : Nat → Nat → Int32) (L : Nat → Nat → Int64) (hb : I 297 (256 * i + 19) = nI b) (hck : I 297 (256 * i + 22) = 1 → tOK i I L) : Call g (k11_drivesFrame, 6, 0, 0) [.ref (xA g 296), .int (nI i)] (I, L, R0, 305) (Qi (r11_drivesFrame i I L) (I) L) := Call.of (by decide) (Nat.le_of_ble_eq_true rfl) rfl (v11_drivesFrame g  i hi b hb2 I L hb hck _ (And.intro rfl rfl))


/-- what a node's frame must be for it to drive -/
def dK (i : Nat) (I : Nat → Nat → Int32) (L : Nat → Nat → Int64) : Prop := I 297 (256 * i) = 4 → (∃ b, b ≤ 100 ∧ I 297 (256 * i + 19) = nI b) ∧ (I 297 (256 * i + 22) = 1 → tOK i I L)

def r11_drives (i : Nat) (I : Nat → Nat → Int32) (L : Nat → Nat → Int64) : Int32 := (if I 297 (256 * i) = 3 then bI (if I 297 (256 * i + 23) ≤ 0 then true else false) else (if I 297 (256 * i) = 4 then r11_drivesFrame i I L else (if I 297 (256 * i) = 5 then (1 : Int32) - (I 297 (256 * i + 18)) else (if I 297 (256 * i) = 6 then 0 else 1))))
set_option maxRecDepth 4000 in
theorem v11_drives (g : GlT)  (i : Nat) (hi : i < 4) (I : Nat → Nat → Int32) (L : Nat → Nat → Int64) (hF : dK i I L) (Q : Option Value → MemT → Prop) (hq : Q (some (.int (r11_drives i I L))) (I, L, R0, 305)) : V g (k11_drives, 7, 0, 0) 0 0 0 [(0, .ref (xA g 296)), (1, .int (nI i))] [] (I, L, R0, 305) Q := by
  refine V_aload_n (pc1 := 1) 0 d11_drives_0 rfl rfl ?_
  refine V_getr (pc1 := 4) ly296 (lt305 rfl) f11_7 (fun _ => rfl) rf296_0 d11_drives_1 rfl ?_
  refine V_iload_n (pc1 := 5) 1 d11_drives_4 rfl rfl ?_
  refine V_iconst (pc1 := 6) d11_drives_5 vc_0 rfl ?_
  refine V_si (pc1 := 9) (w11_at2 g  i 0 (256 * i) (by omega) I L ) s11_at l11_35 rfl rfl ⟨Nat.le_of_ble_eq_true rfl, Nat.le_of_ble_eq_true rfl, Nat.le_refl _, Nat.le_refl _⟩ (Nat.le_of_ble_eq_true rfl) rfl d11_drives_6 rfl ?_
  refine V_iald2 (pc1 := 10) (256 * i) ly297 (lt305 rfl) rfl (by omega) rfl d11_drives_9 rfl ?_
  by_cases h1 : I 297 (256 * i) = 3
  · refine V_tsIn 3 h1 d11_drives_10 (by decide) (by decide) (off := 30) (tgt := 40) (by decide) (by decide) ?_
    refine V_aload_n (pc1 := 41) 0 d11_drives_40 rfl rfl ?_
    refine V_getr (pc1 := 44) ly296 (lt305 rfl) f11_7 (fun _ => rfl) rf296_0 d11_drives_41 rfl ?_
    refine V_iload_n (pc1 := 45) 1 d11_drives_44 rfl rfl ?_
    refine V_bipush (pc1 := 47) d11_drives_45 vb_23 rfl ?_
    refine V_si (pc1 := 50) (w11_at2 g  i 23 (256 * i + 23) (by omega) I L ) s11_at l11_35 rfl rfl ⟨Nat.le_of_ble_eq_true rfl, Nat.le_of_ble_eq_true rfl, Nat.le_refl _, Nat.le_refl _⟩ (Nat.le_of_ble_eq_true rfl) rfl d11_drives_47 rfl ?_
    refine V_iald2 (pc1 := 51) (256 * i + 23) ly297 (lt305 rfl) rfl (by omega) rfl d11_drives_50 rfl ?_
    have key3 : ∀ (y59_0 : Int32), y59_0 = bI (if I 297 (256 * i + 23) ≤ 0 then true else false) → ∀ (lv : List (Nat × Value)), lvsub [(0, .ref (xA g 296)), (1, .int (nI i))] lv → V g (k11_drives, 7, 0, 0) 0 0 59 lv [.int y59_0] (I, L, R0, 305) Q := by
      intro y59_0 ey59_0
      subst ey59_0
      intro lv hlv
      refine V_lv hlv ?_
      refine V_iret rfl d11_drives_59 (Nat.zero_le _) (Nat.zero_le _) ?_
      have hq2 := hq
      simp only [r11_drives, if_pos h1] at hq2
      exact hq2
    refine V_if_le (tgt := 58) (pc1 := 54) d11_drives_51 (by decide) rfl (fun h2 => ?_) (fun h2 => ?_)
    · skip
      refine V_iconst (pc1 := 59) d11_drives_58 vc_1 rfl ?_
      exact key3 _ (by first | rfl | (simp only [if_pos h2]; done) | (simp only [if_pos h2]; rfl)) _ (lvsub_p [0, 1] rfl)
    · skip
      refine V_iconst (pc1 := 55) d11_drives_54 vc_0 rfl ?_
      refine V_goto (tgt := 59) d11_drives_55 (by decide) ?_
      exact key3 _ (by first | rfl | (simp only [if_neg h2]; done) | (simp only [if_neg h2]; rfl)) _ (lvsub_p [0, 1] rfl)
  · skip
    by_cases h4 : I 297 (256 * i) = 4
    · refine V_tsIn 4 h4 d11_drives_10 (by decide) (by decide) (off := 50) (tgt := 60) (by decide) (by decide) ?_
      obtain ⟨⟨b, hb2, hb⟩, hck⟩ := hF h4
      refine V_aload_n (pc1 := 61) 0 d11_drives_60 rfl rfl ?_
      refine V_iload_n (pc1 := 62) 1 d11_drives_61 rfl rfl ?_
      refine V_vi (pc1 := 65) (w11_drivesFrame g  i hi b hb2 I L hb hck) ly296 (lt305 rfl) s11_drivesFrame l11_107 rfl rfl ⟨Nat.le_of_ble_eq_true rfl, Nat.le_of_ble_eq_true rfl, Nat.le_refl _, Nat.le_refl _⟩ (Nat.le_of_ble_eq_true rfl) rfl d11_drives_62 rfl ?_
      refine V_iret rfl d11_drives_65 (Nat.zero_le _) (Nat.zero_le _) ?_
      have hq2 := hq
      simp only [r11_drives, if_neg h1, if_pos h4] at hq2
      exact hq2
    · skip
      by_cases h5 : I 297 (256 * i) = 5
      · refine V_tsIn 5 h5 d11_drives_10 (by decide) (by decide) (off := 56) (tgt := 66) (by decide) (by decide) ?_
        refine V_iconst (pc1 := 67) d11_drives_66 vc_1 rfl ?_
        refine V_aload_n (pc1 := 68) 0 d11_drives_67 rfl rfl ?_
        refine V_getr (pc1 := 71) ly296 (lt305 rfl) f11_7 (fun _ => rfl) rf296_0 d11_drives_68 rfl ?_
        refine V_iload_n (pc1 := 72) 1 d11_drives_71 rfl rfl ?_
        refine V_bipush (pc1 := 74) d11_drives_72 vb_18 rfl ?_
        refine V_si (pc1 := 77) (w11_at2 g  i 18 (256 * i + 18) (by omega) I L ) s11_at l11_35 rfl rfl ⟨Nat.le_of_ble_eq_true rfl, Nat.le_of_ble_eq_true rfl, Nat.le_refl _, Nat.le_refl _⟩ (Nat.le_of_ble_eq_true rfl) rfl d11_drives_74 rfl ?_
        refine V_iald2 (pc1 := 78) (256 * i + 18) ly297 (lt305 rfl) rfl (by omega) rfl d11_drives_77 rfl ?_
        refine V_isub (pc1 := 79) d11_drives_78 rfl ?_
        refine V_iret rfl d11_drives_79 (Nat.zero_le _) (Nat.zero_le _) ?_
        have hq2 := hq
        simp only [r11_drives, if_neg h1, if_neg h4, if_pos h5] at hq2
        exact hq2
      · skip
        by_cases h6 : I 297 (256 * i) = 6
        · refine V_tsIn 6 h6 d11_drives_10 (by decide) (by decide) (off := 70) (tgt := 80) (by decide) (by decide) ?_
          refine V_iconst (pc1 := 81) d11_drives_80 vc_0 rfl ?_
          refine V_iret rfl d11_drives_81 (Nat.zero_le _) (Nat.zero_le _) ?_
          have hq2 := hq
          simp only [r11_drives, if_neg h1, if_neg h4, if_neg h5, if_pos h6] at hq2
          exact hq2
        · skip
          refine V_tsOut (tgt := 82) d11_drives_10 (fun i a b => by
              have hh : i = 3 ∨ i = 4 ∨ i = 5 ∨ i = 6 := by omega
              rcases hh with rfl | rfl | rfl | rfl
              · exact ts_ne (by decide) h1
              · exact ts_ne (by decide) h4
              · exact ts_ne (by decide) h5
              · exact ts_ne (by decide) h6
              ) (by decide) ?_
          refine V_iconst (pc1 := 83) d11_drives_82 vc_1 rfl ?_
          refine V_iret rfl d11_drives_83 (Nat.zero_le _) (Nat.zero_le _) ?_
          have hq2 := hq
          simp only [r11_drives, if_neg h1, if_neg h4, if_neg h5, if_neg h6] at hq2
          exact hq2
theorem w11_drives (g : GlT)  (i : Nat) (hi : i < 4) (I : Nat → Nat → Int32) (L : Nat → Nat → Int64) (hF : dK i I L) : Call g (k11_drives, 7, 0, 0) [.ref (xA g 296), .int (nI i)] (I, L, R0, 305) (Qi (r11_drives i I L) (I) L) := Call.of (by decide) (Nat.le_of_ble_eq_true rfl) rfl (v11_drives g  i hi I L hF _ (And.intro rfl rfl))


def i11_begins (i : Nat) (x : Int32) (I : Nat → Nat → Int32) (L : Nat → Nat → Int64) : Nat → Nat → Int32 := (if x = 0 then i11_releases i (uI (uI (uI (uI (uI (uI (i11_goes i 4 I L) 297 (256 * i + 1) (bI (if x = 0 then false else true))) 297 (256 * i + 19) 1) 297 (256 * i + 90) 0) 297 (256 * i + 20) 1) 297 (256 * i + 21) 0) 297 (256 * i + 22) (-1)) L else i11_lays 297 (256 * i + 160) (I 297 (256 * i + 30)) (I 297 (256 * i + 31)) ((I 297 (256 * i + 32)).toNatClampNeg) (I 297 (256 * i + 33)) (uI (i11_releases i (uI (uI (uI (uI (uI (uI (i11_goes i 4 I L) 297 (256 * i + 1) (bI (if x = 0 then false else true))) 297 (256 * i + 19) 1) 297 (256 * i + 90) 0) 297 (256 * i + 20) 1) 297 (256 * i + 21) 0) 297 (256 * i + 22) (-1)) L) 297 (256 * i + 34) 1) L)
set_option maxRecDepth 4000 in
theorem v11_begins (g : GlT)  (i : Nat) (x : Int32) (hi : i < 4) (q : Nat) (hq4 : q ≤ 4) (I : Nat → Nat → Int32) (L : Nat → Nat → Int64) (hq0 : I 297 (256 * i + 32) = nI q) (Q : Option Value → MemT → Prop) (hq : Q (none) (i11_begins i x I L, L, R0, 305)) : V g (k11_begins, 4, 0, 0) 0 0 0 [(0, .ref (xA g 296)), (1, .int (nI i)), (2, .int x)] [] (I, L, R0, 305) Q := by
  have hq3 : (I 297 (256 * i + 32)).toNatClampNeg = q := by rw [hq0]; exact nI_clamp (by omega)
  refine V_aload_n (pc1 := 1) 0 d11_begins_0 rfl rfl ?_
  refine V_iload_n (pc1 := 2) 1 d11_begins_1 rfl rfl ?_
  refine V_iconst (pc1 := 3) d11_begins_2 vc_4 rfl ?_
  refine V_vv (pc1 := 6) (w11_goes g  i 4 hi I L ) ly296 (lt305 rfl) s11_goes l11_84 rfl rfl ⟨Nat.le_of_ble_eq_true rfl, Nat.le_of_ble_eq_true rfl, Nat.le_refl _, Nat.le_refl _⟩ (Nat.le_of_ble_eq_true rfl) rfl d11_begins_3 rfl ?_
  refine V_aload_n (pc1 := 7) 0 d11_begins_6 rfl rfl ?_
  refine V_getr (pc1 := 10) ly296 (lt305 rfl) f11_7 (fun _ => rfl) rf296_0 d11_begins_7 rfl ?_
  refine V_iload_n (pc1 := 11) 1 d11_begins_10 rfl rfl ?_
  refine V_iconst (pc1 := 12) d11_begins_11 vc_1 rfl ?_
  refine V_si (pc1 := 15) (w11_at2 g  i 1 (256 * i + 1) (by omega) (i11_goes i 4 I L) L ) s11_at l11_35 rfl rfl ⟨Nat.le_of_ble_eq_true rfl, Nat.le_of_ble_eq_true rfl, Nat.le_refl _, Nat.le_refl _⟩ (Nat.le_of_ble_eq_true rfl) rfl d11_begins_12 rfl ?_
  refine V_iload_n (pc1 := 16) 2 d11_begins_15 rfl rfl ?_
  have key2 : ∀ (y24_0 : Int32), y24_0 = bI (if x = 0 then false else true) → ∀ (lv : List (Nat × Value)), lvsub [(0, .ref (xA g 296)), (1, .int (nI i)), (2, .int x)] lv → V g (k11_begins, 4, 0, 0) 0 0 24 lv [.int y24_0, .int (nI (256 * i + 1)), .ref (xA g 297)] (i11_goes i 4 I L, L, R0, 305) Q := by
    intro y24_0 ey24_0
    subst ey24_0
    intro lv hlv
    refine V_lv hlv ?_
    refine V_iast (pc1 := 25) (256 * i + 1) ly297 (lt305 rfl) rfl (by omega) d11_begins_24 rfl ?_
    refine V_aload_n (pc1 := 26) 0 d11_begins_25 rfl rfl ?_
    refine V_getr (pc1 := 29) ly296 (lt305 rfl) f11_7 (fun _ => rfl) rf296_0 d11_begins_26 rfl ?_
    refine V_iload_n (pc1 := 30) 1 d11_begins_29 rfl rfl ?_
    refine V_bipush (pc1 := 32) d11_begins_30 vb_19 rfl ?_
    refine V_si (pc1 := 35) (w11_at2 g  i 19 (256 * i + 19) (by omega) (uI (i11_goes i 4 I L) 297 (256 * i + 1) (bI (if x = 0 then false else true))) L ) s11_at l11_35 rfl rfl ⟨Nat.le_of_ble_eq_true rfl, Nat.le_of_ble_eq_true rfl, Nat.le_refl _, Nat.le_refl _⟩ (Nat.le_of_ble_eq_true rfl) rfl d11_begins_32 rfl ?_
    refine V_iconst (pc1 := 36) d11_begins_35 vc_1 rfl ?_
    refine V_iast (pc1 := 37) (256 * i + 19) ly297 (lt305 rfl) rfl (by omega) d11_begins_36 rfl ?_
    refine V_aload_n (pc1 := 38) 0 d11_begins_37 rfl rfl ?_
    refine V_getr (pc1 := 41) ly296 (lt305 rfl) f11_7 (fun _ => rfl) rf296_0 d11_begins_38 rfl ?_
    refine V_iload_n (pc1 := 42) 1 d11_begins_41 rfl rfl ?_
    refine V_bipush (pc1 := 44) d11_begins_42 vb_90 rfl ?_
    refine V_si (pc1 := 47) (w11_at2 g  i 90 (256 * i + 90) (by omega) (uI (uI (i11_goes i 4 I L) 297 (256 * i + 1) (bI (if x = 0 then false else true))) 297 (256 * i + 19) 1) L ) s11_at l11_35 rfl rfl ⟨Nat.le_of_ble_eq_true rfl, Nat.le_of_ble_eq_true rfl, Nat.le_refl _, Nat.le_refl _⟩ (Nat.le_of_ble_eq_true rfl) rfl d11_begins_44 rfl ?_
    refine V_iconst (pc1 := 48) d11_begins_47 vc_0 rfl ?_
    refine V_iast (pc1 := 49) (256 * i + 90) ly297 (lt305 rfl) rfl (by omega) d11_begins_48 rfl ?_
    refine V_aload_n (pc1 := 50) 0 d11_begins_49 rfl rfl ?_
    refine V_getr (pc1 := 53) ly296 (lt305 rfl) f11_7 (fun _ => rfl) rf296_0 d11_begins_50 rfl ?_
    refine V_iload_n (pc1 := 54) 1 d11_begins_53 rfl rfl ?_
    refine V_bipush (pc1 := 56) d11_begins_54 vb_20 rfl ?_
    refine V_si (pc1 := 59) (w11_at2 g  i 20 (256 * i + 20) (by omega) (uI (uI (uI (i11_goes i 4 I L) 297 (256 * i + 1) (bI (if x = 0 then false else true))) 297 (256 * i + 19) 1) 297 (256 * i + 90) 0) L ) s11_at l11_35 rfl rfl ⟨Nat.le_of_ble_eq_true rfl, Nat.le_of_ble_eq_true rfl, Nat.le_refl _, Nat.le_refl _⟩ (Nat.le_of_ble_eq_true rfl) rfl d11_begins_56 rfl ?_
    refine V_iconst (pc1 := 60) d11_begins_59 vc_1 rfl ?_
    refine V_iast (pc1 := 61) (256 * i + 20) ly297 (lt305 rfl) rfl (by omega) d11_begins_60 rfl ?_
    refine V_aload_n (pc1 := 62) 0 d11_begins_61 rfl rfl ?_
    refine V_getr (pc1 := 65) ly296 (lt305 rfl) f11_7 (fun _ => rfl) rf296_0 d11_begins_62 rfl ?_
    refine V_iload_n (pc1 := 66) 1 d11_begins_65 rfl rfl ?_
    refine V_bipush (pc1 := 68) d11_begins_66 vb_21 rfl ?_
    refine V_si (pc1 := 71) (w11_at2 g  i 21 (256 * i + 21) (by omega) (uI (uI (uI (uI (i11_goes i 4 I L) 297 (256 * i + 1) (bI (if x = 0 then false else true))) 297 (256 * i + 19) 1) 297 (256 * i + 90) 0) 297 (256 * i + 20) 1) L ) s11_at l11_35 rfl rfl ⟨Nat.le_of_ble_eq_true rfl, Nat.le_of_ble_eq_true rfl, Nat.le_refl _, Nat.le_refl _⟩ (Nat.le_of_ble_eq_true rfl) rfl d11_begins_68 rfl ?_
    refine V_iconst (pc1 := 72) d11_begins_71 vc_0 rfl ?_
    refine V_iast (pc1 := 73) (256 * i + 21) ly297 (lt305 rfl) rfl (by omega) d11_begins_72 rfl ?_
    refine V_aload_n (pc1 := 74) 0 d11_begins_73 rfl rfl ?_
    refine V_getr (pc1 := 77) ly296 (lt305 rfl) f11_7 (fun _ => rfl) rf296_0 d11_begins_74 rfl ?_
    refine V_iload_n (pc1 := 78) 1 d11_begins_77 rfl rfl ?_
    refine V_bipush (pc1 := 80) d11_begins_78 vb_22 rfl ?_
    refine V_si (pc1 := 83) (w11_at2 g  i 22 (256 * i + 22) (by omega) (uI (uI (uI (uI (uI (i11_goes i 4 I L) 297 (256 * i + 1) (bI (if x = 0 then false else true))) 297 (256 * i + 19) 1) 297 (256 * i + 90) 0) 297 (256 * i + 20) 1) 297 (256 * i + 21) 0) L ) s11_at l11_35 rfl rfl ⟨Nat.le_of_ble_eq_true rfl, Nat.le_of_ble_eq_true rfl, Nat.le_refl _, Nat.le_refl _⟩ (Nat.le_of_ble_eq_true rfl) rfl d11_begins_80 rfl ?_
    refine V_iconst (pc1 := 84) d11_begins_83 vc_m1 rfl ?_
    refine V_iast (pc1 := 85) (256 * i + 22) ly297 (lt305 rfl) rfl (by omega) d11_begins_84 rfl ?_
    refine V_aload_n (pc1 := 86) 0 d11_begins_85 rfl rfl ?_
    refine V_iload_n (pc1 := 87) 1 d11_begins_86 rfl rfl ?_
    refine V_vv (pc1 := 90) (w11_releases g  i hi (uI (uI (uI (uI (uI (uI (i11_goes i 4 I L) 297 (256 * i + 1) (bI (if x = 0 then false else true))) 297 (256 * i + 19) 1) 297 (256 * i + 90) 0) 297 (256 * i + 20) 1) 297 (256 * i + 21) 0) 297 (256 * i + 22) (-1)) L ) ly296 (lt305 rfl) s11_releases l11_77 rfl rfl ⟨Nat.le_of_ble_eq_true rfl, Nat.le_of_ble_eq_true rfl, Nat.le_refl _, Nat.le_refl _⟩ (Nat.le_of_ble_eq_true rfl) rfl d11_begins_87 rfl ?_
    refine V_iload_n (pc1 := 91) 2 d11_begins_90 rfl rfl ?_
    have key4 : ∀ (zI165 : Nat → Nat → Int32), zI165 = (if x = 0 then i11_releases i (uI (uI (uI (uI (uI (uI (i11_goes i 4 I L) 297 (256 * i + 1) (bI (if x = 0 then false else true))) 297 (256 * i + 19) 1) 297 (256 * i + 90) 0) 297 (256 * i + 20) 1) 297 (256 * i + 21) 0) 297 (256 * i + 22) (-1)) L else i11_lays 297 (256 * i + 160) (I 297 (256 * i + 30)) (I 297 (256 * i + 31)) q (I 297 (256 * i + 33)) (uI (i11_releases i (uI (uI (uI (uI (uI (uI (i11_goes i 4 I L) 297 (256 * i + 1) (bI (if x = 0 then false else true))) 297 (256 * i + 19) 1) 297 (256 * i + 90) 0) 297 (256 * i + 20) 1) 297 (256 * i + 21) 0) 297 (256 * i + 22) (-1)) L) 297 (256 * i + 34) 1) L) → ∀ (lv : List (Nat × Value)), lvsub [(0, .ref (xA g 296)), (1, .int (nI i)), (2, .int x)] lv → V g (k11_begins, 4, 0, 0) 0 0 165 lv [] (zI165, L, R0, 305) Q := by
      intro zI165 ezI165
      subst ezI165
      intro lv hlv
      refine V_lv hlv ?_
      refine V_vret rfl d11_begins_165 (Nat.zero_le _) (Nat.zero_le _) ?_
      have hq2 := hq
      simp only [i11_begins, hq3] at hq2
      exact hq2
    refine V_if_eq (tgt := 165) (pc1 := 94) d11_begins_91 (by decide) rfl (fun h3 => ?_) (fun h3 => ?_)
    · skip
      exact key4 _ (by first | rfl | (simp only [hq3, if_pos h3]; done) | (simp only [hq3, if_pos h3]; rfl)) _ (lvsub_p [0, 1, 2] rfl)
    · skip
      refine V_aload_n (pc1 := 95) 0 d11_begins_94 rfl rfl ?_
      refine V_getr (pc1 := 98) ly296 (lt305 rfl) f11_7 (fun _ => rfl) rf296_0 d11_begins_95 rfl ?_
      refine V_iload_n (pc1 := 99) 1 d11_begins_98 rfl rfl ?_
      refine V_iconst (pc1 := 100) d11_begins_99 vc_0 rfl ?_
      refine V_iconst (pc1 := 101) d11_begins_100 vc_4 rfl ?_
      refine V_si (pc1 := 104) (w11_wait2 g  i 0 4 (256 * i + 34) (by omega) (i11_releases i (uI (uI (uI (uI (uI (uI (i11_goes i 4 I L) 297 (256 * i + 1) (bI (if x = 0 then false else true))) 297 (256 * i + 19) 1) 297 (256 * i + 90) 0) 297 (256 * i + 20) 1) 297 (256 * i + 21) 0) 297 (256 * i + 22) (-1)) L) L ) s11_wait l11_81 rfl rfl ⟨Nat.le_of_ble_eq_true rfl, Nat.le_of_ble_eq_true rfl, Nat.le_refl _, Nat.le_refl _⟩ (Nat.le_of_ble_eq_true rfl) rfl d11_begins_101 rfl ?_
      refine V_iconst (pc1 := 105) d11_begins_104 vc_1 rfl ?_
      refine V_iast (pc1 := 106) (256 * i + 34) ly297 (lt305 rfl) rfl (by omega) d11_begins_105 rfl ?_
      refine V_aload_n (pc1 := 107) 0 d11_begins_106 rfl rfl ?_
      refine V_getr (pc1 := 110) ly296 (lt305 rfl) f11_7 (fun _ => rfl) rf296_0 d11_begins_107 rfl ?_
      refine V_iload_n (pc1 := 111) 1 d11_begins_110 rfl rfl ?_
      refine V_sipush (pc1 := 114) d11_begins_111 vs_160 rfl ?_
      refine V_si (pc1 := 117) (w11_at2 g  i 160 (256 * i + 160) (by omega) (uI (i11_releases i (uI (uI (uI (uI (uI (uI (i11_goes i 4 I L) 297 (256 * i + 1) (bI (if x = 0 then false else true))) 297 (256 * i + 19) 1) 297 (256 * i + 90) 0) 297 (256 * i + 20) 1) 297 (256 * i + 21) 0) 297 (256 * i + 22) (-1)) L) 297 (256 * i + 34) 1) L ) s11_at l11_35 rfl rfl ⟨Nat.le_of_ble_eq_true rfl, Nat.le_of_ble_eq_true rfl, Nat.le_refl _, Nat.le_refl _⟩ (Nat.le_of_ble_eq_true rfl) rfl d11_begins_114 rfl ?_
      refine V_aload_n (pc1 := 118) 0 d11_begins_117 rfl rfl ?_
      refine V_getr (pc1 := 121) ly296 (lt305 rfl) f11_7 (fun _ => rfl) rf296_0 d11_begins_118 rfl ?_
      refine V_iload_n (pc1 := 122) 1 d11_begins_121 rfl rfl ?_
      refine V_iconst (pc1 := 123) d11_begins_122 vc_0 rfl ?_
      refine V_iconst (pc1 := 124) d11_begins_123 vc_0 rfl ?_
      refine V_si (pc1 := 127) (w11_wait2 g  i 0 0 (256 * i + 30) (by omega) (uI (i11_releases i (uI (uI (uI (uI (uI (uI (i11_goes i 4 I L) 297 (256 * i + 1) (bI (if x = 0 then false else true))) 297 (256 * i + 19) 1) 297 (256 * i + 90) 0) 297 (256 * i + 20) 1) 297 (256 * i + 21) 0) 297 (256 * i + 22) (-1)) L) 297 (256 * i + 34) 1) L ) s11_wait l11_81 rfl rfl ⟨Nat.le_of_ble_eq_true rfl, Nat.le_of_ble_eq_true rfl, Nat.le_refl _, Nat.le_refl _⟩ (Nat.le_of_ble_eq_true rfl) rfl d11_begins_124 rfl ?_
      refine V_iald2 (pc1 := 128) (256 * i + 30) ly297 (lt305 rfl) rfl (by omega) ((uI_ne (i11_releases i (uI (uI (uI (uI (uI (uI (i11_goes i 4 I L) 297 (256 * i + 1) (bI (if x = 0 then false else true))) 297 (256 * i + 19) 1) 297 (256 * i + 90) 0) 297 (256 * i + 20) 1) 297 (256 * i + 21) 0) 297 (256 * i + 22) (-1)) L) 297 1 (show (256 * i + 30 : Nat) ≠ 256 * i + 34 by omega)).trans ((xs11_releases (I := (uI (uI (uI (uI (uI (uI (i11_goes i 4 I L) 297 (256 * i + 1) (bI (if x = 0 then false else true))) 297 (256 * i + 19) 1) 297 (256 * i + 90) 0) 297 (256 * i + 20) 1) 297 (256 * i + 21) 0) 297 (256 * i + 22) (-1))) (L := L) (show (256 * i + 30 : Nat) ≠ 256 * i + 34 by omega) (show (256 * i + 30 : Nat) ≠ 256 * i + 39 by omega) (show (256 * i + 30 : Nat) ≠ 256 * i + 44 by omega) (show (256 * i + 30 : Nat) ≠ 256 * i + 49 by omega)).trans ((uI_ne (uI (uI (uI (uI (uI (i11_goes i 4 I L) 297 (256 * i + 1) (bI (if x = 0 then false else true))) 297 (256 * i + 19) 1) 297 (256 * i + 90) 0) 297 (256 * i + 20) 1) 297 (256 * i + 21) 0) 297 (-1) (show (256 * i + 30 : Nat) ≠ 256 * i + 22 by omega)).trans ((uI_ne (uI (uI (uI (uI (i11_goes i 4 I L) 297 (256 * i + 1) (bI (if x = 0 then false else true))) 297 (256 * i + 19) 1) 297 (256 * i + 90) 0) 297 (256 * i + 20) 1) 297 0 (show (256 * i + 30 : Nat) ≠ 256 * i + 21 by omega)).trans ((uI_ne (uI (uI (uI (i11_goes i 4 I L) 297 (256 * i + 1) (bI (if x = 0 then false else true))) 297 (256 * i + 19) 1) 297 (256 * i + 90) 0) 297 1 (show (256 * i + 30 : Nat) ≠ 256 * i + 20 by omega)).trans ((uI_ne (uI (uI (i11_goes i 4 I L) 297 (256 * i + 1) (bI (if x = 0 then false else true))) 297 (256 * i + 19) 1) 297 0 (show (256 * i + 30 : Nat) ≠ 256 * i + 90 by omega)).trans ((uI_ne (uI (i11_goes i 4 I L) 297 (256 * i + 1) (bI (if x = 0 then false else true))) 297 1 (show (256 * i + 30 : Nat) ≠ 256 * i + 19 by omega)).trans ((uI_ne (i11_goes i 4 I L) 297 (bI (if x = 0 then false else true)) (show (256 * i + 30 : Nat) ≠ 256 * i + 1 by omega)).trans (xs11_goes (I := I) (L := L) (show (256 * i + 30 : Nat) ≠ 256 * i by omega) (show (256 * i + 30 : Nat) ≠ 256 * i + 1 by omega) (show (256 * i + 30 : Nat) ≠ 256 * i + 13 by omega) (show (256 * i + 30 : Nat) ≠ 256 * i + 2 by omega) (show (256 * i + 30 : Nat) ≠ 256 * i + 3 by omega) (show (256 * i + 30 : Nat) ≠ 256 * i + 34 by omega) (show (256 * i + 30 : Nat) ≠ 256 * i + 39 by omega) (show (256 * i + 30 : Nat) ≠ 256 * i + 44 by omega) (show (256 * i + 30 : Nat) ≠ 256 * i + 49 by omega)))))))))) d11_begins_127 rfl ?_
      refine V_aload_n (pc1 := 129) 0 d11_begins_128 rfl rfl ?_
      refine V_getr (pc1 := 132) ly296 (lt305 rfl) f11_7 (fun _ => rfl) rf296_0 d11_begins_129 rfl ?_
      refine V_iload_n (pc1 := 133) 1 d11_begins_132 rfl rfl ?_
      refine V_iconst (pc1 := 134) d11_begins_133 vc_0 rfl ?_
      refine V_iconst (pc1 := 135) d11_begins_134 vc_1 rfl ?_
      refine V_si (pc1 := 138) (w11_wait2 g  i 0 1 (256 * i + 31) (by omega) (uI (i11_releases i (uI (uI (uI (uI (uI (uI (i11_goes i 4 I L) 297 (256 * i + 1) (bI (if x = 0 then false else true))) 297 (256 * i + 19) 1) 297 (256 * i + 90) 0) 297 (256 * i + 20) 1) 297 (256 * i + 21) 0) 297 (256 * i + 22) (-1)) L) 297 (256 * i + 34) 1) L ) s11_wait l11_81 rfl rfl ⟨Nat.le_of_ble_eq_true rfl, Nat.le_of_ble_eq_true rfl, Nat.le_refl _, Nat.le_refl _⟩ (Nat.le_of_ble_eq_true rfl) rfl d11_begins_135 rfl ?_
      refine V_iald2 (pc1 := 139) (256 * i + 31) ly297 (lt305 rfl) rfl (by omega) ((uI_ne (i11_releases i (uI (uI (uI (uI (uI (uI (i11_goes i 4 I L) 297 (256 * i + 1) (bI (if x = 0 then false else true))) 297 (256 * i + 19) 1) 297 (256 * i + 90) 0) 297 (256 * i + 20) 1) 297 (256 * i + 21) 0) 297 (256 * i + 22) (-1)) L) 297 1 (show (256 * i + 31 : Nat) ≠ 256 * i + 34 by omega)).trans ((xs11_releases (I := (uI (uI (uI (uI (uI (uI (i11_goes i 4 I L) 297 (256 * i + 1) (bI (if x = 0 then false else true))) 297 (256 * i + 19) 1) 297 (256 * i + 90) 0) 297 (256 * i + 20) 1) 297 (256 * i + 21) 0) 297 (256 * i + 22) (-1))) (L := L) (show (256 * i + 31 : Nat) ≠ 256 * i + 34 by omega) (show (256 * i + 31 : Nat) ≠ 256 * i + 39 by omega) (show (256 * i + 31 : Nat) ≠ 256 * i + 44 by omega) (show (256 * i + 31 : Nat) ≠ 256 * i + 49 by omega)).trans ((uI_ne (uI (uI (uI (uI (uI (i11_goes i 4 I L) 297 (256 * i + 1) (bI (if x = 0 then false else true))) 297 (256 * i + 19) 1) 297 (256 * i + 90) 0) 297 (256 * i + 20) 1) 297 (256 * i + 21) 0) 297 (-1) (show (256 * i + 31 : Nat) ≠ 256 * i + 22 by omega)).trans ((uI_ne (uI (uI (uI (uI (i11_goes i 4 I L) 297 (256 * i + 1) (bI (if x = 0 then false else true))) 297 (256 * i + 19) 1) 297 (256 * i + 90) 0) 297 (256 * i + 20) 1) 297 0 (show (256 * i + 31 : Nat) ≠ 256 * i + 21 by omega)).trans ((uI_ne (uI (uI (uI (i11_goes i 4 I L) 297 (256 * i + 1) (bI (if x = 0 then false else true))) 297 (256 * i + 19) 1) 297 (256 * i + 90) 0) 297 1 (show (256 * i + 31 : Nat) ≠ 256 * i + 20 by omega)).trans ((uI_ne (uI (uI (i11_goes i 4 I L) 297 (256 * i + 1) (bI (if x = 0 then false else true))) 297 (256 * i + 19) 1) 297 0 (show (256 * i + 31 : Nat) ≠ 256 * i + 90 by omega)).trans ((uI_ne (uI (i11_goes i 4 I L) 297 (256 * i + 1) (bI (if x = 0 then false else true))) 297 1 (show (256 * i + 31 : Nat) ≠ 256 * i + 19 by omega)).trans ((uI_ne (i11_goes i 4 I L) 297 (bI (if x = 0 then false else true)) (show (256 * i + 31 : Nat) ≠ 256 * i + 1 by omega)).trans (xs11_goes (I := I) (L := L) (show (256 * i + 31 : Nat) ≠ 256 * i by omega) (show (256 * i + 31 : Nat) ≠ 256 * i + 1 by omega) (show (256 * i + 31 : Nat) ≠ 256 * i + 13 by omega) (show (256 * i + 31 : Nat) ≠ 256 * i + 2 by omega) (show (256 * i + 31 : Nat) ≠ 256 * i + 3 by omega) (show (256 * i + 31 : Nat) ≠ 256 * i + 34 by omega) (show (256 * i + 31 : Nat) ≠ 256 * i + 39 by omega) (show (256 * i + 31 : Nat) ≠ 256 * i + 44 by omega) (show (256 * i + 31 : Nat) ≠ 256 * i + 49 by omega)))))))))) d11_begins_138 rfl ?_
      refine V_aload_n (pc1 := 140) 0 d11_begins_139 rfl rfl ?_
      refine V_getr (pc1 := 143) ly296 (lt305 rfl) f11_7 (fun _ => rfl) rf296_0 d11_begins_140 rfl ?_
      refine V_iload_n (pc1 := 144) 1 d11_begins_143 rfl rfl ?_
      refine V_iconst (pc1 := 145) d11_begins_144 vc_0 rfl ?_
      refine V_iconst (pc1 := 146) d11_begins_145 vc_2 rfl ?_
      refine V_si (pc1 := 149) (w11_wait2 g  i 0 2 (256 * i + 32) (by omega) (uI (i11_releases i (uI (uI (uI (uI (uI (uI (i11_goes i 4 I L) 297 (256 * i + 1) (bI (if x = 0 then false else true))) 297 (256 * i + 19) 1) 297 (256 * i + 90) 0) 297 (256 * i + 20) 1) 297 (256 * i + 21) 0) 297 (256 * i + 22) (-1)) L) 297 (256 * i + 34) 1) L ) s11_wait l11_81 rfl rfl ⟨Nat.le_of_ble_eq_true rfl, Nat.le_of_ble_eq_true rfl, Nat.le_refl _, Nat.le_refl _⟩ (Nat.le_of_ble_eq_true rfl) rfl d11_begins_146 rfl ?_
      refine V_iald2 (pc1 := 150) (256 * i + 32) ly297 (lt305 rfl) rfl (by omega) (((uI_ne (i11_releases i (uI (uI (uI (uI (uI (uI (i11_goes i 4 I L) 297 (256 * i + 1) (bI (if x = 0 then false else true))) 297 (256 * i + 19) 1) 297 (256 * i + 90) 0) 297 (256 * i + 20) 1) 297 (256 * i + 21) 0) 297 (256 * i + 22) (-1)) L) 297 1 (show (256 * i + 32 : Nat) ≠ 256 * i + 34 by omega)).trans ((xs11_releases (I := (uI (uI (uI (uI (uI (uI (i11_goes i 4 I L) 297 (256 * i + 1) (bI (if x = 0 then false else true))) 297 (256 * i + 19) 1) 297 (256 * i + 90) 0) 297 (256 * i + 20) 1) 297 (256 * i + 21) 0) 297 (256 * i + 22) (-1))) (L := L) (show (256 * i + 32 : Nat) ≠ 256 * i + 34 by omega) (show (256 * i + 32 : Nat) ≠ 256 * i + 39 by omega) (show (256 * i + 32 : Nat) ≠ 256 * i + 44 by omega) (show (256 * i + 32 : Nat) ≠ 256 * i + 49 by omega)).trans ((uI_ne (uI (uI (uI (uI (uI (i11_goes i 4 I L) 297 (256 * i + 1) (bI (if x = 0 then false else true))) 297 (256 * i + 19) 1) 297 (256 * i + 90) 0) 297 (256 * i + 20) 1) 297 (256 * i + 21) 0) 297 (-1) (show (256 * i + 32 : Nat) ≠ 256 * i + 22 by omega)).trans ((uI_ne (uI (uI (uI (uI (i11_goes i 4 I L) 297 (256 * i + 1) (bI (if x = 0 then false else true))) 297 (256 * i + 19) 1) 297 (256 * i + 90) 0) 297 (256 * i + 20) 1) 297 0 (show (256 * i + 32 : Nat) ≠ 256 * i + 21 by omega)).trans ((uI_ne (uI (uI (uI (i11_goes i 4 I L) 297 (256 * i + 1) (bI (if x = 0 then false else true))) 297 (256 * i + 19) 1) 297 (256 * i + 90) 0) 297 1 (show (256 * i + 32 : Nat) ≠ 256 * i + 20 by omega)).trans ((uI_ne (uI (uI (i11_goes i 4 I L) 297 (256 * i + 1) (bI (if x = 0 then false else true))) 297 (256 * i + 19) 1) 297 0 (show (256 * i + 32 : Nat) ≠ 256 * i + 90 by omega)).trans ((uI_ne (uI (i11_goes i 4 I L) 297 (256 * i + 1) (bI (if x = 0 then false else true))) 297 1 (show (256 * i + 32 : Nat) ≠ 256 * i + 19 by omega)).trans ((uI_ne (i11_goes i 4 I L) 297 (bI (if x = 0 then false else true)) (show (256 * i + 32 : Nat) ≠ 256 * i + 1 by omega)).trans (xs11_goes (I := I) (L := L) (show (256 * i + 32 : Nat) ≠ 256 * i by omega) (show (256 * i + 32 : Nat) ≠ 256 * i + 1 by omega) (show (256 * i + 32 : Nat) ≠ 256 * i + 13 by omega) (show (256 * i + 32 : Nat) ≠ 256 * i + 2 by omega) (show (256 * i + 32 : Nat) ≠ 256 * i + 3 by omega) (show (256 * i + 32 : Nat) ≠ 256 * i + 34 by omega) (show (256 * i + 32 : Nat) ≠ 256 * i + 39 by omega) (show (256 * i + 32 : Nat) ≠ 256 * i + 44 by omega) (show (256 * i + 32 : Nat) ≠ 256 * i + 49 by omega)))))))))).trans hq0) d11_begins_149 rfl ?_
      refine V_aload_n (pc1 := 151) 0 d11_begins_150 rfl rfl ?_
      refine V_getr (pc1 := 154) ly296 (lt305 rfl) f11_7 (fun _ => rfl) rf296_0 d11_begins_151 rfl ?_
      refine V_iload_n (pc1 := 155) 1 d11_begins_154 rfl rfl ?_
      refine V_iconst (pc1 := 156) d11_begins_155 vc_0 rfl ?_
      refine V_iconst (pc1 := 157) d11_begins_156 vc_3 rfl ?_
      refine V_si (pc1 := 160) (w11_wait2 g  i 0 3 (256 * i + 33) (by omega) (uI (i11_releases i (uI (uI (uI (uI (uI (uI (i11_goes i 4 I L) 297 (256 * i + 1) (bI (if x = 0 then false else true))) 297 (256 * i + 19) 1) 297 (256 * i + 90) 0) 297 (256 * i + 20) 1) 297 (256 * i + 21) 0) 297 (256 * i + 22) (-1)) L) 297 (256 * i + 34) 1) L ) s11_wait l11_81 rfl rfl ⟨Nat.le_of_ble_eq_true rfl, Nat.le_of_ble_eq_true rfl, Nat.le_refl _, Nat.le_refl _⟩ (Nat.le_of_ble_eq_true rfl) rfl d11_begins_157 rfl ?_
      refine V_iald2 (pc1 := 161) (256 * i + 33) ly297 (lt305 rfl) rfl (by omega) ((uI_ne (i11_releases i (uI (uI (uI (uI (uI (uI (i11_goes i 4 I L) 297 (256 * i + 1) (bI (if x = 0 then false else true))) 297 (256 * i + 19) 1) 297 (256 * i + 90) 0) 297 (256 * i + 20) 1) 297 (256 * i + 21) 0) 297 (256 * i + 22) (-1)) L) 297 1 (show (256 * i + 33 : Nat) ≠ 256 * i + 34 by omega)).trans ((xs11_releases (I := (uI (uI (uI (uI (uI (uI (i11_goes i 4 I L) 297 (256 * i + 1) (bI (if x = 0 then false else true))) 297 (256 * i + 19) 1) 297 (256 * i + 90) 0) 297 (256 * i + 20) 1) 297 (256 * i + 21) 0) 297 (256 * i + 22) (-1))) (L := L) (show (256 * i + 33 : Nat) ≠ 256 * i + 34 by omega) (show (256 * i + 33 : Nat) ≠ 256 * i + 39 by omega) (show (256 * i + 33 : Nat) ≠ 256 * i + 44 by omega) (show (256 * i + 33 : Nat) ≠ 256 * i + 49 by omega)).trans ((uI_ne (uI (uI (uI (uI (uI (i11_goes i 4 I L) 297 (256 * i + 1) (bI (if x = 0 then false else true))) 297 (256 * i + 19) 1) 297 (256 * i + 90) 0) 297 (256 * i + 20) 1) 297 (256 * i + 21) 0) 297 (-1) (show (256 * i + 33 : Nat) ≠ 256 * i + 22 by omega)).trans ((uI_ne (uI (uI (uI (uI (i11_goes i 4 I L) 297 (256 * i + 1) (bI (if x = 0 then false else true))) 297 (256 * i + 19) 1) 297 (256 * i + 90) 0) 297 (256 * i + 20) 1) 297 0 (show (256 * i + 33 : Nat) ≠ 256 * i + 21 by omega)).trans ((uI_ne (uI (uI (uI (i11_goes i 4 I L) 297 (256 * i + 1) (bI (if x = 0 then false else true))) 297 (256 * i + 19) 1) 297 (256 * i + 90) 0) 297 1 (show (256 * i + 33 : Nat) ≠ 256 * i + 20 by omega)).trans ((uI_ne (uI (uI (i11_goes i 4 I L) 297 (256 * i + 1) (bI (if x = 0 then false else true))) 297 (256 * i + 19) 1) 297 0 (show (256 * i + 33 : Nat) ≠ 256 * i + 90 by omega)).trans ((uI_ne (uI (i11_goes i 4 I L) 297 (256 * i + 1) (bI (if x = 0 then false else true))) 297 1 (show (256 * i + 33 : Nat) ≠ 256 * i + 19 by omega)).trans ((uI_ne (i11_goes i 4 I L) 297 (bI (if x = 0 then false else true)) (show (256 * i + 33 : Nat) ≠ 256 * i + 1 by omega)).trans (xs11_goes (I := I) (L := L) (show (256 * i + 33 : Nat) ≠ 256 * i by omega) (show (256 * i + 33 : Nat) ≠ 256 * i + 1 by omega) (show (256 * i + 33 : Nat) ≠ 256 * i + 13 by omega) (show (256 * i + 33 : Nat) ≠ 256 * i + 2 by omega) (show (256 * i + 33 : Nat) ≠ 256 * i + 3 by omega) (show (256 * i + 33 : Nat) ≠ 256 * i + 34 by omega) (show (256 * i + 33 : Nat) ≠ 256 * i + 39 by omega) (show (256 * i + 33 : Nat) ≠ 256 * i + 44 by omega) (show (256 * i + 33 : Nat) ≠ 256 * i + 49 by omega)))))))))) d11_begins_160 rfl ?_
      refine V_si (pc1 := 164) (w11_lays g ly297 (lt305 rfl) (256 * i + 160) (I 297 (256 * i + 30)) (I 297 (256 * i + 31)) q (I 297 (256 * i + 33)) (by omega) hq4 (uI (i11_releases i (uI (uI (uI (uI (uI (uI (i11_goes i 4 I L) 297 (256 * i + 1) (bI (if x = 0 then false else true))) 297 (256 * i + 19) 1) 297 (256 * i + 90) 0) 297 (256 * i + 20) 1) 297 (256 * i + 21) 0) 297 (256 * i + 22) (-1)) L) 297 (256 * i + 34) 1) L ) s11_lays l11_55 rfl rfl ⟨Nat.le_of_ble_eq_true rfl, Nat.le_of_ble_eq_true rfl, Nat.le_refl _, Nat.le_refl _⟩ (Nat.le_of_ble_eq_true rfl) rfl d11_begins_161 rfl ?_
      refine V_istore_n (pc1 := 165) d11_begins_164 (Nat.le_of_ble_eq_true rfl) rfl rfl ?_
      exact key4 _ (by first | rfl | (simp only [hq3, if_neg h3]; done) | (simp only [hq3, if_neg h3]; rfl)) _ (lvsub_p [1, 2, 3] rfl)
  refine V_if_eq (tgt := 23) (pc1 := 19) d11_begins_16 (by decide) rfl (fun h1 => ?_) (fun h1 => ?_)
  · skip
    refine V_iconst (pc1 := 24) d11_begins_23 vc_0 rfl ?_
    exact key2 _ (by first | rfl | (simp only [hq3, if_pos h1]; done) | (simp only [hq3, if_pos h1]; rfl)) _ (lvsub_p [0, 1, 2] rfl)
  · skip
    refine V_iconst (pc1 := 20) d11_begins_19 vc_1 rfl ?_
    refine V_goto (tgt := 24) d11_begins_20 (by decide) ?_
    exact key2 _ (by first | rfl | (simp only [hq3, if_neg h1]; done) | (simp only [hq3, if_neg h1]; rfl)) _ (lvsub_p [0, 1, 2] rfl)
theorem w11_begins (g : GlT)  (i : Nat) (x : Int32) (hi : i < 4) (q : Nat) (hq4 : q ≤ 4) (I : Nat → Nat → Int32) (L : Nat → Nat → Int64) (hq0 : I 297 (256 * i + 32) = nI q) : Call g (k11_begins, 4, 0, 0) [.ref (xA g 296), .int (nI i), .int x] (I, L, R0, 305) (Qv (i11_begins i x I L) L) := Call.of (by decide) (Nat.le_of_ble_eq_true rfl) rfl (v11_begins g  i x hi q hq4 I L hq0 _ (And.intro rfl rfl))


def i11_errs (i : Nat) (kd : Nat) (I : Nat → Nat → Int32) (L : Nat → Nat → Int64) : Nat → Nat → Int32 := (if (if (r11_isTransmitting i (uI (uI I 297 (256 * i + kd + 5) ((I 297 (256 * i + kd + 5)) + 1)) 297 (256 * i + 11) (nI kd)) L) = true then (if (¬ (nI kd = 5)) ∨ (¬ ((r11_isPassiveNow i (uI (uI I 297 (256 * i + kd + 5) ((I 297 (256 * i + kd + 5)) + 1)) 297 (256 * i + 11) (nI kd)) L) = true)) then uI (uI (uI I 297 (256 * i + kd + 5) ((I 297 (256 * i + kd + 5)) + 1)) 297 (256 * i + 11) (nI kd)) 297 (256 * i + 4) (((uI (uI I 297 (256 * i + kd + 5) ((I 297 (256 * i + kd + 5)) + 1)) 297 (256 * i + 11) (nI kd)) 297 (256 * i + 4)) + 8) else uI (uI I 297 (256 * i + kd + 5) ((I 297 (256 * i + kd + 5)) + 1)) 297 (256 * i + 11) (nI kd)) else i11_receives i 1 (uI (uI I 297 (256 * i + kd + 5) ((I 297 (256 * i + kd + 5)) + 1)) 297 (256 * i + 11) (nI kd)) L) 297 (256 * i + 4) < (if (r11_isTransmitting i (uI (uI I 297 (256 * i + kd + 5) ((I 297 (256 * i + kd + 5)) + 1)) 297 (256 * i + 11) (nI kd)) L) = true then (if (¬ (nI kd = 5)) ∨ (¬ ((r11_isPassiveNow i (uI (uI I 297 (256 * i + kd + 5) ((I 297 (256 * i + kd + 5)) + 1)) 297 (256 * i + 11) (nI kd)) L) = true)) then uI (uI (uI I 297 (256 * i + kd + 5) ((I 297 (256 * i + kd + 5)) + 1)) 297 (256 * i + 11) (nI kd)) 297 (256 * i + 4) (((uI (uI I 297 (256 * i + kd + 5) ((I 297 (256 * i + kd + 5)) + 1)) 297 (256 * i + 11) (nI kd)) 297 (256 * i + 4)) + 8) else uI (uI I 297 (256 * i + kd + 5) ((I 297 (256 * i + kd + 5)) + 1)) 297 (256 * i + 11) (nI kd)) else i11_receives i 1 (uI (uI I 297 (256 * i + kd + 5) ((I 297 (256 * i + kd + 5)) + 1)) 297 (256 * i + 11) (nI kd)) L) 297 1026 then uI (i11_goes i 5 (if (r11_isTransmitting i (uI (uI I 297 (256 * i + kd + 5) ((I 297 (256 * i + kd + 5)) + 1)) 297 (256 * i + 11) (nI kd)) L) = true then (if (¬ (nI kd = 5)) ∨ (¬ ((r11_isPassiveNow i (uI (uI I 297 (256 * i + kd + 5) ((I 297 (256 * i + kd + 5)) + 1)) 297 (256 * i + 11) (nI kd)) L) = true)) then uI (uI (uI I 297 (256 * i + kd + 5) ((I 297 (256 * i + kd + 5)) + 1)) 297 (256 * i + 11) (nI kd)) 297 (256 * i + 4) (((uI (uI I 297 (256 * i + kd + 5) ((I 297 (256 * i + kd + 5)) + 1)) 297 (256 * i + 11) (nI kd)) 297 (256 * i + 4)) + 8) else uI (uI I 297 (256 * i + kd + 5) ((I 297 (256 * i + kd + 5)) + 1)) 297 (256 * i + 11) (nI kd)) else i11_receives i 1 (uI (uI I 297 (256 * i + kd + 5) ((I 297 (256 * i + kd + 5)) + 1)) 297 (256 * i + 11) (nI kd)) L) L) 297 (256 * i + 18) (bI (if (r11_isPassiveNow i (i11_goes i 5 (if (r11_isTransmitting i (uI (uI I 297 (256 * i + kd + 5) ((I 297 (256 * i + kd + 5)) + 1)) 297 (256 * i + 11) (nI kd)) L) = true then (if (¬ (nI kd = 5)) ∨ (¬ ((r11_isPassiveNow i (uI (uI I 297 (256 * i + kd + 5) ((I 297 (256 * i + kd + 5)) + 1)) 297 (256 * i + 11) (nI kd)) L) = true)) then uI (uI (uI I 297 (256 * i + kd + 5) ((I 297 (256 * i + kd + 5)) + 1)) 297 (256 * i + 11) (nI kd)) 297 (256 * i + 4) (((uI (uI I 297 (256 * i + kd + 5) ((I 297 (256 * i + kd + 5)) + 1)) 297 (256 * i + 11) (nI kd)) 297 (256 * i + 4)) + 8) else uI (uI I 297 (256 * i + kd + 5) ((I 297 (256 * i + kd + 5)) + 1)) 297 (256 * i + 11) (nI kd)) else i11_receives i 1 (uI (uI I 297 (256 * i + kd + 5) ((I 297 (256 * i + kd + 5)) + 1)) 297 (256 * i + 11) (nI kd)) L) L) L) = true then false else true)) else i11_goes i 1 (if (r11_isTransmitting i (uI (uI I 297 (256 * i + kd + 5) ((I 297 (256 * i + kd + 5)) + 1)) 297 (256 * i + 11) (nI kd)) L) = true then (if (¬ (nI kd = 5)) ∨ (¬ ((r11_isPassiveNow i (uI (uI I 297 (256 * i + kd + 5) ((I 297 (256 * i + kd + 5)) + 1)) 297 (256 * i + 11) (nI kd)) L) = true)) then uI (uI (uI I 297 (256 * i + kd + 5) ((I 297 (256 * i + kd + 5)) + 1)) 297 (256 * i + 11) (nI kd)) 297 (256 * i + 4) (((uI (uI I 297 (256 * i + kd + 5) ((I 297 (256 * i + kd + 5)) + 1)) 297 (256 * i + 11) (nI kd)) 297 (256 * i + 4)) + 8) else uI (uI I 297 (256 * i + kd + 5) ((I 297 (256 * i + kd + 5)) + 1)) 297 (256 * i + 11) (nI kd)) else i11_receives i 1 (uI (uI I 297 (256 * i + kd + 5) ((I 297 (256 * i + kd + 5)) + 1)) 297 (256 * i + 11) (nI kd)) L) L)
set_option maxRecDepth 4000 in
theorem v11_errs (g : GlT)  (i : Nat) (kd : Nat) (hi : i < 4) (hkd : kd < 6) (I : Nat → Nat → Int32) (L : Nat → Nat → Int64) (Q : Option Value → MemT → Prop) (hq : Q (none) (i11_errs i kd I L, L, R0, 305)) : V g (k11_errs, 4, 0, 0) 0 0 0 [(0, .ref (xA g 296)), (1, .int (nI i)), (2, .int (nI kd))] [] (I, L, R0, 305) Q := by
  refine V_aload_n (pc1 := 1) 0 d11_errs_0 rfl rfl ?_
  refine V_getr (pc1 := 4) ly296 (lt305 rfl) f11_7 (fun _ => rfl) rf296_0 d11_errs_1 rfl ?_
  refine V_iload_n (pc1 := 5) 1 d11_errs_4 rfl rfl ?_
  refine V_iconst (pc1 := 6) d11_errs_5 vc_5 rfl ?_
  refine V_iload_n (pc1 := 7) 2 d11_errs_6 rfl rfl ?_
  refine V_addN (pc1 := 8) (a := 5) (b := kd) (c := kd + 5) rfl rfl (by omega) d11_errs_7 rfl ?_
  refine V_si (pc1 := 11) (w11_at2 g  i (kd + 5) (256 * i + kd + 5) (by omega) I L ) s11_at l11_35 rfl rfl ⟨Nat.le_of_ble_eq_true rfl, Nat.le_of_ble_eq_true rfl, Nat.le_refl _, Nat.le_refl _⟩ (Nat.le_of_ble_eq_true rfl) rfl d11_errs_8 rfl ?_
  refine V_dup2 (pc1 := 12) d11_errs_11 rfl rfl rfl ?_
  refine V_iald2 (pc1 := 13) (256 * i + kd + 5) ly297 (lt305 rfl) rfl (by omega) rfl d11_errs_12 rfl ?_
  refine V_iconst (pc1 := 14) d11_errs_13 vc_1 rfl ?_
  refine V_iadd (pc1 := 15) d11_errs_14 rfl ?_
  refine V_iast (pc1 := 16) (256 * i + kd + 5) ly297 (lt305 rfl) rfl (by omega) d11_errs_15 rfl ?_
  refine V_aload_n (pc1 := 17) 0 d11_errs_16 rfl rfl ?_
  refine V_getr (pc1 := 20) ly296 (lt305 rfl) f11_7 (fun _ => rfl) rf296_0 d11_errs_17 rfl ?_
  refine V_iload_n (pc1 := 21) 1 d11_errs_20 rfl rfl ?_
  refine V_bipush (pc1 := 23) d11_errs_21 vb_11 rfl ?_
  refine V_si (pc1 := 26) (w11_at2 g  i 11 (256 * i + 11) (by omega) (uI I 297 (256 * i + kd + 5) ((I 297 (256 * i + kd + 5)) + 1)) L ) s11_at l11_35 rfl rfl ⟨Nat.le_of_ble_eq_true rfl, Nat.le_of_ble_eq_true rfl, Nat.le_refl _, Nat.le_refl _⟩ (Nat.le_of_ble_eq_true rfl) rfl d11_errs_23 rfl ?_
  refine V_iload_n (pc1 := 27) 2 d11_errs_26 rfl rfl ?_
  refine V_iast (pc1 := 28) (256 * i + 11) ly297 (lt305 rfl) rfl (by omega) d11_errs_27 rfl ?_
  refine V_aload_n (pc1 := 29) 0 d11_errs_28 rfl rfl ?_
  refine V_iload_n (pc1 := 30) 1 d11_errs_29 rfl rfl ?_
  refine V_vi (pc1 := 33) (w11_isTransmitting g  i hi (uI (uI I 297 (256 * i + kd + 5) ((I 297 (256 * i + kd + 5)) + 1)) 297 (256 * i + 11) (nI kd)) L ) ly296 (lt305 rfl) s11_isTransmitting l11_110 rfl rfl ⟨Nat.le_of_ble_eq_true rfl, Nat.le_of_ble_eq_true rfl, Nat.le_refl _, Nat.le_refl _⟩ (Nat.le_of_ble_eq_true rfl) rfl d11_errs_30 rfl ?_
  have key7 : ∀ (zI73 : Nat → Nat → Int32), zI73 = (if (r11_isTransmitting i (uI (uI I 297 (256 * i + kd + 5) ((I 297 (256 * i + kd + 5)) + 1)) 297 (256 * i + 11) (nI kd)) L) = true then (if (¬ (nI kd = 5)) ∨ (¬ ((r11_isPassiveNow i (uI (uI I 297 (256 * i + kd + 5) ((I 297 (256 * i + kd + 5)) + 1)) 297 (256 * i + 11) (nI kd)) L) = true)) then uI (uI (uI I 297 (256 * i + kd + 5) ((I 297 (256 * i + kd + 5)) + 1)) 297 (256 * i + 11) (nI kd)) 297 (256 * i + 4) (((uI (uI I 297 (256 * i + kd + 5) ((I 297 (256 * i + kd + 5)) + 1)) 297 (256 * i + 11) (nI kd)) 297 (256 * i + 4)) + 8) else uI (uI I 297 (256 * i + kd + 5) ((I 297 (256 * i + kd + 5)) + 1)) 297 (256 * i + 11) (nI kd)) else i11_receives i 1 (uI (uI I 297 (256 * i + kd + 5) ((I 297 (256 * i + kd + 5)) + 1)) 297 (256 * i + 11) (nI kd)) L) → ∀ (lv : List (Nat × Value)), lvsub [(0, .ref (xA g 296)), (1, .int (nI i)), (2, .int (nI kd))] lv → V g (k11_errs, 4, 0, 0) 0 0 73 lv [] (zI73, L, R0, 305) Q := by
    intro zI73 ezI73
    subst ezI73
    intro lv hlv
    refine V_lv hlv ?_
    refine V_aload_n (pc1 := 74) 0 d11_errs_73 rfl rfl ?_
    refine V_getr (pc1 := 77) ly296 (lt305 rfl) f11_7 (fun _ => rfl) rf296_0 d11_errs_74 rfl ?_
    refine V_iload_n (pc1 := 78) 1 d11_errs_77 rfl rfl ?_
    refine V_iconst (pc1 := 79) d11_errs_78 vc_4 rfl ?_
    refine V_si (pc1 := 82) (w11_at2 g  i 4 (256 * i + 4) (by omega) (if (r11_isTransmitting i (uI (uI I 297 (256 * i + kd + 5) ((I 297 (256 * i + kd + 5)) + 1)) 297 (256 * i + 11) (nI kd)) L) = true then (if (¬ (nI kd = 5)) ∨ (¬ ((r11_isPassiveNow i (uI (uI I 297 (256 * i + kd + 5) ((I 297 (256 * i + kd + 5)) + 1)) 297 (256 * i + 11) (nI kd)) L) = true)) then uI (uI (uI I 297 (256 * i + kd + 5) ((I 297 (256 * i + kd + 5)) + 1)) 297 (256 * i + 11) (nI kd)) 297 (256 * i + 4) (((uI (uI I 297 (256 * i + kd + 5) ((I 297 (256 * i + kd + 5)) + 1)) 297 (256 * i + 11) (nI kd)) 297 (256 * i + 4)) + 8) else uI (uI I 297 (256 * i + kd + 5) ((I 297 (256 * i + kd + 5)) + 1)) 297 (256 * i + 11) (nI kd)) else i11_receives i 1 (uI (uI I 297 (256 * i + kd + 5) ((I 297 (256 * i + kd + 5)) + 1)) 297 (256 * i + 11) (nI kd)) L) L ) s11_at l11_35 rfl rfl ⟨Nat.le_of_ble_eq_true rfl, Nat.le_of_ble_eq_true rfl, Nat.le_refl _, Nat.le_refl _⟩ (Nat.le_of_ble_eq_true rfl) rfl d11_errs_79 rfl ?_
    refine V_iald2 (pc1 := 83) (256 * i + 4) ly297 (lt305 rfl) rfl (by omega) rfl d11_errs_82 rfl ?_
    refine V_aload_n (pc1 := 84) 0 d11_errs_83 rfl rfl ?_
    refine V_getr (pc1 := 87) ly296 (lt305 rfl) f11_7 (fun _ => rfl) rf296_0 d11_errs_84 rfl ?_
    refine V_sipush (pc1 := 90) d11_errs_87 vs_1026 rfl ?_
    refine V_iald2 (pc1 := 91) 1026 ly297 (lt305 rfl) rfl (Nat.le_of_ble_eq_true rfl) rfl d11_errs_90 rfl ?_
    have key11 : ∀ (zI133 : Nat → Nat → Int32), zI133 = (if (if (r11_isTransmitting i (uI (uI I 297 (256 * i + kd + 5) ((I 297 (256 * i + kd + 5)) + 1)) 297 (256 * i + 11) (nI kd)) L) = true then (if (¬ (nI kd = 5)) ∨ (¬ ((r11_isPassiveNow i (uI (uI I 297 (256 * i + kd + 5) ((I 297 (256 * i + kd + 5)) + 1)) 297 (256 * i + 11) (nI kd)) L) = true)) then uI (uI (uI I 297 (256 * i + kd + 5) ((I 297 (256 * i + kd + 5)) + 1)) 297 (256 * i + 11) (nI kd)) 297 (256 * i + 4) (((uI (uI I 297 (256 * i + kd + 5) ((I 297 (256 * i + kd + 5)) + 1)) 297 (256 * i + 11) (nI kd)) 297 (256 * i + 4)) + 8) else uI (uI I 297 (256 * i + kd + 5) ((I 297 (256 * i + kd + 5)) + 1)) 297 (256 * i + 11) (nI kd)) else i11_receives i 1 (uI (uI I 297 (256 * i + kd + 5) ((I 297 (256 * i + kd + 5)) + 1)) 297 (256 * i + 11) (nI kd)) L) 297 (256 * i + 4) < (if (r11_isTransmitting i (uI (uI I 297 (256 * i + kd + 5) ((I 297 (256 * i + kd + 5)) + 1)) 297 (256 * i + 11) (nI kd)) L) = true then (if (¬ (nI kd = 5)) ∨ (¬ ((r11_isPassiveNow i (uI (uI I 297 (256 * i + kd + 5) ((I 297 (256 * i + kd + 5)) + 1)) 297 (256 * i + 11) (nI kd)) L) = true)) then uI (uI (uI I 297 (256 * i + kd + 5) ((I 297 (256 * i + kd + 5)) + 1)) 297 (256 * i + 11) (nI kd)) 297 (256 * i + 4) (((uI (uI I 297 (256 * i + kd + 5) ((I 297 (256 * i + kd + 5)) + 1)) 297 (256 * i + 11) (nI kd)) 297 (256 * i + 4)) + 8) else uI (uI I 297 (256 * i + kd + 5) ((I 297 (256 * i + kd + 5)) + 1)) 297 (256 * i + 11) (nI kd)) else i11_receives i 1 (uI (uI I 297 (256 * i + kd + 5) ((I 297 (256 * i + kd + 5)) + 1)) 297 (256 * i + 11) (nI kd)) L) 297 1026 then uI (i11_goes i 5 (if (r11_isTransmitting i (uI (uI I 297 (256 * i + kd + 5) ((I 297 (256 * i + kd + 5)) + 1)) 297 (256 * i + 11) (nI kd)) L) = true then (if (¬ (nI kd = 5)) ∨ (¬ ((r11_isPassiveNow i (uI (uI I 297 (256 * i + kd + 5) ((I 297 (256 * i + kd + 5)) + 1)) 297 (256 * i + 11) (nI kd)) L) = true)) then uI (uI (uI I 297 (256 * i + kd + 5) ((I 297 (256 * i + kd + 5)) + 1)) 297 (256 * i + 11) (nI kd)) 297 (256 * i + 4) (((uI (uI I 297 (256 * i + kd + 5) ((I 297 (256 * i + kd + 5)) + 1)) 297 (256 * i + 11) (nI kd)) 297 (256 * i + 4)) + 8) else uI (uI I 297 (256 * i + kd + 5) ((I 297 (256 * i + kd + 5)) + 1)) 297 (256 * i + 11) (nI kd)) else i11_receives i 1 (uI (uI I 297 (256 * i + kd + 5) ((I 297 (256 * i + kd + 5)) + 1)) 297 (256 * i + 11) (nI kd)) L) L) 297 (256 * i + 18) (bI (if (r11_isPassiveNow i (i11_goes i 5 (if (r11_isTransmitting i (uI (uI I 297 (256 * i + kd + 5) ((I 297 (256 * i + kd + 5)) + 1)) 297 (256 * i + 11) (nI kd)) L) = true then (if (¬ (nI kd = 5)) ∨ (¬ ((r11_isPassiveNow i (uI (uI I 297 (256 * i + kd + 5) ((I 297 (256 * i + kd + 5)) + 1)) 297 (256 * i + 11) (nI kd)) L) = true)) then uI (uI (uI I 297 (256 * i + kd + 5) ((I 297 (256 * i + kd + 5)) + 1)) 297 (256 * i + 11) (nI kd)) 297 (256 * i + 4) (((uI (uI I 297 (256 * i + kd + 5) ((I 297 (256 * i + kd + 5)) + 1)) 297 (256 * i + 11) (nI kd)) 297 (256 * i + 4)) + 8) else uI (uI I 297 (256 * i + kd + 5) ((I 297 (256 * i + kd + 5)) + 1)) 297 (256 * i + 11) (nI kd)) else i11_receives i 1 (uI (uI I 297 (256 * i + kd + 5) ((I 297 (256 * i + kd + 5)) + 1)) 297 (256 * i + 11) (nI kd)) L) L) L) = true then false else true)) else i11_goes i 1 (if (r11_isTransmitting i (uI (uI I 297 (256 * i + kd + 5) ((I 297 (256 * i + kd + 5)) + 1)) 297 (256 * i + 11) (nI kd)) L) = true then (if (¬ (nI kd = 5)) ∨ (¬ ((r11_isPassiveNow i (uI (uI I 297 (256 * i + kd + 5) ((I 297 (256 * i + kd + 5)) + 1)) 297 (256 * i + 11) (nI kd)) L) = true)) then uI (uI (uI I 297 (256 * i + kd + 5) ((I 297 (256 * i + kd + 5)) + 1)) 297 (256 * i + 11) (nI kd)) 297 (256 * i + 4) (((uI (uI I 297 (256 * i + kd + 5) ((I 297 (256 * i + kd + 5)) + 1)) 297 (256 * i + 11) (nI kd)) 297 (256 * i + 4)) + 8) else uI (uI I 297 (256 * i + kd + 5) ((I 297 (256 * i + kd + 5)) + 1)) 297 (256 * i + 11) (nI kd)) else i11_receives i 1 (uI (uI I 297 (256 * i + kd + 5) ((I 297 (256 * i + kd + 5)) + 1)) 297 (256 * i + 11) (nI kd)) L) L) → ∀ (lv : List (Nat × Value)), lvsub [(0, .ref (xA g 296)), (1, .int (nI i)), (2, .int (nI kd))] lv → V g (k11_errs, 4, 0, 0) 0 0 133 lv [] (zI133, L, R0, 305) Q := by
      intro zI133 ezI133
      subst ezI133
      intro lv hlv
      refine V_lv hlv ?_
      refine V_vret rfl d11_errs_133 (Nat.zero_le _) (Nat.zero_le _) ?_
      have hq2 := hq
      simp only [i11_errs] at hq2
      exact hq2
    refine V_icmp_lt (tgt := 103) (pc1 := 94) d11_errs_91 (by decide) rfl (fun h8 => ?_) (fun h8 => ?_)
    · skip
      refine V_aload_n (pc1 := 104) 0 d11_errs_103 rfl rfl ?_
      refine V_iload_n (pc1 := 105) 1 d11_errs_104 rfl rfl ?_
      refine V_iconst (pc1 := 106) d11_errs_105 vc_5 rfl ?_
      refine V_vv (pc1 := 109) (w11_goes g  i 5 hi (if (r11_isTransmitting i (uI (uI I 297 (256 * i + kd + 5) ((I 297 (256 * i + kd + 5)) + 1)) 297 (256 * i + 11) (nI kd)) L) = true then (if (¬ (nI kd = 5)) ∨ (¬ ((r11_isPassiveNow i (uI (uI I 297 (256 * i + kd + 5) ((I 297 (256 * i + kd + 5)) + 1)) 297 (256 * i + 11) (nI kd)) L) = true)) then uI (uI (uI I 297 (256 * i + kd + 5) ((I 297 (256 * i + kd + 5)) + 1)) 297 (256 * i + 11) (nI kd)) 297 (256 * i + 4) (((uI (uI I 297 (256 * i + kd + 5) ((I 297 (256 * i + kd + 5)) + 1)) 297 (256 * i + 11) (nI kd)) 297 (256 * i + 4)) + 8) else uI (uI I 297 (256 * i + kd + 5) ((I 297 (256 * i + kd + 5)) + 1)) 297 (256 * i + 11) (nI kd)) else i11_receives i 1 (uI (uI I 297 (256 * i + kd + 5) ((I 297 (256 * i + kd + 5)) + 1)) 297 (256 * i + 11) (nI kd)) L) L ) ly296 (lt305 rfl) s11_goes l11_84 rfl rfl ⟨Nat.le_of_ble_eq_true rfl, Nat.le_of_ble_eq_true rfl, Nat.le_refl _, Nat.le_refl _⟩ (Nat.le_of_ble_eq_true rfl) rfl d11_errs_106 rfl ?_
      refine V_aload_n (pc1 := 110) 0 d11_errs_109 rfl rfl ?_
      refine V_getr (pc1 := 113) ly296 (lt305 rfl) f11_7 (fun _ => rfl) rf296_0 d11_errs_110 rfl ?_
      refine V_iload_n (pc1 := 114) 1 d11_errs_113 rfl rfl ?_
      refine V_bipush (pc1 := 116) d11_errs_114 vb_18 rfl ?_
      refine V_si (pc1 := 119) (w11_at2 g  i 18 (256 * i + 18) (by omega) (i11_goes i 5 (if (r11_isTransmitting i (uI (uI I 297 (256 * i + kd + 5) ((I 297 (256 * i + kd + 5)) + 1)) 297 (256 * i + 11) (nI kd)) L) = true then (if (¬ (nI kd = 5)) ∨ (¬ ((r11_isPassiveNow i (uI (uI I 297 (256 * i + kd + 5) ((I 297 (256 * i + kd + 5)) + 1)) 297 (256 * i + 11) (nI kd)) L) = true)) then uI (uI (uI I 297 (256 * i + kd + 5) ((I 297 (256 * i + kd + 5)) + 1)) 297 (256 * i + 11) (nI kd)) 297 (256 * i + 4) (((uI (uI I 297 (256 * i + kd + 5) ((I 297 (256 * i + kd + 5)) + 1)) 297 (256 * i + 11) (nI kd)) 297 (256 * i + 4)) + 8) else uI (uI I 297 (256 * i + kd + 5) ((I 297 (256 * i + kd + 5)) + 1)) 297 (256 * i + 11) (nI kd)) else i11_receives i 1 (uI (uI I 297 (256 * i + kd + 5) ((I 297 (256 * i + kd + 5)) + 1)) 297 (256 * i + 11) (nI kd)) L) L) L ) s11_at l11_35 rfl rfl ⟨Nat.le_of_ble_eq_true rfl, Nat.le_of_ble_eq_true rfl, Nat.le_refl _, Nat.le_refl _⟩ (Nat.le_of_ble_eq_true rfl) rfl d11_errs_116 rfl ?_
      refine V_aload_n (pc1 := 120) 0 d11_errs_119 rfl rfl ?_
      refine V_iload_n (pc1 := 121) 1 d11_errs_120 rfl rfl ?_
      refine V_vi (pc1 := 124) (w11_isPassiveNow g  i hi (i11_goes i 5 (if (r11_isTransmitting i (uI (uI I 297 (256 * i + kd + 5) ((I 297 (256 * i + kd + 5)) + 1)) 297 (256 * i + 11) (nI kd)) L) = true then (if (¬ (nI kd = 5)) ∨ (¬ ((r11_isPassiveNow i (uI (uI I 297 (256 * i + kd + 5) ((I 297 (256 * i + kd + 5)) + 1)) 297 (256 * i + 11) (nI kd)) L) = true)) then uI (uI (uI I 297 (256 * i + kd + 5) ((I 297 (256 * i + kd + 5)) + 1)) 297 (256 * i + 11) (nI kd)) 297 (256 * i + 4) (((uI (uI I 297 (256 * i + kd + 5) ((I 297 (256 * i + kd + 5)) + 1)) 297 (256 * i + 11) (nI kd)) 297 (256 * i + 4)) + 8) else uI (uI I 297 (256 * i + kd + 5) ((I 297 (256 * i + kd + 5)) + 1)) 297 (256 * i + 11) (nI kd)) else i11_receives i 1 (uI (uI I 297 (256 * i + kd + 5) ((I 297 (256 * i + kd + 5)) + 1)) 297 (256 * i + 11) (nI kd)) L) L) L ) ly296 (lt305 rfl) s11_isPassiveNow l11_119 rfl rfl ⟨Nat.le_of_ble_eq_true rfl, Nat.le_of_ble_eq_true rfl, Nat.le_refl _, Nat.le_refl _⟩ (Nat.le_of_ble_eq_true rfl) rfl d11_errs_121 rfl ?_
      have key10 : ∀ (y132_0 : Int32), y132_0 = bI (if (r11_isPassiveNow i (i11_goes i 5 (if (r11_isTransmitting i (uI (uI I 297 (256 * i + kd + 5) ((I 297 (256 * i + kd + 5)) + 1)) 297 (256 * i + 11) (nI kd)) L) = true then (if (¬ (nI kd = 5)) ∨ (¬ ((r11_isPassiveNow i (uI (uI I 297 (256 * i + kd + 5) ((I 297 (256 * i + kd + 5)) + 1)) 297 (256 * i + 11) (nI kd)) L) = true)) then uI (uI (uI I 297 (256 * i + kd + 5) ((I 297 (256 * i + kd + 5)) + 1)) 297 (256 * i + 11) (nI kd)) 297 (256 * i + 4) (((uI (uI I 297 (256 * i + kd + 5) ((I 297 (256 * i + kd + 5)) + 1)) 297 (256 * i + 11) (nI kd)) 297 (256 * i + 4)) + 8) else uI (uI I 297 (256 * i + kd + 5) ((I 297 (256 * i + kd + 5)) + 1)) 297 (256 * i + 11) (nI kd)) else i11_receives i 1 (uI (uI I 297 (256 * i + kd + 5) ((I 297 (256 * i + kd + 5)) + 1)) 297 (256 * i + 11) (nI kd)) L) L) L) = true then false else true) → ∀ (lv : List (Nat × Value)), lvsub [(0, .ref (xA g 296)), (1, .int (nI i)), (2, .int (nI kd))] lv → V g (k11_errs, 4, 0, 0) 0 0 132 lv [.int y132_0, .int (nI (256 * i + 18)), .ref (xA g 297)] (i11_goes i 5 (if (r11_isTransmitting i (uI (uI I 297 (256 * i + kd + 5) ((I 297 (256 * i + kd + 5)) + 1)) 297 (256 * i + 11) (nI kd)) L) = true then (if (¬ (nI kd = 5)) ∨ (¬ ((r11_isPassiveNow i (uI (uI I 297 (256 * i + kd + 5) ((I 297 (256 * i + kd + 5)) + 1)) 297 (256 * i + 11) (nI kd)) L) = true)) then uI (uI (uI I 297 (256 * i + kd + 5) ((I 297 (256 * i + kd + 5)) + 1)) 297 (256 * i + 11) (nI kd)) 297 (256 * i + 4) (((uI (uI I 297 (256 * i + kd + 5) ((I 297 (256 * i + kd + 5)) + 1)) 297 (256 * i + 11) (nI kd)) 297 (256 * i + 4)) + 8) else uI (uI I 297 (256 * i + kd + 5) ((I 297 (256 * i + kd + 5)) + 1)) 297 (256 * i + 11) (nI kd)) else i11_receives i 1 (uI (uI I 297 (256 * i + kd + 5) ((I 297 (256 * i + kd + 5)) + 1)) 297 (256 * i + 11) (nI kd)) L) L, L, R0, 305) Q := by
        intro y132_0 ey132_0
        subst ey132_0
        intro lv hlv
        refine V_lv hlv ?_
        refine V_iast (pc1 := 133) (256 * i + 18) ly297 (lt305 rfl) rfl (by omega) d11_errs_132 rfl ?_
        exact key11 _ (by first | rfl | (simp only [if_pos h8]; done) | (simp only [if_pos h8]; rfl)) _ (lvsub_p [0, 1, 2] rfl)
      refine V_beq (tgt := 131) (pc1 := 127) d11_errs_124 (by decide) rfl (fun h9 => ?_) (fun h9 => ?_)
      · skip
        refine V_iconst (pc1 := 132) d11_errs_131 vc_1 rfl ?_
        exact key10 _ (by first | rfl | (simp only [if_neg h9]; done) | (simp only [if_neg h9]; rfl)) _ (lvsub_p [0, 1, 2] rfl)
      · skip
        refine V_iconst (pc1 := 128) d11_errs_127 vc_0 rfl ?_
        refine V_goto (tgt := 132) d11_errs_128 (by decide) ?_
        exact key10 _ (by first | rfl | (simp only [if_pos h9]; done) | (simp only [if_pos h9]; rfl)) _ (lvsub_p [0, 1, 2] rfl)
    · skip
      refine V_aload_n (pc1 := 95) 0 d11_errs_94 rfl rfl ?_
      refine V_iload_n (pc1 := 96) 1 d11_errs_95 rfl rfl ?_
      refine V_iconst (pc1 := 97) d11_errs_96 vc_1 rfl ?_
      refine V_vv (pc1 := 100) (w11_goes g  i 1 hi (if (r11_isTransmitting i (uI (uI I 297 (256 * i + kd + 5) ((I 297 (256 * i + kd + 5)) + 1)) 297 (256 * i + 11) (nI kd)) L) = true then (if (¬ (nI kd = 5)) ∨ (¬ ((r11_isPassiveNow i (uI (uI I 297 (256 * i + kd + 5) ((I 297 (256 * i + kd + 5)) + 1)) 297 (256 * i + 11) (nI kd)) L) = true)) then uI (uI (uI I 297 (256 * i + kd + 5) ((I 297 (256 * i + kd + 5)) + 1)) 297 (256 * i + 11) (nI kd)) 297 (256 * i + 4) (((uI (uI I 297 (256 * i + kd + 5) ((I 297 (256 * i + kd + 5)) + 1)) 297 (256 * i + 11) (nI kd)) 297 (256 * i + 4)) + 8) else uI (uI I 297 (256 * i + kd + 5) ((I 297 (256 * i + kd + 5)) + 1)) 297 (256 * i + 11) (nI kd)) else i11_receives i 1 (uI (uI I 297 (256 * i + kd + 5) ((I 297 (256 * i + kd + 5)) + 1)) 297 (256 * i + 11) (nI kd)) L) L ) ly296 (lt305 rfl) s11_goes l11_84 rfl rfl ⟨Nat.le_of_ble_eq_true rfl, Nat.le_of_ble_eq_true rfl, Nat.le_refl _, Nat.le_refl _⟩ (Nat.le_of_ble_eq_true rfl) rfl d11_errs_97 rfl ?_
      refine V_goto (tgt := 133) d11_errs_100 (by decide) ?_
      exact key11 _ (by first | rfl | (simp only [if_neg h8]; done) | (simp only [if_neg h8]; rfl)) _ (lvsub_p [0, 1, 2] rfl)
  refine V_bne (tgt := 45) (pc1 := 36) d11_errs_33 (by decide) rfl (fun h1 => ?_) (fun h1 => ?_)
  · skip
    refine V_iload_n (pc1 := 46) 2 d11_errs_45 rfl rfl ?_
    refine V_iconst (pc1 := 47) d11_errs_46 vc_5 rfl ?_
    have k3 : ((¬ (nI kd = 5)) ∨ (¬ ((r11_isPassiveNow i (uI (uI I 297 (256 * i + kd + 5) ((I 297 (256 * i + kd + 5)) + 1)) 297 (256 * i + 11) (nI kd)) L) = true))) → V g (k11_errs, 4, 0, 0) 0 0 58 [(0, .ref (xA g 296)), (1, .int (nI i)), (2, .int (nI kd))] [] (uI (uI I 297 (256 * i + kd + 5) ((I 297 (256 * i + kd + 5)) + 1)) 297 (256 * i + 11) (nI kd), L, R0, 305) Q := by
      intro h2
      refine V_aload_n (pc1 := 59) 0 d11_errs_58 rfl rfl ?_
      refine V_getr (pc1 := 62) ly296 (lt305 rfl) f11_7 (fun _ => rfl) rf296_0 d11_errs_59 rfl ?_
      refine V_iload_n (pc1 := 63) 1 d11_errs_62 rfl rfl ?_
      refine V_iconst (pc1 := 64) d11_errs_63 vc_4 rfl ?_
      refine V_si (pc1 := 67) (w11_at2 g  i 4 (256 * i + 4) (by omega) (uI (uI I 297 (256 * i + kd + 5) ((I 297 (256 * i + kd + 5)) + 1)) 297 (256 * i + 11) (nI kd)) L ) s11_at l11_35 rfl rfl ⟨Nat.le_of_ble_eq_true rfl, Nat.le_of_ble_eq_true rfl, Nat.le_refl _, Nat.le_refl _⟩ (Nat.le_of_ble_eq_true rfl) rfl d11_errs_64 rfl ?_
      refine V_dup2 (pc1 := 68) d11_errs_67 rfl rfl rfl ?_
      refine V_iald2 (pc1 := 69) (256 * i + 4) ly297 (lt305 rfl) rfl (by omega) rfl d11_errs_68 rfl ?_
      refine V_bipush (pc1 := 71) d11_errs_69 vb_8 rfl ?_
      refine V_iadd (pc1 := 72) d11_errs_71 rfl ?_
      refine V_iast (pc1 := 73) (256 * i + 4) ly297 (lt305 rfl) rfl (by omega) d11_errs_72 rfl ?_
      exact key7 _ (by first | rfl | (simp only [if_pos h1, if_pos h2]; done) | (simp only [if_pos h1, if_pos h2]; rfl)) _ (lvsub_p [0, 1, 2] rfl)
    have k4 : ¬ ((¬ (nI kd = 5)) ∨ (¬ ((r11_isPassiveNow i (uI (uI I 297 (256 * i + kd + 5) ((I 297 (256 * i + kd + 5)) + 1)) 297 (256 * i + 11) (nI kd)) L) = true))) → V g (k11_errs, 4, 0, 0) 0 0 73 [(0, .ref (xA g 296)), (1, .int (nI i)), (2, .int (nI kd))] [] (uI (uI I 297 (256 * i + kd + 5) ((I 297 (256 * i + kd + 5)) + 1)) 297 (256 * i + 11) (nI kd), L, R0, 305) Q := by
      intro h2
      exact key7 _ (by first | rfl | (simp only [if_pos h1, if_neg h2]; done) | (simp only [if_pos h1, if_neg h2]; rfl)) _ (lvsub_p [0, 1, 2] rfl)
    refine V_icmp_ne (tgt := 58) (pc1 := 50) d11_errs_47 (by decide) rfl (fun h5 => ?_) (fun h5 => ?_)
    · skip
      exact k3 (Or.inl h5)
    · skip
      refine V_aload_n (pc1 := 51) 0 d11_errs_50 rfl rfl ?_
      refine V_iload_n (pc1 := 52) 1 d11_errs_51 rfl rfl ?_
      refine V_vi (pc1 := 55) (w11_isPassiveNow g  i hi (uI (uI I 297 (256 * i + kd + 5) ((I 297 (256 * i + kd + 5)) + 1)) 297 (256 * i + 11) (nI kd)) L ) ly296 (lt305 rfl) s11_isPassiveNow l11_119 rfl rfl ⟨Nat.le_of_ble_eq_true rfl, Nat.le_of_ble_eq_true rfl, Nat.le_refl _, Nat.le_refl _⟩ (Nat.le_of_ble_eq_true rfl) rfl d11_errs_52 rfl ?_
      refine V_bne (tgt := 73) (pc1 := 58) d11_errs_55 (by decide) rfl (fun h6 => ?_) (fun h6 => ?_)
      · skip
        exact k4 (fun z => z.elim (fun z => z h5) (fun z => z h6))
      · skip
        exact k3 (Or.inr h6)
  · skip
    refine V_aload_n (pc1 := 37) 0 d11_errs_36 rfl rfl ?_
    refine V_iload_n (pc1 := 38) 1 d11_errs_37 rfl rfl ?_
    refine V_iconst (pc1 := 39) d11_errs_38 vc_1 rfl ?_
    refine V_vv (pc1 := 42) (w11_receives g  i 1 hi (uI (uI I 297 (256 * i + kd + 5) ((I 297 (256 * i + kd + 5)) + 1)) 297 (256 * i + 11) (nI kd)) L ) ly296 (lt305 rfl) s11_receives l11_116 rfl rfl ⟨Nat.le_of_ble_eq_true rfl, Nat.le_of_ble_eq_true rfl, Nat.le_refl _, Nat.le_refl _⟩ (Nat.le_of_ble_eq_true rfl) rfl d11_errs_39 rfl ?_
    refine V_goto (tgt := 73) d11_errs_42 (by decide) ?_
    exact key7 _ (by first | rfl | (simp only [if_neg h1]; done) | (simp only [if_neg h1]; rfl)) _ (lvsub_p [0, 1, 2] rfl)
theorem w11_errs (g : GlT)  (i : Nat) (kd : Nat) (hi : i < 4) (hkd : kd < 6) (I : Nat → Nat → Int32) (L : Nat → Nat → Int64) : Call g (k11_errs, 4, 0, 0) [.ref (xA g 296), .int (nI i), .int (nI kd)] (I, L, R0, 305) (Qv (i11_errs i kd I L) L) := Call.of (by decide) (Nat.le_of_ble_eq_true rfl) rfl (v11_errs g  i kd hi hkd I L  _ (And.intro rfl rfl))

theorem xs11_errs {i : Nat} {kd : Nat} {I : Nat → Nat → Int32} {L : Nat → Nat → Int64} {s0 : Nat} (h0 : s0 ≠ 256 * i) (h1 : s0 ≠ 256 * i + 1) (h2 : s0 ≠ 256 * i + 11) (h3 : s0 ≠ 256 * i + 13) (h4 : s0 ≠ 256 * i + 18) (h5 : s0 ≠ 256 * i + 2) (h6 : s0 ≠ 256 * i + 3) (h7 : s0 ≠ 256 * i + 34) (h8 : s0 ≠ 256 * i + 39) (h9 : s0 ≠ 256 * i + 4) (h10 : s0 ≠ 256 * i + 44) (h11 : s0 ≠ 256 * i + 49) (h12 : s0 ≠ 256 * i + 5) (h13 : s0 ≠ 256 * i + kd + 5) : i11_errs i kd I L 297 s0 = I 297 s0 := by
  first | (simp only [i11_errs]; done) | (simp only [i11_errs]; (try (repeat' split)) <;> first | rfl | (simp [uI_eq, h0, h1, h2, h3, h4, h5, h6, h7, h8, h9, h10, h11, h12, h13, xs11_goes, xs11_receives]; done))

def i11_idles (i : Nat) (x : Int32) (I : Nat → Nat → Int32) (L : Nat → Nat → Int64) : Nat → Nat → Int32 := (if x = 0 then i11_begins i (bI (if I 297 (256 * i + 26) = 0 then true else false)) I L else (if (if I 297 (256 * i + 26) = 0 then true else false) = true then i11_errs i 1 (uI I 297 (256 * i + 1) 1) L else I))
set_option maxRecDepth 4000 in
theorem v11_idles (g : GlT)  (i : Nat) (x : Int32) (hi : i < 4) (q : Nat) (hq4 : q ≤ 4) (I : Nat → Nat → Int32) (L : Nat → Nat → Int64) (hq0 : I 297 (256 * i + 32) = nI q) (Q : Option Value → MemT → Prop) (hq : Q (none) (i11_idles i x I L, L, R0, 305)) : V g (k11_idles, 5, 0, 0) 0 0 0 [(0, .ref (xA g 296)), (1, .int (nI i)), (2, .int x)] [] (I, L, R0, 305) Q := by
  refine V_aload_n (pc1 := 1) 0 d11_idles_0 rfl rfl ?_
  refine V_getr (pc1 := 4) ly296 (lt305 rfl) f11_7 (fun _ => rfl) rf296_0 d11_idles_1 rfl ?_
  refine V_iload_n (pc1 := 5) 1 d11_idles_4 rfl rfl ?_
  refine V_bipush (pc1 := 7) d11_idles_5 vb_26 rfl ?_
  refine V_si (pc1 := 10) (w11_at2 g  i 26 (256 * i + 26) (by omega) I L ) s11_at l11_35 rfl rfl ⟨Nat.le_of_ble_eq_true rfl, Nat.le_of_ble_eq_true rfl, Nat.le_refl _, Nat.le_refl _⟩ (Nat.le_of_ble_eq_true rfl) rfl d11_idles_7 rfl ?_
  refine V_iald2 (pc1 := 11) (256 * i + 26) ly297 (lt305 rfl) rfl (by omega) rfl d11_idles_10 rfl ?_
  have key2 : ∀ (y19_0 : Int32), y19_0 = bI (if I 297 (256 * i + 26) = 0 then true else false) → ∀ (lv : List (Nat × Value)), lvsub [(0, .ref (xA g 296)), (1, .int (nI i)), (2, .int x)] lv → V g (k11_idles, 5, 0, 0) 0 0 19 lv [.int y19_0] (I, L, R0, 305) Q := by
    intro y19_0 ey19_0
    subst ey19_0
    intro lv hlv
    refine V_lv hlv ?_
    refine V_istore_n (pc1 := 20) d11_idles_19 (Nat.le_of_ble_eq_true rfl) rfl rfl ?_
    refine V_iload_n (pc1 := 21) 3 d11_idles_20 rfl rfl ?_
    have key5 : ∀ (zI54 : Nat → Nat → Int32), zI54 = (if x = 0 then i11_begins i (bI (if I 297 (256 * i + 26) = 0 then true else false)) I L else (if (if I 297 (256 * i + 26) = 0 then true else false) = true then i11_errs i 1 (uI I 297 (256 * i + 1) 1) L else I)) → ∀ (lv : List (Nat × Value)), lvsub [(3, .int (bI (if I 297 (256 * i + 26) = 0 then true else false))), (0, .ref (xA g 296)), (1, .int (nI i)), (2, .int x)] lv → V g (k11_idles, 5, 0, 0) 0 0 54 lv [] (zI54, L, R0, 305) Q := by
      intro zI54 ezI54
      subst ezI54
      intro lv hlv
      refine V_lv hlv ?_
      refine V_vret rfl d11_idles_54 (Nat.zero_le _) (Nat.zero_le _) ?_
      have hq2 := hq
      simp only [i11_idles] at hq2
      exact hq2
    refine V_if_ne (tgt := 33) (pc1 := 24) d11_idles_21 (by decide) rfl (fun h3 => ?_) (fun h3 => ?_)
    · skip
      refine V_iload_n (pc1 := 34) 0 d11_idles_33 rfl rfl ?_
      refine V_beq (tgt := 54) (pc1 := 37) d11_idles_34 (by decide) rfl (fun h4 => ?_) (fun h4 => ?_)
      · skip
        exact key5 _ (by first | rfl | (simp only [if_neg h3, if_neg h4]; done) | (simp only [if_neg h3, if_neg h4]; rfl)) _ (lvsub_p [0, 1, 2, 3] rfl)
      · skip
        refine V_aload_n (pc1 := 38) 1 d11_idles_37 rfl rfl ?_
        refine V_getr (pc1 := 41) ly296 (lt305 rfl) f11_7 (fun _ => rfl) rf296_0 d11_idles_38 rfl ?_
        refine V_iload_n (pc1 := 42) 2 d11_idles_41 rfl rfl ?_
        refine V_iconst (pc1 := 43) d11_idles_42 vc_1 rfl ?_
        refine V_si (pc1 := 46) (w11_at2 g  i 1 (256 * i + 1) (by omega) I L ) s11_at l11_35 rfl rfl ⟨Nat.le_of_ble_eq_true rfl, Nat.le_of_ble_eq_true rfl, Nat.le_refl _, Nat.le_refl _⟩ (Nat.le_of_ble_eq_true rfl) rfl d11_idles_43 rfl ?_
        refine V_iconst (pc1 := 47) d11_idles_46 vc_1 rfl ?_
        refine V_iast (pc1 := 48) (256 * i + 1) ly297 (lt305 rfl) rfl (by omega) d11_idles_47 rfl ?_
        refine V_aload_n (pc1 := 49) 1 d11_idles_48 rfl rfl ?_
        refine V_iload_n (pc1 := 50) 2 d11_idles_49 rfl rfl ?_
        refine V_iconst (pc1 := 51) d11_idles_50 vc_1 rfl ?_
        refine V_vv (pc1 := 54) (w11_errs g  i 1 hi (by first | decide | omega | (split <;> decide)) (uI I 297 (256 * i + 1) 1) L ) ly296 (lt305 rfl) s11_errs l11_150 rfl rfl ⟨Nat.le_of_ble_eq_true rfl, Nat.le_of_ble_eq_true rfl, Nat.le_refl _, Nat.le_refl _⟩ (Nat.le_of_ble_eq_true rfl) rfl d11_idles_51 rfl ?_
        exact key5 _ (by first | rfl | (simp only [if_neg h3, if_pos h4]; done) | (simp only [if_neg h3, if_pos h4]; rfl)) _ (lvsub_p [0, 1, 2, 3] rfl)
    · skip
      refine V_aload_n (pc1 := 25) 1 d11_idles_24 rfl rfl ?_
      refine V_iload_n (pc1 := 26) 2 d11_idles_25 rfl rfl ?_
      refine V_iload_n (pc1 := 27) 0 d11_idles_26 rfl rfl ?_
      refine V_vv (pc1 := 30) (w11_begins g  i (bI (if I 297 (256 * i + 26) = 0 then true else false)) hi q hq4 I L hq0) ly296 (lt305 rfl) s11_begins l11_146 rfl rfl ⟨Nat.le_of_ble_eq_true rfl, Nat.le_of_ble_eq_true rfl, Nat.le_refl _, Nat.le_refl _⟩ (Nat.le_of_ble_eq_true rfl) rfl d11_idles_27 rfl ?_
      refine V_goto (tgt := 54) d11_idles_30 (by decide) ?_
      exact key5 _ (by first | rfl | (simp only [if_pos h3]; done) | (simp only [if_pos h3]; rfl)) _ (lvsub_p [0, 1, 2, 3] rfl)
  refine V_if_ne (tgt := 18) (pc1 := 14) d11_idles_11 (by decide) rfl (fun h1 => ?_) (fun h1 => ?_)
  · skip
    refine V_iconst (pc1 := 19) d11_idles_18 vc_0 rfl ?_
    exact key2 _ (by first | rfl | (simp only [if_neg h1]; done) | (simp only [if_neg h1]; rfl)) _ (lvsub_p [0, 1, 2] rfl)
  · skip
    refine V_iconst (pc1 := 15) d11_idles_14 vc_1 rfl ?_
    refine V_goto (tgt := 19) d11_idles_15 (by decide) ?_
    exact key2 _ (by first | rfl | (simp only [if_pos h1]; done) | (simp only [if_pos h1]; rfl)) _ (lvsub_p [0, 1, 2] rfl)
theorem w11_idles (g : GlT)  (i : Nat) (x : Int32) (hi : i < 4) (q : Nat) (hq4 : q ≤ 4) (I : Nat → Nat → Int32) (L : Nat → Nat → Int64) (hq0 : I 297 (256 * i + 32) = nI q) : Call g (k11_idles, 5, 0, 0) [.ref (xA g 296), .int (nI i), .int x] (I, L, R0, 305) (Qv (i11_idles i x I L) L) := Call.of (by decide) (Nat.le_of_ble_eq_true rfl) rfl (v11_idles g  i x hi q hq4 I L hq0 _ (And.intro rfl rfl))


def i11_flags (i : Nat) (I : Nat → Nat → Int32) (L : Nat → Nat → Int64) : Nat → Nat → Int32 := (if (I 297 (256 * i + 2)) + 1 = 6 then uI (i11_goes i 7 (uI I 297 (256 * i + 2) ((I 297 (256 * i + 2)) + 1)) L) 297 (256 * i + 3) (bI (if I 297 (256 * i) = 5 then true else false)) else uI I 297 (256 * i + 2) ((I 297 (256 * i + 2)) + 1))
set_option maxRecDepth 4000 in
theorem v11_flags (g : GlT)  (i : Nat) (hi : i < 4) (I : Nat → Nat → Int32) (L : Nat → Nat → Int64) (Q : Option Value → MemT → Prop) (hq : Q (none) (i11_flags i I L, L, R0, 305)) : V g (k11_flags, 4, 0, 0) 0 0 0 [(0, .ref (xA g 296)), (1, .int (nI i))] [] (I, L, R0, 305) Q := by
  refine V_aload_n (pc1 := 1) 0 d11_flags_0 rfl rfl ?_
  refine V_getr (pc1 := 4) ly296 (lt305 rfl) f11_7 (fun _ => rfl) rf296_0 d11_flags_1 rfl ?_
  refine V_iload_n (pc1 := 5) 1 d11_flags_4 rfl rfl ?_
  refine V_iconst (pc1 := 6) d11_flags_5 vc_2 rfl ?_
  refine V_si (pc1 := 9) (w11_at2 g  i 2 (256 * i + 2) (by omega) I L ) s11_at l11_35 rfl rfl ⟨Nat.le_of_ble_eq_true rfl, Nat.le_of_ble_eq_true rfl, Nat.le_refl _, Nat.le_refl _⟩ (Nat.le_of_ble_eq_true rfl) rfl d11_flags_6 rfl ?_
  refine V_dup2 (pc1 := 10) d11_flags_9 rfl rfl rfl ?_
  refine V_iald2 (pc1 := 11) (256 * i + 2) ly297 (lt305 rfl) rfl (by omega) rfl d11_flags_10 rfl ?_
  refine V_iconst (pc1 := 12) d11_flags_11 vc_1 rfl ?_
  refine V_iadd (pc1 := 13) d11_flags_12 rfl ?_
  refine V_iast (pc1 := 14) (256 * i + 2) ly297 (lt305 rfl) rfl (by omega) d11_flags_13 rfl ?_
  refine V_aload_n (pc1 := 15) 0 d11_flags_14 rfl rfl ?_
  refine V_getr (pc1 := 18) ly296 (lt305 rfl) f11_7 (fun _ => rfl) rf296_0 d11_flags_15 rfl ?_
  refine V_iload_n (pc1 := 19) 1 d11_flags_18 rfl rfl ?_
  refine V_iconst (pc1 := 20) d11_flags_19 vc_2 rfl ?_
  refine V_si (pc1 := 23) (w11_at2 g  i 2 (256 * i + 2) (by omega) (uI I 297 (256 * i + 2) ((I 297 (256 * i + 2)) + 1)) L ) s11_at l11_35 rfl rfl ⟨Nat.le_of_ble_eq_true rfl, Nat.le_of_ble_eq_true rfl, Nat.le_refl _, Nat.le_refl _⟩ (Nat.le_of_ble_eq_true rfl) rfl d11_flags_20 rfl ?_
  refine V_iald2 (pc1 := 24) (256 * i + 2) ly297 (lt305 rfl) rfl (by omega) (uI_self I 297 (256 * i + 2) ((I 297 (256 * i + 2)) + 1)) d11_flags_23 rfl ?_
  refine V_bipush (pc1 := 26) d11_flags_24 vb_6 rfl ?_
  have key4 : ∀ (zI67 : Nat → Nat → Int32), zI67 = (if (I 297 (256 * i + 2)) + 1 = 6 then uI (i11_goes i 7 (uI I 297 (256 * i + 2) ((I 297 (256 * i + 2)) + 1)) L) 297 (256 * i + 3) (bI (if I 297 (256 * i) = 5 then true else false)) else uI I 297 (256 * i + 2) ((I 297 (256 * i + 2)) + 1)) → ∀ (lv : List (Nat × Value)), lvsub [(0, .ref (xA g 296)), (1, .int (nI i))] lv → V g (k11_flags, 4, 0, 0) 0 0 67 lv [] (zI67, L, R0, 305) Q := by
    intro zI67 ezI67
    subst ezI67
    intro lv hlv
    refine V_lv hlv ?_
    refine V_vret rfl d11_flags_67 (Nat.zero_le _) (Nat.zero_le _) ?_
    have hq2 := hq
    simp only [i11_flags] at hq2
    exact hq2
  refine V_icmp_ne (tgt := 67) (pc1 := 29) d11_flags_26 (by decide) rfl (fun h1 => ?_) (fun h1 => ?_)
  · skip
    exact key4 _ (by first | rfl | (simp only [if_neg h1]; done) | (simp only [if_neg h1]; rfl)) _ (lvsub_p [0, 1] rfl)
  · skip
    refine V_aload_n (pc1 := 30) 0 d11_flags_29 rfl rfl ?_
    refine V_getr (pc1 := 33) ly296 (lt305 rfl) f11_7 (fun _ => rfl) rf296_0 d11_flags_30 rfl ?_
    refine V_iload_n (pc1 := 34) 1 d11_flags_33 rfl rfl ?_
    refine V_iconst (pc1 := 35) d11_flags_34 vc_0 rfl ?_
    refine V_si (pc1 := 38) (w11_at2 g  i 0 (256 * i) (by omega) (uI I 297 (256 * i + 2) ((I 297 (256 * i + 2)) + 1)) L ) s11_at l11_35 rfl rfl ⟨Nat.le_of_ble_eq_true rfl, Nat.le_of_ble_eq_true rfl, Nat.le_refl _, Nat.le_refl _⟩ (Nat.le_of_ble_eq_true rfl) rfl d11_flags_35 rfl ?_
    refine V_iald2 (pc1 := 39) (256 * i) ly297 (lt305 rfl) rfl (by omega) (uI_ne I 297 ((I 297 (256 * i + 2)) + 1) (show (256 * i : Nat) ≠ 256 * i + 2 by omega)) d11_flags_38 rfl ?_
    refine V_iconst (pc1 := 40) d11_flags_39 vc_5 rfl ?_
    have key3 : ∀ (y48_0 : Int32), y48_0 = bI (if I 297 (256 * i) = 5 then true else false) → ∀ (lv : List (Nat × Value)), lvsub [(0, .ref (xA g 296)), (1, .int (nI i))] lv → V g (k11_flags, 4, 0, 0) 0 0 48 lv [.int y48_0] (uI I 297 (256 * i + 2) ((I 297 (256 * i + 2)) + 1), L, R0, 305) Q := by
      intro y48_0 ey48_0
      subst ey48_0
      intro lv hlv
      refine V_lv hlv ?_
      refine V_istore_n (pc1 := 49) d11_flags_48 (Nat.le_of_ble_eq_true rfl) rfl rfl ?_
      refine V_aload_n (pc1 := 50) 1 d11_flags_49 rfl rfl ?_
      refine V_iload_n (pc1 := 51) 2 d11_flags_50 rfl rfl ?_
      refine V_bipush (pc1 := 53) d11_flags_51 vb_7 rfl ?_
      refine V_vv (pc1 := 56) (w11_goes g  i 7 hi (uI I 297 (256 * i + 2) ((I 297 (256 * i + 2)) + 1)) L ) ly296 (lt305 rfl) s11_goes l11_84 rfl rfl ⟨Nat.le_of_ble_eq_true rfl, Nat.le_of_ble_eq_true rfl, Nat.le_refl _, Nat.le_refl _⟩ (Nat.le_of_ble_eq_true rfl) rfl d11_flags_53 rfl ?_
      refine V_aload_n (pc1 := 57) 1 d11_flags_56 rfl rfl ?_
      refine V_getr (pc1 := 60) ly296 (lt305 rfl) f11_7 (fun _ => rfl) rf296_0 d11_flags_57 rfl ?_
      refine V_iload_n (pc1 := 61) 2 d11_flags_60 rfl rfl ?_
      refine V_iconst (pc1 := 62) d11_flags_61 vc_3 rfl ?_
      refine V_si (pc1 := 65) (w11_at2 g  i 3 (256 * i + 3) (by omega) (i11_goes i 7 (uI I 297 (256 * i + 2) ((I 297 (256 * i + 2)) + 1)) L) L ) s11_at l11_35 rfl rfl ⟨Nat.le_of_ble_eq_true rfl, Nat.le_of_ble_eq_true rfl, Nat.le_refl _, Nat.le_refl _⟩ (Nat.le_of_ble_eq_true rfl) rfl d11_flags_62 rfl ?_
      refine V_iload_n (pc1 := 66) 0 d11_flags_65 rfl rfl ?_
      refine V_iast (pc1 := 67) (256 * i + 3) ly297 (lt305 rfl) rfl (by omega) d11_flags_66 rfl ?_
      exact key4 _ (by first | rfl | (simp only [if_pos h1]; done) | (simp only [if_pos h1]; rfl)) _ (lvsub_p [1, 2] rfl)
    refine V_icmp_ne (tgt := 47) (pc1 := 43) d11_flags_40 (by decide) rfl (fun h2 => ?_) (fun h2 => ?_)
    · skip
      refine V_iconst (pc1 := 48) d11_flags_47 vc_0 rfl ?_
      exact key3 _ (by first | rfl | (simp only [if_neg h2]; done) | (simp only [if_neg h2]; rfl)) _ (lvsub_p [0, 1] rfl)
    · skip
      refine V_iconst (pc1 := 44) d11_flags_43 vc_1 rfl ?_
      refine V_goto (tgt := 48) d11_flags_44 (by decide) ?_
      exact key3 _ (by first | rfl | (simp only [if_pos h2]; done) | (simp only [if_pos h2]; rfl)) _ (lvsub_p [0, 1] rfl)
theorem w11_flags (g : GlT)  (i : Nat) (hi : i < 4) (I : Nat → Nat → Int32) (L : Nat → Nat → Int64) : Call g (k11_flags, 4, 0, 0) [.ref (xA g 296), .int (nI i)] (I, L, R0, 305) (Qv (i11_flags i I L) L) := Call.of (by decide) (Nat.le_of_ble_eq_true rfl) rfl (v11_flags g  i hi I L  _ (And.intro rfl rfl))

theorem xs11_flags {i : Nat} {I : Nat → Nat → Int32} {L : Nat → Nat → Int64} {s0 : Nat} (h0 : s0 ≠ 256 * i) (h1 : s0 ≠ 256 * i + 1) (h2 : s0 ≠ 256 * i + 13) (h3 : s0 ≠ 256 * i + 2) (h4 : s0 ≠ 256 * i + 3) (h5 : s0 ≠ 256 * i + 34) (h6 : s0 ≠ 256 * i + 39) (h7 : s0 ≠ 256 * i + 44) (h8 : s0 ≠ 256 * i + 49) : i11_flags i I L 297 s0 = I 297 s0 := by
  first | (simp only [i11_flags]; done) | (simp only [i11_flags]; (try (repeat' split)) <;> first | rfl | (simp [uI_eq, h0, h1, h2, h3, h4, h5, h6, h7, h8, xs11_goes]; done))

def i11_delimits (i : Nat) (x : Int32) (I : Nat → Nat → Int32) (L : Nat → Nat → Int64) : Nat → Nat → Int32 := (if x = 1 then (if I 297 (256 * i + 2) = 7 then i11_goes i 8 (uI (uI I 297 (256 * i + 3) 0) 297 (256 * i + 2) ((I 297 (256 * i + 2)) + 1)) L else uI (uI I 297 (256 * i + 3) 0) 297 (256 * i + 2) ((I 297 (256 * i + 2)) + 1)) else (if I 297 (256 * i + 2) = 0 then (if (¬ ((if I 297 (256 * i + 3) = 1 then true else false) = true)) ∨ ((r11_isTransmitting i (uI I 297 (256 * i + 3) 0) L) = true) then uI I 297 (256 * i + 3) 0 else i11_receives i 8 (uI I 297 (256 * i + 3) 0) L) else (if 7 ≤ I 297 (256 * i + 2) then i11_goes i 6 (uI I 297 (256 * i + 3) 0) L else i11_errs i 4 (uI I 297 (256 * i + 3) 0) L)))
set_option maxRecDepth 4000 in
theorem v11_delimits (g : GlT)  (i : Nat) (x : Int32) (hi : i < 4) (I : Nat → Nat → Int32) (L : Nat → Nat → Int64) (Q : Option Value → MemT → Prop) (hq : Q (none) (i11_delimits i x I L, L, R0, 305)) : V g (k11_delimits, 5, 0, 0) 0 0 0 [(0, .ref (xA g 296)), (1, .int (nI i)), (2, .int x)] [] (I, L, R0, 305) Q := by
  refine V_aload_n (pc1 := 1) 0 d11_delimits_0 rfl rfl ?_
  refine V_getr (pc1 := 4) ly296 (lt305 rfl) f11_7 (fun _ => rfl) rf296_0 d11_delimits_1 rfl ?_
  refine V_iload_n (pc1 := 5) 1 d11_delimits_4 rfl rfl ?_
  refine V_iconst (pc1 := 6) d11_delimits_5 vc_2 rfl ?_
  refine V_si (pc1 := 9) (w11_at2 g  i 2 (256 * i + 2) (by omega) I L ) s11_at l11_35 rfl rfl ⟨Nat.le_of_ble_eq_true rfl, Nat.le_of_ble_eq_true rfl, Nat.le_refl _, Nat.le_refl _⟩ (Nat.le_of_ble_eq_true rfl) rfl d11_delimits_6 rfl ?_
  refine V_iald2 (pc1 := 10) (256 * i + 2) ly297 (lt305 rfl) rfl (by omega) rfl d11_delimits_9 rfl ?_
  refine V_istore_n (pc1 := 11) d11_delimits_10 (Nat.le_of_ble_eq_true rfl) rfl rfl ?_
  refine V_aload_n (pc1 := 12) 1 d11_delimits_11 rfl rfl ?_
  refine V_getr (pc1 := 15) ly296 (lt305 rfl) f11_7 (fun _ => rfl) rf296_0 d11_delimits_12 rfl ?_
  refine V_iload_n (pc1 := 16) 2 d11_delimits_15 rfl rfl ?_
  refine V_iconst (pc1 := 17) d11_delimits_16 vc_3 rfl ?_
  refine V_si (pc1 := 20) (w11_at2 g  i 3 (256 * i + 3) (by omega) I L ) s11_at l11_35 rfl rfl ⟨Nat.le_of_ble_eq_true rfl, Nat.le_of_ble_eq_true rfl, Nat.le_refl _, Nat.le_refl _⟩ (Nat.le_of_ble_eq_true rfl) rfl d11_delimits_17 rfl ?_
  refine V_iald2 (pc1 := 21) (256 * i + 3) ly297 (lt305 rfl) rfl (by omega) rfl d11_delimits_20 rfl ?_
  refine V_iconst (pc1 := 22) d11_delimits_21 vc_1 rfl ?_
  have key2 : ∀ (y30_0 : Int32), y30_0 = bI (if I 297 (256 * i + 3) = 1 then true else false) → ∀ (lv : List (Nat × Value)), lvsub [(3, .int (I 297 (256 * i + 2))), (0, .ref (xA g 296)), (1, .int (nI i)), (2, .int x)] lv → V g (k11_delimits, 5, 0, 0) 0 0 30 lv [.int y30_0] (I, L, R0, 305) Q := by
    intro y30_0 ey30_0
    subst ey30_0
    intro lv hlv
    refine V_lv hlv ?_
    refine V_istore (pc1 := 32) d11_delimits_30 (Nat.le_of_ble_eq_true rfl) rfl rfl ?_
    refine V_aload_n (pc1 := 33) 2 d11_delimits_32 rfl rfl ?_
    refine V_getr (pc1 := 36) ly296 (lt305 rfl) f11_7 (fun _ => rfl) rf296_0 d11_delimits_33 rfl ?_
    refine V_iload_n (pc1 := 37) 3 d11_delimits_36 rfl rfl ?_
    refine V_iconst (pc1 := 38) d11_delimits_37 vc_3 rfl ?_
    refine V_si (pc1 := 41) (w11_at2 g  i 3 (256 * i + 3) (by omega) I L ) s11_at l11_35 rfl rfl ⟨Nat.le_of_ble_eq_true rfl, Nat.le_of_ble_eq_true rfl, Nat.le_refl _, Nat.le_refl _⟩ (Nat.le_of_ble_eq_true rfl) rfl d11_delimits_38 rfl ?_
    refine V_iconst (pc1 := 42) d11_delimits_41 vc_0 rfl ?_
    refine V_iast (pc1 := 43) (256 * i + 3) ly297 (lt305 rfl) rfl (by omega) d11_delimits_42 rfl ?_
    refine V_iload_n (pc1 := 44) 4 d11_delimits_43 rfl rfl ?_
    refine V_iconst (pc1 := 45) d11_delimits_44 vc_1 rfl ?_
    have key12 : ∀ (zI127 : Nat → Nat → Int32), zI127 = (if x = 1 then (if I 297 (256 * i + 2) = 7 then i11_goes i 8 (uI (uI I 297 (256 * i + 3) 0) 297 (256 * i + 2) ((I 297 (256 * i + 2)) + 1)) L else uI (uI I 297 (256 * i + 3) 0) 297 (256 * i + 2) ((I 297 (256 * i + 2)) + 1)) else (if I 297 (256 * i + 2) = 0 then (if (¬ ((if I 297 (256 * i + 3) = 1 then true else false) = true)) ∨ ((r11_isTransmitting i (uI I 297 (256 * i + 3) 0) L) = true) then uI I 297 (256 * i + 3) 0 else i11_receives i 8 (uI I 297 (256 * i + 3) 0) L) else (if 7 ≤ I 297 (256 * i + 2) then i11_goes i 6 (uI I 297 (256 * i + 3) 0) L else i11_errs i 4 (uI I 297 (256 * i + 3) 0) L))) → ∀ (lv : List (Nat × Value)), lvsub [(4, .int (bI (if I 297 (256 * i + 3) = 1 then true else false))), (3, .int (I 297 (256 * i + 2))), (0, .ref (xA g 296)), (1, .int (nI i)), (2, .int x)] lv → V g (k11_delimits, 5, 0, 0) 0 0 127 lv [] (zI127, L, R0, 305) Q := by
      intro zI127 ezI127
      subst ezI127
      intro lv hlv
      refine V_lv hlv ?_
      refine V_vret rfl d11_delimits_127 (Nat.zero_le _) (Nat.zero_le _) ?_
      have hq2 := hq
      simp only [i11_delimits] at hq2
      exact hq2
    refine V_icmp_ne (tgt := 78) (pc1 := 48) d11_delimits_45 (by decide) rfl (fun h3 => ?_) (fun h3 => ?_)
    · skip
      refine V_iload_n (pc1 := 79) 1 d11_delimits_78 rfl rfl ?_
      refine V_if_ne (tgt := 105) (pc1 := 82) d11_delimits_79 (by decide) rfl (fun h4 => ?_) (fun h4 => ?_)
      · skip
        refine V_iload_n (pc1 := 106) 1 d11_delimits_105 rfl rfl ?_
        refine V_bipush (pc1 := 108) d11_delimits_106 vb_7 rfl ?_
        refine V_icmp_ge (tgt := 120) (pc1 := 111) d11_delimits_108 (by decide) rfl (fun h5 => ?_) (fun h5 => ?_)
        · skip
          refine V_aload_n (pc1 := 121) 2 d11_delimits_120 rfl rfl ?_
          refine V_iload_n (pc1 := 122) 3 d11_delimits_121 rfl rfl ?_
          refine V_bipush (pc1 := 124) d11_delimits_122 vb_6 rfl ?_
          refine V_vv (pc1 := 127) (w11_goes g  i 6 hi (uI I 297 (256 * i + 3) 0) L ) ly296 (lt305 rfl) s11_goes l11_84 rfl rfl ⟨Nat.le_of_ble_eq_true rfl, Nat.le_of_ble_eq_true rfl, Nat.le_refl _, Nat.le_refl _⟩ (Nat.le_of_ble_eq_true rfl) rfl d11_delimits_124 rfl ?_
          exact key12 _ (by first | rfl | (simp only [if_neg h3, if_neg h4, if_pos h5]; done) | (simp only [if_neg h3, if_neg h4, if_pos h5]; rfl)) _ (lvsub_p [0, 1, 2, 3, 4] rfl)
        · skip
          refine V_aload_n (pc1 := 112) 2 d11_delimits_111 rfl rfl ?_
          refine V_iload_n (pc1 := 113) 3 d11_delimits_112 rfl rfl ?_
          refine V_iconst (pc1 := 114) d11_delimits_113 vc_4 rfl ?_
          refine V_vv (pc1 := 117) (w11_errs g  i 4 hi (by first | decide | omega | (split <;> decide)) (uI I 297 (256 * i + 3) 0) L ) ly296 (lt305 rfl) s11_errs l11_150 rfl rfl ⟨Nat.le_of_ble_eq_true rfl, Nat.le_of_ble_eq_true rfl, Nat.le_refl _, Nat.le_refl _⟩ (Nat.le_of_ble_eq_true rfl) rfl d11_delimits_114 rfl ?_
          refine V_goto (tgt := 127) d11_delimits_117 (by decide) ?_
          exact key12 _ (by first | rfl | (simp only [if_neg h3, if_neg h4, if_neg h5]; done) | (simp only [if_neg h3, if_neg h4, if_neg h5]; rfl)) _ (lvsub_p [0, 1, 2, 3, 4] rfl)
      · skip
        refine V_iload (pc1 := 84) 0 d11_delimits_82 rfl rfl ?_
        have k7 : ((¬ ((if I 297 (256 * i + 3) = 1 then true else false) = true)) ∨ ((r11_isTransmitting i (uI I 297 (256 * i + 3) 0) L) = true)) → V g (k11_delimits, 5, 0, 0) 0 0 127 [(4, .int (bI (if I 297 (256 * i + 3) = 1 then true else false))), (3, .int (I 297 (256 * i + 2))), (0, .ref (xA g 296)), (1, .int (nI i)), (2, .int x)] [] (uI I 297 (256 * i + 3) 0, L, R0, 305) Q := by
          intro h6
          exact key12 _ (by first | rfl | (simp only [if_neg h3, if_pos h4, if_pos h6]; done) | (simp only [if_neg h3, if_pos h4, if_pos h6]; rfl)) _ (lvsub_p [0, 1, 2, 3, 4] rfl)
        have k8 : ¬ ((¬ ((if I 297 (256 * i + 3) = 1 then true else false) = true)) ∨ ((r11_isTransmitting i (uI I 297 (256 * i + 3) 0) L) = true)) → V g (k11_delimits, 5, 0, 0) 0 0 95 [(4, .int (bI (if I 297 (256 * i + 3) = 1 then true else false))), (3, .int (I 297 (256 * i + 2))), (0, .ref (xA g 296)), (1, .int (nI i)), (2, .int x)] [] (uI I 297 (256 * i + 3) 0, L, R0, 305) Q := by
          intro h6
          refine V_aload_n (pc1 := 96) 2 d11_delimits_95 rfl rfl ?_
          refine V_iload_n (pc1 := 97) 3 d11_delimits_96 rfl rfl ?_
          refine V_bipush (pc1 := 99) d11_delimits_97 vb_8 rfl ?_
          refine V_vv (pc1 := 102) (w11_receives g  i 8 hi (uI I 297 (256 * i + 3) 0) L ) ly296 (lt305 rfl) s11_receives l11_116 rfl rfl ⟨Nat.le_of_ble_eq_true rfl, Nat.le_of_ble_eq_true rfl, Nat.le_refl _, Nat.le_refl _⟩ (Nat.le_of_ble_eq_true rfl) rfl d11_delimits_99 rfl ?_
          refine V_goto (tgt := 127) d11_delimits_102 (by decide) ?_
          exact key12 _ (by first | rfl | (simp only [if_neg h3, if_pos h4, if_neg h6]; done) | (simp only [if_neg h3, if_pos h4, if_neg h6]; rfl)) _ (lvsub_p [0, 1, 2, 3, 4] rfl)
        refine V_beq (tgt := 127) (pc1 := 87) d11_delimits_84 (by decide) rfl (fun h9 => ?_) (fun h9 => ?_)
        · skip
          exact k7 (Or.inl h9)
        · skip
          refine V_aload_n (pc1 := 88) 2 d11_delimits_87 rfl rfl ?_
          refine V_iload_n (pc1 := 89) 3 d11_delimits_88 rfl rfl ?_
          refine V_vi (pc1 := 92) (w11_isTransmitting g  i hi (uI I 297 (256 * i + 3) 0) L ) ly296 (lt305 rfl) s11_isTransmitting l11_110 rfl rfl ⟨Nat.le_of_ble_eq_true rfl, Nat.le_of_ble_eq_true rfl, Nat.le_refl _, Nat.le_refl _⟩ (Nat.le_of_ble_eq_true rfl) rfl d11_delimits_89 rfl ?_
          refine V_bne (tgt := 127) (pc1 := 95) d11_delimits_92 (by decide) rfl (fun h10 => ?_) (fun h10 => ?_)
          · skip
            exact k7 (Or.inr h10)
          · skip
            exact k8 (fun z => z.elim (fun z => z h9) h10)
    · skip
      refine V_aload_n (pc1 := 49) 2 d11_delimits_48 rfl rfl ?_
      refine V_getr (pc1 := 52) ly296 (lt305 rfl) f11_7 (fun _ => rfl) rf296_0 d11_delimits_49 rfl ?_
      refine V_iload_n (pc1 := 53) 3 d11_delimits_52 rfl rfl ?_
      refine V_iconst (pc1 := 54) d11_delimits_53 vc_2 rfl ?_
      refine V_si (pc1 := 57) (w11_at2 g  i 2 (256 * i + 2) (by omega) (uI I 297 (256 * i + 3) 0) L ) s11_at l11_35 rfl rfl ⟨Nat.le_of_ble_eq_true rfl, Nat.le_of_ble_eq_true rfl, Nat.le_refl _, Nat.le_refl _⟩ (Nat.le_of_ble_eq_true rfl) rfl d11_delimits_54 rfl ?_
      refine V_dup2 (pc1 := 58) d11_delimits_57 rfl rfl rfl ?_
      refine V_iald2 (pc1 := 59) (256 * i + 2) ly297 (lt305 rfl) rfl (by omega) (uI_ne I 297 0 (show (256 * i + 2 : Nat) ≠ 256 * i + 3 by omega)) d11_delimits_58 rfl ?_
      refine V_iconst (pc1 := 60) d11_delimits_59 vc_1 rfl ?_
      refine V_iadd (pc1 := 61) d11_delimits_60 rfl ?_
      refine V_iast (pc1 := 62) (256 * i + 2) ly297 (lt305 rfl) rfl (by omega) d11_delimits_61 rfl ?_
      refine V_iload_n (pc1 := 63) 1 d11_delimits_62 rfl rfl ?_
      refine V_bipush (pc1 := 65) d11_delimits_63 vb_7 rfl ?_
      refine V_icmp_ne (tgt := 127) (pc1 := 68) d11_delimits_65 (by decide) rfl (fun h11 => ?_) (fun h11 => ?_)
      · skip
        exact key12 _ (by first | rfl | (simp only [if_pos h3, if_neg h11]; done) | (simp only [if_pos h3, if_neg h11]; rfl)) _ (lvsub_p [0, 1, 2, 3, 4] rfl)
      · skip
        refine V_aload_n (pc1 := 69) 2 d11_delimits_68 rfl rfl ?_
        refine V_iload_n (pc1 := 70) 3 d11_delimits_69 rfl rfl ?_
        refine V_bipush (pc1 := 72) d11_delimits_70 vb_8 rfl ?_
        refine V_vv (pc1 := 75) (w11_goes g  i 8 hi (uI (uI I 297 (256 * i + 3) 0) 297 (256 * i + 2) ((I 297 (256 * i + 2)) + 1)) L ) ly296 (lt305 rfl) s11_goes l11_84 rfl rfl ⟨Nat.le_of_ble_eq_true rfl, Nat.le_of_ble_eq_true rfl, Nat.le_refl _, Nat.le_refl _⟩ (Nat.le_of_ble_eq_true rfl) rfl d11_delimits_72 rfl ?_
        refine V_goto (tgt := 127) d11_delimits_75 (by decide) ?_
        exact key12 _ (by first | rfl | (simp only [if_pos h3, if_pos h11]; done) | (simp only [if_pos h3, if_pos h11]; rfl)) _ (lvsub_p [0, 1, 2, 3, 4] rfl)
  refine V_icmp_ne (tgt := 29) (pc1 := 25) d11_delimits_22 (by decide) rfl (fun h1 => ?_) (fun h1 => ?_)
  · skip
    refine V_iconst (pc1 := 30) d11_delimits_29 vc_0 rfl ?_
    exact key2 _ (by first | rfl | (simp only [if_neg h1]; done) | (simp only [if_neg h1]; rfl)) _ (lvsub_p [0, 1, 2, 3] rfl)
  · skip
    refine V_iconst (pc1 := 26) d11_delimits_25 vc_1 rfl ?_
    refine V_goto (tgt := 30) d11_delimits_26 (by decide) ?_
    exact key2 _ (by first | rfl | (simp only [if_pos h1]; done) | (simp only [if_pos h1]; rfl)) _ (lvsub_p [0, 1, 2, 3] rfl)
theorem w11_delimits (g : GlT)  (i : Nat) (x : Int32) (hi : i < 4) (I : Nat → Nat → Int32) (L : Nat → Nat → Int64) : Call g (k11_delimits, 5, 0, 0) [.ref (xA g 296), .int (nI i), .int x] (I, L, R0, 305) (Qv (i11_delimits i x I L) L) := Call.of (by decide) (Nat.le_of_ble_eq_true rfl) rfl (v11_delimits g  i x hi I L  _ (And.intro rfl rfl))

theorem xs11_delimits {i : Nat} {x : Int32} {I : Nat → Nat → Int32} {L : Nat → Nat → Int64} {s0 : Nat} (h0 : s0 ≠ 256 * i) (h1 : s0 ≠ 256 * i + 1) (h2 : s0 ≠ 256 * i + 11) (h3 : s0 ≠ 256 * i + 13) (h4 : s0 ≠ 256 * i + 18) (h5 : s0 ≠ 256 * i + 2) (h6 : s0 ≠ 256 * i + 3) (h7 : s0 ≠ 256 * i + 34) (h8 : s0 ≠ 256 * i + 39) (h9 : s0 ≠ 256 * i + 4) (h10 : s0 ≠ 256 * i + 44) (h11 : s0 ≠ 256 * i + 49) (h12 : s0 ≠ 256 * i + 5) (h13 : s0 ≠ 256 * i + 9) : i11_delimits i x I L 297 s0 = I 297 s0 := by
  first | (simp only [i11_delimits]; done) | (simp only [i11_delimits]; (try (repeat' split)) <;> first | rfl | (simp [uI_eq, h0, h1, h2, h3, h4, h5, h6, h7, h8, h9, h10, h11, h12, h13, xs11_errs, xs11_goes, xs11_receives]; done))

def i11_intermits (i : Nat) (x : Int32) (I : Nat → Nat → Int32) (L : Nat → Nat → Int64) : Nat → Nat → Int32 := (if 2 ≤ I 297 (256 * i + 2) then (if x = 0 then i11_begins i 0 (uI I 297 (256 * i + 2) ((I 297 (256 * i + 2)) + 1)) L else i11_goes i (nI (if (¬ ((r11_isTransmitting i (uI I 297 (256 * i + 2) ((I 297 (256 * i + 2)) + 1)) L) = true)) ∨ (¬ ((r11_isPassiveNow i (uI I 297 (256 * i + 2) ((I 297 (256 * i + 2)) + 1)) L) = true)) then 3 else 9)) (uI I 297 (256 * i + 2) ((I 297 (256 * i + 2)) + 1)) L) else (if x = 0 then i11_goes i 6 (uI I 297 (256 * i + 2) ((I 297 (256 * i + 2)) + 1)) L else uI I 297 (256 * i + 2) ((I 297 (256 * i + 2)) + 1)))
set_option maxRecDepth 4000 in
theorem v11_intermits (g : GlT)  (i : Nat) (x : Int32) (hi : i < 4) (q : Nat) (hq4 : q ≤ 4) (I : Nat → Nat → Int32) (L : Nat → Nat → Int64) (hq0 : I 297 (256 * i + 32) = nI q) (Q : Option Value → MemT → Prop) (hq : Q (none) (i11_intermits i x I L, L, R0, 305)) : V g (k11_intermits, 5, 0, 0) 0 0 0 [(0, .ref (xA g 296)), (1, .int (nI i)), (2, .int x)] [] (I, L, R0, 305) Q := by
  refine V_aload_n (pc1 := 1) 0 d11_intermits_0 rfl rfl ?_
  refine V_getr (pc1 := 4) ly296 (lt305 rfl) f11_7 (fun _ => rfl) rf296_0 d11_intermits_1 rfl ?_
  refine V_iload_n (pc1 := 5) 1 d11_intermits_4 rfl rfl ?_
  refine V_iconst (pc1 := 6) d11_intermits_5 vc_2 rfl ?_
  refine V_si (pc1 := 9) (w11_at2 g  i 2 (256 * i + 2) (by omega) I L ) s11_at l11_35 rfl rfl ⟨Nat.le_of_ble_eq_true rfl, Nat.le_of_ble_eq_true rfl, Nat.le_refl _, Nat.le_refl _⟩ (Nat.le_of_ble_eq_true rfl) rfl d11_intermits_6 rfl ?_
  refine V_iald2 (pc1 := 10) (256 * i + 2) ly297 (lt305 rfl) rfl (by omega) rfl d11_intermits_9 rfl ?_
  refine V_istore_n (pc1 := 11) d11_intermits_10 (Nat.le_of_ble_eq_true rfl) rfl rfl ?_
  refine V_aload_n (pc1 := 12) 1 d11_intermits_11 rfl rfl ?_
  refine V_getr (pc1 := 15) ly296 (lt305 rfl) f11_7 (fun _ => rfl) rf296_0 d11_intermits_12 rfl ?_
  refine V_iload_n (pc1 := 16) 2 d11_intermits_15 rfl rfl ?_
  refine V_iconst (pc1 := 17) d11_intermits_16 vc_2 rfl ?_
  refine V_si (pc1 := 20) (w11_at2 g  i 2 (256 * i + 2) (by omega) I L ) s11_at l11_35 rfl rfl ⟨Nat.le_of_ble_eq_true rfl, Nat.le_of_ble_eq_true rfl, Nat.le_refl _, Nat.le_refl _⟩ (Nat.le_of_ble_eq_true rfl) rfl d11_intermits_17 rfl ?_
  refine V_dup2 (pc1 := 21) d11_intermits_20 rfl rfl rfl ?_
  refine V_iald2 (pc1 := 22) (256 * i + 2) ly297 (lt305 rfl) rfl (by omega) rfl d11_intermits_21 rfl ?_
  refine V_iconst (pc1 := 23) d11_intermits_22 vc_1 rfl ?_
  refine V_iadd (pc1 := 24) d11_intermits_23 rfl ?_
  refine V_iast (pc1 := 25) (256 * i + 2) ly297 (lt305 rfl) rfl (by omega) d11_intermits_24 rfl ?_
  refine V_iload_n (pc1 := 26) 0 d11_intermits_25 rfl rfl ?_
  refine V_iconst (pc1 := 27) d11_intermits_26 vc_2 rfl ?_
  have key10 : ∀ (zI84 : Nat → Nat → Int32), zI84 = (if 2 ≤ I 297 (256 * i + 2) then (if x = 0 then i11_begins i 0 (uI I 297 (256 * i + 2) ((I 297 (256 * i + 2)) + 1)) L else i11_goes i (nI (if (¬ ((r11_isTransmitting i (uI I 297 (256 * i + 2) ((I 297 (256 * i + 2)) + 1)) L) = true)) ∨ (¬ ((r11_isPassiveNow i (uI I 297 (256 * i + 2) ((I 297 (256 * i + 2)) + 1)) L) = true)) then 3 else 9)) (uI I 297 (256 * i + 2) ((I 297 (256 * i + 2)) + 1)) L) else (if x = 0 then i11_goes i 6 (uI I 297 (256 * i + 2) ((I 297 (256 * i + 2)) + 1)) L else uI I 297 (256 * i + 2) ((I 297 (256 * i + 2)) + 1))) → ∀ (lv : List (Nat × Value)), lvsub [(3, .int (I 297 (256 * i + 2))), (0, .ref (xA g 296)), (1, .int (nI i)), (2, .int x)] lv → V g (k11_intermits, 5, 0, 0) 0 0 84 lv [] (zI84, L, R0, 305) Q := by
    intro zI84 ezI84
    subst ezI84
    intro lv hlv
    refine V_lv hlv ?_
    refine V_vret rfl d11_intermits_84 (Nat.zero_le _) (Nat.zero_le _) ?_
    have hq2 := hq
    simp only [i11_intermits] at hq2
    exact hq2
  refine V_icmp_ge (tgt := 44) (pc1 := 30) d11_intermits_27 (by decide) rfl (fun h1 => ?_) (fun h1 => ?_)
  · skip
    refine V_iload_n (pc1 := 45) 3 d11_intermits_44 rfl rfl ?_
    refine V_if_ne (tgt := 57) (pc1 := 48) d11_intermits_45 (by decide) rfl (fun h2 => ?_) (fun h2 => ?_)
    · skip
      refine V_aload_n (pc1 := 58) 1 d11_intermits_57 rfl rfl ?_
      refine V_iload_n (pc1 := 59) 2 d11_intermits_58 rfl rfl ?_
      refine V_aload_n (pc1 := 60) 1 d11_intermits_59 rfl rfl ?_
      refine V_iload_n (pc1 := 61) 2 d11_intermits_60 rfl rfl ?_
      refine V_vi (pc1 := 64) (w11_isTransmitting g  i hi (uI I 297 (256 * i + 2) ((I 297 (256 * i + 2)) + 1)) L ) ly296 (lt305 rfl) s11_isTransmitting l11_110 rfl rfl ⟨Nat.le_of_ble_eq_true rfl, Nat.le_of_ble_eq_true rfl, Nat.le_refl _, Nat.le_refl _⟩ (Nat.le_of_ble_eq_true rfl) rfl d11_intermits_61 rfl ?_
      have key8 : ∀ (y81_0 : Int32), y81_0 = nI (if (¬ ((r11_isTransmitting i (uI I 297 (256 * i + 2) ((I 297 (256 * i + 2)) + 1)) L) = true)) ∨ (¬ ((r11_isPassiveNow i (uI I 297 (256 * i + 2) ((I 297 (256 * i + 2)) + 1)) L) = true)) then 3 else 9) → ∀ (lv : List (Nat × Value)), lvsub [(3, .int (I 297 (256 * i + 2))), (0, .ref (xA g 296)), (1, .int (nI i)), (2, .int x)] lv → V g (k11_intermits, 5, 0, 0) 0 0 81 lv [.int y81_0, .int (nI i), .ref (xA g 296)] (uI I 297 (256 * i + 2) ((I 297 (256 * i + 2)) + 1), L, R0, 305) Q := by
        intro y81_0 ey81_0
        subst ey81_0
        intro lv hlv
        refine V_lv hlv ?_
        refine V_vv (pc1 := 84) (w11_goes g  i (nI (if (¬ ((r11_isTransmitting i (uI I 297 (256 * i + 2) ((I 297 (256 * i + 2)) + 1)) L) = true)) ∨ (¬ ((r11_isPassiveNow i (uI I 297 (256 * i + 2) ((I 297 (256 * i + 2)) + 1)) L) = true)) then 3 else 9)) hi (uI I 297 (256 * i + 2) ((I 297 (256 * i + 2)) + 1)) L ) ly296 (lt305 rfl) s11_goes l11_84 rfl rfl ⟨Nat.le_of_ble_eq_true rfl, Nat.le_of_ble_eq_true rfl, Nat.le_refl _, Nat.le_refl _⟩ (Nat.le_of_ble_eq_true rfl) rfl d11_intermits_81 rfl ?_
        exact key10 _ (by first | rfl | (simp only [if_pos h1, if_neg h2]; done) | (simp only [if_pos h1, if_neg h2]; rfl)) _ (lvsub_p [0, 1, 2, 3] rfl)
      have k4 : ((¬ ((r11_isTransmitting i (uI I 297 (256 * i + 2) ((I 297 (256 * i + 2)) + 1)) L) = true)) ∨ (¬ ((r11_isPassiveNow i (uI I 297 (256 * i + 2) ((I 297 (256 * i + 2)) + 1)) L) = true))) → V g (k11_intermits, 5, 0, 0) 0 0 80 [(3, .int (I 297 (256 * i + 2))), (0, .ref (xA g 296)), (1, .int (nI i)), (2, .int x)] [.int (nI i), .ref (xA g 296)] (uI I 297 (256 * i + 2) ((I 297 (256 * i + 2)) + 1), L, R0, 305) Q := by
        intro h3
        refine V_iconst (pc1 := 81) d11_intermits_80 vc_3 rfl ?_
        exact key8 _ (by first | rfl | (simp only [if_pos h3]; done) | (simp only [if_pos h3]; rfl)) _ (lvsub_p [0, 1, 2, 3] rfl)
      have k5 : ¬ ((¬ ((r11_isTransmitting i (uI I 297 (256 * i + 2) ((I 297 (256 * i + 2)) + 1)) L) = true)) ∨ (¬ ((r11_isPassiveNow i (uI I 297 (256 * i + 2) ((I 297 (256 * i + 2)) + 1)) L) = true))) → V g (k11_intermits, 5, 0, 0) 0 0 75 [(3, .int (I 297 (256 * i + 2))), (0, .ref (xA g 296)), (1, .int (nI i)), (2, .int x)] [.int (nI i), .ref (xA g 296)] (uI I 297 (256 * i + 2) ((I 297 (256 * i + 2)) + 1), L, R0, 305) Q := by
        intro h3
        refine V_bipush (pc1 := 77) d11_intermits_75 vb_9 rfl ?_
        refine V_goto (tgt := 81) d11_intermits_77 (by decide) ?_
        exact key8 _ (by first | rfl | (simp only [if_neg h3]; done) | (simp only [if_neg h3]; rfl)) _ (lvsub_p [0, 1, 2, 3] rfl)
      refine V_beq (tgt := 80) (pc1 := 67) d11_intermits_64 (by decide) rfl (fun h6 => ?_) (fun h6 => ?_)
      · skip
        exact k4 (Or.inl h6)
      · skip
        refine V_aload_n (pc1 := 68) 1 d11_intermits_67 rfl rfl ?_
        refine V_iload_n (pc1 := 69) 2 d11_intermits_68 rfl rfl ?_
        refine V_vi (pc1 := 72) (w11_isPassiveNow g  i hi (uI I 297 (256 * i + 2) ((I 297 (256 * i + 2)) + 1)) L ) ly296 (lt305 rfl) s11_isPassiveNow l11_119 rfl rfl ⟨Nat.le_of_ble_eq_true rfl, Nat.le_of_ble_eq_true rfl, Nat.le_refl _, Nat.le_refl _⟩ (Nat.le_of_ble_eq_true rfl) rfl d11_intermits_69 rfl ?_
        refine V_beq (tgt := 80) (pc1 := 75) d11_intermits_72 (by decide) rfl (fun h7 => ?_) (fun h7 => ?_)
        · skip
          exact k4 (Or.inr h7)
        · skip
          exact k5 (fun z => z.elim (fun z => z h6) (fun z => z h7))
    · skip
      refine V_aload_n (pc1 := 49) 1 d11_intermits_48 rfl rfl ?_
      refine V_iload_n (pc1 := 50) 2 d11_intermits_49 rfl rfl ?_
      refine V_iconst (pc1 := 51) d11_intermits_50 vc_0 rfl ?_
      refine V_vv (pc1 := 54) (w11_begins g  i 0 hi q hq4 (uI I 297 (256 * i + 2) ((I 297 (256 * i + 2)) + 1)) L ((uI_ne I 297 ((I 297 (256 * i + 2)) + 1) (show (256 * i + 32 : Nat) ≠ 256 * i + 2 by omega)).trans hq0)) ly296 (lt305 rfl) s11_begins l11_146 rfl rfl ⟨Nat.le_of_ble_eq_true rfl, Nat.le_of_ble_eq_true rfl, Nat.le_refl _, Nat.le_refl _⟩ (Nat.le_of_ble_eq_true rfl) rfl d11_intermits_51 rfl ?_
      refine V_goto (tgt := 84) d11_intermits_54 (by decide) ?_
      exact key10 _ (by first | rfl | (simp only [if_pos h1, if_pos h2]; done) | (simp only [if_pos h1, if_pos h2]; rfl)) _ (lvsub_p [0, 1, 2, 3] rfl)
  · skip
    refine V_iload_n (pc1 := 31) 3 d11_intermits_30 rfl rfl ?_
    refine V_if_ne (tgt := 84) (pc1 := 34) d11_intermits_31 (by decide) rfl (fun h9 => ?_) (fun h9 => ?_)
    · skip
      exact key10 _ (by first | rfl | (simp only [if_neg h1, if_neg h9]; done) | (simp only [if_neg h1, if_neg h9]; rfl)) _ (lvsub_p [0, 1, 2, 3] rfl)
    · skip
      refine V_aload_n (pc1 := 35) 1 d11_intermits_34 rfl rfl ?_
      refine V_iload_n (pc1 := 36) 2 d11_intermits_35 rfl rfl ?_
      refine V_bipush (pc1 := 38) d11_intermits_36 vb_6 rfl ?_
      refine V_vv (pc1 := 41) (w11_goes g  i 6 hi (uI I 297 (256 * i + 2) ((I 297 (256 * i + 2)) + 1)) L ) ly296 (lt305 rfl) s11_goes l11_84 rfl rfl ⟨Nat.le_of_ble_eq_true rfl, Nat.le_of_ble_eq_true rfl, Nat.le_refl _, Nat.le_refl _⟩ (Nat.le_of_ble_eq_true rfl) rfl d11_intermits_38 rfl ?_
      refine V_goto (tgt := 84) d11_intermits_41 (by decide) ?_
      exact key10 _ (by first | rfl | (simp only [if_neg h1, if_pos h9]; done) | (simp only [if_neg h1, if_pos h9]; rfl)) _ (lvsub_p [0, 1, 2, 3] rfl)
theorem w11_intermits (g : GlT)  (i : Nat) (x : Int32) (hi : i < 4) (q : Nat) (hq4 : q ≤ 4) (I : Nat → Nat → Int32) (L : Nat → Nat → Int64) (hq0 : I 297 (256 * i + 32) = nI q) : Call g (k11_intermits, 5, 0, 0) [.ref (xA g 296), .int (nI i), .int x] (I, L, R0, 305) (Qv (i11_intermits i x I L) L) := Call.of (by decide) (Nat.le_of_ble_eq_true rfl) rfl (v11_intermits g  i x hi q hq4 I L hq0 _ (And.intro rfl rfl))


def i11_suspends (i : Nat) (x : Int32) (I : Nat → Nat → Int32) (L : Nat → Nat → Int64) : Nat → Nat → Int32 := (if x = 0 then i11_begins i 0 (uI I 297 (256 * i + 2) ((I 297 (256 * i + 2)) + 1)) L else (if (I 297 (256 * i + 2)) + 1 = 8 then i11_goes i 3 (uI I 297 (256 * i + 2) ((I 297 (256 * i + 2)) + 1)) L else uI I 297 (256 * i + 2) ((I 297 (256 * i + 2)) + 1)))
set_option maxRecDepth 4000 in
theorem v11_suspends (g : GlT)  (i : Nat) (x : Int32) (hi : i < 4) (q : Nat) (hq4 : q ≤ 4) (I : Nat → Nat → Int32) (L : Nat → Nat → Int64) (hq0 : I 297 (256 * i + 32) = nI q) (Q : Option Value → MemT → Prop) (hq : Q (none) (i11_suspends i x I L, L, R0, 305)) : V g (k11_suspends, 5, 0, 0) 0 0 0 [(0, .ref (xA g 296)), (1, .int (nI i)), (2, .int x)] [] (I, L, R0, 305) Q := by
  refine V_aload_n (pc1 := 1) 0 d11_suspends_0 rfl rfl ?_
  refine V_getr (pc1 := 4) ly296 (lt305 rfl) f11_7 (fun _ => rfl) rf296_0 d11_suspends_1 rfl ?_
  refine V_iload_n (pc1 := 5) 1 d11_suspends_4 rfl rfl ?_
  refine V_iconst (pc1 := 6) d11_suspends_5 vc_2 rfl ?_
  refine V_si (pc1 := 9) (w11_at2 g  i 2 (256 * i + 2) (by omega) I L ) s11_at l11_35 rfl rfl ⟨Nat.le_of_ble_eq_true rfl, Nat.le_of_ble_eq_true rfl, Nat.le_refl _, Nat.le_refl _⟩ (Nat.le_of_ble_eq_true rfl) rfl d11_suspends_6 rfl ?_
  refine V_dup2 (pc1 := 10) d11_suspends_9 rfl rfl rfl ?_
  refine V_iald2 (pc1 := 11) (256 * i + 2) ly297 (lt305 rfl) rfl (by omega) rfl d11_suspends_10 rfl ?_
  refine V_iconst (pc1 := 12) d11_suspends_11 vc_1 rfl ?_
  refine V_iadd (pc1 := 13) d11_suspends_12 rfl ?_
  refine V_iast (pc1 := 14) (256 * i + 2) ly297 (lt305 rfl) rfl (by omega) d11_suspends_13 rfl ?_
  refine V_iload_n (pc1 := 15) 2 d11_suspends_14 rfl rfl ?_
  have key3 : ∀ (zI48 : Nat → Nat → Int32), zI48 = (if x = 0 then i11_begins i 0 (uI I 297 (256 * i + 2) ((I 297 (256 * i + 2)) + 1)) L else (if (I 297 (256 * i + 2)) + 1 = 8 then i11_goes i 3 (uI I 297 (256 * i + 2) ((I 297 (256 * i + 2)) + 1)) L else uI I 297 (256 * i + 2) ((I 297 (256 * i + 2)) + 1))) → ∀ (lv : List (Nat × Value)), lvsub [(0, .ref (xA g 296)), (1, .int (nI i)), (2, .int x)] lv → V g (k11_suspends, 5, 0, 0) 0 0 48 lv [] (zI48, L, R0, 305) Q := by
    intro zI48 ezI48
    subst ezI48
    intro lv hlv
    refine V_lv hlv ?_
    refine V_vret rfl d11_suspends_48 (Nat.zero_le _) (Nat.zero_le _) ?_
    have hq2 := hq
    simp only [i11_suspends] at hq2
    exact hq2
  refine V_if_ne (tgt := 27) (pc1 := 18) d11_suspends_15 (by decide) rfl (fun h1 => ?_) (fun h1 => ?_)
  · skip
    refine V_aload_n (pc1 := 28) 0 d11_suspends_27 rfl rfl ?_
    refine V_getr (pc1 := 31) ly296 (lt305 rfl) f11_7 (fun _ => rfl) rf296_0 d11_suspends_28 rfl ?_
    refine V_iload_n (pc1 := 32) 1 d11_suspends_31 rfl rfl ?_
    refine V_iconst (pc1 := 33) d11_suspends_32 vc_2 rfl ?_
    refine V_si (pc1 := 36) (w11_at2 g  i 2 (256 * i + 2) (by omega) (uI I 297 (256 * i + 2) ((I 297 (256 * i + 2)) + 1)) L ) s11_at l11_35 rfl rfl ⟨Nat.le_of_ble_eq_true rfl, Nat.le_of_ble_eq_true rfl, Nat.le_refl _, Nat.le_refl _⟩ (Nat.le_of_ble_eq_true rfl) rfl d11_suspends_33 rfl ?_
    refine V_iald2 (pc1 := 37) (256 * i + 2) ly297 (lt305 rfl) rfl (by omega) (uI_self I 297 (256 * i + 2) ((I 297 (256 * i + 2)) + 1)) d11_suspends_36 rfl ?_
    refine V_bipush (pc1 := 39) d11_suspends_37 vb_8 rfl ?_
    refine V_icmp_ne (tgt := 48) (pc1 := 42) d11_suspends_39 (by decide) rfl (fun h2 => ?_) (fun h2 => ?_)
    · skip
      exact key3 _ (by first | rfl | (simp only [if_neg h1, if_neg h2]; done) | (simp only [if_neg h1, if_neg h2]; rfl)) _ (lvsub_p [0, 1, 2] rfl)
    · skip
      refine V_aload_n (pc1 := 43) 0 d11_suspends_42 rfl rfl ?_
      refine V_iload_n (pc1 := 44) 1 d11_suspends_43 rfl rfl ?_
      refine V_iconst (pc1 := 45) d11_suspends_44 vc_3 rfl ?_
      refine V_vv (pc1 := 48) (w11_goes g  i 3 hi (uI I 297 (256 * i + 2) ((I 297 (256 * i + 2)) + 1)) L ) ly296 (lt305 rfl) s11_goes l11_84 rfl rfl ⟨Nat.le_of_ble_eq_true rfl, Nat.le_of_ble_eq_true rfl, Nat.le_refl _, Nat.le_refl _⟩ (Nat.le_of_ble_eq_true rfl) rfl d11_suspends_45 rfl ?_
      exact key3 _ (by first | rfl | (simp only [if_neg h1, if_pos h2]; done) | (simp only [if_neg h1, if_pos h2]; rfl)) _ (lvsub_p [0, 1, 2] rfl)
  · skip
    refine V_aload_n (pc1 := 19) 0 d11_suspends_18 rfl rfl ?_
    refine V_iload_n (pc1 := 20) 1 d11_suspends_19 rfl rfl ?_
    refine V_iconst (pc1 := 21) d11_suspends_20 vc_0 rfl ?_
    refine V_vv (pc1 := 24) (w11_begins g  i 0 hi q hq4 (uI I 297 (256 * i + 2) ((I 297 (256 * i + 2)) + 1)) L ((uI_ne I 297 ((I 297 (256 * i + 2)) + 1) (show (256 * i + 32 : Nat) ≠ 256 * i + 2 by omega)).trans hq0)) ly296 (lt305 rfl) s11_begins l11_146 rfl rfl ⟨Nat.le_of_ble_eq_true rfl, Nat.le_of_ble_eq_true rfl, Nat.le_refl _, Nat.le_refl _⟩ (Nat.le_of_ble_eq_true rfl) rfl d11_suspends_21 rfl ?_
    refine V_goto (tgt := 48) d11_suspends_24 (by decide) ?_
    exact key3 _ (by first | rfl | (simp only [if_pos h1]; done) | (simp only [if_pos h1]; rfl)) _ (lvsub_p [0, 1, 2] rfl)
theorem w11_suspends (g : GlT)  (i : Nat) (x : Int32) (hi : i < 4) (q : Nat) (hq4 : q ≤ 4) (I : Nat → Nat → Int32) (L : Nat → Nat → Int64) (hq0 : I 297 (256 * i + 32) = nI q) : Call g (k11_suspends, 5, 0, 0) [.ref (xA g 296), .int (nI i), .int x] (I, L, R0, 305) (Qv (i11_suspends i x I L) L) := Call.of (by decide) (Nat.le_of_ble_eq_true rfl) rfl (v11_suspends g  i x hi q hq4 I L hq0 _ (And.intro rfl rfl))


def i11_recovers (i : Nat) (x : Int32) (I : Nat → Nat → Int32) (L : Nat → Nat → Int64) : Nat → Nat → Int32 := (if (if x = 1 then (I 297 (256 * i + 2)) + 1 else 0) = 11 then (if (I 297 (256 * i + 3)) + 1 < I 297 1027 then uI (uI (uI I 297 (256 * i + 2) (if x = 1 then (I 297 (256 * i + 2)) + 1 else 0)) 297 (256 * i + 2) 0) 297 (256 * i + 3) ((I 297 (256 * i + 3)) + 1) else i11_goes i 3 (uI (uI (uI (uI (uI I 297 (256 * i + 2) (if x = 1 then (I 297 (256 * i + 2)) + 1 else 0)) 297 (256 * i + 2) 0) 297 (256 * i + 3) ((I 297 (256 * i + 3)) + 1)) 297 (256 * i + 4) 0) 297 (256 * i + 5) 0) L) else uI I 297 (256 * i + 2) (if x = 1 then (I 297 (256 * i + 2)) + 1 else 0))
set_option maxRecDepth 4000 in
theorem v11_recovers (g : GlT)  (i : Nat) (x : Int32) (hi : i < 4) (I : Nat → Nat → Int32) (L : Nat → Nat → Int64) (Q : Option Value → MemT → Prop) (hq : Q (none) (i11_recovers i x I L, L, R0, 305)) : V g (k11_recovers, 4, 0, 0) 0 0 0 [(0, .ref (xA g 296)), (1, .int (nI i)), (2, .int x)] [] (I, L, R0, 305) Q := by
  refine V_aload_n (pc1 := 1) 0 d11_recovers_0 rfl rfl ?_
  refine V_getr (pc1 := 4) ly296 (lt305 rfl) f11_7 (fun _ => rfl) rf296_0 d11_recovers_1 rfl ?_
  refine V_iload_n (pc1 := 5) 1 d11_recovers_4 rfl rfl ?_
  refine V_iconst (pc1 := 6) d11_recovers_5 vc_2 rfl ?_
  refine V_si (pc1 := 9) (w11_at2 g  i 2 (256 * i + 2) (by omega) I L ) s11_at l11_35 rfl rfl ⟨Nat.le_of_ble_eq_true rfl, Nat.le_of_ble_eq_true rfl, Nat.le_refl _, Nat.le_refl _⟩ (Nat.le_of_ble_eq_true rfl) rfl d11_recovers_6 rfl ?_
  refine V_iload_n (pc1 := 10) 2 d11_recovers_9 rfl rfl ?_
  refine V_iconst (pc1 := 11) d11_recovers_10 vc_1 rfl ?_
  have key2 : ∀ (y30_0 : Int32), y30_0 = (if x = 1 then (I 297 (256 * i + 2)) + 1 else 0) → ∀ (lv : List (Nat × Value)), lvsub [(0, .ref (xA g 296)), (1, .int (nI i)), (2, .int x)] lv → V g (k11_recovers, 4, 0, 0) 0 0 30 lv [.int y30_0, .int (nI (256 * i + 2)), .ref (xA g 297)] (I, L, R0, 305) Q := by
    intro y30_0 ey30_0
    subst ey30_0
    intro lv hlv
    refine V_lv hlv ?_
    refine V_iast (pc1 := 31) (256 * i + 2) ly297 (lt305 rfl) rfl (by omega) d11_recovers_30 rfl ?_
    refine V_aload_n (pc1 := 32) 0 d11_recovers_31 rfl rfl ?_
    refine V_getr (pc1 := 35) ly296 (lt305 rfl) f11_7 (fun _ => rfl) rf296_0 d11_recovers_32 rfl ?_
    refine V_iload_n (pc1 := 36) 1 d11_recovers_35 rfl rfl ?_
    refine V_iconst (pc1 := 37) d11_recovers_36 vc_2 rfl ?_
    refine V_si (pc1 := 40) (w11_at2 g  i 2 (256 * i + 2) (by omega) (uI I 297 (256 * i + 2) (if x = 1 then (I 297 (256 * i + 2)) + 1 else 0)) L ) s11_at l11_35 rfl rfl ⟨Nat.le_of_ble_eq_true rfl, Nat.le_of_ble_eq_true rfl, Nat.le_refl _, Nat.le_refl _⟩ (Nat.le_of_ble_eq_true rfl) rfl d11_recovers_37 rfl ?_
    refine V_iald2 (pc1 := 41) (256 * i + 2) ly297 (lt305 rfl) rfl (by omega) (uI_self I 297 (256 * i + 2) (if x = 1 then (I 297 (256 * i + 2)) + 1 else 0)) d11_recovers_40 rfl ?_
    refine V_bipush (pc1 := 43) d11_recovers_41 vb_11 rfl ?_
    have key5 : ∀ (zI120 : Nat → Nat → Int32), zI120 = (if (if x = 1 then (I 297 (256 * i + 2)) + 1 else 0) = 11 then (if (I 297 (256 * i + 3)) + 1 < I 297 1027 then uI (uI (uI I 297 (256 * i + 2) (if x = 1 then (I 297 (256 * i + 2)) + 1 else 0)) 297 (256 * i + 2) 0) 297 (256 * i + 3) ((I 297 (256 * i + 3)) + 1) else i11_goes i 3 (uI (uI (uI (uI (uI I 297 (256 * i + 2) (if x = 1 then (I 297 (256 * i + 2)) + 1 else 0)) 297 (256 * i + 2) 0) 297 (256 * i + 3) ((I 297 (256 * i + 3)) + 1)) 297 (256 * i + 4) 0) 297 (256 * i + 5) 0) L) else uI I 297 (256 * i + 2) (if x = 1 then (I 297 (256 * i + 2)) + 1 else 0)) → ∀ (lv : List (Nat × Value)), lvsub [(0, .ref (xA g 296)), (1, .int (nI i)), (2, .int x)] lv → V g (k11_recovers, 4, 0, 0) 0 0 120 lv [] (zI120, L, R0, 305) Q := by
      intro zI120 ezI120
      subst ezI120
      intro lv hlv
      refine V_lv hlv ?_
      refine V_vret rfl d11_recovers_120 (Nat.zero_le _) (Nat.zero_le _) ?_
      have hq2 := hq
      simp only [i11_recovers] at hq2
      exact hq2
    refine V_icmp_ne (tgt := 120) (pc1 := 46) d11_recovers_43 (by decide) rfl (fun h3 => ?_) (fun h3 => ?_)
    · skip
      exact key5 _ (by first | rfl | (simp only [if_neg h3]; done) | (simp only [if_neg h3]; rfl)) _ (lvsub_p [0, 1, 2] rfl)
    · skip
      refine V_aload_n (pc1 := 47) 0 d11_recovers_46 rfl rfl ?_
      refine V_getr (pc1 := 50) ly296 (lt305 rfl) f11_7 (fun _ => rfl) rf296_0 d11_recovers_47 rfl ?_
      refine V_iload_n (pc1 := 51) 1 d11_recovers_50 rfl rfl ?_
      refine V_iconst (pc1 := 52) d11_recovers_51 vc_2 rfl ?_
      refine V_si (pc1 := 55) (w11_at2 g  i 2 (256 * i + 2) (by omega) (uI I 297 (256 * i + 2) (if x = 1 then (I 297 (256 * i + 2)) + 1 else 0)) L ) s11_at l11_35 rfl rfl ⟨Nat.le_of_ble_eq_true rfl, Nat.le_of_ble_eq_true rfl, Nat.le_refl _, Nat.le_refl _⟩ (Nat.le_of_ble_eq_true rfl) rfl d11_recovers_52 rfl ?_
      refine V_iconst (pc1 := 56) d11_recovers_55 vc_0 rfl ?_
      refine V_iast (pc1 := 57) (256 * i + 2) ly297 (lt305 rfl) rfl (by omega) d11_recovers_56 rfl ?_
      refine V_aload_n (pc1 := 58) 0 d11_recovers_57 rfl rfl ?_
      refine V_getr (pc1 := 61) ly296 (lt305 rfl) f11_7 (fun _ => rfl) rf296_0 d11_recovers_58 rfl ?_
      refine V_iload_n (pc1 := 62) 1 d11_recovers_61 rfl rfl ?_
      refine V_iconst (pc1 := 63) d11_recovers_62 vc_3 rfl ?_
      refine V_si (pc1 := 66) (w11_at2 g  i 3 (256 * i + 3) (by omega) (uI (uI I 297 (256 * i + 2) (if x = 1 then (I 297 (256 * i + 2)) + 1 else 0)) 297 (256 * i + 2) 0) L ) s11_at l11_35 rfl rfl ⟨Nat.le_of_ble_eq_true rfl, Nat.le_of_ble_eq_true rfl, Nat.le_refl _, Nat.le_refl _⟩ (Nat.le_of_ble_eq_true rfl) rfl d11_recovers_63 rfl ?_
      refine V_dup2 (pc1 := 67) d11_recovers_66 rfl rfl rfl ?_
      refine V_iald2 (pc1 := 68) (256 * i + 3) ly297 (lt305 rfl) rfl (by omega) ((uI_ne (uI I 297 (256 * i + 2) (if x = 1 then (I 297 (256 * i + 2)) + 1 else 0)) 297 0 (show (256 * i + 3 : Nat) ≠ 256 * i + 2 by omega)).trans (uI_ne I 297 (if x = 1 then (I 297 (256 * i + 2)) + 1 else 0) (show (256 * i + 3 : Nat) ≠ 256 * i + 2 by omega))) d11_recovers_67 rfl ?_
      refine V_iconst (pc1 := 69) d11_recovers_68 vc_1 rfl ?_
      refine V_iadd (pc1 := 70) d11_recovers_69 rfl ?_
      refine V_iast (pc1 := 71) (256 * i + 3) ly297 (lt305 rfl) rfl (by omega) d11_recovers_70 rfl ?_
      refine V_aload_n (pc1 := 72) 0 d11_recovers_71 rfl rfl ?_
      refine V_getr (pc1 := 75) ly296 (lt305 rfl) f11_7 (fun _ => rfl) rf296_0 d11_recovers_72 rfl ?_
      refine V_iload_n (pc1 := 76) 1 d11_recovers_75 rfl rfl ?_
      refine V_iconst (pc1 := 77) d11_recovers_76 vc_3 rfl ?_
      refine V_si (pc1 := 80) (w11_at2 g  i 3 (256 * i + 3) (by omega) (uI (uI (uI I 297 (256 * i + 2) (if x = 1 then (I 297 (256 * i + 2)) + 1 else 0)) 297 (256 * i + 2) 0) 297 (256 * i + 3) ((I 297 (256 * i + 3)) + 1)) L ) s11_at l11_35 rfl rfl ⟨Nat.le_of_ble_eq_true rfl, Nat.le_of_ble_eq_true rfl, Nat.le_refl _, Nat.le_refl _⟩ (Nat.le_of_ble_eq_true rfl) rfl d11_recovers_77 rfl ?_
      refine V_iald2 (pc1 := 81) (256 * i + 3) ly297 (lt305 rfl) rfl (by omega) (uI_self (uI (uI I 297 (256 * i + 2) (if x = 1 then (I 297 (256 * i + 2)) + 1 else 0)) 297 (256 * i + 2) 0) 297 (256 * i + 3) ((I 297 (256 * i + 3)) + 1)) d11_recovers_80 rfl ?_
      refine V_aload_n (pc1 := 82) 0 d11_recovers_81 rfl rfl ?_
      refine V_getr (pc1 := 85) ly296 (lt305 rfl) f11_7 (fun _ => rfl) rf296_0 d11_recovers_82 rfl ?_
      refine V_sipush (pc1 := 88) d11_recovers_85 vs_1027 rfl ?_
      refine V_iald2 (pc1 := 89) 1027 ly297 (lt305 rfl) rfl (Nat.le_of_ble_eq_true rfl) ((uI_ne (uI (uI I 297 (256 * i + 2) (if x = 1 then (I 297 (256 * i + 2)) + 1 else 0)) 297 (256 * i + 2) 0) 297 ((I 297 (256 * i + 3)) + 1) (show (1027 : Nat) ≠ 256 * i + 3 by omega)).trans ((uI_ne (uI I 297 (256 * i + 2) (if x = 1 then (I 297 (256 * i + 2)) + 1 else 0)) 297 0 (show (1027 : Nat) ≠ 256 * i + 2 by omega)).trans (uI_ne I 297 (if x = 1 then (I 297 (256 * i + 2)) + 1 else 0) (show (1027 : Nat) ≠ 256 * i + 2 by omega)))) d11_recovers_88 rfl ?_
      refine V_icmp_lt (tgt := 120) (pc1 := 92) d11_recovers_89 (by decide) rfl (fun h4 => ?_) (fun h4 => ?_)
      · skip
        exact key5 _ (by first | rfl | (simp only [if_pos h3, if_pos h4]; done) | (simp only [if_pos h3, if_pos h4]; rfl)) _ (lvsub_p [0, 1, 2] rfl)
      · skip
        refine V_aload_n (pc1 := 93) 0 d11_recovers_92 rfl rfl ?_
        refine V_getr (pc1 := 96) ly296 (lt305 rfl) f11_7 (fun _ => rfl) rf296_0 d11_recovers_93 rfl ?_
        refine V_iload_n (pc1 := 97) 1 d11_recovers_96 rfl rfl ?_
        refine V_iconst (pc1 := 98) d11_recovers_97 vc_4 rfl ?_
        refine V_si (pc1 := 101) (w11_at2 g  i 4 (256 * i + 4) (by omega) (uI (uI (uI I 297 (256 * i + 2) (if x = 1 then (I 297 (256 * i + 2)) + 1 else 0)) 297 (256 * i + 2) 0) 297 (256 * i + 3) ((I 297 (256 * i + 3)) + 1)) L ) s11_at l11_35 rfl rfl ⟨Nat.le_of_ble_eq_true rfl, Nat.le_of_ble_eq_true rfl, Nat.le_refl _, Nat.le_refl _⟩ (Nat.le_of_ble_eq_true rfl) rfl d11_recovers_98 rfl ?_
        refine V_iconst (pc1 := 102) d11_recovers_101 vc_0 rfl ?_
        refine V_iast (pc1 := 103) (256 * i + 4) ly297 (lt305 rfl) rfl (by omega) d11_recovers_102 rfl ?_
        refine V_aload_n (pc1 := 104) 0 d11_recovers_103 rfl rfl ?_
        refine V_getr (pc1 := 107) ly296 (lt305 rfl) f11_7 (fun _ => rfl) rf296_0 d11_recovers_104 rfl ?_
        refine V_iload_n (pc1 := 108) 1 d11_recovers_107 rfl rfl ?_
        refine V_iconst (pc1 := 109) d11_recovers_108 vc_5 rfl ?_
        refine V_si (pc1 := 112) (w11_at2 g  i 5 (256 * i + 5) (by omega) (uI (uI (uI (uI I 297 (256 * i + 2) (if x = 1 then (I 297 (256 * i + 2)) + 1 else 0)) 297 (256 * i + 2) 0) 297 (256 * i + 3) ((I 297 (256 * i + 3)) + 1)) 297 (256 * i + 4) 0) L ) s11_at l11_35 rfl rfl ⟨Nat.le_of_ble_eq_true rfl, Nat.le_of_ble_eq_true rfl, Nat.le_refl _, Nat.le_refl _⟩ (Nat.le_of_ble_eq_true rfl) rfl d11_recovers_109 rfl ?_
        refine V_iconst (pc1 := 113) d11_recovers_112 vc_0 rfl ?_
        refine V_iast (pc1 := 114) (256 * i + 5) ly297 (lt305 rfl) rfl (by omega) d11_recovers_113 rfl ?_
        refine V_aload_n (pc1 := 115) 0 d11_recovers_114 rfl rfl ?_
        refine V_iload_n (pc1 := 116) 1 d11_recovers_115 rfl rfl ?_
        refine V_iconst (pc1 := 117) d11_recovers_116 vc_3 rfl ?_
        refine V_vv (pc1 := 120) (w11_goes g  i 3 hi (uI (uI (uI (uI (uI I 297 (256 * i + 2) (if x = 1 then (I 297 (256 * i + 2)) + 1 else 0)) 297 (256 * i + 2) 0) 297 (256 * i + 3) ((I 297 (256 * i + 3)) + 1)) 297 (256 * i + 4) 0) 297 (256 * i + 5) 0) L ) ly296 (lt305 rfl) s11_goes l11_84 rfl rfl ⟨Nat.le_of_ble_eq_true rfl, Nat.le_of_ble_eq_true rfl, Nat.le_refl _, Nat.le_refl _⟩ (Nat.le_of_ble_eq_true rfl) rfl d11_recovers_117 rfl ?_
        exact key5 _ (by first | rfl | (simp only [if_pos h3, if_neg h4]; done) | (simp only [if_pos h3, if_neg h4]; rfl)) _ (lvsub_p [0, 1, 2] rfl)
  refine V_icmp_ne (tgt := 29) (pc1 := 14) d11_recovers_11 (by decide) rfl (fun h1 => ?_) (fun h1 => ?_)
  · skip
    refine V_iconst (pc1 := 30) d11_recovers_29 vc_0 rfl ?_
    exact key2 _ (by first | rfl | (simp only [if_neg h1]; done) | (simp only [if_neg h1]; rfl)) _ (lvsub_p [0, 1, 2] rfl)
  · skip
    refine V_aload_n (pc1 := 15) 0 d11_recovers_14 rfl rfl ?_
    refine V_getr (pc1 := 18) ly296 (lt305 rfl) f11_7 (fun _ => rfl) rf296_0 d11_recovers_15 rfl ?_
    refine V_iload_n (pc1 := 19) 1 d11_recovers_18 rfl rfl ?_
    refine V_iconst (pc1 := 20) d11_recovers_19 vc_2 rfl ?_
    refine V_si (pc1 := 23) (w11_at2 g  i 2 (256 * i + 2) (by omega) I L ) s11_at l11_35 rfl rfl ⟨Nat.le_of_ble_eq_true rfl, Nat.le_of_ble_eq_true rfl, Nat.le_refl _, Nat.le_refl _⟩ (Nat.le_of_ble_eq_true rfl) rfl d11_recovers_20 rfl ?_
    refine V_iald2 (pc1 := 24) (256 * i + 2) ly297 (lt305 rfl) rfl (by omega) rfl d11_recovers_23 rfl ?_
    refine V_iconst (pc1 := 25) d11_recovers_24 vc_1 rfl ?_
    refine V_iadd (pc1 := 26) d11_recovers_25 rfl ?_
    refine V_goto (tgt := 30) d11_recovers_26 (by decide) ?_
    exact key2 _ (by first | rfl | (simp only [if_pos h1]; done) | (simp only [if_pos h1]; rfl)) _ (lvsub_p [0, 1, 2] rfl)
theorem w11_recovers (g : GlT)  (i : Nat) (x : Int32) (hi : i < 4) (I : Nat → Nat → Int32) (L : Nat → Nat → Int64) : Call g (k11_recovers, 4, 0, 0) [.ref (xA g 296), .int (nI i), .int x] (I, L, R0, 305) (Qv (i11_recovers i x I L) L) := Call.of (by decide) (Nat.le_of_ble_eq_true rfl) rfl (v11_recovers g  i x hi I L  _ (And.intro rfl rfl))

theorem xs11_recovers {i : Nat} {x : Int32} {I : Nat → Nat → Int32} {L : Nat → Nat → Int64} {s0 : Nat} (h0 : s0 ≠ 256 * i) (h1 : s0 ≠ 256 * i + 1) (h2 : s0 ≠ 256 * i + 13) (h3 : s0 ≠ 256 * i + 2) (h4 : s0 ≠ 256 * i + 3) (h5 : s0 ≠ 256 * i + 34) (h6 : s0 ≠ 256 * i + 39) (h7 : s0 ≠ 256 * i + 4) (h8 : s0 ≠ 256 * i + 44) (h9 : s0 ≠ 256 * i + 49) (h10 : s0 ≠ 256 * i + 5) : i11_recovers i x I L 297 s0 = I 297 s0 := by
  first | (simp only [i11_recovers]; done) | (simp only [i11_recovers]; (try (repeat' split)) <;> first | rfl | (simp [uI_eq, h0, h1, h2, h3, h4, h5, h6, h7, h8, h9, h10, xs11_goes]; done))
