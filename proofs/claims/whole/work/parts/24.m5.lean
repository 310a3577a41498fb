def i11_stuffed (i : Nat) (x : Int32) (I : Nat → Nat → Int32) (L : Nat → Nat → Int64) : Nat → Nat → Int32 := (if (if I 297 (256 * i + 20) = 5 then true else false) = true then (if (¬ ((r11_isTransmitting i I L) = true)) ∨ (¬ ((if x = I 297 (256 * i + 26) then false else true) = true)) then (if ((r11_isTransmitting i I L) = true) ∨ (¬ (x = I 297 (256 * i + 21))) then (if (¬ (I 297 (256 * i + 19) = r11_total i (uI (uI I 297 (256 * i + 20) (if ((if I 297 (256 * i + 20) = 5 then true else false) = true) ∨ (¬ (x = I 297 (256 * i + 21))) then 1 else (I 297 (256 * i + 20)) + 1)) 297 (256 * i + 21) x) L)) ∨ (5 ≤ (if ((if I 297 (256 * i + 20) = 5 then true else false) = true) ∨ (¬ (x = I 297 (256 * i + 21))) then 1 else (I 297 (256 * i + 20)) + 1)) then uI (uI I 297 (256 * i + 20) (if ((if I 297 (256 * i + 20) = 5 then true else false) = true) ∨ (¬ (x = I 297 (256 * i + 21))) then 1 else (I 297 (256 * i + 20)) + 1)) 297 (256 * i + 21) x else uI (uI (uI I 297 (256 * i + 20) (if ((if I 297 (256 * i + 20) = 5 then true else false) = true) ∨ (¬ (x = I 297 (256 * i + 21))) then 1 else (I 297 (256 * i + 20)) + 1)) 297 (256 * i + 21) x) 297 (256 * i + 22) 0) else i11_errs i 2 I L) else i11_errs i 1 I L) else (if (¬ ((r11_isTransmitting i I L) = true)) ∨ (¬ ((if x = I 297 (256 * i + 26) then false else true) = true)) then (if ((r11_isTransmitting i (uI (uI I 297 (((I 297 (256 * i + 19)).toNatClampNeg) + 256 * i + 90) x) 297 (256 * i + 19) ((I 297 (256 * i + 19)) + 1)) L) = true) ∨ (¬ ((if ((nI ((I 297 (256 * i + 19)).toNatClampNeg) = 13) ∧ ((x = 1) ∨ ((nI ((I 297 (256 * i + 19)).toNatClampNeg) = 18) ∧ (¬ (r11_sampledLength i (uI (uI I 297 (((I 297 (256 * i + 19)).toNatClampNeg) + 256 * i + 90) x) 297 (256 * i + 19) ((I 297 (256 * i + 19)) + 1)) L ≤ 4))))) ∨ ((¬ (nI ((I 297 (256 * i + 19)).toNatClampNeg) = 13)) ∧ ((nI ((I 297 (256 * i + 19)).toNatClampNeg) = 18) ∧ (¬ (r11_sampledLength i (uI (uI I 297 (((I 297 (256 * i + 19)).toNatClampNeg) + 256 * i + 90) x) 297 (256 * i + 19) ((I 297 (256 * i + 19)) + 1)) L ≤ 4)))) then true else false) = true)) then (if (¬ ((I 297 (256 * i + 19)) + 1 = r11_total i (uI (uI (uI (uI I 297 (((I 297 (256 * i + 19)).toNatClampNeg) + 256 * i + 90) x) 297 (256 * i + 19) ((I 297 (256 * i + 19)) + 1)) 297 (256 * i + 20) (if ((if I 297 (256 * i + 20) = 5 then true else false) = true) ∨ (¬ (x = I 297 (256 * i + 21))) then 1 else (I 297 (256 * i + 20)) + 1)) 297 (256 * i + 21) x) L)) ∨ (5 ≤ (if ((if I 297 (256 * i + 20) = 5 then true else false) = true) ∨ (¬ (x = I 297 (256 * i + 21))) then 1 else (I 297 (256 * i + 20)) + 1)) then uI (uI (uI (uI I 297 (((I 297 (256 * i + 19)).toNatClampNeg) + 256 * i + 90) x) 297 (256 * i + 19) ((I 297 (256 * i + 19)) + 1)) 297 (256 * i + 20) (if ((if I 297 (256 * i + 20) = 5 then true else false) = true) ∨ (¬ (x = I 297 (256 * i + 21))) then 1 else (I 297 (256 * i + 20)) + 1)) 297 (256 * i + 21) x else uI (uI (uI (uI (uI I 297 (((I 297 (256 * i + 19)).toNatClampNeg) + 256 * i + 90) x) 297 (256 * i + 19) ((I 297 (256 * i + 19)) + 1)) 297 (256 * i + 20) (if ((if I 297 (256 * i + 20) = 5 then true else false) = true) ∨ (¬ (x = I 297 (256 * i + 21))) then 1 else (I 297 (256 * i + 20)) + 1)) 297 (256 * i + 21) x) 297 (256 * i + 22) 0) else i11_errs i 4 (uI (uI I 297 (((I 297 (256 * i + 19)).toNatClampNeg) + 256 * i + 90) x) 297 (256 * i + 19) ((I 297 (256 * i + 19)) + 1)) L) else (if (x = 1) ∨ (¬ ((r11_in (nI ((I 297 (256 * i + 19)).toNatClampNeg)) 1 12) = true)) then i11_errs i 1 I L else (if ((r11_isTransmitting i (uI (uI (i11_releases i (uI (uI I 297 (256 * i + 1) 0) 297 (256 * i + 12) ((I 297 (256 * i + 12)) + 1)) L) 297 (((I 297 (256 * i + 19)).toNatClampNeg) + 256 * i + 90) x) 297 (256 * i + 19) ((I 297 (256 * i + 19)) + 1)) L) = true) ∨ (¬ ((if ((nI ((I 297 (256 * i + 19)).toNatClampNeg) = 13) ∧ ((x = 1) ∨ ((nI ((I 297 (256 * i + 19)).toNatClampNeg) = 18) ∧ (¬ (r11_sampledLength i (uI (uI (i11_releases i (uI (uI I 297 (256 * i + 1) 0) 297 (256 * i + 12) ((I 297 (256 * i + 12)) + 1)) L) 297 (((I 297 (256 * i + 19)).toNatClampNeg) + 256 * i + 90) x) 297 (256 * i + 19) ((I 297 (256 * i + 19)) + 1)) L ≤ 4))))) ∨ ((¬ (nI ((I 297 (256 * i + 19)).toNatClampNeg) = 13)) ∧ ((nI ((I 297 (256 * i + 19)).toNatClampNeg) = 18) ∧ (¬ (r11_sampledLength i (uI (uI (i11_releases i (uI (uI I 297 (256 * i + 1) 0) 297 (256 * i + 12) ((I 297 (256 * i + 12)) + 1)) L) 297 (((I 297 (256 * i + 19)).toNatClampNeg) + 256 * i + 90) x) 297 (256 * i + 19) ((I 297 (256 * i + 19)) + 1)) L ≤ 4)))) then true else false) = true)) then (if (¬ ((I 297 (256 * i + 19)) + 1 = r11_total i (uI (uI (uI (uI (i11_releases i (uI (uI I 297 (256 * i + 1) 0) 297 (256 * i + 12) ((I 297 (256 * i + 12)) + 1)) L) 297 (((I 297 (256 * i + 19)).toNatClampNeg) + 256 * i + 90) x) 297 (256 * i + 19) ((I 297 (256 * i + 19)) + 1)) 297 (256 * i + 20) (if ((if I 297 (256 * i + 20) = 5 then true else false) = true) ∨ (¬ (x = I 297 (256 * i + 21))) then 1 else (I 297 (256 * i + 20)) + 1)) 297 (256 * i + 21) x) L)) ∨ (5 ≤ (if ((if I 297 (256 * i + 20) = 5 then true else false) = true) ∨ (¬ (x = I 297 (256 * i + 21))) then 1 else (I 297 (256 * i + 20)) + 1)) then uI (uI (uI (uI (i11_releases i (uI (uI I 297 (256 * i + 1) 0) 297 (256 * i + 12) ((I 297 (256 * i + 12)) + 1)) L) 297 (((I 297 (256 * i + 19)).toNatClampNeg) + 256 * i + 90) x) 297 (256 * i + 19) ((I 297 (256 * i + 19)) + 1)) 297 (256 * i + 20) (if ((if I 297 (256 * i + 20) = 5 then true else false) = true) ∨ (¬ (x = I 297 (256 * i + 21))) then 1 else (I 297 (256 * i + 20)) + 1)) 297 (256 * i + 21) x else uI (uI (uI (uI (uI (i11_releases i (uI (uI I 297 (256 * i + 1) 0) 297 (256 * i + 12) ((I 297 (256 * i + 12)) + 1)) L) 297 (((I 297 (256 * i + 19)).toNatClampNeg) + 256 * i + 90) x) 297 (256 * i + 19) ((I 297 (256 * i + 19)) + 1)) 297 (256 * i + 20) (if ((if I 297 (256 * i + 20) = 5 then true else false) = true) ∨ (¬ (x = I 297 (256 * i + 21))) then 1 else (I 297 (256 * i + 20)) + 1)) 297 (256 * i + 21) x) 297 (256 * i + 22) 0) else i11_errs i 4 (uI (uI (i11_releases i (uI (uI I 297 (256 * i + 1) 0) 297 (256 * i + 12) ((I 297 (256 * i + 12)) + 1)) L) 297 (((I 297 (256 * i + 19)).toNatClampNeg) + 256 * i + 90) x) 297 (256 * i + 19) ((I 297 (256 * i + 19)) + 1)) L))))
set_option maxRecDepth 4000 in
theorem v11_stuffed (g : GlT)  (i : Nat) (x : Int32) (hi : i < 4) (b : Nat) (hb2 : b < 70) (I : Nat → Nat → Int32) (L : Nat → Nat → Int64) (hb : I 297 (256 * i + 19) = nI b) (Q : Option Value → MemT → Prop) (hq : Q (none) (i11_stuffed i x I L, L, R0, 305)) : V g (k11_stuffed, 5, 0, 0) 0 0 0 [(0, .ref (xA g 296)), (1, .int (nI i)), (2, .int x)] [] (I, L, R0, 305) Q := by
  have hb3 : (I 297 (256 * i + 19)).toNatClampNeg = b := by rw [hb]; exact nI_clamp (by omega)
  refine V_aload_n (pc1 := 1) 0 d11_stuffed_0 rfl rfl ?_
  refine V_getr (pc1 := 4) ly296 (lt305 rfl) f11_7 (fun _ => rfl) rf296_0 d11_stuffed_1 rfl ?_
  refine V_iload_n (pc1 := 5) 1 d11_stuffed_4 rfl rfl ?_
  refine V_bipush (pc1 := 7) d11_stuffed_5 vb_20 rfl ?_
  refine V_si (pc1 := 10) (w11_at2 g  i 20 (256 * i + 20) (by omega) I L ) s11_at l11_35 rfl rfl ⟨Nat.le_of_ble_eq_true rfl, Nat.le_of_ble_eq_true rfl, Nat.le_refl _, Nat.le_refl _⟩ (Nat.le_of_ble_eq_true rfl) rfl d11_stuffed_7 rfl ?_
  refine V_iald2 (pc1 := 11) (256 * i + 20) ly297 (lt305 rfl) rfl (by omega) rfl d11_stuffed_10 rfl ?_
  refine V_iconst (pc1 := 12) d11_stuffed_11 vc_5 rfl ?_
  have key2 : ∀ (y20_0 : Int32), y20_0 = bI (if I 297 (256 * i + 20) = 5 then true else false) → ∀ (lv : List (Nat × Value)), lvsub [(0, .ref (xA g 296)), (1, .int (nI i)), (2, .int x)] lv → V g (k11_stuffed, 5, 0, 0) 0 0 20 lv [.int y20_0] (I, L, R0, 305) Q := by
    intro y20_0 ey20_0
    subst ey20_0
    intro lv hlv
    refine V_lv hlv ?_
    refine V_istore_n (pc1 := 21) d11_stuffed_20 (Nat.le_of_ble_eq_true rfl) rfl rfl ?_
    refine V_iload_n (pc1 := 22) 3 d11_stuffed_21 rfl rfl ?_
    refine V_aload_n (pc1 := 23) 1 d11_stuffed_22 rfl rfl ?_
    refine V_getr (pc1 := 26) ly296 (lt305 rfl) f11_7 (fun _ => rfl) rf296_0 d11_stuffed_23 rfl ?_
    refine V_iload_n (pc1 := 27) 2 d11_stuffed_26 rfl rfl ?_
    refine V_bipush (pc1 := 29) d11_stuffed_27 vb_26 rfl ?_
    refine V_si (pc1 := 32) (w11_at2 g  i 26 (256 * i + 26) (by omega) I L ) s11_at l11_35 rfl rfl ⟨Nat.le_of_ble_eq_true rfl, Nat.le_of_ble_eq_true rfl, Nat.le_refl _, Nat.le_refl _⟩ (Nat.le_of_ble_eq_true rfl) rfl d11_stuffed_29 rfl ?_
    refine V_iald2 (pc1 := 33) (256 * i + 26) ly297 (lt305 rfl) rfl (by omega) rfl d11_stuffed_32 rfl ?_
    have key4 : ∀ (y41_0 : Int32), y41_0 = bI (if x = I 297 (256 * i + 26) then false else true) → ∀ (lv : List (Nat × Value)), lvsub [(3, .int (bI (if I 297 (256 * i + 20) = 5 then true else false))), (0, .ref (xA g 296)), (1, .int (nI i)), (2, .int x)] lv → V g (k11_stuffed, 5, 0, 0) 0 0 41 lv [.int y41_0] (I, L, R0, 305) Q := by
      intro y41_0 ey41_0
      subst ey41_0
      intro lv hlv
      refine V_lv hlv ?_
      refine V_istore (pc1 := 43) d11_stuffed_41 (Nat.le_of_ble_eq_true rfl) rfl rfl ?_
      refine V_aload_n (pc1 := 44) 2 d11_stuffed_43 rfl rfl ?_
      refine V_getr (pc1 := 47) ly296 (lt305 rfl) f11_7 (fun _ => rfl) rf296_0 d11_stuffed_44 rfl ?_
      refine V_iload_n (pc1 := 48) 3 d11_stuffed_47 rfl rfl ?_
      refine V_bipush (pc1 := 50) d11_stuffed_48 vb_21 rfl ?_
      refine V_si (pc1 := 53) (w11_at2 g  i 21 (256 * i + 21) (by omega) I L ) s11_at l11_35 rfl rfl ⟨Nat.le_of_ble_eq_true rfl, Nat.le_of_ble_eq_true rfl, Nat.le_refl _, Nat.le_refl _⟩ (Nat.le_of_ble_eq_true rfl) rfl d11_stuffed_50 rfl ?_
      refine V_iald2 (pc1 := 54) (256 * i + 21) ly297 (lt305 rfl) rfl (by omega) rfl d11_stuffed_53 rfl ?_
      refine V_istore (pc1 := 56) d11_stuffed_54 (Nat.le_of_ble_eq_true rfl) rfl rfl ?_
      refine V_iload_n (pc1 := 57) 2 d11_stuffed_56 rfl rfl ?_
      refine V_beq (tgt := 101) (pc1 := 60) d11_stuffed_57 (by decide) rfl (fun h5 => ?_) (fun h5 => ?_)
      · skip
        refine V_aload_n (pc1 := 102) 3 d11_stuffed_101 rfl rfl ?_
        refine V_getr (pc1 := 105) ly296 (lt305 rfl) f11_7 (fun _ => rfl) rf296_0 d11_stuffed_102 rfl ?_
        refine V_iload_n (pc1 := 106) 4 d11_stuffed_105 rfl rfl ?_
        refine V_bipush (pc1 := 108) d11_stuffed_106 vb_19 rfl ?_
        refine V_si (pc1 := 111) (w11_at2 g  i 19 (256 * i + 19) (by omega) I L ) s11_at l11_35 rfl rfl ⟨Nat.le_of_ble_eq_true rfl, Nat.le_of_ble_eq_true rfl, Nat.le_refl _, Nat.le_refl _⟩ (Nat.le_of_ble_eq_true rfl) rfl d11_stuffed_108 rfl ?_
        refine V_iald2 (pc1 := 112) (256 * i + 19) ly297 (lt305 rfl) rfl (by omega) hb d11_stuffed_111 rfl ?_
        refine V_istore (pc1 := 114) d11_stuffed_112 (Nat.le_of_ble_eq_true rfl) rfl rfl ?_
        refine V_aload_n (pc1 := 115) 4 d11_stuffed_114 rfl rfl ?_
        refine V_iload_n (pc1 := 116) 5 d11_stuffed_115 rfl rfl ?_
        refine V_vi (pc1 := 119) (w11_isTransmitting g  i hi I L ) ly296 (lt305 rfl) s11_isTransmitting l11_110 rfl rfl ⟨Nat.le_of_ble_eq_true rfl, Nat.le_of_ble_eq_true rfl, Nat.le_refl _, Nat.le_refl _⟩ (Nat.le_of_ble_eq_true rfl) rfl d11_stuffed_116 rfl ?_
        have k7 : ((¬ ((r11_isTransmitting i I L) = true)) ∨ (¬ ((if x = I 297 (256 * i + 26) then false else true) = true))) → V g (k11_stuffed, 5, 0, 0) 0 0 181 [(6, .int (nI b)), (5, .int (I 297 (256 * i + 21))), (4, .int (bI (if x = I 297 (256 * i + 26) then false else true))), (3, .int (bI (if I 297 (256 * i + 20) = 5 then true else false))), (0, .ref (xA g 296)), (1, .int (nI i)), (2, .int x)] [] (I, L, R0, 305) Q := by
          intro h6
          refine V_aload_n (pc1 := 182) 4 d11_stuffed_181 rfl rfl ?_
          refine V_getr (pc1 := 185) ly296 (lt305 rfl) f11_7 (fun _ => rfl) rf296_0 d11_stuffed_182 rfl ?_
          refine V_iload_n (pc1 := 186) 5 d11_stuffed_185 rfl rfl ?_
          refine V_bipush (pc1 := 188) d11_stuffed_186 vb_90 rfl ?_
          refine V_iload (pc1 := 190) 0 d11_stuffed_188 rfl rfl ?_
          refine V_addN (pc1 := 191) (a := 90) (b := b) (c := b + 90) rfl rfl (by omega) d11_stuffed_190 rfl ?_
          refine V_si (pc1 := 194) (w11_at2 g  i (b + 90) (b + 256 * i + 90) (by omega) I L ) s11_at l11_35 rfl rfl ⟨Nat.le_of_ble_eq_true rfl, Nat.le_of_ble_eq_true rfl, Nat.le_refl _, Nat.le_refl _⟩ (Nat.le_of_ble_eq_true rfl) rfl d11_stuffed_191 rfl ?_
          refine V_iload_n (pc1 := 195) 6 d11_stuffed_194 rfl rfl ?_
          refine V_iast (pc1 := 196) (b + 256 * i + 90) ly297 (lt305 rfl) rfl (by omega) d11_stuffed_195 rfl ?_
          refine V_aload_n (pc1 := 197) 4 d11_stuffed_196 rfl rfl ?_
          refine V_getr (pc1 := 200) ly296 (lt305 rfl) f11_7 (fun _ => rfl) rf296_0 d11_stuffed_197 rfl ?_
          refine V_iload_n (pc1 := 201) 5 d11_stuffed_200 rfl rfl ?_
          refine V_bipush (pc1 := 203) d11_stuffed_201 vb_19 rfl ?_
          refine V_si (pc1 := 206) (w11_at2 g  i 19 (256 * i + 19) (by omega) (uI I 297 (b + 256 * i + 90) x) L ) s11_at l11_35 rfl rfl ⟨Nat.le_of_ble_eq_true rfl, Nat.le_of_ble_eq_true rfl, Nat.le_refl _, Nat.le_refl _⟩ (Nat.le_of_ble_eq_true rfl) rfl d11_stuffed_203 rfl ?_
          refine V_dup2 (pc1 := 207) d11_stuffed_206 rfl rfl rfl ?_
          refine V_iald2 (pc1 := 208) (256 * i + 19) ly297 (lt305 rfl) rfl (by omega) (uI_ne I 297 x (show (256 * i + 19 : Nat) ≠ b + 256 * i + 90 by omega)) d11_stuffed_207 rfl ?_
          refine V_iconst (pc1 := 209) d11_stuffed_208 vc_1 rfl ?_
          refine V_iadd (pc1 := 210) d11_stuffed_209 rfl ?_
          refine V_iast (pc1 := 211) (256 * i + 19) ly297 (lt305 rfl) rfl (by omega) d11_stuffed_210 rfl ?_
          refine V_iload (pc1 := 213) 0 d11_stuffed_211 rfl rfl ?_
          refine V_bipush (pc1 := 215) d11_stuffed_213 vb_13 rfl ?_
          have key18 : ∀ (y244_0 : Int32), y244_0 = bI (if ((nI b = 13) ∧ ((x = 1) ∨ ((nI b = 18) ∧ (¬ (r11_sampledLength i (uI (uI I 297 (b + 256 * i + 90) x) 297 (256 * i + 19) ((I 297 (256 * i + 19)) + 1)) L ≤ 4))))) ∨ ((¬ (nI b = 13)) ∧ ((nI b = 18) ∧ (¬ (r11_sampledLength i (uI (uI I 297 (b + 256 * i + 90) x) 297 (256 * i + 19) ((I 297 (256 * i + 19)) + 1)) L ≤ 4)))) then true else false) → ∀ (lv : List (Nat × Value)), lvsub [(6, .int (nI b)), (5, .int (I 297 (256 * i + 21))), (4, .int (bI (if x = I 297 (256 * i + 26) then false else true))), (3, .int (bI (if I 297 (256 * i + 20) = 5 then true else false))), (0, .ref (xA g 296)), (1, .int (nI i)), (2, .int x)] lv → V g (k11_stuffed, 5, 0, 0) 0 0 244 lv [.int y244_0] (uI (uI I 297 (b + 256 * i + 90) x) 297 (256 * i + 19) ((I 297 (256 * i + 19)) + 1), L, R0, 305) Q := by
            intro y244_0 ey244_0
            subst ey244_0
            intro lv hlv
            refine V_lv hlv ?_
            refine V_istore (pc1 := 246) d11_stuffed_244 (Nat.le_of_ble_eq_true rfl) rfl rfl ?_
            refine V_aload_n (pc1 := 247) 5 d11_stuffed_246 rfl rfl ?_
            refine V_iload_n (pc1 := 248) 6 d11_stuffed_247 rfl rfl ?_
            refine V_vi (pc1 := 251) (w11_isTransmitting g  i hi (uI (uI I 297 (b + 256 * i + 90) x) 297 (256 * i + 19) ((I 297 (256 * i + 19)) + 1)) L ) ly296 (lt305 rfl) s11_isTransmitting l11_110 rfl rfl ⟨Nat.le_of_ble_eq_true rfl, Nat.le_of_ble_eq_true rfl, Nat.le_refl _, Nat.le_refl _⟩ (Nat.le_of_ble_eq_true rfl) rfl d11_stuffed_248 rfl ?_
            have k20 : (((r11_isTransmitting i (uI (uI I 297 (b + 256 * i + 90) x) 297 (256 * i + 19) ((I 297 (256 * i + 19)) + 1)) L) = true) ∨ (¬ ((if ((nI b = 13) ∧ ((x = 1) ∨ ((nI b = 18) ∧ (¬ (r11_sampledLength i (uI (uI I 297 (b + 256 * i + 90) x) 297 (256 * i + 19) ((I 297 (256 * i + 19)) + 1)) L ≤ 4))))) ∨ ((¬ (nI b = 13)) ∧ ((nI b = 18) ∧ (¬ (r11_sampledLength i (uI (uI I 297 (b + 256 * i + 90) x) 297 (256 * i + 19) ((I 297 (256 * i + 19)) + 1)) L ≤ 4)))) then true else false) = true))) → V g (k11_stuffed, 5, 0, 0) 0 0 266 [(7, .int (bI (if ((nI b = 13) ∧ ((x = 1) ∨ ((nI b = 18) ∧ (¬ (r11_sampledLength i (uI (uI I 297 (b + 256 * i + 90) x) 297 (256 * i + 19) ((I 297 (256 * i + 19)) + 1)) L ≤ 4))))) ∨ ((¬ (nI b = 13)) ∧ ((nI b = 18) ∧ (¬ (r11_sampledLength i (uI (uI I 297 (b + 256 * i + 90) x) 297 (256 * i + 19) ((I 297 (256 * i + 19)) + 1)) L ≤ 4)))) then true else false))), (6, .int (nI b)), (5, .int (I 297 (256 * i + 21))), (4, .int (bI (if x = I 297 (256 * i + 26) then false else true))), (3, .int (bI (if I 297 (256 * i + 20) = 5 then true else false))), (0, .ref (xA g 296)), (1, .int (nI i)), (2, .int x)] [] (uI (uI I 297 (b + 256 * i + 90) x) 297 (256 * i + 19) ((I 297 (256 * i + 19)) + 1), L, R0, 305) Q := by
              intro h19
              refine V_aload_n (pc1 := 267) 5 d11_stuffed_266 rfl rfl ?_
              refine V_getr (pc1 := 270) ly296 (lt305 rfl) f11_7 (fun _ => rfl) rf296_0 d11_stuffed_267 rfl ?_
              refine V_iload_n (pc1 := 271) 6 d11_stuffed_270 rfl rfl ?_
              refine V_bipush (pc1 := 273) d11_stuffed_271 vb_20 rfl ?_
              refine V_si (pc1 := 276) (w11_at2 g  i 20 (256 * i + 20) (by omega) (uI (uI I 297 (b + 256 * i + 90) x) 297 (256 * i + 19) ((I 297 (256 * i + 19)) + 1)) L ) s11_at l11_35 rfl rfl ⟨Nat.le_of_ble_eq_true rfl, Nat.le_of_ble_eq_true rfl, Nat.le_refl _, Nat.le_refl _⟩ (Nat.le_of_ble_eq_true rfl) rfl d11_stuffed_273 rfl ?_
              refine V_iload_n (pc1 := 277) 4 d11_stuffed_276 rfl rfl ?_
              have key27 : ∀ (y303_0 : Int32), y303_0 = (if ((if I 297 (256 * i + 20) = 5 then true else false) = true) ∨ (¬ (x = I 297 (256 * i + 21))) then 1 else (I 297 (256 * i + 20)) + 1) → ∀ (lv : List (Nat × Value)), lvsub [(7, .int (bI (if ((nI b = 13) ∧ ((x = 1) ∨ ((nI b = 18) ∧ (¬ (r11_sampledLength i (uI (uI I 297 (b + 256 * i + 90) x) 297 (256 * i + 19) ((I 297 (256 * i + 19)) + 1)) L ≤ 4))))) ∨ ((¬ (nI b = 13)) ∧ ((nI b = 18) ∧ (¬ (r11_sampledLength i (uI (uI I 297 (b + 256 * i + 90) x) 297 (256 * i + 19) ((I 297 (256 * i + 19)) + 1)) L ≤ 4)))) then true else false))), (6, .int (nI b)), (5, .int (I 297 (256 * i + 21))), (4, .int (bI (if x = I 297 (256 * i + 26) then false else true))), (3, .int (bI (if I 297 (256 * i + 20) = 5 then true else false))), (0, .ref (xA g 296)), (1, .int (nI i)), (2, .int x)] lv → V g (k11_stuffed, 5, 0, 0) 0 0 303 lv [.int y303_0, .int (nI (256 * i + 20)), .ref (xA g 297)] (uI (uI I 297 (b + 256 * i + 90) x) 297 (256 * i + 19) ((I 297 (256 * i + 19)) + 1), L, R0, 305) Q := by
                intro y303_0 ey303_0
                subst ey303_0
                intro lv hlv
                refine V_lv hlv ?_
                refine V_iast (pc1 := 304) (256 * i + 20) ly297 (lt305 rfl) rfl (by omega) d11_stuffed_303 rfl ?_
                refine V_aload_n (pc1 := 305) 5 d11_stuffed_304 rfl rfl ?_
                refine V_getr (pc1 := 308) ly296 (lt305 rfl) f11_7 (fun _ => rfl) rf296_0 d11_stuffed_305 rfl ?_
                refine V_iload_n (pc1 := 309) 6 d11_stuffed_308 rfl rfl ?_
                refine V_bipush (pc1 := 311) d11_stuffed_309 vb_21 rfl ?_
                refine V_si (pc1 := 314) (w11_at2 g  i 21 (256 * i + 21) (by omega) (uI (uI (uI I 297 (b + 256 * i + 90) x) 297 (256 * i + 19) ((I 297 (256 * i + 19)) + 1)) 297 (256 * i + 20) (if ((if I 297 (256 * i + 20) = 5 then true else false) = true) ∨ (¬ (x = I 297 (256 * i + 21))) then 1 else (I 297 (256 * i + 20)) + 1)) L ) s11_at l11_35 rfl rfl ⟨Nat.le_of_ble_eq_true rfl, Nat.le_of_ble_eq_true rfl, Nat.le_refl _, Nat.le_refl _⟩ (Nat.le_of_ble_eq_true rfl) rfl d11_stuffed_311 rfl ?_
                refine V_iload_n (pc1 := 315) 7 d11_stuffed_314 rfl rfl ?_
                refine V_iast (pc1 := 316) (256 * i + 21) ly297 (lt305 rfl) rfl (by omega) d11_stuffed_315 rfl ?_
                refine V_aload_n (pc1 := 317) 5 d11_stuffed_316 rfl rfl ?_
                refine V_getr (pc1 := 320) ly296 (lt305 rfl) f11_7 (fun _ => rfl) rf296_0 d11_stuffed_317 rfl ?_
                refine V_iload_n (pc1 := 321) 6 d11_stuffed_320 rfl rfl ?_
                refine V_bipush (pc1 := 323) d11_stuffed_321 vb_19 rfl ?_
                refine V_si (pc1 := 326) (w11_at2 g  i 19 (256 * i + 19) (by omega) (uI (uI (uI (uI I 297 (b + 256 * i + 90) x) 297 (256 * i + 19) ((I 297 (256 * i + 19)) + 1)) 297 (256 * i + 20) (if ((if I 297 (256 * i + 20) = 5 then true else false) = true) ∨ (¬ (x = I 297 (256 * i + 21))) then 1 else (I 297 (256 * i + 20)) + 1)) 297 (256 * i + 21) x) L ) s11_at l11_35 rfl rfl ⟨Nat.le_of_ble_eq_true rfl, Nat.le_of_ble_eq_true rfl, Nat.le_refl _, Nat.le_refl _⟩ (Nat.le_of_ble_eq_true rfl) rfl d11_stuffed_323 rfl ?_
                refine V_iald2 (pc1 := 327) (256 * i + 19) ly297 (lt305 rfl) rfl (by omega) ((uI_ne (uI (uI (uI I 297 (b + 256 * i + 90) x) 297 (256 * i + 19) ((I 297 (256 * i + 19)) + 1)) 297 (256 * i + 20) (if ((if I 297 (256 * i + 20) = 5 then true else false) = true) ∨ (¬ (x = I 297 (256 * i + 21))) then 1 else (I 297 (256 * i + 20)) + 1)) 297 x (show (256 * i + 19 : Nat) ≠ 256 * i + 21 by omega)).trans ((uI_ne (uI (uI I 297 (b + 256 * i + 90) x) 297 (256 * i + 19) ((I 297 (256 * i + 19)) + 1)) 297 (if ((if I 297 (256 * i + 20) = 5 then true else false) = true) ∨ (¬ (x = I 297 (256 * i + 21))) then 1 else (I 297 (256 * i + 20)) + 1) (show (256 * i + 19 : Nat) ≠ 256 * i + 20 by omega)).trans (uI_self (uI I 297 (b + 256 * i + 90) x) 297 (256 * i + 19) ((I 297 (256 * i + 19)) + 1)))) d11_stuffed_326 rfl ?_
                refine V_aload_n (pc1 := 328) 5 d11_stuffed_327 rfl rfl ?_
                refine V_iload_n (pc1 := 329) 6 d11_stuffed_328 rfl rfl ?_
                refine V_vi (pc1 := 332) (w11_total g  i hi (uI (uI (uI (uI I 297 (b + 256 * i + 90) x) 297 (256 * i + 19) ((I 297 (256 * i + 19)) + 1)) 297 (256 * i + 20) (if ((if I 297 (256 * i + 20) = 5 then true else false) = true) ∨ (¬ (x = I 297 (256 * i + 21))) then 1 else (I 297 (256 * i + 20)) + 1)) 297 (256 * i + 21) x) L ) ly296 (lt305 rfl) s11_total l11_104 rfl rfl ⟨Nat.le_of_ble_eq_true rfl, Nat.le_of_ble_eq_true rfl, Nat.le_refl _, Nat.le_refl _⟩ (Nat.le_of_ble_eq_true rfl) rfl d11_stuffed_329 rfl ?_
                have key33 : ∀ (zI362 : Nat → Nat → Int32), zI362 = (if (¬ ((I 297 (256 * i + 19)) + 1 = r11_total i (uI (uI (uI (uI I 297 (b + 256 * i + 90) x) 297 (256 * i + 19) ((I 297 (256 * i + 19)) + 1)) 297 (256 * i + 20) (if ((if I 297 (256 * i + 20) = 5 then true else false) = true) ∨ (¬ (x = I 297 (256 * i + 21))) then 1 else (I 297 (256 * i + 20)) + 1)) 297 (256 * i + 21) x) L)) ∨ (5 ≤ (if ((if I 297 (256 * i + 20) = 5 then true else false) = true) ∨ (¬ (x = I 297 (256 * i + 21))) then 1 else (I 297 (256 * i + 20)) + 1)) then uI (uI (uI (uI I 297 (b + 256 * i + 90) x) 297 (256 * i + 19) ((I 297 (256 * i + 19)) + 1)) 297 (256 * i + 20) (if ((if I 297 (256 * i + 20) = 5 then true else false) = true) ∨ (¬ (x = I 297 (256 * i + 21))) then 1 else (I 297 (256 * i + 20)) + 1)) 297 (256 * i + 21) x else uI (uI (uI (uI (uI I 297 (b + 256 * i + 90) x) 297 (256 * i + 19) ((I 297 (256 * i + 19)) + 1)) 297 (256 * i + 20) (if ((if I 297 (256 * i + 20) = 5 then true else false) = true) ∨ (¬ (x = I 297 (256 * i + 21))) then 1 else (I 297 (256 * i + 20)) + 1)) 297 (256 * i + 21) x) 297 (256 * i + 22) 0) → ∀ (lv : List (Nat × Value)), lvsub [(7, .int (bI (if ((nI b = 13) ∧ ((x = 1) ∨ ((nI b = 18) ∧ (¬ (r11_sampledLength i (uI (uI I 297 (b + 256 * i + 90) x) 297 (256 * i + 19) ((I 297 (256 * i + 19)) + 1)) L ≤ 4))))) ∨ ((¬ (nI b = 13)) ∧ ((nI b = 18) ∧ (¬ (r11_sampledLength i (uI (uI I 297 (b + 256 * i + 90) x) 297 (256 * i + 19) ((I 297 (256 * i + 19)) + 1)) L ≤ 4)))) then true else false))), (6, .int (nI b)), (5, .int (I 297 (256 * i + 21))), (4, .int (bI (if x = I 297 (256 * i + 26) then false else true))), (3, .int (bI (if I 297 (256 * i + 20) = 5 then true else false))), (0, .ref (xA g 296)), (1, .int (nI i)), (2, .int x)] lv → V g (k11_stuffed, 5, 0, 0) 0 0 362 lv [] (zI362, L, R0, 305) Q := by
                  intro zI362 ezI362
                  subst ezI362
                  intro lv hlv
                  refine V_lv hlv ?_
                  refine V_vret rfl d11_stuffed_362 (Nat.zero_le _) (Nat.zero_le _) ?_
                  have hq2 := hq
                  simp only [i11_stuffed, hb3, if_neg h5, if_pos h6, if_pos h19] at hq2
                  exact hq2
                have k29 : ((¬ ((I 297 (256 * i + 19)) + 1 = r11_total i (uI (uI (uI (uI I 297 (b + 256 * i + 90) x) 297 (256 * i + 19) ((I 297 (256 * i + 19)) + 1)) 297 (256 * i + 20) (if ((if I 297 (256 * i + 20) = 5 then true else false) = true) ∨ (¬ (x = I 297 (256 * i + 21))) then 1 else (I 297 (256 * i + 20)) + 1)) 297 (256 * i + 21) x) L)) ∨ (5 ≤ (if ((if I 297 (256 * i + 20) = 5 then true else false) = true) ∨ (¬ (x = I 297 (256 * i + 21))) then 1 else (I 297 (256 * i + 20)) + 1))) → V g (k11_stuffed, 5, 0, 0) 0 0 362 [(7, .int (bI (if ((nI b = 13) ∧ ((x = 1) ∨ ((nI b = 18) ∧ (¬ (r11_sampledLength i (uI (uI I 297 (b + 256 * i + 90) x) 297 (256 * i + 19) ((I 297 (256 * i + 19)) + 1)) L ≤ 4))))) ∨ ((¬ (nI b = 13)) ∧ ((nI b = 18) ∧ (¬ (r11_sampledLength i (uI (uI I 297 (b + 256 * i + 90) x) 297 (256 * i + 19) ((I 297 (256 * i + 19)) + 1)) L ≤ 4)))) then true else false))), (6, .int (nI b)), (5, .int (I 297 (256 * i + 21))), (4, .int (bI (if x = I 297 (256 * i + 26) then false else true))), (3, .int (bI (if I 297 (256 * i + 20) = 5 then true else false))), (0, .ref (xA g 296)), (1, .int (nI i)), (2, .int x)] [] (uI (uI (uI (uI I 297 (b + 256 * i + 90) x) 297 (256 * i + 19) ((I 297 (256 * i + 19)) + 1)) 297 (256 * i + 20) (if ((if I 297 (256 * i + 20) = 5 then true else false) = true) ∨ (¬ (x = I 297 (256 * i + 21))) then 1 else (I 297 (256 * i + 20)) + 1)) 297 (256 * i + 21) x, L, R0, 305) Q := by
                  intro h28
                  exact key33 _ (by first | rfl | (simp only [hb3, if_pos h28]; done) | (simp only [hb3, if_pos h28]; rfl)) _ (lvsub_p [0, 1, 2, 3, 4, 5, 6, 7] rfl)
                have k30 : ¬ ((¬ ((I 297 (256 * i + 19)) + 1 = r11_total i (uI (uI (uI (uI I 297 (b + 256 * i + 90) x) 297 (256 * i + 19) ((I 297 (256 * i + 19)) + 1)) 297 (256 * i + 20) (if ((if I 297 (256 * i + 20) = 5 then true else false) = true) ∨ (¬ (x = I 297 (256 * i + 21))) then 1 else (I 297 (256 * i + 20)) + 1)) 297 (256 * i + 21) x) L)) ∨ (5 ≤ (if ((if I 297 (256 * i + 20) = 5 then true else false) = true) ∨ (¬ (x = I 297 (256 * i + 21))) then 1 else (I 297 (256 * i + 20)) + 1))) → V g (k11_stuffed, 5, 0, 0) 0 0 350 [(7, .int (bI (if ((nI b = 13) ∧ ((x = 1) ∨ ((nI b = 18) ∧ (¬ (r11_sampledLength i (uI (uI I 297 (b + 256 * i + 90) x) 297 (256 * i + 19) ((I 297 (256 * i + 19)) + 1)) L ≤ 4))))) ∨ ((¬ (nI b = 13)) ∧ ((nI b = 18) ∧ (¬ (r11_sampledLength i (uI (uI I 297 (b + 256 * i + 90) x) 297 (256 * i + 19) ((I 297 (256 * i + 19)) + 1)) L ≤ 4)))) then true else false))), (6, .int (nI b)), (5, .int (I 297 (256 * i + 21))), (4, .int (bI (if x = I 297 (256 * i + 26) then false else true))), (3, .int (bI (if I 297 (256 * i + 20) = 5 then true else false))), (0, .ref (xA g 296)), (1, .int (nI i)), (2, .int x)] [] (uI (uI (uI (uI I 297 (b + 256 * i + 90) x) 297 (256 * i + 19) ((I 297 (256 * i + 19)) + 1)) 297 (256 * i + 20) (if ((if I 297 (256 * i + 20) = 5 then true else false) = true) ∨ (¬ (x = I 297 (256 * i + 21))) then 1 else (I 297 (256 * i + 20)) + 1)) 297 (256 * i + 21) x, L, R0, 305) Q := by
                  intro h28
                  refine V_aload_n (pc1 := 351) 5 d11_stuffed_350 rfl rfl ?_
                  refine V_getr (pc1 := 354) ly296 (lt305 rfl) f11_7 (fun _ => rfl) rf296_0 d11_stuffed_351 rfl ?_
                  refine V_iload_n (pc1 := 355) 6 d11_stuffed_354 rfl rfl ?_
                  refine V_bipush (pc1 := 357) d11_stuffed_355 vb_22 rfl ?_
                  refine V_si (pc1 := 360) (w11_at2 g  i 22 (256 * i + 22) (by omega) (uI (uI (uI (uI I 297 (b + 256 * i + 90) x) 297 (256 * i + 19) ((I 297 (256 * i + 19)) + 1)) 297 (256 * i + 20) (if ((if I 297 (256 * i + 20) = 5 then true else false) = true) ∨ (¬ (x = I 297 (256 * i + 21))) then 1 else (I 297 (256 * i + 20)) + 1)) 297 (256 * i + 21) x) L ) s11_at l11_35 rfl rfl ⟨Nat.le_of_ble_eq_true rfl, Nat.le_of_ble_eq_true rfl, Nat.le_refl _, Nat.le_refl _⟩ (Nat.le_of_ble_eq_true rfl) rfl d11_stuffed_357 rfl ?_
                  refine V_iconst (pc1 := 361) d11_stuffed_360 vc_0 rfl ?_
                  refine V_iast (pc1 := 362) (256 * i + 22) ly297 (lt305 rfl) rfl (by omega) d11_stuffed_361 rfl ?_
                  exact key33 _ (by first | rfl | (simp only [hb3, if_neg h28]; done) | (simp only [hb3, if_neg h28]; rfl)) _ (lvsub_p [0, 1, 2, 3, 4, 5, 6, 7] rfl)
                refine V_icmp_ne (tgt := 362) (pc1 := 335) d11_stuffed_332 (by decide) rfl (fun h31 => ?_) (fun h31 => ?_)
                · skip
                  exact k29 (Or.inl h31)
                · skip
                  refine V_aload_n (pc1 := 336) 5 d11_stuffed_335 rfl rfl ?_
                  refine V_getr (pc1 := 339) ly296 (lt305 rfl) f11_7 (fun _ => rfl) rf296_0 d11_stuffed_336 rfl ?_
                  refine V_iload_n (pc1 := 340) 6 d11_stuffed_339 rfl rfl ?_
                  refine V_bipush (pc1 := 342) d11_stuffed_340 vb_20 rfl ?_
                  refine V_si (pc1 := 345) (w11_at2 g  i 20 (256 * i + 20) (by omega) (uI (uI (uI (uI I 297 (b + 256 * i + 90) x) 297 (256 * i + 19) ((I 297 (256 * i + 19)) + 1)) 297 (256 * i + 20) (if ((if I 297 (256 * i + 20) = 5 then true else false) = true) ∨ (¬ (x = I 297 (256 * i + 21))) then 1 else (I 297 (256 * i + 20)) + 1)) 297 (256 * i + 21) x) L ) s11_at l11_35 rfl rfl ⟨Nat.le_of_ble_eq_true rfl, Nat.le_of_ble_eq_true rfl, Nat.le_refl _, Nat.le_refl _⟩ (Nat.le_of_ble_eq_true rfl) rfl d11_stuffed_342 rfl ?_
                  refine V_iald2 (pc1 := 346) (256 * i + 20) ly297 (lt305 rfl) rfl (by omega) ((uI_ne (uI (uI (uI I 297 (b + 256 * i + 90) x) 297 (256 * i + 19) ((I 297 (256 * i + 19)) + 1)) 297 (256 * i + 20) (if ((if I 297 (256 * i + 20) = 5 then true else false) = true) ∨ (¬ (x = I 297 (256 * i + 21))) then 1 else (I 297 (256 * i + 20)) + 1)) 297 x (show (256 * i + 20 : Nat) ≠ 256 * i + 21 by omega)).trans (uI_self (uI (uI I 297 (b + 256 * i + 90) x) 297 (256 * i + 19) ((I 297 (256 * i + 19)) + 1)) 297 (256 * i + 20) (if ((if I 297 (256 * i + 20) = 5 then true else false) = true) ∨ (¬ (x = I 297 (256 * i + 21))) then 1 else (I 297 (256 * i + 20)) + 1))) d11_stuffed_345 rfl ?_
                  refine V_iconst (pc1 := 347) d11_stuffed_346 vc_5 rfl ?_
                  refine V_icmp_ge (tgt := 362) (pc1 := 350) d11_stuffed_347 (by decide) rfl (fun h32 => ?_) (fun h32 => ?_)
                  · skip
                    exact k29 (Or.inr h32)
                  · skip
                    exact k30 (fun z => z.elim (fun z => z h31) h32)
              have k23 : (((if I 297 (256 * i + 20) = 5 then true else false) = true) ∨ (¬ (x = I 297 (256 * i + 21)))) → V g (k11_stuffed, 5, 0, 0) 0 0 302 [(7, .int (bI (if ((nI b = 13) ∧ ((x = 1) ∨ ((nI b = 18) ∧ (¬ (r11_sampledLength i (uI (uI I 297 (b + 256 * i + 90) x) 297 (256 * i + 19) ((I 297 (256 * i + 19)) + 1)) L ≤ 4))))) ∨ ((¬ (nI b = 13)) ∧ ((nI b = 18) ∧ (¬ (r11_sampledLength i (uI (uI I 297 (b + 256 * i + 90) x) 297 (256 * i + 19) ((I 297 (256 * i + 19)) + 1)) L ≤ 4)))) then true else false))), (6, .int (nI b)), (5, .int (I 297 (256 * i + 21))), (4, .int (bI (if x = I 297 (256 * i + 26) then false else true))), (3, .int (bI (if I 297 (256 * i + 20) = 5 then true else false))), (0, .ref (xA g 296)), (1, .int (nI i)), (2, .int x)] [.int (nI (256 * i + 20)), .ref (xA g 297)] (uI (uI I 297 (b + 256 * i + 90) x) 297 (256 * i + 19) ((I 297 (256 * i + 19)) + 1), L, R0, 305) Q := by
                intro h22
                refine V_iconst (pc1 := 303) d11_stuffed_302 vc_1 rfl ?_
                exact key27 _ (by first | rfl | (simp only [hb3, if_pos h22]; done) | (simp only [hb3, if_pos h22]; rfl)) _ (lvsub_p [0, 1, 2, 3, 4, 5, 6, 7] rfl)
              have k24 : ¬ (((if I 297 (256 * i + 20) = 5 then true else false) = true) ∨ (¬ (x = I 297 (256 * i + 21)))) → V g (k11_stuffed, 5, 0, 0) 0 0 286 [(7, .int (bI (if ((nI b = 13) ∧ ((x = 1) ∨ ((nI b = 18) ∧ (¬ (r11_sampledLength i (uI (uI I 297 (b + 256 * i + 90) x) 297 (256 * i + 19) ((I 297 (256 * i + 19)) + 1)) L ≤ 4))))) ∨ ((¬ (nI b = 13)) ∧ ((nI b = 18) ∧ (¬ (r11_sampledLength i (uI (uI I 297 (b + 256 * i + 90) x) 297 (256 * i + 19) ((I 297 (256 * i + 19)) + 1)) L ≤ 4)))) then true else false))), (6, .int (nI b)), (5, .int (I 297 (256 * i + 21))), (4, .int (bI (if x = I 297 (256 * i + 26) then false else true))), (3, .int (bI (if I 297 (256 * i + 20) = 5 then true else false))), (0, .ref (xA g 296)), (1, .int (nI i)), (2, .int x)] [.int (nI (256 * i + 20)), .ref (xA g 297)] (uI (uI I 297 (b + 256 * i + 90) x) 297 (256 * i + 19) ((I 297 (256 * i + 19)) + 1), L, R0, 305) Q := by
                intro h22
                refine V_aload_n (pc1 := 287) 5 d11_stuffed_286 rfl rfl ?_
                refine V_getr (pc1 := 290) ly296 (lt305 rfl) f11_7 (fun _ => rfl) rf296_0 d11_stuffed_287 rfl ?_
                refine V_iload_n (pc1 := 291) 6 d11_stuffed_290 rfl rfl ?_
                refine V_bipush (pc1 := 293) d11_stuffed_291 vb_20 rfl ?_
                refine V_si (pc1 := 296) (w11_at2 g  i 20 (256 * i + 20) (by omega) (uI (uI I 297 (b + 256 * i + 90) x) 297 (256 * i + 19) ((I 297 (256 * i + 19)) + 1)) L ) s11_at l11_35 rfl rfl ⟨Nat.le_of_ble_eq_true rfl, Nat.le_of_ble_eq_true rfl, Nat.le_refl _, Nat.le_refl _⟩ (Nat.le_of_ble_eq_true rfl) rfl d11_stuffed_293 rfl ?_
                refine V_iald2 (pc1 := 297) (256 * i + 20) ly297 (lt305 rfl) rfl (by omega) ((uI_ne (uI I 297 (b + 256 * i + 90) x) 297 ((I 297 (256 * i + 19)) + 1) (show (256 * i + 20 : Nat) ≠ 256 * i + 19 by omega)).trans (uI_ne I 297 x (show (256 * i + 20 : Nat) ≠ b + 256 * i + 90 by omega))) d11_stuffed_296 rfl ?_
                refine V_iconst (pc1 := 298) d11_stuffed_297 vc_1 rfl ?_
                refine V_iadd (pc1 := 299) d11_stuffed_298 rfl ?_
                refine V_goto (tgt := 303) d11_stuffed_299 (by decide) ?_
                exact key27 _ (by first | rfl | (simp only [hb3, if_neg h22]; done) | (simp only [hb3, if_neg h22]; rfl)) _ (lvsub_p [0, 1, 2, 3, 4, 5, 6, 7] rfl)
              refine V_bne (tgt := 302) (pc1 := 280) d11_stuffed_277 (by decide) rfl (fun h25 => ?_) (fun h25 => ?_)
              · skip
                exact k23 (Or.inl h25)
              · skip
                refine V_iload_n (pc1 := 281) 7 d11_stuffed_280 rfl rfl ?_
                refine V_iload (pc1 := 283) 2 d11_stuffed_281 rfl rfl ?_
                refine V_icmp_ne (tgt := 302) (pc1 := 286) d11_stuffed_283 (by decide) rfl (fun h26 => ?_) (fun h26 => ?_)
                · skip
                  exact k23 (Or.inr h26)
                · skip
                  exact k24 (fun z => z.elim h25 (fun z => z h26))
            have k21 : ¬ (((r11_isTransmitting i (uI (uI I 297 (b + 256 * i + 90) x) 297 (256 * i + 19) ((I 297 (256 * i + 19)) + 1)) L) = true) ∨ (¬ ((if ((nI b = 13) ∧ ((x = 1) ∨ ((nI b = 18) ∧ (¬ (r11_sampledLength i (uI (uI I 297 (b + 256 * i + 90) x) 297 (256 * i + 19) ((I 297 (256 * i + 19)) + 1)) L ≤ 4))))) ∨ ((¬ (nI b = 13)) ∧ ((nI b = 18) ∧ (¬ (r11_sampledLength i (uI (uI I 297 (b + 256 * i + 90) x) 297 (256 * i + 19) ((I 297 (256 * i + 19)) + 1)) L ≤ 4)))) then true else false) = true))) → V g (k11_stuffed, 5, 0, 0) 0 0 259 [(7, .int (bI (if ((nI b = 13) ∧ ((x = 1) ∨ ((nI b = 18) ∧ (¬ (r11_sampledLength i (uI (uI I 297 (b + 256 * i + 90) x) 297 (256 * i + 19) ((I 297 (256 * i + 19)) + 1)) L ≤ 4))))) ∨ ((¬ (nI b = 13)) ∧ ((nI b = 18) ∧ (¬ (r11_sampledLength i (uI (uI I 297 (b + 256 * i + 90) x) 297 (256 * i + 19) ((I 297 (256 * i + 19)) + 1)) L ≤ 4)))) then true else false))), (6, .int (nI b)), (5, .int (I 297 (256 * i + 21))), (4, .int (bI (if x = I 297 (256 * i + 26) then false else true))), (3, .int (bI (if I 297 (256 * i + 20) = 5 then true else false))), (0, .ref (xA g 296)), (1, .int (nI i)), (2, .int x)] [] (uI (uI I 297 (b + 256 * i + 90) x) 297 (256 * i + 19) ((I 297 (256 * i + 19)) + 1), L, R0, 305) Q := by
              intro h19
              refine V_aload_n (pc1 := 260) 5 d11_stuffed_259 rfl rfl ?_
              refine V_iload_n (pc1 := 261) 6 d11_stuffed_260 rfl rfl ?_
              refine V_iconst (pc1 := 262) d11_stuffed_261 vc_4 rfl ?_
              refine V_vv (pc1 := 265) (w11_errs g  i 4 hi (by first | decide | omega | (split <;> decide)) (uI (uI I 297 (b + 256 * i + 90) x) 297 (256 * i + 19) ((I 297 (256 * i + 19)) + 1)) L ) ly296 (lt305 rfl) s11_errs l11_150 rfl rfl ⟨Nat.le_of_ble_eq_true rfl, Nat.le_of_ble_eq_true rfl, Nat.le_refl _, Nat.le_refl _⟩ (Nat.le_of_ble_eq_true rfl) rfl d11_stuffed_262 rfl ?_
              refine V_vret rfl d11_stuffed_265 (Nat.zero_le _) (Nat.zero_le _) ?_
              have hq2 := hq
              simp only [i11_stuffed, hb3, if_neg h5, if_pos h6, if_neg h19] at hq2
              exact hq2
            refine V_bne (tgt := 266) (pc1 := 254) d11_stuffed_251 (by decide) rfl (fun h34 => ?_) (fun h34 => ?_)
            · skip
              exact k20 (Or.inl h34)
            · skip
              refine V_iload (pc1 := 256) 0 d11_stuffed_254 rfl rfl ?_
              refine V_beq (tgt := 266) (pc1 := 259) d11_stuffed_256 (by decide) rfl (fun h35 => ?_) (fun h35 => ?_)
              · skip
                exact k20 (Or.inr h35)
              · skip
                exact k21 (fun z => z.elim h34 (fun z => z h35))
          have k10 : (((nI b = 13) ∧ ((x = 1) ∨ ((nI b = 18) ∧ (¬ (r11_sampledLength i (uI (uI I 297 (b + 256 * i + 90) x) 297 (256 * i + 19) ((I 297 (256 * i + 19)) + 1)) L ≤ 4))))) ∨ ((¬ (nI b = 13)) ∧ ((nI b = 18) ∧ (¬ (r11_sampledLength i (uI (uI I 297 (b + 256 * i + 90) x) 297 (256 * i + 19) ((I 297 (256 * i + 19)) + 1)) L ≤ 4))))) → V g (k11_stuffed, 5, 0, 0) 0 0 239 [(6, .int (nI b)), (5, .int (I 297 (256 * i + 21))), (4, .int (bI (if x = I 297 (256 * i + 26) then false else true))), (3, .int (bI (if I 297 (256 * i + 20) = 5 then true else false))), (0, .ref (xA g 296)), (1, .int (nI i)), (2, .int x)] [] (uI (uI I 297 (b + 256 * i + 90) x) 297 (256 * i + 19) ((I 297 (256 * i + 19)) + 1), L, R0, 305) Q := by
            intro h9
            refine V_iconst (pc1 := 240) d11_stuffed_239 vc_1 rfl ?_
            refine V_goto (tgt := 244) d11_stuffed_240 (by decide) ?_
            exact key18 _ (by first | rfl | (simp only [hb3, if_pos h9]; done) | (simp only [hb3, if_pos h9]; rfl)) _ (lvsub_p [0, 1, 2, 3, 4, 5, 6] rfl)
          have k11 : ¬ (((nI b = 13) ∧ ((x = 1) ∨ ((nI b = 18) ∧ (¬ (r11_sampledLength i (uI (uI I 297 (b + 256 * i + 90) x) 297 (256 * i + 19) ((I 297 (256 * i + 19)) + 1)) L ≤ 4))))) ∨ ((¬ (nI b = 13)) ∧ ((nI b = 18) ∧ (¬ (r11_sampledLength i (uI (uI I 297 (b + 256 * i + 90) x) 297 (256 * i + 19) ((I 297 (256 * i + 19)) + 1)) L ≤ 4))))) → V g (k11_stuffed, 5, 0, 0) 0 0 243 [(6, .int (nI b)), (5, .int (I 297 (256 * i + 21))), (4, .int (bI (if x = I 297 (256 * i + 26) then false else true))), (3, .int (bI (if I 297 (256 * i + 20) = 5 then true else false))), (0, .ref (xA g 296)), (1, .int (nI i)), (2, .int x)] [] (uI (uI I 297 (b + 256 * i + 90) x) 297 (256 * i + 19) ((I 297 (256 * i + 19)) + 1), L, R0, 305) Q := by
            intro h9
            refine V_iconst (pc1 := 244) d11_stuffed_243 vc_0 rfl ?_
            exact key18 _ (by first | rfl | (simp only [hb3, if_neg h9]; done) | (simp only [hb3, if_neg h9]; rfl)) _ (lvsub_p [0, 1, 2, 3, 4, 5, 6] rfl)
          refine V_icmp_ne (tgt := 223) (pc1 := 218) d11_stuffed_215 (by decide) rfl (fun h12 => ?_) (fun h12 => ?_)
          · skip
            refine V_iload (pc1 := 225) 0 d11_stuffed_223 rfl rfl ?_
            refine V_bipush (pc1 := 227) d11_stuffed_225 vb_18 rfl ?_
            refine V_icmp_ne (tgt := 243) (pc1 := 230) d11_stuffed_227 (by decide) rfl (fun h13 => ?_) (fun h13 => ?_)
            · skip
              exact k11 (fun z => z.elim (fun z => h12 z.1) (fun z => (fun z => h13 z.1) z.2))
            · skip
              refine V_aload_n (pc1 := 231) 4 d11_stuffed_230 rfl rfl ?_
              refine V_iload_n (pc1 := 232) 5 d11_stuffed_231 rfl rfl ?_
              refine V_vi (pc1 := 235) (w11_sampledLength g  i hi (uI (uI I 297 (b + 256 * i + 90) x) 297 (256 * i + 19) ((I 297 (256 * i + 19)) + 1)) L ) ly296 (lt305 rfl) s11_sampledLength l11_98 rfl rfl ⟨Nat.le_of_ble_eq_true rfl, Nat.le_of_ble_eq_true rfl, Nat.le_refl _, Nat.le_refl _⟩ (Nat.le_of_ble_eq_true rfl) rfl d11_stuffed_232 rfl ?_
              refine V_iconst (pc1 := 236) d11_stuffed_235 vc_4 rfl ?_
              refine V_icmp_le (tgt := 243) (pc1 := 239) d11_stuffed_236 (by decide) rfl (fun h14 => ?_) (fun h14 => ?_)
              · skip
                exact k11 (fun z => z.elim (fun z => h12 z.1) (fun z => (fun z => (fun z => z h14) z.2) z.2))
              · skip
                exact k10 (Or.inr ⟨h12, ⟨h13, h14⟩⟩)
          · skip
            refine V_iload_n (pc1 := 219) 6 d11_stuffed_218 rfl rfl ?_
            refine V_iconst (pc1 := 220) d11_stuffed_219 vc_1 rfl ?_
            refine V_icmp_eq (tgt := 239) (pc1 := 223) d11_stuffed_220 (by decide) rfl (fun h15 => ?_) (fun h15 => ?_)
            · skip
              exact k10 (Or.inl ⟨h12, (Or.inl h15)⟩)
            · skip
              refine V_iload (pc1 := 225) 0 d11_stuffed_223 rfl rfl ?_
              refine V_bipush (pc1 := 227) d11_stuffed_225 vb_18 rfl ?_
              refine V_icmp_ne (tgt := 243) (pc1 := 230) d11_stuffed_227 (by decide) rfl (fun h16 => ?_) (fun h16 => ?_)
              · skip
                exact k11 (fun z => z.elim (fun z => (fun z => z.elim h15 (fun z => h16 z.1)) z.2) (fun z => (fun z => z h12) z.1))
              · skip
                refine V_aload_n (pc1 := 231) 4 d11_stuffed_230 rfl rfl ?_
                refine V_iload_n (pc1 := 232) 5 d11_stuffed_231 rfl rfl ?_
                refine V_vi (pc1 := 235) (w11_sampledLength g  i hi (uI (uI I 297 (b + 256 * i + 90) x) 297 (256 * i + 19) ((I 297 (256 * i + 19)) + 1)) L ) ly296 (lt305 rfl) s11_sampledLength l11_98 rfl rfl ⟨Nat.le_of_ble_eq_true rfl, Nat.le_of_ble_eq_true rfl, Nat.le_refl _, Nat.le_refl _⟩ (Nat.le_of_ble_eq_true rfl) rfl d11_stuffed_232 rfl ?_
                refine V_iconst (pc1 := 236) d11_stuffed_235 vc_4 rfl ?_
                refine V_icmp_le (tgt := 243) (pc1 := 239) d11_stuffed_236 (by decide) rfl (fun h17 => ?_) (fun h17 => ?_)
                · skip
                  exact k11 (fun z => z.elim (fun z => (fun z => z.elim h15 (fun z => (fun z => z h17) z.2)) z.2) (fun z => (fun z => z h12) z.1))
                · skip
                  exact k10 (Or.inl ⟨h12, (Or.inr ⟨h16, h17⟩)⟩)
        have k8 : ¬ ((¬ ((r11_isTransmitting i I L) = true)) ∨ (¬ ((if x = I 297 (256 * i + 26) then false else true) = true))) → V g (k11_stuffed, 5, 0, 0) 0 0 127 [(6, .int (nI b)), (5, .int (I 297 (256 * i + 21))), (4, .int (bI (if x = I 297 (256 * i + 26) then false else true))), (3, .int (bI (if I 297 (256 * i + 20) = 5 then true else false))), (0, .ref (xA g 296)), (1, .int (nI i)), (2, .int x)] [] (I, L, R0, 305) Q := by
          intro h6
          refine V_iload_n (pc1 := 128) 6 d11_stuffed_127 rfl rfl ?_
          refine V_iconst (pc1 := 129) d11_stuffed_128 vc_1 rfl ?_
          have k37 : ((x = 1) ∨ (¬ ((r11_in (nI b) 1 12) = true))) → V g (k11_stuffed, 5, 0, 0) 0 0 143 [(6, .int (nI b)), (5, .int (I 297 (256 * i + 21))), (4, .int (bI (if x = I 297 (256 * i + 26) then false else true))), (3, .int (bI (if I 297 (256 * i + 20) = 5 then true else false))), (0, .ref (xA g 296)), (1, .int (nI i)), (2, .int x)] [] (I, L, R0, 305) Q := by
            intro h36
            refine V_aload_n (pc1 := 144) 4 d11_stuffed_143 rfl rfl ?_
            refine V_iload_n (pc1 := 145) 5 d11_stuffed_144 rfl rfl ?_
            refine V_iconst (pc1 := 146) d11_stuffed_145 vc_1 rfl ?_
            refine V_vv (pc1 := 149) (w11_errs g  i 1 hi (by first | decide | omega | (split <;> decide)) I L ) ly296 (lt305 rfl) s11_errs l11_150 rfl rfl ⟨Nat.le_of_ble_eq_true rfl, Nat.le_of_ble_eq_true rfl, Nat.le_refl _, Nat.le_refl _⟩ (Nat.le_of_ble_eq_true rfl) rfl d11_stuffed_146 rfl ?_
            refine V_vret rfl d11_stuffed_149 (Nat.zero_le _) (Nat.zero_le _) ?_
            have hq2 := hq
            simp only [i11_stuffed, hb3, if_neg h5, if_neg h6, if_pos h36] at hq2
            exact hq2
          have k38 : ¬ ((x = 1) ∨ (¬ ((r11_in (nI b) 1 12) = true))) → V g (k11_stuffed, 5, 0, 0) 0 0 150 [(6, .int (nI b)), (5, .int (I 297 (256 * i + 21))), (4, .int (bI (if x = I 297 (256 * i + 26) then false else true))), (3, .int (bI (if I 297 (256 * i + 20) = 5 then true else false))), (0, .ref (xA g 296)), (1, .int (nI i)), (2, .int x)] [] (I, L, R0, 305) Q := by
            intro h36
            refine V_aload_n (pc1 := 151) 4 d11_stuffed_150 rfl rfl ?_
            refine V_getr (pc1 := 154) ly296 (lt305 rfl) f11_7 (fun _ => rfl) rf296_0 d11_stuffed_151 rfl ?_
            refine V_iload_n (pc1 := 155) 5 d11_stuffed_154 rfl rfl ?_
            refine V_iconst (pc1 := 156) d11_stuffed_155 vc_1 rfl ?_
            refine V_si (pc1 := 159) (w11_at2 g  i 1 (256 * i + 1) (by omega) I L ) s11_at l11_35 rfl rfl ⟨Nat.le_of_ble_eq_true rfl, Nat.le_of_ble_eq_true rfl, Nat.le_refl _, Nat.le_refl _⟩ (Nat.le_of_ble_eq_true rfl) rfl d11_stuffed_156 rfl ?_
            refine V_iconst (pc1 := 160) d11_stuffed_159 vc_0 rfl ?_
            refine V_iast (pc1 := 161) (256 * i + 1) ly297 (lt305 rfl) rfl (by omega) d11_stuffed_160 rfl ?_
            refine V_aload_n (pc1 := 162) 4 d11_stuffed_161 rfl rfl ?_
            refine V_getr (pc1 := 165) ly296 (lt305 rfl) f11_7 (fun _ => rfl) rf296_0 d11_stuffed_162 rfl ?_
            refine V_iload_n (pc1 := 166) 5 d11_stuffed_165 rfl rfl ?_
            refine V_bipush (pc1 := 168) d11_stuffed_166 vb_12 rfl ?_
            refine V_si (pc1 := 171) (w11_at2 g  i 12 (256 * i + 12) (by omega) (uI I 297 (256 * i + 1) 0) L ) s11_at l11_35 rfl rfl ⟨Nat.le_of_ble_eq_true rfl, Nat.le_of_ble_eq_true rfl, Nat.le_refl _, Nat.le_refl _⟩ (Nat.le_of_ble_eq_true rfl) rfl d11_stuffed_168 rfl ?_
            refine V_dup2 (pc1 := 172) d11_stuffed_171 rfl rfl rfl ?_
            refine V_iald2 (pc1 := 173) (256 * i + 12) ly297 (lt305 rfl) rfl (by omega) (uI_ne I 297 0 (show (256 * i + 12 : Nat) ≠ 256 * i + 1 by omega)) d11_stuffed_172 rfl ?_
            refine V_iconst (pc1 := 174) d11_stuffed_173 vc_1 rfl ?_
            refine V_iadd (pc1 := 175) d11_stuffed_174 rfl ?_
            refine V_iast (pc1 := 176) (256 * i + 12) ly297 (lt305 rfl) rfl (by omega) d11_stuffed_175 rfl ?_
            refine V_aload_n (pc1 := 177) 4 d11_stuffed_176 rfl rfl ?_
            refine V_iload_n (pc1 := 178) 5 d11_stuffed_177 rfl rfl ?_
            refine V_vv (pc1 := 181) (w11_releases g  i hi (uI (uI I 297 (256 * i + 1) 0) 297 (256 * i + 12) ((I 297 (256 * i + 12)) + 1)) L ) ly296 (lt305 rfl) s11_releases l11_77 rfl rfl ⟨Nat.le_of_ble_eq_true rfl, Nat.le_of_ble_eq_true rfl, Nat.le_refl _, Nat.le_refl _⟩ (Nat.le_of_ble_eq_true rfl) rfl d11_stuffed_178 rfl ?_
            refine V_aload_n (pc1 := 182) 4 d11_stuffed_181 rfl rfl ?_
            refine V_getr (pc1 := 185) ly296 (lt305 rfl) f11_7 (fun _ => rfl) rf296_0 d11_stuffed_182 rfl ?_
            refine V_iload_n (pc1 := 186) 5 d11_stuffed_185 rfl rfl ?_
            refine V_bipush (pc1 := 188) d11_stuffed_186 vb_90 rfl ?_
            refine V_iload (pc1 := 190) 0 d11_stuffed_188 rfl rfl ?_
            refine V_addN (pc1 := 191) (a := 90) (b := b) (c := b + 90) rfl rfl (by omega) d11_stuffed_190 rfl ?_
            refine V_si (pc1 := 194) (w11_at2 g  i (b + 90) (b + 256 * i + 90) (by omega) (i11_releases i (uI (uI I 297 (256 * i + 1) 0) 297 (256 * i + 12) ((I 297 (256 * i + 12)) + 1)) L) L ) s11_at l11_35 rfl rfl ⟨Nat.le_of_ble_eq_true rfl, Nat.le_of_ble_eq_true rfl, Nat.le_refl _, Nat.le_refl _⟩ (Nat.le_of_ble_eq_true rfl) rfl d11_stuffed_191 rfl ?_
            refine V_iload_n (pc1 := 195) 6 d11_stuffed_194 rfl rfl ?_
            refine V_iast (pc1 := 196) (b + 256 * i + 90) ly297 (lt305 rfl) rfl (by omega) d11_stuffed_195 rfl ?_
            refine V_aload_n (pc1 := 197) 4 d11_stuffed_196 rfl rfl ?_
            refine V_getr (pc1 := 200) ly296 (lt305 rfl) f11_7 (fun _ => rfl) rf296_0 d11_stuffed_197 rfl ?_
            refine V_iload_n (pc1 := 201) 5 d11_stuffed_200 rfl rfl ?_
            refine V_bipush (pc1 := 203) d11_stuffed_201 vb_19 rfl ?_
            refine V_si (pc1 := 206) (w11_at2 g  i 19 (256 * i + 19) (by omega) (uI (i11_releases i (uI (uI I 297 (256 * i + 1) 0) 297 (256 * i + 12) ((I 297 (256 * i + 12)) + 1)) L) 297 (b + 256 * i + 90) x) L ) s11_at l11_35 rfl rfl ⟨Nat.le_of_ble_eq_true rfl, Nat.le_of_ble_eq_true rfl, Nat.le_refl _, Nat.le_refl _⟩ (Nat.le_of_ble_eq_true rfl) rfl d11_stuffed_203 rfl ?_
            refine V_dup2 (pc1 := 207) d11_stuffed_206 rfl rfl rfl ?_
            refine V_iald2 (pc1 := 208) (256 * i + 19) ly297 (lt305 rfl) rfl (by omega) ((uI_ne (i11_releases i (uI (uI I 297 (256 * i + 1) 0) 297 (256 * i + 12) ((I 297 (256 * i + 12)) + 1)) L) 297 x (show (256 * i + 19 : Nat) ≠ b + 256 * i + 90 by omega)).trans ((xs11_releases (I := (uI (uI I 297 (256 * i + 1) 0) 297 (256 * i + 12) ((I 297 (256 * i + 12)) + 1))) (L := L) (show (256 * i + 19 : Nat) ≠ 256 * i + 34 by omega) (show (256 * i + 19 : Nat) ≠ 256 * i + 39 by omega) (show (256 * i + 19 : Nat) ≠ 256 * i + 44 by omega) (show (256 * i + 19 : Nat) ≠ 256 * i + 49 by omega)).trans ((uI_ne (uI I 297 (256 * i + 1) 0) 297 ((I 297 (256 * i + 12)) + 1) (show (256 * i + 19 : Nat) ≠ 256 * i + 12 by omega)).trans (uI_ne I 297 0 (show (256 * i + 19 : Nat) ≠ 256 * i + 1 by omega))))) d11_stuffed_207 rfl ?_
            refine V_iconst (pc1 := 209) d11_stuffed_208 vc_1 rfl ?_
            refine V_iadd (pc1 := 210) d11_stuffed_209 rfl ?_
            refine V_iast (pc1 := 211) (256 * i + 19) ly297 (lt305 rfl) rfl (by omega) d11_stuffed_210 rfl ?_
            refine V_iload (pc1 := 213) 0 d11_stuffed_211 rfl rfl ?_
            refine V_bipush (pc1 := 215) d11_stuffed_213 vb_13 rfl ?_
            have key48 : ∀ (y244_0 : Int32), y244_0 = bI (if ((nI b = 13) ∧ ((x = 1) ∨ ((nI b = 18) ∧ (¬ (r11_sampledLength i (uI (uI (i11_releases i (uI (uI I 297 (256 * i + 1) 0) 297 (256 * i + 12) ((I 297 (256 * i + 12)) + 1)) L) 297 (b + 256 * i + 90) x) 297 (256 * i + 19) ((I 297 (256 * i + 19)) + 1)) L ≤ 4))))) ∨ ((¬ (nI b = 13)) ∧ ((nI b = 18) ∧ (¬ (r11_sampledLength i (uI (uI (i11_releases i (uI (uI I 297 (256 * i + 1) 0) 297 (256 * i + 12) ((I 297 (256 * i + 12)) + 1)) L) 297 (b + 256 * i + 90) x) 297 (256 * i + 19) ((I 297 (256 * i + 19)) + 1)) L ≤ 4)))) then true else false) → ∀ (lv : List (Nat × Value)), lvsub [(6, .int (nI b)), (5, .int (I 297 (256 * i + 21))), (4, .int (bI (if x = I 297 (256 * i + 26) then false else true))), (3, .int (bI (if I 297 (256 * i + 20) = 5 then true else false))), (0, .ref (xA g 296)), (1, .int (nI i)), (2, .int x)] lv → V g (k11_stuffed, 5, 0, 0) 0 0 244 lv [.int y244_0] (uI (uI (i11_releases i (uI (uI I 297 (256 * i + 1) 0) 297 (256 * i + 12) ((I 297 (256 * i + 12)) + 1)) L) 297 (b + 256 * i + 90) x) 297 (256 * i + 19) ((I 297 (256 * i + 19)) + 1), L, R0, 305) Q := by
              intro y244_0 ey244_0
              subst ey244_0
              intro lv hlv
              refine V_lv hlv ?_
              refine V_istore (pc1 := 246) d11_stuffed_244 (Nat.le_of_ble_eq_true rfl) rfl rfl ?_
              refine V_aload_n (pc1 := 247) 5 d11_stuffed_246 rfl rfl ?_
              refine V_iload_n (pc1 := 248) 6 d11_stuffed_247 rfl rfl ?_
              refine V_vi (pc1 := 251) (w11_isTransmitting g  i hi (uI (uI (i11_releases i (uI (uI I 297 (256 * i + 1) 0) 297 (256 * i + 12) ((I 297 (256 * i + 12)) + 1)) L) 297 (b + 256 * i + 90) x) 297 (256 * i + 19) ((I 297 (256 * i + 19)) + 1)) L ) ly296 (lt305 rfl) s11_isTransmitting l11_110 rfl rfl ⟨Nat.le_of_ble_eq_true rfl, Nat.le_of_ble_eq_true rfl, Nat.le_refl _, Nat.le_refl _⟩ (Nat.le_of_ble_eq_true rfl) rfl d11_stuffed_248 rfl ?_
              have k50 : (((r11_isTransmitting i (uI (uI (i11_releases i (uI (uI I 297 (256 * i + 1) 0) 297 (256 * i + 12) ((I 297 (256 * i + 12)) + 1)) L) 297 (b + 256 * i + 90) x) 297 (256 * i + 19) ((I 297 (256 * i + 19)) + 1)) L) = true) ∨ (¬ ((if ((nI b = 13) ∧ ((x = 1) ∨ ((nI b = 18) ∧ (¬ (r11_sampledLength i (uI (uI (i11_releases i (uI (uI I 297 (256 * i + 1) 0) 297 (256 * i + 12) ((I 297 (256 * i + 12)) + 1)) L) 297 (b + 256 * i + 90) x) 297 (256 * i + 19) ((I 297 (256 * i + 19)) + 1)) L ≤ 4))))) ∨ ((¬ (nI b = 13)) ∧ ((nI b = 18) ∧ (¬ (r11_sampledLength i (uI (uI (i11_releases i (uI (uI I 297 (256 * i + 1) 0) 297 (256 * i + 12) ((I 297 (256 * i + 12)) + 1)) L) 297 (b + 256 * i + 90) x) 297 (256 * i + 19) ((I 297 (256 * i + 19)) + 1)) L ≤ 4)))) then true else false) = true))) → V g (k11_stuffed, 5, 0, 0) 0 0 266 [(7, .int (bI (if ((nI b = 13) ∧ ((x = 1) ∨ ((nI b = 18) ∧ (¬ (r11_sampledLength i (uI (uI (i11_releases i (uI (uI I 297 (256 * i + 1) 0) 297 (256 * i + 12) ((I 297 (256 * i + 12)) + 1)) L) 297 (b + 256 * i + 90) x) 297 (256 * i + 19) ((I 297 (256 * i + 19)) + 1)) L ≤ 4))))) ∨ ((¬ (nI b = 13)) ∧ ((nI b = 18) ∧ (¬ (r11_sampledLength i (uI (uI (i11_releases i (uI (uI I 297 (256 * i + 1) 0) 297 (256 * i + 12) ((I 297 (256 * i + 12)) + 1)) L) 297 (b + 256 * i + 90) x) 297 (256 * i + 19) ((I 297 (256 * i + 19)) + 1)) L ≤ 4)))) then true else false))), (6, .int (nI b)), (5, .int (I 297 (256 * i + 21))), (4, .int (bI (if x = I 297 (256 * i + 26) then false else true))), (3, .int (bI (if I 297 (256 * i + 20) = 5 then true else false))), (0, .ref (xA g 296)), (1, .int (nI i)), (2, .int x)] [] (uI (uI (i11_releases i (uI (uI I 297 (256 * i + 1) 0) 297 (256 * i + 12) ((I 297 (256 * i + 12)) + 1)) L) 297 (b + 256 * i + 90) x) 297 (256 * i + 19) ((I 297 (256 * i + 19)) + 1), L, R0, 305) Q := by
                intro h49
                refine V_aload_n (pc1 := 267) 5 d11_stuffed_266 rfl rfl ?_
                refine V_getr (pc1 := 270) ly296 (lt305 rfl) f11_7 (fun _ => rfl) rf296_0 d11_stuffed_267 rfl ?_
                refine V_iload_n (pc1 := 271) 6 d11_stuffed_270 rfl rfl ?_
                refine V_bipush (pc1 := 273) d11_stuffed_271 vb_20 rfl ?_
                refine V_si (pc1 := 276) (w11_at2 g  i 20 (256 * i + 20) (by omega) (uI (uI (i11_releases i (uI (uI I 297 (256 * i + 1) 0) 297 (256 * i + 12) ((I 297 (256 * i + 12)) + 1)) L) 297 (b + 256 * i + 90) x) 297 (256 * i + 19) ((I 297 (256 * i + 19)) + 1)) L ) s11_at l11_35 rfl rfl ⟨Nat.le_of_ble_eq_true rfl, Nat.le_of_ble_eq_true rfl, Nat.le_refl _, Nat.le_refl _⟩ (Nat.le_of_ble_eq_true rfl) rfl d11_stuffed_273 rfl ?_
                refine V_iload_n (pc1 := 277) 4 d11_stuffed_276 rfl rfl ?_
                have key57 : ∀ (y303_0 : Int32), y303_0 = (if ((if I 297 (256 * i + 20) = 5 then true else false) = true) ∨ (¬ (x = I 297 (256 * i + 21))) then 1 else (I 297 (256 * i + 20)) + 1) → ∀ (lv : List (Nat × Value)), lvsub [(7, .int (bI (if ((nI b = 13) ∧ ((x = 1) ∨ ((nI b = 18) ∧ (¬ (r11_sampledLength i (uI (uI (i11_releases i (uI (uI I 297 (256 * i + 1) 0) 297 (256 * i + 12) ((I 297 (256 * i + 12)) + 1)) L) 297 (b + 256 * i + 90) x) 297 (256 * i + 19) ((I 297 (256 * i + 19)) + 1)) L ≤ 4))))) ∨ ((¬ (nI b = 13)) ∧ ((nI b = 18) ∧ (¬ (r11_sampledLength i (uI (uI (i11_releases i (uI (uI I 297 (256 * i + 1) 0) 297 (256 * i + 12) ((I 297 (256 * i + 12)) + 1)) L) 297 (b + 256 * i + 90) x) 297 (256 * i + 19) ((I 297 (256 * i + 19)) + 1)) L ≤ 4)))) then true else false))), (6, .int (nI b)), (5, .int (I 297 (256 * i + 21))), (4, .int (bI (if x = I 297 (256 * i + 26) then false else true))), (3, .int (bI (if I 297 (256 * i + 20) = 5 then true else false))), (0, .ref (xA g 296)), (1, .int (nI i)), (2, .int x)] lv → V g (k11_stuffed, 5, 0, 0) 0 0 303 lv [.int y303_0, .int (nI (256 * i + 20)), .ref (xA g 297)] (uI (uI (i11_releases i (uI (uI I 297 (256 * i + 1) 0) 297 (256 * i + 12) ((I 297 (256 * i + 12)) + 1)) L) 297 (b + 256 * i + 90) x) 297 (256 * i + 19) ((I 297 (256 * i + 19)) + 1), L, R0, 305) Q := by
                  intro y303_0 ey303_0
                  subst ey303_0
                  intro lv hlv
                  refine V_lv hlv ?_
                  refine V_iast (pc1 := 304) (256 * i + 20) ly297 (lt305 rfl) rfl (by omega) d11_stuffed_303 rfl ?_
                  refine V_aload_n (pc1 := 305) 5 d11_stuffed_304 rfl rfl ?_
                  refine V_getr (pc1 := 308) ly296 (lt305 rfl) f11_7 (fun _ => rfl) rf296_0 d11_stuffed_305 rfl ?_
                  refine V_iload_n (pc1 := 309) 6 d11_stuffed_308 rfl rfl ?_
                  refine V_bipush (pc1 := 311) d11_stuffed_309 vb_21 rfl ?_
                  refine V_si (pc1 := 314) (w11_at2 g  i 21 (256 * i + 21) (by omega) (uI (uI (uI (i11_releases i (uI (uI I 297 (256 * i + 1) 0) 297 (256 * i + 12) ((I 297 (256 * i + 12)) + 1)) L) 297 (b + 256 * i + 90) x) 297 (256 * i + 19) ((I 297 (256 * i + 19)) + 1)) 297 (256 * i + 20) (if ((if I 297 (256 * i + 20) = 5 then true else false) = true) ∨ (¬ (x = I 297 (256 * i + 21))) then 1 else (I 297 (256 * i + 20)) + 1)) L ) s11_at l11_35 rfl rfl ⟨Nat.le_of_ble_eq_true rfl, Nat.le_of_ble_eq_true rfl, Nat.le_refl _, Nat.le_refl _⟩ (Nat.le_of_ble_eq_true rfl) rfl d11_stuffed_311 rfl ?_
                  refine V_iload_n (pc1 := 315) 7 d11_stuffed_314 rfl rfl ?_
                  refine V_iast (pc1 := 316) (256 * i + 21) ly297 (lt305 rfl) rfl (by omega) d11_stuffed_315 rfl ?_
                  refine V_aload_n (pc1 := 317) 5 d11_stuffed_316 rfl rfl ?_
                  refine V_getr (pc1 := 320) ly296 (lt305 rfl) f11_7 (fun _ => rfl) rf296_0 d11_stuffed_317 rfl ?_
                  refine V_iload_n (pc1 := 321) 6 d11_stuffed_320 rfl rfl ?_
                  refine V_bipush (pc1 := 323) d11_stuffed_321 vb_19 rfl ?_
                  refine V_si (pc1 := 326) (w11_at2 g  i 19 (256 * i + 19) (by omega) (uI (uI (uI (uI (i11_releases i (uI (uI I 297 (256 * i + 1) 0) 297 (256 * i + 12) ((I 297 (256 * i + 12)) + 1)) L) 297 (b + 256 * i + 90) x) 297 (256 * i + 19) ((I 297 (256 * i + 19)) + 1)) 297 (256 * i + 20) (if ((if I 297 (256 * i + 20) = 5 then true else false) = true) ∨ (¬ (x = I 297 (256 * i + 21))) then 1 else (I 297 (256 * i + 20)) + 1)) 297 (256 * i + 21) x) L ) s11_at l11_35 rfl rfl ⟨Nat.le_of_ble_eq_true rfl, Nat.le_of_ble_eq_true rfl, Nat.le_refl _, Nat.le_refl _⟩ (Nat.le_of_ble_eq_true rfl) rfl d11_stuffed_323 rfl ?_
                  refine V_iald2 (pc1 := 327) (256 * i + 19) ly297 (lt305 rfl) rfl (by omega) ((uI_ne (uI (uI (uI (i11_releases i (uI (uI I 297 (256 * i + 1) 0) 297 (256 * i + 12) ((I 297 (256 * i + 12)) + 1)) L) 297 (b + 256 * i + 90) x) 297 (256 * i + 19) ((I 297 (256 * i + 19)) + 1)) 297 (256 * i + 20) (if ((if I 297 (256 * i + 20) = 5 then true else false) = true) ∨ (¬ (x = I 297 (256 * i + 21))) then 1 else (I 297 (256 * i + 20)) + 1)) 297 x (show (256 * i + 19 : Nat) ≠ 256 * i + 21 by omega)).trans ((uI_ne (uI (uI (i11_releases i (uI (uI I 297 (256 * i + 1) 0) 297 (256 * i + 12) ((I 297 (256 * i + 12)) + 1)) L) 297 (b + 256 * i + 90) x) 297 (256 * i + 19) ((I 297 (256 * i + 19)) + 1)) 297 (if ((if I 297 (256 * i + 20) = 5 then true else false) = true) ∨ (¬ (x = I 297 (256 * i + 21))) then 1 else (I 297 (256 * i + 20)) + 1) (show (256 * i + 19 : Nat) ≠ 256 * i + 20 by omega)).trans (uI_self (uI (i11_releases i (uI (uI I 297 (256 * i + 1) 0) 297 (256 * i + 12) ((I 297 (256 * i + 12)) + 1)) L) 297 (b + 256 * i + 90) x) 297 (256 * i + 19) ((I 297 (256 * i + 19)) + 1)))) d11_stuffed_326 rfl ?_
                  refine V_aload_n (pc1 := 328) 5 d11_stuffed_327 rfl rfl ?_
                  refine V_iload_n (pc1 := 329) 6 d11_stuffed_328 rfl rfl ?_
                  refine V_vi (pc1 := 332) (w11_total g  i hi (uI (uI (uI (uI (i11_releases i (uI (uI I 297 (256 * i + 1) 0) 297 (256 * i + 12) ((I 297 (256 * i + 12)) + 1)) L) 297 (b + 256 * i + 90) x) 297 (256 * i + 19) ((I 297 (256 * i + 19)) + 1)) 297 (256 * i + 20) (if ((if I 297 (256 * i + 20) = 5 then true else false) = true) ∨ (¬ (x = I 297 (256 * i + 21))) then 1 else (I 297 (256 * i + 20)) + 1)) 297 (256 * i + 21) x) L ) ly296 (lt305 rfl) s11_total l11_104 rfl rfl ⟨Nat.le_of_ble_eq_true rfl, Nat.le_of_ble_eq_true rfl, Nat.le_refl _, Nat.le_refl _⟩ (Nat.le_of_ble_eq_true rfl) rfl d11_stuffed_329 rfl ?_
                  have key63 : ∀ (zI362 : Nat → Nat → Int32), zI362 = (if (¬ ((I 297 (256 * i + 19)) + 1 = r11_total i (uI (uI (uI (uI (i11_releases i (uI (uI I 297 (256 * i + 1) 0) 297 (256 * i + 12) ((I 297 (256 * i + 12)) + 1)) L) 297 (b + 256 * i + 90) x) 297 (256 * i + 19) ((I 297 (256 * i + 19)) + 1)) 297 (256 * i + 20) (if ((if I 297 (256 * i + 20) = 5 then true else false) = true) ∨ (¬ (x = I 297 (256 * i + 21))) then 1 else (I 297 (256 * i + 20)) + 1)) 297 (256 * i + 21) x) L)) ∨ (5 ≤ (if ((if I 297 (256 * i + 20) = 5 then true else false) = true) ∨ (¬ (x = I 297 (256 * i + 21))) then 1 else (I 297 (256 * i + 20)) + 1)) then uI (uI (uI (uI (i11_releases i (uI (uI I 297 (256 * i + 1) 0) 297 (256 * i + 12) ((I 297 (256 * i + 12)) + 1)) L) 297 (b + 256 * i + 90) x) 297 (256 * i + 19) ((I 297 (256 * i + 19)) + 1)) 297 (256 * i + 20) (if ((if I 297 (256 * i + 20) = 5 then true else false) = true) ∨ (¬ (x = I 297 (256 * i + 21))) then 1 else (I 297 (256 * i + 20)) + 1)) 297 (256 * i + 21) x else uI (uI (uI (uI (uI (i11_releases i (uI (uI I 297 (256 * i + 1) 0) 297 (256 * i + 12) ((I 297 (256 * i + 12)) + 1)) L) 297 (b + 256 * i + 90) x) 297 (256 * i + 19) ((I 297 (256 * i + 19)) + 1)) 297 (256 * i + 20) (if ((if I 297 (256 * i + 20) = 5 then true else false) = true) ∨ (¬ (x = I 297 (256 * i + 21))) then 1 else (I 297 (256 * i + 20)) + 1)) 297 (256 * i + 21) x) 297 (256 * i + 22) 0) → ∀ (lv : List (Nat × Value)), lvsub [(7, .int (bI (if ((nI b = 13) ∧ ((x = 1) ∨ ((nI b = 18) ∧ (¬ (r11_sampledLength i (uI (uI (i11_releases i (uI (uI I 297 (256 * i + 1) 0) 297 (256 * i + 12) ((I 297 (256 * i + 12)) + 1)) L) 297 (b + 256 * i + 90) x) 297 (256 * i + 19) ((I 297 (256 * i + 19)) + 1)) L ≤ 4))))) ∨ ((¬ (nI b = 13)) ∧ ((nI b = 18) ∧ (¬ (r11_sampledLength i (uI (uI (i11_releases i (uI (uI I 297 (256 * i + 1) 0) 297 (256 * i + 12) ((I 297 (256 * i + 12)) + 1)) L) 297 (b + 256 * i + 90) x) 297 (256 * i + 19) ((I 297 (256 * i + 19)) + 1)) L ≤ 4)))) then true else false))), (6, .int (nI b)), (5, .int (I 297 (256 * i + 21))), (4, .int (bI (if x = I 297 (256 * i + 26) then false else true))), (3, .int (bI (if I 297 (256 * i + 20) = 5 then true else false))), (0, .ref (xA g 296)), (1, .int (nI i)), (2, .int x)] lv → V g (k11_stuffed, 5, 0, 0) 0 0 362 lv [] (zI362, L, R0, 305) Q := by
                    intro zI362 ezI362
                    subst ezI362
                    intro lv hlv
                    refine V_lv hlv ?_
                    refine V_vret rfl d11_stuffed_362 (Nat.zero_le _) (Nat.zero_le _) ?_
                    have hq2 := hq
                    simp only [i11_stuffed, hb3, if_neg h5, if_neg h6, if_neg h36, if_pos h49] at hq2
                    exact hq2
                  have k59 : ((¬ ((I 297 (256 * i + 19)) + 1 = r11_total i (uI (uI (uI (uI (i11_releases i (uI (uI I 297 (256 * i + 1) 0) 297 (256 * i + 12) ((I 297 (256 * i + 12)) + 1)) L) 297 (b + 256 * i + 90) x) 297 (256 * i + 19) ((I 297 (256 * i + 19)) + 1)) 297 (256 * i + 20) (if ((if I 297 (256 * i + 20) = 5 then true else false) = true) ∨ (¬ (x = I 297 (256 * i + 21))) then 1 else (I 297 (256 * i + 20)) + 1)) 297 (256 * i + 21) x) L)) ∨ (5 ≤ (if ((if I 297 (256 * i + 20) = 5 then true else false) = true) ∨ (¬ (x = I 297 (256 * i + 21))) then 1 else (I 297 (256 * i + 20)) + 1))) → V g (k11_stuffed, 5, 0, 0) 0 0 362 [(7, .int (bI (if ((nI b = 13) ∧ ((x = 1) ∨ ((nI b = 18) ∧ (¬ (r11_sampledLength i (uI (uI (i11_releases i (uI (uI I 297 (256 * i + 1) 0) 297 (256 * i + 12) ((I 297 (256 * i + 12)) + 1)) L) 297 (b + 256 * i + 90) x) 297 (256 * i + 19) ((I 297 (256 * i + 19)) + 1)) L ≤ 4))))) ∨ ((¬ (nI b = 13)) ∧ ((nI b = 18) ∧ (¬ (r11_sampledLength i (uI (uI (i11_releases i (uI (uI I 297 (256 * i + 1) 0) 297 (256 * i + 12) ((I 297 (256 * i + 12)) + 1)) L) 297 (b + 256 * i + 90) x) 297 (256 * i + 19) ((I 297 (256 * i + 19)) + 1)) L ≤ 4)))) then true else false))), (6, .int (nI b)), (5, .int (I 297 (256 * i + 21))), (4, .int (bI (if x = I 297 (256 * i + 26) then false else true))), (3, .int (bI (if I 297 (256 * i + 20) = 5 then true else false))), (0, .ref (xA g 296)), (1, .int (nI i)), (2, .int x)] [] (uI (uI (uI (uI (i11_releases i (uI (uI I 297 (256 * i + 1) 0) 297 (256 * i + 12) ((I 297 (256 * i + 12)) + 1)) L) 297 (b + 256 * i + 90) x) 297 (256 * i + 19) ((I 297 (256 * i + 19)) + 1)) 297 (256 * i + 20) (if ((if I 297 (256 * i + 20) = 5 then true else false) = true) ∨ (¬ (x = I 297 (256 * i + 21))) then 1 else (I 297 (256 * i + 20)) + 1)) 297 (256 * i + 21) x, L, R0, 305) Q := by
                    intro h58
                    exact key63 _ (by first | rfl | (simp only [hb3, if_pos h58]; done) | (simp only [hb3, if_pos h58]; rfl)) _ (lvsub_p [0, 1, 2, 3, 4, 5, 6, 7] rfl)
                  have k60 : ¬ ((¬ ((I 297 (256 * i + 19)) + 1 = r11_total i (uI (uI (uI (uI (i11_releases i (uI (uI I 297 (256 * i + 1) 0) 297 (256 * i + 12) ((I 297 (256 * i + 12)) + 1)) L) 297 (b + 256 * i + 90) x) 297 (256 * i + 19) ((I 297 (256 * i + 19)) + 1)) 297 (256 * i + 20) (if ((if I 297 (256 * i + 20) = 5 then true else false) = true) ∨ (¬ (x = I 297 (256 * i + 21))) then 1 else (I 297 (256 * i + 20)) + 1)) 297 (256 * i + 21) x) L)) ∨ (5 ≤ (if ((if I 297 (256 * i + 20) = 5 then true else false) = true) ∨ (¬ (x = I 297 (256 * i + 21))) then 1 else (I 297 (256 * i + 20)) + 1))) → V g (k11_stuffed, 5, 0, 0) 0 0 350 [(7, .int (bI (if ((nI b = 13) ∧ ((x = 1) ∨ ((nI b = 18) ∧ (¬ (r11_sampledLength i (uI (uI (i11_releases i (uI (uI I 297 (256 * i + 1) 0) 297 (256 * i + 12) ((I 297 (256 * i + 12)) + 1)) L) 297 (b + 256 * i + 90) x) 297 (256 * i + 19) ((I 297 (256 * i + 19)) + 1)) L ≤ 4))))) ∨ ((¬ (nI b = 13)) ∧ ((nI b = 18) ∧ (¬ (r11_sampledLength i (uI (uI (i11_releases i (uI (uI I 297 (256 * i + 1) 0) 297 (256 * i + 12) ((I 297 (256 * i + 12)) + 1)) L) 297 (b + 256 * i + 90) x) 297 (256 * i + 19) ((I 297 (256 * i + 19)) + 1)) L ≤ 4)))) then true else false))), (6, .int (nI b)), (5, .int (I 297 (256 * i + 21))), (4, .int (bI (if x = I 297 (256 * i + 26) then false else true))), (3, .int (bI (if I 297 (256 * i + 20) = 5 then true else false))), (0, .ref (xA g 296)), (1, .int (nI i)), (2, .int x)] [] (uI (uI (uI (uI (i11_releases i (uI (uI I 297 (256 * i + 1) 0) 297 (256 * i + 12) ((I 297 (256 * i + 12)) + 1)) L) 297 (b + 256 * i + 90) x) 297 (256 * i + 19) ((I 297 (256 * i + 19)) + 1)) 297 (256 * i + 20) (if ((if I 297 (256 * i + 20) = 5 then true else false) = true) ∨ (¬ (x = I 297 (256 * i + 21))) then 1 else (I 297 (256 * i + 20)) + 1)) 297 (256 * i + 21) x, L, R0, 305) Q := by
                    intro h58
                    refine V_aload_n (pc1 := 351) 5 d11_stuffed_350 rfl rfl ?_
                    refine V_getr (pc1 := 354) ly296 (lt305 rfl) f11_7 (fun _ => rfl) rf296_0 d11_stuffed_351 rfl ?_
                    refine V_iload_n (pc1 := 355) 6 d11_stuffed_354 rfl rfl ?_
                    refine V_bipush (pc1 := 357) d11_stuffed_355 vb_22 rfl ?_
                    refine V_si (pc1 := 360) (w11_at2 g  i 22 (256 * i + 22) (by omega) (uI (uI (uI (uI (i11_releases i (uI (uI I 297 (256 * i + 1) 0) 297 (256 * i + 12) ((I 297 (256 * i + 12)) + 1)) L) 297 (b + 256 * i + 90) x) 297 (256 * i + 19) ((I 297 (256 * i + 19)) + 1)) 297 (256 * i + 20) (if ((if I 297 (256 * i + 20) = 5 then true else false) = true) ∨ (¬ (x = I 297 (256 * i + 21))) then 1 else (I 297 (256 * i + 20)) + 1)) 297 (256 * i + 21) x) L ) s11_at l11_35 rfl rfl ⟨Nat.le_of_ble_eq_true rfl, Nat.le_of_ble_eq_true rfl, Nat.le_refl _, Nat.le_refl _⟩ (Nat.le_of_ble_eq_true rfl) rfl d11_stuffed_357 rfl ?_
                    refine V_iconst (pc1 := 361) d11_stuffed_360 vc_0 rfl ?_
                    refine V_iast (pc1 := 362) (256 * i + 22) ly297 (lt305 rfl) rfl (by omega) d11_stuffed_361 rfl ?_
                    exact key63 _ (by first | rfl | (simp only [hb3, if_neg h58]; done) | (simp only [hb3, if_neg h58]; rfl)) _ (lvsub_p [0, 1, 2, 3, 4, 5, 6, 7] rfl)
                  refine V_icmp_ne (tgt := 362) (pc1 := 335) d11_stuffed_332 (by decide) rfl (fun h61 => ?_) (fun h61 => ?_)
                  · skip
                    exact k59 (Or.inl h61)
                  · skip
                    refine V_aload_n (pc1 := 336) 5 d11_stuffed_335 rfl rfl ?_
                    refine V_getr (pc1 := 339) ly296 (lt305 rfl) f11_7 (fun _ => rfl) rf296_0 d11_stuffed_336 rfl ?_
                    refine V_iload_n (pc1 := 340) 6 d11_stuffed_339 rfl rfl ?_
                    refine V_bipush (pc1 := 342) d11_stuffed_340 vb_20 rfl ?_
                    refine V_si (pc1 := 345) (w11_at2 g  i 20 (256 * i + 20) (by omega) (uI (uI (uI (uI (i11_releases i (uI (uI I 297 (256 * i + 1) 0) 297 (256 * i + 12) ((I 297 (256 * i + 12)) + 1)) L) 297 (b + 256 * i + 90) x) 297 (256 * i + 19) ((I 297 (256 * i + 19)) + 1)) 297 (256 * i + 20) (if ((if I 297 (256 * i + 20) = 5 then true else false) = true) ∨ (¬ (x = I 297 (256 * i + 21))) then 1 else (I 297 (256 * i + 20)) + 1)) 297 (256 * i + 21) x) L ) s11_at l11_35 rfl rfl ⟨Nat.le_of_ble_eq_true rfl, Nat.le_of_ble_eq_true rfl, Nat.le_refl _, Nat.le_refl _⟩ (Nat.le_of_ble_eq_true rfl) rfl d11_stuffed_342 rfl ?_
                    refine V_iald2 (pc1 := 346) (256 * i + 20) ly297 (lt305 rfl) rfl (by omega) ((uI_ne (uI (uI (uI (i11_releases i (uI (uI I 297 (256 * i + 1) 0) 297 (256 * i + 12) ((I 297 (256 * i + 12)) + 1)) L) 297 (b + 256 * i + 90) x) 297 (256 * i + 19) ((I 297 (256 * i + 19)) + 1)) 297 (256 * i + 20) (if ((if I 297 (256 * i + 20) = 5 then true else false) = true) ∨ (¬ (x = I 297 (256 * i + 21))) then 1 else (I 297 (256 * i + 20)) + 1)) 297 x (show (256 * i + 20 : Nat) ≠ 256 * i + 21 by omega)).trans (uI_self (uI (uI (i11_releases i (uI (uI I 297 (256 * i + 1) 0) 297 (256 * i + 12) ((I 297 (256 * i + 12)) + 1)) L) 297 (b + 256 * i + 90) x) 297 (256 * i + 19) ((I 297 (256 * i + 19)) + 1)) 297 (256 * i + 20) (if ((if I 297 (256 * i + 20) = 5 then true else false) = true) ∨ (¬ (x = I 297 (256 * i + 21))) then 1 else (I 297 (256 * i + 20)) + 1))) d11_stuffed_345 rfl ?_
                    refine V_iconst (pc1 := 347) d11_stuffed_346 vc_5 rfl ?_
                    refine V_icmp_ge (tgt := 362) (pc1 := 350) d11_stuffed_347 (by decide) rfl (fun h62 => ?_) (fun h62 => ?_)
                    · skip
                      exact k59 (Or.inr h62)
                    · skip
                      exact k60 (fun z => z.elim (fun z => z h61) h62)
                have k53 : (((if I 297 (256 * i + 20) = 5 then true else false) = true) ∨ (¬ (x = I 297 (256 * i + 21)))) → V g (k11_stuffed, 5, 0, 0) 0 0 302 [(7, .int (bI (if ((nI b = 13) ∧ ((x = 1) ∨ ((nI b = 18) ∧ (¬ (r11_sampledLength i (uI (uI (i11_releases i (uI (uI I 297 (256 * i + 1) 0) 297 (256 * i + 12) ((I 297 (256 * i + 12)) + 1)) L) 297 (b + 256 * i + 90) x) 297 (256 * i + 19) ((I 297 (256 * i + 19)) + 1)) L ≤ 4))))) ∨ ((¬ (nI b = 13)) ∧ ((nI b = 18) ∧ (¬ (r11_sampledLength i (uI (uI (i11_releases i (uI (uI I 297 (256 * i + 1) 0) 297 (256 * i + 12) ((I 297 (256 * i + 12)) + 1)) L) 297 (b + 256 * i + 90) x) 297 (256 * i + 19) ((I 297 (256 * i + 19)) + 1)) L ≤ 4)))) then true else false))), (6, .int (nI b)), (5, .int (I 297 (256 * i + 21))), (4, .int (bI (if x = I 297 (256 * i + 26) then false else true))), (3, .int (bI (if I 297 (256 * i + 20) = 5 then true else false))), (0, .ref (xA g 296)), (1, .int (nI i)), (2, .int x)] [.int (nI (256 * i + 20)), .ref (xA g 297)] (uI (uI (i11_releases i (uI (uI I 297 (256 * i + 1) 0) 297 (256 * i + 12) ((I 297 (256 * i + 12)) + 1)) L) 297 (b + 256 * i + 90) x) 297 (256 * i + 19) ((I 297 (256 * i + 19)) + 1), L, R0, 305) Q := by
                  intro h52
                  refine V_iconst (pc1 := 303) d11_stuffed_302 vc_1 rfl ?_
                  exact key57 _ (by first | rfl | (simp only [hb3, if_pos h52]; done) | (simp only [hb3, if_pos h52]; rfl)) _ (lvsub_p [0, 1, 2, 3, 4, 5, 6, 7] rfl)
                have k54 : ¬ (((if I 297 (256 * i + 20) = 5 then true else false) = true) ∨ (¬ (x = I 297 (256 * i + 21)))) → V g (k11_stuffed, 5, 0, 0) 0 0 286 [(7, .int (bI (if ((nI b = 13) ∧ ((x = 1) ∨ ((nI b = 18) ∧ (¬ (r11_sampledLength i (uI (uI (i11_releases i (uI (uI I 297 (256 * i + 1) 0) 297 (256 * i + 12) ((I 297 (256 * i + 12)) + 1)) L) 297 (b + 256 * i + 90) x) 297 (256 * i + 19) ((I 297 (256 * i + 19)) + 1)) L ≤ 4))))) ∨ ((¬ (nI b = 13)) ∧ ((nI b = 18) ∧ (¬ (r11_sampledLength i (uI (uI (i11_releases i (uI (uI I 297 (256 * i + 1) 0) 297 (256 * i + 12) ((I 297 (256 * i + 12)) + 1)) L) 297 (b + 256 * i + 90) x) 297 (256 * i + 19) ((I 297 (256 * i + 19)) + 1)) L ≤ 4)))) then true else false))), (6, .int (nI b)), (5, .int (I 297 (256 * i + 21))), (4, .int (bI (if x = I 297 (256 * i + 26) then false else true))), (3, .int (bI (if I 297 (256 * i + 20) = 5 then true else false))), (0, .ref (xA g 296)), (1, .int (nI i)), (2, .int x)] [.int (nI (256 * i + 20)), .ref (xA g 297)] (uI (uI (i11_releases i (uI (uI I 297 (256 * i + 1) 0) 297 (256 * i + 12) ((I 297 (256 * i + 12)) + 1)) L) 297 (b + 256 * i + 90) x) 297 (256 * i + 19) ((I 297 (256 * i + 19)) + 1), L, R0, 305) Q := by
                  intro h52
                  refine V_aload_n (pc1 := 287) 5 d11_stuffed_286 rfl rfl ?_
                  refine V_getr (pc1 := 290) ly296 (lt305 rfl) f11_7 (fun _ => rfl) rf296_0 d11_stuffed_287 rfl ?_
                  refine V_iload_n (pc1 := 291) 6 d11_stuffed_290 rfl rfl ?_
                  refine V_bipush (pc1 := 293) d11_stuffed_291 vb_20 rfl ?_
                  refine V_si (pc1 := 296) (w11_at2 g  i 20 (256 * i + 20) (by omega) (uI (uI (i11_releases i (uI (uI I 297 (256 * i + 1) 0) 297 (256 * i + 12) ((I 297 (256 * i + 12)) + 1)) L) 297 (b + 256 * i + 90) x) 297 (256 * i + 19) ((I 297 (256 * i + 19)) + 1)) L ) s11_at l11_35 rfl rfl ⟨Nat.le_of_ble_eq_true rfl, Nat.le_of_ble_eq_true rfl, Nat.le_refl _, Nat.le_refl _⟩ (Nat.le_of_ble_eq_true rfl) rfl d11_stuffed_293 rfl ?_
                  refine V_iald2 (pc1 := 297) (256 * i + 20) ly297 (lt305 rfl) rfl (by omega) ((uI_ne (uI (i11_releases i (uI (uI I 297 (256 * i + 1) 0) 297 (256 * i + 12) ((I 297 (256 * i + 12)) + 1)) L) 297 (b + 256 * i + 90) x) 297 ((I 297 (256 * i + 19)) + 1) (show (256 * i + 20 : Nat) ≠ 256 * i + 19 by omega)).trans ((uI_ne (i11_releases i (uI (uI I 297 (256 * i + 1) 0) 297 (256 * i + 12) ((I 297 (256 * i + 12)) + 1)) L) 297 x (show (256 * i + 20 : Nat) ≠ b + 256 * i + 90 by omega)).trans ((xs11_releases (I := (uI (uI I 297 (256 * i + 1) 0) 297 (256 * i + 12) ((I 297 (256 * i + 12)) + 1))) (L := L) (show (256 * i + 20 : Nat) ≠ 256 * i + 34 by omega) (show (256 * i + 20 : Nat) ≠ 256 * i + 39 by omega) (show (256 * i + 20 : Nat) ≠ 256 * i + 44 by omega) (show (256 * i + 20 : Nat) ≠ 256 * i + 49 by omega)).trans ((uI_ne (uI I 297 (256 * i + 1) 0) 297 ((I 297 (256 * i + 12)) + 1) (show (256 * i + 20 : Nat) ≠ 256 * i + 12 by omega)).trans (uI_ne I 297 0 (show (256 * i + 20 : Nat) ≠ 256 * i + 1 by omega)))))) d11_stuffed_296 rfl ?_
                  refine V_iconst (pc1 := 298) d11_stuffed_297 vc_1 rfl ?_
                  refine V_iadd (pc1 := 299) d11_stuffed_298 rfl ?_
                  refine V_goto (tgt := 303) d11_stuffed_299 (by decide) ?_
                  exact key57 _ (by first | rfl | (simp only [hb3, if_neg h52]; done) | (simp only [hb3, if_neg h52]; rfl)) _ (lvsub_p [0, 1, 2, 3, 4, 5, 6, 7] rfl)
                refine V_bne (tgt := 302) (pc1 := 280) d11_stuffed_277 (by decide) rfl (fun h55 => ?_) (fun h55 => ?_)
                · skip
                  exact k53 (Or.inl h55)
                · skip
                  refine V_iload_n (pc1 := 281) 7 d11_stuffed_280 rfl rfl ?_
                  refine V_iload (pc1 := 283) 2 d11_stuffed_281 rfl rfl ?_
                  refine V_icmp_ne (tgt := 302) (pc1 := 286) d11_stuffed_283 (by decide) rfl (fun h56 => ?_) (fun h56 => ?_)
                  · skip
                    exact k53 (Or.inr h56)
                  · skip
                    exact k54 (fun z => z.elim h55 (fun z => z h56))
              have k51 : ¬ (((r11_isTransmitting i (uI (uI (i11_releases i (uI (uI I 297 (256 * i + 1) 0) 297 (256 * i + 12) ((I 297 (256 * i + 12)) + 1)) L) 297 (b + 256 * i + 90) x) 297 (256 * i + 19) ((I 297 (256 * i + 19)) + 1)) L) = true) ∨ (¬ ((if ((nI b = 13) ∧ ((x = 1) ∨ ((nI b = 18) ∧ (¬ (r11_sampledLength i (uI (uI (i11_releases i (uI (uI I 297 (256 * i + 1) 0) 297 (256 * i + 12) ((I 297 (256 * i + 12)) + 1)) L) 297 (b + 256 * i + 90) x) 297 (256 * i + 19) ((I 297 (256 * i + 19)) + 1)) L ≤ 4))))) ∨ ((¬ (nI b = 13)) ∧ ((nI b = 18) ∧ (¬ (r11_sampledLength i (uI (uI (i11_releases i (uI (uI I 297 (256 * i + 1) 0) 297 (256 * i + 12) ((I 297 (256 * i + 12)) + 1)) L) 297 (b + 256 * i + 90) x) 297 (256 * i + 19) ((I 297 (256 * i + 19)) + 1)) L ≤ 4)))) then true else false) = true))) → V g (k11_stuffed, 5, 0, 0) 0 0 259 [(7, .int (bI (if ((nI b = 13) ∧ ((x = 1) ∨ ((nI b = 18) ∧ (¬ (r11_sampledLength i (uI (uI (i11_releases i (uI (uI I 297 (256 * i + 1) 0) 297 (256 * i + 12) ((I 297 (256 * i + 12)) + 1)) L) 297 (b + 256 * i + 90) x) 297 (256 * i + 19) ((I 297 (256 * i + 19)) + 1)) L ≤ 4))))) ∨ ((¬ (nI b = 13)) ∧ ((nI b = 18) ∧ (¬ (r11_sampledLength i (uI (uI (i11_releases i (uI (uI I 297 (256 * i + 1) 0) 297 (256 * i + 12) ((I 297 (256 * i + 12)) + 1)) L) 297 (b + 256 * i + 90) x) 297 (256 * i + 19) ((I 297 (256 * i + 19)) + 1)) L ≤ 4)))) then true else false))), (6, .int (nI b)), (5, .int (I 297 (256 * i + 21))), (4, .int (bI (if x = I 297 (256 * i + 26) then false else true))), (3, .int (bI (if I 297 (256 * i + 20) = 5 then true else false))), (0, .ref (xA g 296)), (1, .int (nI i)), (2, .int x)] [] (uI (uI (i11_releases i (uI (uI I 297 (256 * i + 1) 0) 297 (256 * i + 12) ((I 297 (256 * i + 12)) + 1)) L) 297 (b + 256 * i + 90) x) 297 (256 * i + 19) ((I 297 (256 * i + 19)) + 1), L, R0, 305) Q := by
                intro h49
                refine V_aload_n (pc1 := 260) 5 d11_stuffed_259 rfl rfl ?_
                refine V_iload_n (pc1 := 261) 6 d11_stuffed_260 rfl rfl ?_
                refine V_iconst (pc1 := 262) d11_stuffed_261 vc_4 rfl ?_
                refine V_vv (pc1 := 265) (w11_errs g  i 4 hi (by first | decide | omega | (split <;> decide)) (uI (uI (i11_releases i (uI (uI I 297 (256 * i + 1) 0) 297 (256 * i + 12) ((I 297 (256 * i + 12)) + 1)) L) 297 (b + 256 * i + 90) x) 297 (256 * i + 19) ((I 297 (256 * i + 19)) + 1)) L ) ly296 (lt305 rfl) s11_errs l11_150 rfl rfl ⟨Nat.le_of_ble_eq_true rfl, Nat.le_of_ble_eq_true rfl, Nat.le_refl _, Nat.le_refl _⟩ (Nat.le_of_ble_eq_true rfl) rfl d11_stuffed_262 rfl ?_
                refine V_vret rfl d11_stuffed_265 (Nat.zero_le _) (Nat.zero_le _) ?_
                have hq2 := hq
                simp only [i11_stuffed, hb3, if_neg h5, if_neg h6, if_neg h36, if_neg h49] at hq2
                exact hq2
              refine V_bne (tgt := 266) (pc1 := 254) d11_stuffed_251 (by decide) rfl (fun h64 => ?_) (fun h64 => ?_)
              · skip
                exact k50 (Or.inl h64)
              · skip
                refine V_iload (pc1 := 256) 0 d11_stuffed_254 rfl rfl ?_
                refine V_beq (tgt := 266) (pc1 := 259) d11_stuffed_256 (by decide) rfl (fun h65 => ?_) (fun h65 => ?_)
                · skip
                  exact k50 (Or.inr h65)
                · skip
                  exact k51 (fun z => z.elim h64 (fun z => z h65))
            have k40 : (((nI b = 13) ∧ ((x = 1) ∨ ((nI b = 18) ∧ (¬ (r11_sampledLength i (uI (uI (i11_releases i (uI (uI I 297 (256 * i + 1) 0) 297 (256 * i + 12) ((I 297 (256 * i + 12)) + 1)) L) 297 (b + 256 * i + 90) x) 297 (256 * i + 19) ((I 297 (256 * i + 19)) + 1)) L ≤ 4))))) ∨ ((¬ (nI b = 13)) ∧ ((nI b = 18) ∧ (¬ (r11_sampledLength i (uI (uI (i11_releases i (uI (uI I 297 (256 * i + 1) 0) 297 (256 * i + 12) ((I 297 (256 * i + 12)) + 1)) L) 297 (b + 256 * i + 90) x) 297 (256 * i + 19) ((I 297 (256 * i + 19)) + 1)) L ≤ 4))))) → V g (k11_stuffed, 5, 0, 0) 0 0 239 [(6, .int (nI b)), (5, .int (I 297 (256 * i + 21))), (4, .int (bI (if x = I 297 (256 * i + 26) then false else true))), (3, .int (bI (if I 297 (256 * i + 20) = 5 then true else false))), (0, .ref (xA g 296)), (1, .int (nI i)), (2, .int x)] [] (uI (uI (i11_releases i (uI (uI I 297 (256 * i + 1) 0) 297 (256 * i + 12) ((I 297 (256 * i + 12)) + 1)) L) 297 (b + 256 * i + 90) x) 297 (256 * i + 19) ((I 297 (256 * i + 19)) + 1), L, R0, 305) Q := by
              intro h39
              refine V_iconst (pc1 := 240) d11_stuffed_239 vc_1 rfl ?_
              refine V_goto (tgt := 244) d11_stuffed_240 (by decide) ?_
              exact key48 _ (by first | rfl | (simp only [hb3, if_pos h39]; done) | (simp only [hb3, if_pos h39]; rfl)) _ (lvsub_p [0, 1, 2, 3, 4, 5, 6] rfl)
            have k41 : ¬ (((nI b = 13) ∧ ((x = 1) ∨ ((nI b = 18) ∧ (¬ (r11_sampledLength i (uI (uI (i11_releases i (uI (uI I 297 (256 * i + 1) 0) 297 (256 * i + 12) ((I 297 (256 * i + 12)) + 1)) L) 297 (b + 256 * i + 90) x) 297 (256 * i + 19) ((I 297 (256 * i + 19)) + 1)) L ≤ 4))))) ∨ ((¬ (nI b = 13)) ∧ ((nI b = 18) ∧ (¬ (r11_sampledLength i (uI (uI (i11_releases i (uI (uI I 297 (256 * i + 1) 0) 297 (256 * i + 12) ((I 297 (256 * i + 12)) + 1)) L) 297 (b + 256 * i + 90) x) 297 (256 * i + 19) ((I 297 (256 * i + 19)) + 1)) L ≤ 4))))) → V g (k11_stuffed, 5, 0, 0) 0 0 243 [(6, .int (nI b)), (5, .int (I 297 (256 * i + 21))), (4, .int (bI (if x = I 297 (256 * i + 26) then false else true))), (3, .int (bI (if I 297 (256 * i + 20) = 5 then true else false))), (0, .ref (xA g 296)), (1, .int (nI i)), (2, .int x)] [] (uI (uI (i11_releases i (uI (uI I 297 (256 * i + 1) 0) 297 (256 * i + 12) ((I 297 (256 * i + 12)) + 1)) L) 297 (b + 256 * i + 90) x) 297 (256 * i + 19) ((I 297 (256 * i + 19)) + 1), L, R0, 305) Q := by
              intro h39
              refine V_iconst (pc1 := 244) d11_stuffed_243 vc_0 rfl ?_
              exact key48 _ (by first | rfl | (simp only [hb3, if_neg h39]; done) | (simp only [hb3, if_neg h39]; rfl)) _ (lvsub_p [0, 1, 2, 3, 4, 5, 6] rfl)
            refine V_icmp_ne (tgt := 223) (pc1 := 218) d11_stuffed_215 (by decide) rfl (fun h42 => ?_) (fun h42 => ?_)
            · skip
              refine V_iload (pc1 := 225) 0 d11_stuffed_223 rfl rfl ?_
              refine V_bipush (pc1 := 227) d11_stuffed_225 vb_18 rfl ?_
              refine V_icmp_ne (tgt := 243) (pc1 := 230) d11_stuffed_227 (by decide) rfl (fun h43 => ?_) (fun h43 => ?_)
              · skip
                exact k41 (fun z => z.elim (fun z => h42 z.1) (fun z => (fun z => h43 z.1) z.2))
              · skip
                refine V_aload_n (pc1 := 231) 4 d11_stuffed_230 rfl rfl ?_
                refine V_iload_n (pc1 := 232) 5 d11_stuffed_231 rfl rfl ?_
                refine V_vi (pc1 := 235) (w11_sampledLength g  i hi (uI (uI (i11_releases i (uI (uI I 297 (256 * i + 1) 0) 297 (256 * i + 12) ((I 297 (256 * i + 12)) + 1)) L) 297 (b + 256 * i + 90) x) 297 (256 * i + 19) ((I 297 (256 * i + 19)) + 1)) L ) ly296 (lt305 rfl) s11_sampledLength l11_98 rfl rfl ⟨Nat.le_of_ble_eq_true rfl, Nat.le_of_ble_eq_true rfl, Nat.le_refl _, Nat.le_refl _⟩ (Nat.le_of_ble_eq_true rfl) rfl d11_stuffed_232 rfl ?_
                refine V_iconst (pc1 := 236) d11_stuffed_235 vc_4 rfl ?_
                refine V_icmp_le (tgt := 243) (pc1 := 239) d11_stuffed_236 (by decide) rfl (fun h44 => ?_) (fun h44 => ?_)
                · skip
                  exact k41 (fun z => z.elim (fun z => h42 z.1) (fun z => (fun z => (fun z => z h44) z.2) z.2))
                · skip
                  exact k40 (Or.inr ⟨h42, ⟨h43, h44⟩⟩)
            · skip
              refine V_iload_n (pc1 := 219) 6 d11_stuffed_218 rfl rfl ?_
              refine V_iconst (pc1 := 220) d11_stuffed_219 vc_1 rfl ?_
              refine V_icmp_eq (tgt := 239) (pc1 := 223) d11_stuffed_220 (by decide) rfl (fun h45 => ?_) (fun h45 => ?_)
              · skip
                exact k40 (Or.inl ⟨h42, (Or.inl h45)⟩)
              · skip
                refine V_iload (pc1 := 225) 0 d11_stuffed_223 rfl rfl ?_
                refine V_bipush (pc1 := 227) d11_stuffed_225 vb_18 rfl ?_
                refine V_icmp_ne (tgt := 243) (pc1 := 230) d11_stuffed_227 (by decide) rfl (fun h46 => ?_) (fun h46 => ?_)
                · skip
                  exact k41 (fun z => z.elim (fun z => (fun z => z.elim h45 (fun z => h46 z.1)) z.2) (fun z => (fun z => z h42) z.1))
                · skip
                  refine V_aload_n (pc1 := 231) 4 d11_stuffed_230 rfl rfl ?_
                  refine V_iload_n (pc1 := 232) 5 d11_stuffed_231 rfl rfl ?_
                  refine V_vi (pc1 := 235) (w11_sampledLength g  i hi (uI (uI (i11_releases i (uI (uI I 297 (256 * i + 1) 0) 297 (256 * i + 12) ((I 297 (256 * i + 12)) + 1)) L) 297 (b + 256 * i + 90) x) 297 (256 * i + 19) ((I 297 (256 * i + 19)) + 1)) L ) ly296 (lt305 rfl) s11_sampledLength l11_98 rfl rfl ⟨Nat.le_of_ble_eq_true rfl, Nat.le_of_ble_eq_true rfl, Nat.le_refl _, Nat.le_refl _⟩ (Nat.le_of_ble_eq_true rfl) rfl d11_stuffed_232 rfl ?_
                  refine V_iconst (pc1 := 236) d11_stuffed_235 vc_4 rfl ?_
                  refine V_icmp_le (tgt := 243) (pc1 := 239) d11_stuffed_236 (by decide) rfl (fun h47 => ?_) (fun h47 => ?_)
                  · skip
                    exact k41 (fun z => z.elim (fun z => (fun z => z.elim h45 (fun z => (fun z => z h47) z.2)) z.2) (fun z => (fun z => z h42) z.1))
                  · skip
                    exact k40 (Or.inl ⟨h42, (Or.inr ⟨h46, h47⟩)⟩)
          refine V_icmp_eq (tgt := 143) (pc1 := 132) d11_stuffed_129 (by decide) rfl (fun h66 => ?_) (fun h66 => ?_)
          · skip
            exact k37 (Or.inl h66)
          · skip
            refine V_iload (pc1 := 134) 0 d11_stuffed_132 rfl rfl ?_
            refine V_iconst (pc1 := 135) d11_stuffed_134 vc_1 rfl ?_
            refine V_bipush (pc1 := 137) d11_stuffed_135 vb_12 rfl ?_
            refine V_si (pc1 := 140) (w11_in g  (nI b) 1 12  I L ) s11_in l11_39 rfl rfl ⟨Nat.le_of_ble_eq_true rfl, Nat.le_of_ble_eq_true rfl, Nat.le_refl _, Nat.le_refl _⟩ (Nat.le_of_ble_eq_true rfl) rfl d11_stuffed_137 rfl ?_
            refine V_bne (tgt := 150) (pc1 := 143) d11_stuffed_140 (by decide) rfl (fun h67 => ?_) (fun h67 => ?_)
            · skip
              exact k38 (fun z => z.elim h66 (fun z => z h67))
            · skip
              exact k37 (Or.inr h67)
        refine V_beq (tgt := 181) (pc1 := 122) d11_stuffed_119 (by decide) rfl (fun h68 => ?_) (fun h68 => ?_)
        · skip
          exact k7 (Or.inl h68)
        · skip
          refine V_iload (pc1 := 124) 2 d11_stuffed_122 rfl rfl ?_
          refine V_beq (tgt := 181) (pc1 := 127) d11_stuffed_124 (by decide) rfl (fun h69 => ?_) (fun h69 => ?_)
          · skip
            exact k7 (Or.inr h69)
          · skip
            exact k8 (fun z => z.elim (fun z => z h68) (fun z => z h69))
      · skip
        refine V_aload_n (pc1 := 61) 3 d11_stuffed_60 rfl rfl ?_
        refine V_iload_n (pc1 := 62) 4 d11_stuffed_61 rfl rfl ?_
        refine V_vi (pc1 := 65) (w11_isTransmitting g  i hi I L ) ly296 (lt305 rfl) s11_isTransmitting l11_110 rfl rfl ⟨Nat.le_of_ble_eq_true rfl, Nat.le_of_ble_eq_true rfl, Nat.le_refl _, Nat.le_refl _⟩ (Nat.le_of_ble_eq_true rfl) rfl d11_stuffed_62 rfl ?_
        have k71 : ((¬ ((r11_isTransmitting i I L) = true)) ∨ (¬ ((if x = I 297 (256 * i + 26) then false else true) = true))) → V g (k11_stuffed, 5, 0, 0) 0 0 80 [(5, .int (I 297 (256 * i + 21))), (4, .int (bI (if x = I 297 (256 * i + 26) then false else true))), (3, .int (bI (if I 297 (256 * i + 20) = 5 then true else false))), (0, .ref (xA g 296)), (1, .int (nI i)), (2, .int x)] [] (I, L, R0, 305) Q := by
          intro h70
          refine V_aload_n (pc1 := 81) 3 d11_stuffed_80 rfl rfl ?_
          refine V_iload_n (pc1 := 82) 4 d11_stuffed_81 rfl rfl ?_
          refine V_vi (pc1 := 85) (w11_isTransmitting g  i hi I L ) ly296 (lt305 rfl) s11_isTransmitting l11_110 rfl rfl ⟨Nat.le_of_ble_eq_true rfl, Nat.le_of_ble_eq_true rfl, Nat.le_refl _, Nat.le_refl _⟩ (Nat.le_of_ble_eq_true rfl) rfl d11_stuffed_82 rfl ?_
          have k74 : (((r11_isTransmitting i I L) = true) ∨ (¬ (x = I 297 (256 * i + 21)))) → V g (k11_stuffed, 5, 0, 0) 0 0 266 [(5, .int (I 297 (256 * i + 21))), (4, .int (bI (if x = I 297 (256 * i + 26) then false else true))), (3, .int (bI (if I 297 (256 * i + 20) = 5 then true else false))), (0, .ref (xA g 296)), (1, .int (nI i)), (2, .int x)] [] (I, L, R0, 305) Q := by
            intro h73
            refine V_aload_n (pc1 := 267) 3 d11_stuffed_266 rfl rfl ?_
            refine V_getr (pc1 := 270) ly296 (lt305 rfl) f11_7 (fun _ => rfl) rf296_0 d11_stuffed_267 rfl ?_
            refine V_iload_n (pc1 := 271) 4 d11_stuffed_270 rfl rfl ?_
            refine V_bipush (pc1 := 273) d11_stuffed_271 vb_20 rfl ?_
            refine V_si (pc1 := 276) (w11_at2 g  i 20 (256 * i + 20) (by omega) I L ) s11_at l11_35 rfl rfl ⟨Nat.le_of_ble_eq_true rfl, Nat.le_of_ble_eq_true rfl, Nat.le_refl _, Nat.le_refl _⟩ (Nat.le_of_ble_eq_true rfl) rfl d11_stuffed_273 rfl ?_
            refine V_iload_n (pc1 := 277) 2 d11_stuffed_276 rfl rfl ?_
            have key81 : ∀ (y303_0 : Int32), y303_0 = (if ((if I 297 (256 * i + 20) = 5 then true else false) = true) ∨ (¬ (x = I 297 (256 * i + 21))) then 1 else (I 297 (256 * i + 20)) + 1) → ∀ (lv : List (Nat × Value)), lvsub [(5, .int (I 297 (256 * i + 21))), (4, .int (bI (if x = I 297 (256 * i + 26) then false else true))), (3, .int (bI (if I 297 (256 * i + 20) = 5 then true else false))), (0, .ref (xA g 296)), (1, .int (nI i)), (2, .int x)] lv → V g (k11_stuffed, 5, 0, 0) 0 0 303 lv [.int y303_0, .int (nI (256 * i + 20)), .ref (xA g 297)] (I, L, R0, 305) Q := by
              intro y303_0 ey303_0
              subst ey303_0
              intro lv hlv
              refine V_lv hlv ?_
              refine V_iast (pc1 := 304) (256 * i + 20) ly297 (lt305 rfl) rfl (by omega) d11_stuffed_303 rfl ?_
              refine V_aload_n (pc1 := 305) 3 d11_stuffed_304 rfl rfl ?_
              refine V_getr (pc1 := 308) ly296 (lt305 rfl) f11_7 (fun _ => rfl) rf296_0 d11_stuffed_305 rfl ?_
              refine V_iload_n (pc1 := 309) 4 d11_stuffed_308 rfl rfl ?_
              refine V_bipush (pc1 := 311) d11_stuffed_309 vb_21 rfl ?_
              refine V_si (pc1 := 314) (w11_at2 g  i 21 (256 * i + 21) (by omega) (uI I 297 (256 * i + 20) (if ((if I 297 (256 * i + 20) = 5 then true else false) = true) ∨ (¬ (x = I 297 (256 * i + 21))) then 1 else (I 297 (256 * i + 20)) + 1)) L ) s11_at l11_35 rfl rfl ⟨Nat.le_of_ble_eq_true rfl, Nat.le_of_ble_eq_true rfl, Nat.le_refl _, Nat.le_refl _⟩ (Nat.le_of_ble_eq_true rfl) rfl d11_stuffed_311 rfl ?_
              refine V_iload_n (pc1 := 315) 5 d11_stuffed_314 rfl rfl ?_
              refine V_iast (pc1 := 316) (256 * i + 21) ly297 (lt305 rfl) rfl (by omega) d11_stuffed_315 rfl ?_
              refine V_aload_n (pc1 := 317) 3 d11_stuffed_316 rfl rfl ?_
              refine V_getr (pc1 := 320) ly296 (lt305 rfl) f11_7 (fun _ => rfl) rf296_0 d11_stuffed_317 rfl ?_
              refine V_iload_n (pc1 := 321) 4 d11_stuffed_320 rfl rfl ?_
              refine V_bipush (pc1 := 323) d11_stuffed_321 vb_19 rfl ?_
              refine V_si (pc1 := 326) (w11_at2 g  i 19 (256 * i + 19) (by omega) (uI (uI I 297 (256 * i + 20) (if ((if I 297 (256 * i + 20) = 5 then true else false) = true) ∨ (¬ (x = I 297 (256 * i + 21))) then 1 else (I 297 (256 * i + 20)) + 1)) 297 (256 * i + 21) x) L ) s11_at l11_35 rfl rfl ⟨Nat.le_of_ble_eq_true rfl, Nat.le_of_ble_eq_true rfl, Nat.le_refl _, Nat.le_refl _⟩ (Nat.le_of_ble_eq_true rfl) rfl d11_stuffed_323 rfl ?_
              refine V_iald2 (pc1 := 327) (256 * i + 19) ly297 (lt305 rfl) rfl (by omega) ((uI_ne (uI I 297 (256 * i + 20) (if ((if I 297 (256 * i + 20) = 5 then true else false) = true) ∨ (¬ (x = I 297 (256 * i + 21))) then 1 else (I 297 (256 * i + 20)) + 1)) 297 x (show (256 * i + 19 : Nat) ≠ 256 * i + 21 by omega)).trans (uI_ne I 297 (if ((if I 297 (256 * i + 20) = 5 then true else false) = true) ∨ (¬ (x = I 297 (256 * i + 21))) then 1 else (I 297 (256 * i + 20)) + 1) (show (256 * i + 19 : Nat) ≠ 256 * i + 20 by omega))) d11_stuffed_326 rfl ?_
              refine V_aload_n (pc1 := 328) 3 d11_stuffed_327 rfl rfl ?_
              refine V_iload_n (pc1 := 329) 4 d11_stuffed_328 rfl rfl ?_
              refine V_vi (pc1 := 332) (w11_total g  i hi (uI (uI I 297 (256 * i + 20) (if ((if I 297 (256 * i + 20) = 5 then true else false) = true) ∨ (¬ (x = I 297 (256 * i + 21))) then 1 else (I 297 (256 * i + 20)) + 1)) 297 (256 * i + 21) x) L ) ly296 (lt305 rfl) s11_total l11_104 rfl rfl ⟨Nat.le_of_ble_eq_true rfl, Nat.le_of_ble_eq_true rfl, Nat.le_refl _, Nat.le_refl _⟩ (Nat.le_of_ble_eq_true rfl) rfl d11_stuffed_329 rfl ?_
              have key87 : ∀ (zI362 : Nat → Nat → Int32), zI362 = (if (¬ (I 297 (256 * i + 19) = r11_total i (uI (uI I 297 (256 * i + 20) (if ((if I 297 (256 * i + 20) = 5 then true else false) = true) ∨ (¬ (x = I 297 (256 * i + 21))) then 1 else (I 297 (256 * i + 20)) + 1)) 297 (256 * i + 21) x) L)) ∨ (5 ≤ (if ((if I 297 (256 * i + 20) = 5 then true else false) = true) ∨ (¬ (x = I 297 (256 * i + 21))) then 1 else (I 297 (256 * i + 20)) + 1)) then uI (uI I 297 (256 * i + 20) (if ((if I 297 (256 * i + 20) = 5 then true else false) = true) ∨ (¬ (x = I 297 (256 * i + 21))) then 1 else (I 297 (256 * i + 20)) + 1)) 297 (256 * i + 21) x else uI (uI (uI I 297 (256 * i + 20) (if ((if I 297 (256 * i + 20) = 5 then true else false) = true) ∨ (¬ (x = I 297 (256 * i + 21))) then 1 else (I 297 (256 * i + 20)) + 1)) 297 (256 * i + 21) x) 297 (256 * i + 22) 0) → ∀ (lv : List (Nat × Value)), lvsub [(5, .int (I 297 (256 * i + 21))), (4, .int (bI (if x = I 297 (256 * i + 26) then false else true))), (3, .int (bI (if I 297 (256 * i + 20) = 5 then true else false))), (0, .ref (xA g 296)), (1, .int (nI i)), (2, .int x)] lv → V g (k11_stuffed, 5, 0, 0) 0 0 362 lv [] (zI362, L, R0, 305) Q := by
                intro zI362 ezI362
                subst ezI362
                intro lv hlv
                refine V_lv hlv ?_
                refine V_vret rfl d11_stuffed_362 (Nat.zero_le _) (Nat.zero_le _) ?_
                have hq2 := hq
                simp only [i11_stuffed, hb3, if_pos h5, if_pos h70, if_pos h73] at hq2
                exact hq2
              have k83 : ((¬ (I 297 (256 * i + 19) = r11_total i (uI (uI I 297 (256 * i + 20) (if ((if I 297 (256 * i + 20) = 5 then true else false) = true) ∨ (¬ (x = I 297 (256 * i + 21))) then 1 else (I 297 (256 * i + 20)) + 1)) 297 (256 * i + 21) x) L)) ∨ (5 ≤ (if ((if I 297 (256 * i + 20) = 5 then true else false) = true) ∨ (¬ (x = I 297 (256 * i + 21))) then 1 else (I 297 (256 * i + 20)) + 1))) → V g (k11_stuffed, 5, 0, 0) 0 0 362 [(5, .int (I 297 (256 * i + 21))), (4, .int (bI (if x = I 297 (256 * i + 26) then false else true))), (3, .int (bI (if I 297 (256 * i + 20) = 5 then true else false))), (0, .ref (xA g 296)), (1, .int (nI i)), (2, .int x)] [] (uI (uI I 297 (256 * i + 20) (if ((if I 297 (256 * i + 20) = 5 then true else false) = true) ∨ (¬ (x = I 297 (256 * i + 21))) then 1 else (I 297 (256 * i + 20)) + 1)) 297 (256 * i + 21) x, L, R0, 305) Q := by
                intro h82
                exact key87 _ (by first | rfl | (simp only [hb3, if_pos h82]; done) | (simp only [hb3, if_pos h82]; rfl)) _ (lvsub_p [0, 1, 2, 3, 4, 5] rfl)
              have k84 : ¬ ((¬ (I 297 (256 * i + 19) = r11_total i (uI (uI I 297 (256 * i + 20) (if ((if I 297 (256 * i + 20) = 5 then true else false) = true) ∨ (¬ (x = I 297 (256 * i + 21))) then 1 else (I 297 (256 * i + 20)) + 1)) 297 (256 * i + 21) x) L)) ∨ (5 ≤ (if ((if I 297 (256 * i + 20) = 5 then true else false) = true) ∨ (¬ (x = I 297 (256 * i + 21))) then 1 else (I 297 (256 * i + 20)) + 1))) → V g (k11_stuffed, 5, 0, 0) 0 0 350 [(5, .int (I 297 (256 * i + 21))), (4, .int (bI (if x = I 297 (256 * i + 26) then false else true))), (3, .int (bI (if I 297 (256 * i + 20) = 5 then true else false))), (0, .ref (xA g 296)), (1, .int (nI i)), (2, .int x)] [] (uI (uI I 297 (256 * i + 20) (if ((if I 297 (256 * i + 20) = 5 then true else false) = true) ∨ (¬ (x = I 297 (256 * i + 21))) then 1 else (I 297 (256 * i + 20)) + 1)) 297 (256 * i + 21) x, L, R0, 305) Q := by
                intro h82
                refine V_aload_n (pc1 := 351) 3 d11_stuffed_350 rfl rfl ?_
                refine V_getr (pc1 := 354) ly296 (lt305 rfl) f11_7 (fun _ => rfl) rf296_0 d11_stuffed_351 rfl ?_
                refine V_iload_n (pc1 := 355) 4 d11_stuffed_354 rfl rfl ?_
                refine V_bipush (pc1 := 357) d11_stuffed_355 vb_22 rfl ?_
                refine V_si (pc1 := 360) (w11_at2 g  i 22 (256 * i + 22) (by omega) (uI (uI I 297 (256 * i + 20) (if ((if I 297 (256 * i + 20) = 5 then true else false) = true) ∨ (¬ (x = I 297 (256 * i + 21))) then 1 else (I 297 (256 * i + 20)) + 1)) 297 (256 * i + 21) x) L ) s11_at l11_35 rfl rfl ⟨Nat.le_of_ble_eq_true rfl, Nat.le_of_ble_eq_true rfl, Nat.le_refl _, Nat.le_refl _⟩ (Nat.le_of_ble_eq_true rfl) rfl d11_stuffed_357 rfl ?_
                refine V_iconst (pc1 := 361) d11_stuffed_360 vc_0 rfl ?_
                refine V_iast (pc1 := 362) (256 * i + 22) ly297 (lt305 rfl) rfl (by omega) d11_stuffed_361 rfl ?_
                exact key87 _ (by first | rfl | (simp only [hb3, if_neg h82]; done) | (simp only [hb3, if_neg h82]; rfl)) _ (lvsub_p [0, 1, 2, 3, 4, 5] rfl)
              refine V_icmp_ne (tgt := 362) (pc1 := 335) d11_stuffed_332 (by decide) rfl (fun h85 => ?_) (fun h85 => ?_)
              · skip
                exact k83 (Or.inl h85)
              · skip
                refine V_aload_n (pc1 := 336) 3 d11_stuffed_335 rfl rfl ?_
                refine V_getr (pc1 := 339) ly296 (lt305 rfl) f11_7 (fun _ => rfl) rf296_0 d11_stuffed_336 rfl ?_
                refine V_iload_n (pc1 := 340) 4 d11_stuffed_339 rfl rfl ?_
                refine V_bipush (pc1 := 342) d11_stuffed_340 vb_20 rfl ?_
                refine V_si (pc1 := 345) (w11_at2 g  i 20 (256 * i + 20) (by omega) (uI (uI I 297 (256 * i + 20) (if ((if I 297 (256 * i + 20) = 5 then true else false) = true) ∨ (¬ (x = I 297 (256 * i + 21))) then 1 else (I 297 (256 * i + 20)) + 1)) 297 (256 * i + 21) x) L ) s11_at l11_35 rfl rfl ⟨Nat.le_of_ble_eq_true rfl, Nat.le_of_ble_eq_true rfl, Nat.le_refl _, Nat.le_refl _⟩ (Nat.le_of_ble_eq_true rfl) rfl d11_stuffed_342 rfl ?_
                refine V_iald2 (pc1 := 346) (256 * i + 20) ly297 (lt305 rfl) rfl (by omega) ((uI_ne (uI I 297 (256 * i + 20) (if ((if I 297 (256 * i + 20) = 5 then true else false) = true) ∨ (¬ (x = I 297 (256 * i + 21))) then 1 else (I 297 (256 * i + 20)) + 1)) 297 x (show (256 * i + 20 : Nat) ≠ 256 * i + 21 by omega)).trans (uI_self I 297 (256 * i + 20) (if ((if I 297 (256 * i + 20) = 5 then true else false) = true) ∨ (¬ (x = I 297 (256 * i + 21))) then 1 else (I 297 (256 * i + 20)) + 1))) d11_stuffed_345 rfl ?_
                refine V_iconst (pc1 := 347) d11_stuffed_346 vc_5 rfl ?_
                refine V_icmp_ge (tgt := 362) (pc1 := 350) d11_stuffed_347 (by decide) rfl (fun h86 => ?_) (fun h86 => ?_)
                · skip
                  exact k83 (Or.inr h86)
                · skip
                  exact k84 (fun z => z.elim (fun z => z h85) h86)
            have k77 : (((if I 297 (256 * i + 20) = 5 then true else false) = true) ∨ (¬ (x = I 297 (256 * i + 21)))) → V g (k11_stuffed, 5, 0, 0) 0 0 302 [(5, .int (I 297 (256 * i + 21))), (4, .int (bI (if x = I 297 (256 * i + 26) then false else true))), (3, .int (bI (if I 297 (256 * i + 20) = 5 then true else false))), (0, .ref (xA g 296)), (1, .int (nI i)), (2, .int x)] [.int (nI (256 * i + 20)), .ref (xA g 297)] (I, L, R0, 305) Q := by
              intro h76
              refine V_iconst (pc1 := 303) d11_stuffed_302 vc_1 rfl ?_
              exact key81 _ (by first | rfl | (simp only [hb3, if_pos h76]; done) | (simp only [hb3, if_pos h76]; rfl)) _ (lvsub_p [0, 1, 2, 3, 4, 5] rfl)
            have k78 : ¬ (((if I 297 (256 * i + 20) = 5 then true else false) = true) ∨ (¬ (x = I 297 (256 * i + 21)))) → V g (k11_stuffed, 5, 0, 0) 0 0 286 [(5, .int (I 297 (256 * i + 21))), (4, .int (bI (if x = I 297 (256 * i + 26) then false else true))), (3, .int (bI (if I 297 (256 * i + 20) = 5 then true else false))), (0, .ref (xA g 296)), (1, .int (nI i)), (2, .int x)] [.int (nI (256 * i + 20)), .ref (xA g 297)] (I, L, R0, 305) Q := by
              intro h76
              refine V_aload_n (pc1 := 287) 3 d11_stuffed_286 rfl rfl ?_
              refine V_getr (pc1 := 290) ly296 (lt305 rfl) f11_7 (fun _ => rfl) rf296_0 d11_stuffed_287 rfl ?_
              refine V_iload_n (pc1 := 291) 4 d11_stuffed_290 rfl rfl ?_
              refine V_bipush (pc1 := 293) d11_stuffed_291 vb_20 rfl ?_
              refine V_si (pc1 := 296) (w11_at2 g  i 20 (256 * i + 20) (by omega) I L ) s11_at l11_35 rfl rfl ⟨Nat.le_of_ble_eq_true rfl, Nat.le_of_ble_eq_true rfl, Nat.le_refl _, Nat.le_refl _⟩ (Nat.le_of_ble_eq_true rfl) rfl d11_stuffed_293 rfl ?_
              refine V_iald2 (pc1 := 297) (256 * i + 20) ly297 (lt305 rfl) rfl (by omega) rfl d11_stuffed_296 rfl ?_
              refine V_iconst (pc1 := 298) d11_stuffed_297 vc_1 rfl ?_
              refine V_iadd (pc1 := 299) d11_stuffed_298 rfl ?_
              refine V_goto (tgt := 303) d11_stuffed_299 (by decide) ?_
              exact key81 _ (by first | rfl | (simp only [hb3, if_neg h76]; done) | (simp only [hb3, if_neg h76]; rfl)) _ (lvsub_p [0, 1, 2, 3, 4, 5] rfl)
            refine V_bne (tgt := 302) (pc1 := 280) d11_stuffed_277 (by decide) rfl (fun h79 => ?_) (fun h79 => ?_)
            · skip
              exact k77 (Or.inl h79)
            · skip
              refine V_iload_n (pc1 := 281) 5 d11_stuffed_280 rfl rfl ?_
              refine V_iload (pc1 := 283) 0 d11_stuffed_281 rfl rfl ?_
              refine V_icmp_ne (tgt := 302) (pc1 := 286) d11_stuffed_283 (by decide) rfl (fun h80 => ?_) (fun h80 => ?_)
              · skip
                exact k77 (Or.inr h80)
              · skip
                exact k78 (fun z => z.elim h79 (fun z => z h80))
          have k75 : ¬ (((r11_isTransmitting i I L) = true) ∨ (¬ (x = I 297 (256 * i + 21)))) → V g (k11_stuffed, 5, 0, 0) 0 0 94 [(5, .int (I 297 (256 * i + 21))), (4, .int (bI (if x = I 297 (256 * i + 26) then false else true))), (3, .int (bI (if I 297 (256 * i + 20) = 5 then true else false))), (0, .ref (xA g 296)), (1, .int (nI i)), (2, .int x)] [] (I, L, R0, 305) Q := by
            intro h73
            refine V_aload_n (pc1 := 95) 3 d11_stuffed_94 rfl rfl ?_
            refine V_iload_n (pc1 := 96) 4 d11_stuffed_95 rfl rfl ?_
            refine V_iconst (pc1 := 97) d11_stuffed_96 vc_2 rfl ?_
            refine V_vv (pc1 := 100) (w11_errs g  i 2 hi (by first | decide | omega | (split <;> decide)) I L ) ly296 (lt305 rfl) s11_errs l11_150 rfl rfl ⟨Nat.le_of_ble_eq_true rfl, Nat.le_of_ble_eq_true rfl, Nat.le_refl _, Nat.le_refl _⟩ (Nat.le_of_ble_eq_true rfl) rfl d11_stuffed_97 rfl ?_
            refine V_vret rfl d11_stuffed_100 (Nat.zero_le _) (Nat.zero_le _) ?_
            have hq2 := hq
            simp only [i11_stuffed, hb3, if_pos h5, if_pos h70, if_neg h73] at hq2
            exact hq2
          refine V_bne (tgt := 266) (pc1 := 88) d11_stuffed_85 (by decide) rfl (fun h88 => ?_) (fun h88 => ?_)
          · skip
            exact k74 (Or.inl h88)
          · skip
            refine V_iload_n (pc1 := 89) 5 d11_stuffed_88 rfl rfl ?_
            refine V_iload (pc1 := 91) 0 d11_stuffed_89 rfl rfl ?_
            refine V_icmp_ne (tgt := 266) (pc1 := 94) d11_stuffed_91 (by decide) rfl (fun h89 => ?_) (fun h89 => ?_)
            · skip
              exact k74 (Or.inr h89)
            · skip
              exact k75 (fun z => z.elim h88 (fun z => z h89))
        have k72 : ¬ ((¬ ((r11_isTransmitting i I L) = true)) ∨ (¬ ((if x = I 297 (256 * i + 26) then false else true) = true))) → V g (k11_stuffed, 5, 0, 0) 0 0 73 [(5, .int (I 297 (256 * i + 21))), (4, .int (bI (if x = I 297 (256 * i + 26) then false else true))), (3, .int (bI (if I 297 (256 * i + 20) = 5 then true else false))), (0, .ref (xA g 296)), (1, .int (nI i)), (2, .int x)] [] (I, L, R0, 305) Q := by
          intro h70
          refine V_aload_n (pc1 := 74) 3 d11_stuffed_73 rfl rfl ?_
          refine V_iload_n (pc1 := 75) 4 d11_stuffed_74 rfl rfl ?_
          refine V_iconst (pc1 := 76) d11_stuffed_75 vc_1 rfl ?_
          refine V_vv (pc1 := 79) (w11_errs g  i 1 hi (by first | decide | omega | (split <;> decide)) I L ) ly296 (lt305 rfl) s11_errs l11_150 rfl rfl ⟨Nat.le_of_ble_eq_true rfl, Nat.le_of_ble_eq_true rfl, Nat.le_refl _, Nat.le_refl _⟩ (Nat.le_of_ble_eq_true rfl) rfl d11_stuffed_76 rfl ?_
          refine V_vret rfl d11_stuffed_79 (Nat.zero_le _) (Nat.zero_le _) ?_
          have hq2 := hq
          simp only [i11_stuffed, hb3, if_pos h5, if_neg h70] at hq2
          exact hq2
        refine V_beq (tgt := 80) (pc1 := 68) d11_stuffed_65 (by decide) rfl (fun h90 => ?_) (fun h90 => ?_)
        · skip
          exact k71 (Or.inl h90)
        · skip
          refine V_iload (pc1 := 70) 1 d11_stuffed_68 rfl rfl ?_
          refine V_beq (tgt := 80) (pc1 := 73) d11_stuffed_70 (by decide) rfl (fun h91 => ?_) (fun h91 => ?_)
          · skip
            exact k71 (Or.inr h91)
          · skip
            exact k72 (fun z => z.elim (fun z => z h90) (fun z => z h91))
    refine V_icmp_eq (tgt := 40) (pc1 := 36) d11_stuffed_33 (by decide) rfl (fun h3 => ?_) (fun h3 => ?_)
    · skip
      refine V_iconst (pc1 := 41) d11_stuffed_40 vc_0 rfl ?_
      exact key4 _ (by first | rfl | (simp only [hb3, if_pos h3]; done) | (simp only [hb3, if_pos h3]; rfl)) _ (lvsub_p [0, 1, 2, 3] rfl)
    · skip
      refine V_iconst (pc1 := 37) d11_stuffed_36 vc_1 rfl ?_
      refine V_goto (tgt := 41) d11_stuffed_37 (by decide) ?_
      exact key4 _ (by first | rfl | (simp only [hb3, if_neg h3]; done) | (simp only [hb3, if_neg h3]; rfl)) _ (lvsub_p [0, 1, 2, 3] rfl)
  refine V_icmp_ne (tgt := 19) (pc1 := 15) d11_stuffed_12 (by decide) rfl (fun h1 => ?_) (fun h1 => ?_)
  · skip
    refine V_iconst (pc1 := 20) d11_stuffed_19 vc_0 rfl ?_
    exact key2 _ (by first | rfl | (simp only [hb3, if_neg h1]; done) | (simp only [hb3, if_neg h1]; rfl)) _ (lvsub_p [0, 1, 2] rfl)
  · skip
    refine V_iconst (pc1 := 16) d11_stuffed_15 vc_1 rfl ?_
    refine V_goto (tgt := 20) d11_stuffed_16 (by decide) ?_
    exact key2 _ (by first | rfl | (simp only [hb3, if_pos h1]; done) | (simp only [hb3, if_pos h1]; rfl)) _ (lvsub_p [0, 1, 2] rfl)
theorem w11_stuffed (g : GlT)  (i : Nat) (x : Int32) (hi : i < 4) (b : Nat) (hb2 : b < 70) (I : Nat → Nat → Int32) (L : Nat → Nat → Int64) (hb : I 297 (256 * i + 19) = nI b) : Call g (k11_stuffed, 5, 0, 0) [.ref (xA g 296), .int (nI i), .int x] (I, L, R0, 305) (Qv (i11_stuffed i x I L) L) := Call.of (by decide) (Nat.le_of_ble_eq_true rfl) rfl (v11_stuffed g  i x hi b hb2 I L hb _ (And.intro rfl rfl))

