theorem aOK_26 {i j : Nat} {v : Int32} {I : Nat → Nat → Int32} {L : Nat → Nat → Int64} (hj : j < 4) (hi : i < 4) (h : aOK j I L) : aOK j (uI I 297 (256 * i + 26) v) L := by
  have e : ∀ s, s < 256 → s ≠ 26 → (uI I 297 (256 * i + 26) v) 297 (256 * j + s) = I 297 (256 * j + s) := fun s h1 h2 => uI_ne _ _ _ (by omega)
  have e0 : (uI I 297 (256 * i + 26) v) 297 (256 * j) = I 297 (256 * j) := e 0 (by omega) (by omega)
  have es : r11_sampledLength j (uI I 297 (256 * i + 26) v) L = r11_sampledLength j I L := slen_congr (fun t ht => uI_ne _ _ _ (by omega))
  have et : r11_total j (uI I 297 (256 * i + 26) v) L = r11_total j I L := by
    unfold r11_total
    rw [e 19 (by omega) (by omega), e 102 (by omega) (by omega), es]
  unfold aOK at h ⊢
  rw [e0, e 23 (by omega) (by omega), e 22 (by omega) (by omega), e 25 (by omega) (by omega), e 24 (by omega) (by omega), e 32 (by omega) (by omega), e 19 (by omega) (by omega), es, et]
  obtain ⟨⟨w, w1, w2, w3⟩, h2⟩ := h
  refine ⟨⟨w, w1, w2, fun p4 g => ⟨(w3 p4 g).1, fun tr => ?_⟩⟩, h2⟩
  unfold r11_isTransmitting at tr
  rw [e 1 (by omega) (by omega)] at tr
  obtain ⟨q1, s, q2, q3⟩ := (w3 p4 g).2 (by unfold r11_isTransmitting; exact tr)
  exact ⟨q1, s, q2, by rw [uI_ne _ _ _ (by omega)]; exact q3⟩
theorem dK_26 {i j : Nat} {v : Int32} {I : Nat → Nat → Int32} {L : Nat → Nat → Int64} (hj : j < 4) (hi : i < 4) (h : dK j I L) : dK j (uI I 297 (256 * i + 26) v) L := by
  have e : ∀ s, s < 256 → s ≠ 26 → (uI I 297 (256 * i + 26) v) 297 (256 * j + s) = I 297 (256 * j + s) := fun s h1 h2 => uI_ne _ _ _ (by omega)
  have e0 : (uI I 297 (256 * i + 26) v) 297 (256 * j) = I 297 (256 * j) := e 0 (by omega) (by omega)
  have es : r11_sampledLength j (uI I 297 (256 * i + 26) v) L = r11_sampledLength j I L := slen_congr (fun t ht => uI_ne _ _ _ (by omega))
  have et : r11_total j (uI I 297 (256 * i + 26) v) L = r11_total j I L := by
    unfold r11_total
    rw [e 19 (by omega) (by omega), e 102 (by omega) (by omega), es]
  unfold dK tOK at h ⊢
  rw [e0, e 19 (by omega) (by omega), e 22 (by omega) (by omega), et]
  exact h
theorem aOK_of {i j : Nat} {I K : Nat → Nat → Int32} {L : Nat → Nat → Int64} (hj : j < 4) (hi : i < 4) (hij : j ≠ i) (o : oF i I K) (h : aOK j I L) : aOK j K L := by
  have e : ∀ s, s < 256 → K 297 (256 * j + s) = I 297 (256 * j + s) := fun s h1 => o.2 _ (by omega)
  have e0 : K 297 (256 * j) = I 297 (256 * j) := e 0 (by omega)
  have es : r11_sampledLength j K L = r11_sampledLength j I L := slen_congr (fun t ht => o.2 _ (by omega))
  have et : r11_total j K L = r11_total j I L := by
    unfold r11_total
    rw [e 19 (by omega), e 102 (by omega), es]
  unfold aOK at h ⊢
  rw [e0, e 23 (by omega), e 22 (by omega), e 25 (by omega), e 24 (by omega), e 32 (by omega), e 19 (by omega), es, et]
  obtain ⟨⟨w, w1, w2, w3⟩, h2⟩ := h
  refine ⟨⟨w, w1, w2, fun p4 g => ⟨(w3 p4 g).1, fun tr => ?_⟩⟩, h2⟩
  unfold r11_isTransmitting at tr
  rw [e 1 (by omega)] at tr
  obtain ⟨q1, s, q2, q3⟩ := (w3 p4 g).2 (by unfold r11_isTransmitting; exact tr)
  exact ⟨q1, s, q2, by rw [o.2 _ (by omega)]; exact q3⟩

def i11_bit_52 : Nat → Nat → Int32 → Int32 → (Nat → Nat → Int32) → (Nat → Nat → Int64) → (Nat → Nat → Int32)
  | 0, i, z, y, I, L => i11_passes (uI (uI I 297 ((((I 297 1024).toNatClampNeg) % 256) + 1050) z) 297 1024 ((I 297 1024) + 1)) L
  | n + 1, i, z, y, I, L => i11_bit_52  n (i + 1) z y (i11_acts i (z ^^^ ((y >>> ((nI i) &&& 31)) &&& 1)) I L) L
set_option maxRecDepth 4000 in
theorem t11_bit_52 (g : GlT)   : ∀ (n i : Nat) (z : Int32) (y : Int32) (I : Nat → Nat → Int32) (L : Nat → Nat → Int64), (hA : ∀ j, i ≤ j → j < 4 → aOK j I L) → (hD : ∃ d, d ≤ 8 ∧ I 297 1028 = nI d) → (hT : ∃ tt, tt < 2 ^ 30 ∧ I 297 1024 = nI tt) → (hn : i + n = 4) → ∀ (Q : Option Value → MemT → Prop), Q (none) (i11_bit_52 n i z y I L, L, R0, 305) → V g (k11_bit, 8, 0, 0) 0 0 52 [(0, .ref (xA g 296)), (1, .int z), (2, .int y), (3, .int (nI i))] [] (I, L, R0, 305) Q := by
  intro n
  induction n with
  | zero =>
    intro i z y I L hA hD hT hn Q hq
    obtain ⟨d, hd8, hd⟩ := id hD
    obtain ⟨tt, htt, ht⟩ := id hT
    have ht3 : (I 297 1024).toNatClampNeg = tt := by rw [ht]; exact nI_clamp (by omega)
    refine V_iload_n (pc1 := 53) 3 d11_bit_52 rfl rfl ?_
    refine V_iconst (pc1 := 54) d11_bit_53 vc_4 rfl ?_
    refine V_icmp_ge (tgt := 75) (pc1 := 57) d11_bit_54 (by decide) rfl (fun _ => ?_) (fun h1 => absurd (by rw [show i = 4 by omega]; decide) h1)
    refine V_aload_n (pc1 := 76) 0 d11_bit_75 rfl rfl ?_
    refine V_getr (pc1 := 79) ly296 (lt305 rfl) f11_7 (fun _ => rfl) rf296_0 d11_bit_76 rfl ?_
    refine V_sipush (pc1 := 82) d11_bit_79 vs_1050 rfl ?_
    refine V_aload_n (pc1 := 83) 0 d11_bit_82 rfl rfl ?_
    refine V_getr (pc1 := 86) ly296 (lt305 rfl) f11_7 (fun _ => rfl) rf296_0 d11_bit_83 rfl ?_
    refine V_sipush (pc1 := 89) d11_bit_86 vs_1024 rfl ?_
    refine V_iald2 (pc1 := 90) 1024 ly297 (lt305 rfl) rfl (Nat.le_of_ble_eq_true rfl) ht d11_bit_89 rfl ?_
    refine V_sipush (pc1 := 93) d11_bit_90 vs_256 rfl ?_
    refine V_irem (pc1 := 94) d11_bit_93 (by decide) rfl ?_
    obtain ⟨sl, hsl, hsle⟩ : ∃ s, s < 256 ∧ tt % 256 = s := ⟨_, Nat.mod_lt _ (by omega), rfl⟩
    rw [show nI tt - nI tt / 256 * 256 = nI sl from (pk_rem (d := 256) (by omega) (by omega) (by omega)).trans (by rw [hsle])]
    refine V_addN (pc1 := 95) (a := 1050) (b := sl) (c := sl + 1050) rfl rfl (by omega) d11_bit_94 rfl ?_
    refine V_iload_n (pc1 := 96) 1 d11_bit_95 rfl rfl ?_
    refine V_iast (pc1 := 97) (sl + 1050) ly297 (lt305 rfl) rfl (by omega) d11_bit_96 rfl ?_
    refine V_aload_n (pc1 := 98) 0 d11_bit_97 rfl rfl ?_
    refine V_getr (pc1 := 101) ly296 (lt305 rfl) f11_7 (fun _ => rfl) rf296_0 d11_bit_98 rfl ?_
    refine V_sipush (pc1 := 104) d11_bit_101 vs_1024 rfl ?_
    refine V_dup2 (pc1 := 105) d11_bit_104 rfl rfl rfl ?_
    refine V_iald2 (pc1 := 106) 1024 ly297 (lt305 rfl) rfl (Nat.le_of_ble_eq_true rfl) (uI_ne I 297 z (show (1024 : Nat) ≠ sl + 1050 by omega)) d11_bit_105 rfl ?_
    refine V_iconst (pc1 := 107) d11_bit_106 vc_1 rfl ?_
    refine V_iadd (pc1 := 108) d11_bit_107 rfl ?_
    refine V_iast (pc1 := 109) 1024 ly297 (lt305 rfl) rfl (Nat.le_of_ble_eq_true rfl) d11_bit_108 rfl ?_
    refine V_aload_n (pc1 := 110) 0 d11_bit_109 rfl rfl ?_
    refine V_vv (pc1 := 113) (w11_passes g   d hd8 (uI (uI I 297 (sl + 1050) z) 297 1024 ((I 297 1024) + 1)) L (((uI_ne (uI I 297 (sl + 1050) z) 297 ((I 297 1024) + 1) (show (1028 : Nat) ≠ 1024 by decide)).trans (uI_ne I 297 z (show (1028 : Nat) ≠ sl + 1050 by omega))).trans hd)) ly296 (lt305 rfl) s11_passes l11_172 rfl rfl ⟨Nat.le_of_ble_eq_true rfl, Nat.le_of_ble_eq_true rfl, Nat.le_refl _, Nat.le_refl _⟩ (Nat.le_of_ble_eq_true rfl) rfl d11_bit_110 rfl ?_
    refine V_vret rfl d11_bit_113 (Nat.zero_le _) (Nat.zero_le _) ?_
    have hq2 := hq
    simp only [i11_bit_52, ht3, hsle] at hq2
    exact hq2
  | succ n ih =>
    intro i z y I L hA hD hT hn Q hq
    obtain ⟨d, hd8, hd⟩ := id hD
    obtain ⟨tt, htt, ht⟩ := id hT
    have ht3 : (I 297 1024).toNatClampNeg = tt := by rw [ht]; exact nI_clamp (by omega)
    refine V_iload_n (pc1 := 53) 3 d11_bit_52 rfl rfl ?_
    refine V_iconst (pc1 := 54) d11_bit_53 vc_4 rfl ?_
    refine V_icmp_ge (tgt := 75) (pc1 := 57) d11_bit_54 (by decide) rfl (fun h1 => absurd h1 (nI_ge (b := 4) (by omega) (by omega))) (fun _ => ?_)
    refine V_aload_n (pc1 := 58) 0 d11_bit_57 rfl rfl ?_
    refine V_iload_n (pc1 := 59) 3 d11_bit_58 rfl rfl ?_
    refine V_iload_n (pc1 := 60) 1 d11_bit_59 rfl rfl ?_
    refine V_iload_n (pc1 := 61) 2 d11_bit_60 rfl rfl ?_
    refine V_iload_n (pc1 := 62) 3 d11_bit_61 rfl rfl ?_
    refine V_ishr (pc1 := 63) d11_bit_62 rfl ?_
    refine V_iconst (pc1 := 64) d11_bit_63 vc_1 rfl ?_
    refine V_iand (pc1 := 65) d11_bit_64 rfl ?_
    refine V_ixor (pc1 := 66) d11_bit_65 rfl ?_
    refine V_vv (pc1 := 69) (w11_acts g  i (z ^^^ ((y >>> ((nI i) &&& 31)) &&& 1)) (by omega) I L (hA i (Nat.le_refl _) (by omega))) ly296 (lt305 rfl) s11_acts l11_169 rfl rfl ⟨Nat.le_of_ble_eq_true rfl, Nat.le_of_ble_eq_true rfl, Nat.le_refl _, Nat.le_refl _⟩ (Nat.le_of_ble_eq_true rfl) rfl d11_bit_66 rfl ?_
    refine V_iinc (pc1 := 72) 3 (v := nI (i + 1)) d11_bit_69 rfl (nI_1 _) (Nat.le_of_ble_eq_true rfl) rfl rfl ?_
    refine V_goto (tgt := 52) d11_bit_72 (by decide) ?_
    refine V_lv (lv1 := [(0, .ref (xA g 296)), (1, .int z), (2, .int y), (3, .int (nI (i + 1)))]) (lvsub_p [1, 2, 3, 0] rfl) ?_
    have hq2 := hq
    simp only [i11_bit_52, ht3] at hq2
    exact ih (i + 1) z y (i11_acts i (z ^^^ ((y >>> ((nI i) &&& 31)) &&& 1)) I L) L (fun j h1 h2 => aOK_of h2 (show i < 4 by omega) (by omega) (oF.acts (hA i (Nat.le_refl _) (by omega))) (hA j (by omega) h2)) ⟨d, hd8, ((oF.acts (hA i (Nat.le_refl _) (by omega))).2 _ (by omega)).trans hd⟩ ⟨tt, htt, ((oF.acts (hA i (Nat.le_refl _) (by omega))).2 _ (by omega)).trans ht⟩ (by omega) Q hq2
def i11_bit_4 : Nat → Nat → Int32 → (Nat → Nat → Int32) → (Nat → Nat → Int64) → (Nat → Nat → Int32)
  | 0, i, z, I, L => i11_bit_52  4 0 z (r11_inverted I L) I L
  | n + 1, i, z, I, L => i11_bit_4  n (i + 1) (z &&& (r11_drives i I L)) (uI I 297 (256 * i + 26) (r11_drives i I L)) L
set_option maxRecDepth 4000 in
theorem t11_bit_4 (g : GlT)   : ∀ (n i : Nat) (z : Int32) (I : Nat → Nat → Int32) (L : Nat → Nat → Int64), (hK : ∀ j, j < 4 → dK j I L ∧ aOK j I L) → (hD : ∃ d, d ≤ 8 ∧ I 297 1028 = nI d) → (hT : ∃ tt, tt < 2 ^ 30 ∧ I 297 1024 = nI tt) → (hn : i + n = 4) → ∀ (Q : Option Value → MemT → Prop), Q (none) (i11_bit_4 n i z I L, L, R0, 305) → V g (k11_bit, 8, 0, 0) 0 0 4 [(0, .ref (xA g 296)), (1, .int z), (2, .int (nI i))] [] (I, L, R0, 305) Q := by
  intro n
  induction n with
  | zero =>
    intro i z I L hK hD hT hn Q hq
    obtain ⟨d, hd8, hd⟩ := id hD
    obtain ⟨tt, htt, ht⟩ := id hT
    have ht3 : (I 297 1024).toNatClampNeg = tt := by rw [ht]; exact nI_clamp (by omega)
    refine V_iload_n (pc1 := 5) 2 d11_bit_4 rfl rfl ?_
    refine V_iconst (pc1 := 6) d11_bit_5 vc_4 rfl ?_
    refine V_icmp_ge (tgt := 45) (pc1 := 9) d11_bit_6 (by decide) rfl (fun _ => ?_) (fun h1 => absurd (by rw [show i = 4 by omega]; decide) h1)
    refine V_aload_n (pc1 := 46) 0 d11_bit_45 rfl rfl ?_
    refine V_vi (pc1 := 49) (w11_inverted g   d hd8 I L hd) ly296 (lt305 rfl) s11_inverted l11_165 rfl rfl ⟨Nat.le_of_ble_eq_true rfl, Nat.le_of_ble_eq_true rfl, Nat.le_refl _, Nat.le_refl _⟩ (Nat.le_of_ble_eq_true rfl) rfl d11_bit_46 rfl ?_
    refine V_istore_n (pc1 := 50) d11_bit_49 (Nat.le_of_ble_eq_true rfl) rfl rfl ?_
    refine V_iconst (pc1 := 51) d11_bit_50 vc_0 rfl ?_
    refine V_istore_n (pc1 := 52) d11_bit_51 (Nat.le_of_ble_eq_true rfl) rfl rfl ?_
    refine V_lv (lv1 := [(0, .ref (xA g 296)), (1, .int z), (2, .int (r11_inverted I L)), (3, .int (nI 0))]) (lvsub_p [2, 3, 1, 0] rfl) ?_
    have hq2 := hq
    simp only [i11_bit_4, ht3] at hq2
    exact t11_bit_52 g    4 0 z (r11_inverted I L) I L (fun j _ hj => (hK j hj).2) hD hT rfl Q hq2
  | succ n ih =>
    intro i z I L hK hD hT hn Q hq
    obtain ⟨d, hd8, hd⟩ := id hD
    obtain ⟨tt, htt, ht⟩ := id hT
    have ht3 : (I 297 1024).toNatClampNeg = tt := by rw [ht]; exact nI_clamp (by omega)
    refine V_iload_n (pc1 := 5) 2 d11_bit_4 rfl rfl ?_
    refine V_iconst (pc1 := 6) d11_bit_5 vc_4 rfl ?_
    refine V_icmp_ge (tgt := 45) (pc1 := 9) d11_bit_6 (by decide) rfl (fun h1 => absurd h1 (nI_ge (b := 4) (by omega) (by omega))) (fun _ => ?_)
    refine V_aload_n (pc1 := 10) 0 d11_bit_9 rfl rfl ?_
    refine V_getr (pc1 := 13) ly296 (lt305 rfl) f11_7 (fun _ => rfl) rf296_0 d11_bit_10 rfl ?_
    refine V_iload_n (pc1 := 14) 2 d11_bit_13 rfl rfl ?_
    refine V_bipush (pc1 := 16) d11_bit_14 vb_26 rfl ?_
    refine V_si (pc1 := 19) (w11_at2 g  i 26 (256 * i + 26) (by omega) I L ) s11_at l11_35 rfl rfl ⟨Nat.le_of_ble_eq_true rfl, Nat.le_of_ble_eq_true rfl, Nat.le_refl _, Nat.le_refl _⟩ (Nat.le_of_ble_eq_true rfl) rfl d11_bit_16 rfl ?_
    refine V_aload_n (pc1 := 20) 0 d11_bit_19 rfl rfl ?_
    refine V_iload_n (pc1 := 21) 2 d11_bit_20 rfl rfl ?_
    refine V_vi (pc1 := 24) (w11_drives g  i (by omega) I L (hK i (by omega)).1) ly296 (lt305 rfl) s11_drives l11_162 rfl rfl ⟨Nat.le_of_ble_eq_true rfl, Nat.le_of_ble_eq_true rfl, Nat.le_refl _, Nat.le_refl _⟩ (Nat.le_of_ble_eq_true rfl) rfl d11_bit_21 rfl ?_
    refine V_iast (pc1 := 25) (256 * i + 26) ly297 (lt305 rfl) rfl (by omega) d11_bit_24 rfl ?_
    refine V_iload_n (pc1 := 26) 1 d11_bit_25 rfl rfl ?_
    refine V_aload_n (pc1 := 27) 0 d11_bit_26 rfl rfl ?_
    refine V_getr (pc1 := 30) ly296 (lt305 rfl) f11_7 (fun _ => rfl) rf296_0 d11_bit_27 rfl ?_
    refine V_iload_n (pc1 := 31) 2 d11_bit_30 rfl rfl ?_
    refine V_bipush (pc1 := 33) d11_bit_31 vb_26 rfl ?_
    refine V_si (pc1 := 36) (w11_at2 g  i 26 (256 * i + 26) (by omega) (uI I 297 (256 * i + 26) (r11_drives i I L)) L ) s11_at l11_35 rfl rfl ⟨Nat.le_of_ble_eq_true rfl, Nat.le_of_ble_eq_true rfl, Nat.le_refl _, Nat.le_refl _⟩ (Nat.le_of_ble_eq_true rfl) rfl d11_bit_33 rfl ?_
    refine V_iald2 (pc1 := 37) (256 * i + 26) ly297 (lt305 rfl) rfl (by omega) (uI_self I 297 (256 * i + 26) (r11_drives i I L)) d11_bit_36 rfl ?_
    refine V_iand (pc1 := 38) d11_bit_37 rfl ?_
    refine V_istore_n (pc1 := 39) d11_bit_38 (Nat.le_of_ble_eq_true rfl) rfl rfl ?_
    refine V_iinc (pc1 := 42) 2 (v := nI (i + 1)) d11_bit_39 rfl (nI_1 _) (Nat.le_of_ble_eq_true rfl) rfl rfl ?_
    refine V_goto (tgt := 4) d11_bit_42 (by decide) ?_
    refine V_lv (lv1 := [(0, .ref (xA g 296)), (1, .int (z &&& (r11_drives i I L))), (2, .int (nI (i + 1)))]) (lvsub_p [2, 1, 0] rfl) ?_
    have hq2 := hq
    simp only [i11_bit_4, ht3] at hq2
    exact ih (i + 1) (z &&& (r11_drives i I L)) (uI I 297 (256 * i + 26) (r11_drives i I L)) L (fun j hj => ⟨dK_26 hj (show i < 4 by omega) (hK j hj).1, aOK_26 hj (show i < 4 by omega) (hK j hj).2⟩) ⟨d, hd8, ((uI_ne I 297 (r11_drives i I L) (show (1028 : Nat) ≠ 256 * i + 26 by omega)).trans hd)⟩ ⟨tt, htt, ((uI_ne I 297 (r11_drives i I L) (show (1024 : Nat) ≠ 256 * i + 26 by omega)).trans ht)⟩ (by omega) Q hq2
def i11_bit (I : Nat → Nat → Int32) (L : Nat → Nat → Int64) : Nat → Nat → Int32 := i11_bit_4  4 0 1 I L
set_option maxRecDepth 4000 in
theorem v11_bit (g : GlT)  (I : Nat → Nat → Int32) (L : Nat → Nat → Int64) (hK : ∀ j, j < 4 → dK j I L ∧ aOK j I L) (hD : ∃ d, d ≤ 8 ∧ I 297 1028 = nI d) (hT : ∃ tt, tt < 2 ^ 30 ∧ I 297 1024 = nI tt) (Q : Option Value → MemT → Prop) (hq : Q (none) (i11_bit I L, L, R0, 305)) : V g (k11_bit, 8, 0, 0) 0 0 0 [(0, .ref (xA g 296))] [] (I, L, R0, 305) Q := by
  obtain ⟨d, hd8, hd⟩ := id hD
  obtain ⟨tt, htt, ht⟩ := id hT
  have ht3 : (I 297 1024).toNatClampNeg = tt := by rw [ht]; exact nI_clamp (by omega)
  refine V_iconst (pc1 := 1) d11_bit_0 vc_1 rfl ?_
  refine V_istore_n (pc1 := 2) d11_bit_1 (Nat.le_of_ble_eq_true rfl) rfl rfl ?_
  refine V_iconst (pc1 := 3) d11_bit_2 vc_0 rfl ?_
  refine V_istore_n (pc1 := 4) d11_bit_3 (Nat.le_of_ble_eq_true rfl) rfl rfl ?_
  refine V_lv (lv1 := [(0, .ref (xA g 296)), (1, .int 1), (2, .int (nI 0))]) (lvsub_p [2, 1, 0] rfl) ?_
  have hq2 := hq
  simp only [i11_bit, ht3] at hq2
  exact t11_bit_4 g    4 0 1 I L hK hD hT rfl Q hq2
theorem w11_bit (g : GlT)  (I : Nat → Nat → Int32) (L : Nat → Nat → Int64) (hK : ∀ j, j < 4 → dK j I L ∧ aOK j I L) (hD : ∃ d, d ≤ 8 ∧ I 297 1028 = nI d) (hT : ∃ tt, tt < 2 ^ 30 ∧ I 297 1024 = nI tt) : Call g (k11_bit, 8, 0, 0) [.ref (xA g 296)] (I, L, R0, 305) (Qv (i11_bit I L) L) := Call.of (by decide) (Nat.le_of_ble_eq_true rfl) rfl (v11_bit g    I L hK hD hT _ (And.intro rfl rfl))

