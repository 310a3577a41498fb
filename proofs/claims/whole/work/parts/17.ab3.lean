def r10_walk_18 (key : Int32) (ln : Int32) (dt : Int32) (mo : Nat) : Nat → Nat → Int64 → (Nat → Nat → Int32) → (Nat → Nat → Int64) → Int32
  | 0, i, ou, I, L => nI i
  | n + 1, i, ou, I, L => (if (r2_isInStuffedPart 287 I L) = true then r10_walk_18 key ln dt mo n (i + 1) ou (if (r2_isStuffBitDue 287 I L) = true then i2_takeStuffBit 287 (r2_nextOf 287 ou I L) I L else i2_takeBasicBit 287 (r2_nextOf 287 ou I L) I L) (if (r2_isStuffBitDue 287 I L) = true then L else m2_takeBasicBit 287 (r2_nextOf 287 ou I L) I L) else nI i)
def i10_walk_18 (key : Int32) (ln : Int32) (dt : Int32) (mo : Nat) : Nat → Nat → Int64 → (Nat → Nat → Int32) → (Nat → Nat → Int64) → (Nat → Nat → Int32)
  | 0, i, ou, I, L => I
  | n + 1, i, ou, I, L => (if (r2_isInStuffedPart 287 I L) = true then i10_walk_18 key ln dt mo n (i + 1) ou (if (r2_isStuffBitDue 287 I L) = true then i2_takeStuffBit 287 (r2_nextOf 287 ou I L) I L else i2_takeBasicBit 287 (r2_nextOf 287 ou I L) I L) (if (r2_isStuffBitDue 287 I L) = true then L else m2_takeBasicBit 287 (r2_nextOf 287 ou I L) I L) else I)
def m10_walk_18 (key : Int32) (ln : Int32) (dt : Int32) (mo : Nat) : Nat → Nat → Int64 → (Nat → Nat → Int32) → (Nat → Nat → Int64) → (Nat → Nat → Int64)
  | 0, i, ou, I, L => L
  | n + 1, i, ou, I, L => (if (r2_isInStuffedPart 287 I L) = true then m10_walk_18 key ln dt mo n (i + 1) ou (if (r2_isStuffBitDue 287 I L) = true then i2_takeStuffBit 287 (r2_nextOf 287 ou I L) I L else i2_takeBasicBit 287 (r2_nextOf 287 ou I L) I L) (if (r2_isStuffBitDue 287 I L) = true then L else m2_takeBasicBit 287 (r2_nextOf 287 ou I L) I L) else L)
set_option maxRecDepth 4000 in
theorem t10_walk_18 (g : GlT)  (key : Int32) (ln : Int32) (dt : Int32) (mo : Nat) (hmo : 1 ≤ mo) (hm2 : mo ≤ 1000) : ∀ (n i : Nat) (ou : Int64) (I : Nat → Nat → Int32) (L : Nat → Nat → Int64), (hn : i + n = mo) → ∀ (Q : Option Value → MemT → Prop), Q (some (.int (r10_walk_18 key ln dt mo n i ou I L))) (i10_walk_18 key ln dt mo n i ou I L, m10_walk_18 key ln dt mo n i ou I L, R0, 305) → V g (k10_walk, 4, 0, 0) 0 0 18 [(0, .ref (xA g 0)), (4, .int (nI mo)), (5, .long ou), (7, .int (nI i))] [] (I, L, R0, 305) Q := by
  intro n
  induction n with
  | zero =>
    intro i ou I L hn Q hq
    refine V_iload (pc1 := 20) 3 d10_walk_18 rfl rfl ?_
    refine V_iload (pc1 := 22) 1 d10_walk_20 rfl rfl ?_
    refine V_icmp_ge (tgt := 83) (pc1 := 25) d10_walk_22 (by decide) rfl (fun _ => ?_) (fun h1 => absurd (nI_le (by omega) (by omega)) h1)
    refine V_iload (pc1 := 85) 3 d10_walk_83 rfl rfl ?_
    refine V_iret rfl d10_walk_85 (Nat.zero_le _) (Nat.zero_le _) ?_
    have hq2 := hq
    simp only [r10_walk_18, i10_walk_18, m10_walk_18] at hq2
    exact hq2
  | succ n ih =>
    intro i ou I L hn Q hq
    refine V_iload (pc1 := 20) 3 d10_walk_18 rfl rfl ?_
    refine V_iload (pc1 := 22) 1 d10_walk_20 rfl rfl ?_
    refine V_icmp_ge (tgt := 83) (pc1 := 25) d10_walk_22 (by decide) rfl (fun h1 => absurd h1 (nI_ge (by omega) (by omega))) (fun _ => ?_)
    refine V_aload_n (pc1 := 26) 0 d10_walk_25 rfl rfl ?_
    refine V_getr (pc1 := 29) ly0 (lt305 rfl) f10_30 (fun _ => rfl) rf0_4 d10_walk_26 rfl ?_
    refine V_vi (pc1 := 32) (w2_isInStuffedPart g okG287   I L ) ly287 (lt305 rfl) s2_isInStuffedPart l10_306 rfl rfl ⟨Nat.le_of_ble_eq_true rfl, Nat.le_of_ble_eq_true rfl, Nat.le_refl _, Nat.le_refl _⟩ (Nat.le_of_ble_eq_true rfl) rfl d10_walk_29 rfl ?_
    refine V_beq (tgt := 83) (pc1 := 35) d10_walk_32 (by decide) rfl (fun h2 => ?_) (fun h2 => ?_)
    · skip
      refine V_iload (pc1 := 85) 3 d10_walk_83 rfl rfl ?_
      refine V_iret rfl d10_walk_85 (Nat.zero_le _) (Nat.zero_le _) ?_
      have hq2 := hq
      simp only [r10_walk_18, i10_walk_18, m10_walk_18, if_neg h2] at hq2
      exact hq2
    · skip
      refine V_aload_n (pc1 := 36) 0 d10_walk_35 rfl rfl ?_
      refine V_getr (pc1 := 39) ly0 (lt305 rfl) f10_30 (fun _ => rfl) rf0_4 d10_walk_36 rfl ?_
      refine V_lload (pc1 := 41) 2 d10_walk_39 rfl rfl ?_
      refine V_vi (pc1 := 44) (w2_nextOf g okG287 ou  I L ) ly287 (lt305 rfl) s2_nextOf l10_309 rfl rfl ⟨Nat.le_of_ble_eq_true rfl, Nat.le_of_ble_eq_true rfl, Nat.le_refl _, Nat.le_refl _⟩ (Nat.le_of_ble_eq_true rfl) rfl d10_walk_41 rfl ?_
      refine V_istore (pc1 := 46) d10_walk_44 (Nat.le_of_ble_eq_true rfl) rfl rfl ?_
      refine V_aload_n (pc1 := 47) 1 d10_walk_46 rfl rfl ?_
      refine V_getr (pc1 := 50) ly0 (lt305 rfl) f10_30 (fun _ => rfl) rf0_4 d10_walk_47 rfl ?_
      refine V_vi (pc1 := 53) (w2_isStuffBitDue g okG287   I L ) ly287 (lt305 rfl) s2_isStuffBitDue l10_313 rfl rfl ⟨Nat.le_of_ble_eq_true rfl, Nat.le_of_ble_eq_true rfl, Nat.le_refl _, Nat.le_refl _⟩ (Nat.le_of_ble_eq_true rfl) rfl d10_walk_50 rfl ?_
      have key4 : ∀ (zI77 : Nat → Nat → Int32), zI77 = (if (r2_isStuffBitDue 287 I L) = true then i2_takeStuffBit 287 (r2_nextOf 287 ou I L) I L else i2_takeBasicBit 287 (r2_nextOf 287 ou I L) I L) → ∀ (zL77 : Nat → Nat → Int64), zL77 = (if (r2_isStuffBitDue 287 I L) = true then L else m2_takeBasicBit 287 (r2_nextOf 287 ou I L) I L) → ∀ (lv : List (Nat × Value)), lvsub [(8, .int (r2_nextOf 287 ou I L)), (0, .ref (xA g 0)), (4, .int (nI mo)), (5, .long ou), (7, .int (nI i))] lv → V g (k10_walk, 4, 0, 0) 0 0 77 lv [] (zI77, zL77, R0, 305) Q := by
        intro zI77 ezI77 zL77 ezL77
        subst ezI77
        subst ezL77
        intro lv hlv
        refine V_lv hlv ?_
        refine V_iinc (pc1 := 80) 4 (v := nI (i + 1)) d10_walk_77 rfl (nI_1 _) (Nat.le_of_ble_eq_true rfl) rfl rfl ?_
        refine V_goto (tgt := 18) d10_walk_80 (by decide) ?_
        refine V_lv (lv1 := [(0, .ref (xA g 0)), (4, .int (nI mo)), (5, .long ou), (7, .int (nI (i + 1)))]) (lvsub_p [2, 3, 4, 0] rfl) ?_
        have hq2 := hq
        simp only [r10_walk_18, i10_walk_18, m10_walk_18, if_pos h2] at hq2
        exact ih (i + 1) ou (if (r2_isStuffBitDue 287 I L) = true then i2_takeStuffBit 287 (r2_nextOf 287 ou I L) I L else i2_takeBasicBit 287 (r2_nextOf 287 ou I L) I L) (if (r2_isStuffBitDue 287 I L) = true then L else m2_takeBasicBit 287 (r2_nextOf 287 ou I L) I L) (by omega) Q hq2
      refine V_beq (tgt := 68) (pc1 := 56) d10_walk_53 (by decide) rfl (fun h3 => ?_) (fun h3 => ?_)
      · skip
        refine V_aload_n (pc1 := 69) 1 d10_walk_68 rfl rfl ?_
        refine V_getr (pc1 := 72) ly0 (lt305 rfl) f10_30 (fun _ => rfl) rf0_4 d10_walk_69 rfl ?_
        refine V_iload (pc1 := 74) 0 d10_walk_72 rfl rfl ?_
        refine V_vv (pc1 := 77) (w2_takeBasicBit g okG287 (r2_nextOf 287 ou I L)  I L ) ly287 (lt305 rfl) s2_takeBasicBit l10_319 rfl rfl ⟨Nat.le_of_ble_eq_true rfl, Nat.le_of_ble_eq_true rfl, Nat.le_refl _, Nat.le_refl _⟩ (Nat.le_of_ble_eq_true rfl) rfl d10_walk_74 rfl ?_
        exact key4 _ (by first | rfl | (simp only [if_neg h3]; done) | (simp only [if_neg h3]; rfl)) _ (by first | rfl | (simp only [if_neg h3]; done) | (simp only [if_neg h3]; rfl)) _ (lvsub_p [0, 1, 2, 3, 4] rfl)
      · skip
        refine V_aload_n (pc1 := 57) 1 d10_walk_56 rfl rfl ?_
        refine V_getr (pc1 := 60) ly0 (lt305 rfl) f10_30 (fun _ => rfl) rf0_4 d10_walk_57 rfl ?_
        refine V_iload (pc1 := 62) 0 d10_walk_60 rfl rfl ?_
        refine V_vv (pc1 := 65) (w2_takeStuffBit g okG287 (r2_nextOf 287 ou I L)  I L ) ly287 (lt305 rfl) s2_takeStuffBit l10_316 rfl rfl ⟨Nat.le_of_ble_eq_true rfl, Nat.le_of_ble_eq_true rfl, Nat.le_refl _, Nat.le_refl _⟩ (Nat.le_of_ble_eq_true rfl) rfl d10_walk_62 rfl ?_
        refine V_goto (tgt := 77) d10_walk_65 (by decide) ?_
        exact key4 _ (by first | rfl | (simp only [if_pos h3]; done) | (simp only [if_pos h3]; rfl)) _ (by first | rfl | (simp only [if_pos h3]; done) | (simp only [if_pos h3]; rfl)) _ (lvsub_p [0, 1, 2, 3, 4] rfl)
def r10_walk (key : Int32) (ln : Int32) (dt : Int32) (mo : Nat) (I : Nat → Nat → Int32) (L : Nat → Nat → Int64) : Int32 := r10_walk_18 key ln dt mo (mo - 1) 1 (r2_outgoingBits key ln dt) (i2_begin 287 I L) (m2_begin 287 I L)
def i10_walk (key : Int32) (ln : Int32) (dt : Int32) (mo : Nat) (I : Nat → Nat → Int32) (L : Nat → Nat → Int64) : Nat → Nat → Int32 := i10_walk_18 key ln dt mo (mo - 1) 1 (r2_outgoingBits key ln dt) (i2_begin 287 I L) (m2_begin 287 I L)
def m10_walk (key : Int32) (ln : Int32) (dt : Int32) (mo : Nat) (I : Nat → Nat → Int32) (L : Nat → Nat → Int64) : Nat → Nat → Int64 := m10_walk_18 key ln dt mo (mo - 1) 1 (r2_outgoingBits key ln dt) (i2_begin 287 I L) (m2_begin 287 I L)
set_option maxRecDepth 4000 in
theorem v10_walk (g : GlT)  (key : Int32) (ln : Int32) (dt : Int32) (mo : Nat) (hmo : 1 ≤ mo) (hm2 : mo ≤ 1000) (I : Nat → Nat → Int32) (L : Nat → Nat → Int64) (Q : Option Value → MemT → Prop) (hq : Q (some (.int (r10_walk key ln dt mo I L))) (i10_walk key ln dt mo I L, m10_walk key ln dt mo I L, R0, 305)) : V g (k10_walk, 4, 0, 0) 0 0 0 [(0, .ref (xA g 0)), (1, .int key), (2, .int ln), (3, .int dt), (4, .int (nI mo))] [] (I, L, R0, 305) Q := by
  refine V_iload_n (pc1 := 1) 1 d10_walk_0 rfl rfl ?_
  refine V_iload_n (pc1 := 2) 2 d10_walk_1 rfl rfl ?_
  refine V_iload_n (pc1 := 3) 3 d10_walk_2 rfl rfl ?_
  refine V_sl (pc1 := 6) (w2_outgoingBits g  key ln dt  I L ) s2_outgoingBits l10_299 rfl rfl ⟨Nat.le_of_ble_eq_true rfl, Nat.le_of_ble_eq_true rfl, Nat.le_refl _, Nat.le_refl _⟩ (Nat.le_of_ble_eq_true rfl) rfl d10_walk_3 rfl ?_
  refine V_lstore (pc1 := 8) d10_walk_6 (Nat.le_of_ble_eq_true rfl) rfl rfl ?_
  refine V_aload_n (pc1 := 9) 1 d10_walk_8 rfl rfl ?_
  refine V_getr (pc1 := 12) ly0 (lt305 rfl) f10_30 (fun _ => rfl) rf0_4 d10_walk_9 rfl ?_
  refine V_vv (pc1 := 15) (w2_begin g okG287   I L ) ly287 (lt305 rfl) s2_begin l10_303 rfl rfl ⟨Nat.le_of_ble_eq_true rfl, Nat.le_of_ble_eq_true rfl, Nat.le_refl _, Nat.le_refl _⟩ (Nat.le_of_ble_eq_true rfl) rfl d10_walk_12 rfl ?_
  refine V_iconst (pc1 := 16) d10_walk_15 vc_1 rfl ?_
  refine V_istore (pc1 := 18) d10_walk_16 (Nat.le_of_ble_eq_true rfl) rfl rfl ?_
  refine V_lv (lv1 := [(0, .ref (xA g 0)), (4, .int (nI mo)), (5, .long (r2_outgoingBits key ln dt)), (7, .int (nI 1))]) (lvsub_p [2, 6, 1, 0] rfl) ?_
  have hq2 := hq
  simp only [r10_walk, i10_walk, m10_walk] at hq2
  exact t10_walk_18 g  _ _ _ _ hmo hm2 (mo - 1) 1 (r2_outgoingBits key ln dt) (i2_begin 287 I L) (m2_begin 287 I L) (by omega) Q hq2
theorem w10_walk (g : GlT)  (key : Int32) (ln : Int32) (dt : Int32) (mo : Nat) (hmo : 1 ≤ mo) (hm2 : mo ≤ 1000) (I : Nat → Nat → Int32) (L : Nat → Nat → Int64) : Call g (k10_walk, 4, 0, 0) [.ref (xA g 0), .int key, .int ln, .int dt, .int (nI mo)] (I, L, R0, 305) (Qi (r10_walk key ln dt mo I L) (i10_walk key ln dt mo I L) (m10_walk key ln dt mo I L)) := Call.of (by decide) (Nat.le_of_ble_eq_true rfl) rfl (v10_walk g  key ln dt mo hmo hm2 I L  _ (And.intro rfl rfl))
theorem x10_walk_18 {key : Int32} {ln : Int32} {dt : Int32} {mo : Nat} {aa : Nat} (h0 : aa ≠ 287) : ∀ (n i : Nat) (ou : Int64) (I : Nat → Nat → Int32) (L : Nat → Nat → Int64), i10_walk_18 key ln dt mo n i ou I L aa = I aa := by
  intro n
  induction n with
  | zero => intros; first | (simp only [i10_walk_18]; done) | (simp only [i10_walk_18]; (try (repeat' split)) <;> first | rfl | (simp [uI_off, h0, x2_begin, x2_takeBasicBit, x2_takeStuffBit]; done))
  | succ n ih => intros; first | (simp only [i10_walk_18]; done) | (simp only [i10_walk_18]; (try (repeat' split)) <;> first | rfl | (simp [ih, uI_off, h0, x2_begin, x2_takeBasicBit, x2_takeStuffBit]; done))
theorem x10_walk {key : Int32} {ln : Int32} {dt : Int32} {mo : Nat} {I : Nat → Nat → Int32} {L : Nat → Nat → Int64} {aa : Nat} (h0 : aa ≠ 287) : i10_walk key ln dt mo I L aa = I aa := by
  first | (simp only [i10_walk]; done) | (simp only [i10_walk]; (try (repeat' split)) <;> first | rfl | (simp [uI_off, h0, x2_begin, x2_takeBasicBit, x2_takeStuffBit, x10_walk_18 h0]; done))
theorem y10_walk_18 {key : Int32} {ln : Int32} {dt : Int32} {mo : Nat} {aa : Nat} (h0 : aa ≠ 287) : ∀ (n i : Nat) (ou : Int64) (I : Nat → Nat → Int32) (L : Nat → Nat → Int64), m10_walk_18 key ln dt mo n i ou I L aa = L aa := by
  intro n
  induction n with
  | zero => intros; first | (simp only [m10_walk_18]; done) | (simp only [m10_walk_18]; (try (repeat' split)) <;> first | rfl | (simp [uL_off, h0, y2_begin, y2_takeBasicBit]; done))
  | succ n ih => intros; first | (simp only [m10_walk_18]; done) | (simp only [m10_walk_18]; (try (repeat' split)) <;> first | rfl | (simp [ih, uL_off, h0, y2_begin, y2_takeBasicBit]; done))
theorem y10_walk {key : Int32} {ln : Int32} {dt : Int32} {mo : Nat} {I : Nat → Nat → Int32} {L : Nat → Nat → Int64} {aa : Nat} (h0 : aa ≠ 287) : m10_walk key ln dt mo I L aa = L aa := by
  first | (simp only [m10_walk]; done) | (simp only [m10_walk]; (try (repeat' split)) <;> first | rfl | (simp [uL_off, h0, y2_begin, y2_takeBasicBit, y10_walk_18 h0]; done))

def r10_crc (idn : Int32) (rm : Int32) (ln : Int32) (dt : Int32) (I : Nat → Nat → Int32) (L : Nat → Nat → Int64) : Int32 := (if (r10_isFrame idn rm ln dt) = true then (i10_walk (r10_keyOf idn rm) ln dt 82 I L) 287 4 else (-2))
def i10_crc (idn : Int32) (rm : Int32) (ln : Int32) (dt : Int32) (I : Nat → Nat → Int32) (L : Nat → Nat → Int64) : Nat → Nat → Int32 := (if (r10_isFrame idn rm ln dt) = true then i10_walk (r10_keyOf idn rm) ln dt 82 I L else I)
def m10_crc (idn : Int32) (rm : Int32) (ln : Int32) (dt : Int32) (I : Nat → Nat → Int32) (L : Nat → Nat → Int64) : Nat → Nat → Int64 := (if (r10_isFrame idn rm ln dt) = true then m10_walk (r10_keyOf idn rm) ln dt 82 I L else L)
set_option maxRecDepth 4000 in
theorem v10_crc (g : GlT)  (idn : Int32) (rm : Int32) (ln : Int32) (dt : Int32) (I : Nat → Nat → Int32) (L : Nat → Nat → Int64) (Q : Option Value → MemT → Prop) (hq : Q (some (.int (r10_crc idn rm ln dt I L))) (i10_crc idn rm ln dt I L, m10_crc idn rm ln dt I L, R0, 305)) : V g (k10_crc, 5, 0, 0) 0 0 0 [(0, .ref (xA g 0)), (1, .int idn), (2, .int rm), (3, .int ln), (4, .int dt)] [] (I, L, R0, 305) Q := by
  refine V_iload_n (pc1 := 1) 1 d10_crc_0 rfl rfl ?_
  refine V_iload_n (pc1 := 2) 2 d10_crc_1 rfl rfl ?_
  refine V_iload_n (pc1 := 3) 3 d10_crc_2 rfl rfl ?_
  refine V_iload (pc1 := 5) 4 d10_crc_3 rfl rfl ?_
  refine V_si (pc1 := 8) (w10_isFrame g  idn rm ln dt  I L ) s10_isFrame l10_87 rfl rfl ⟨Nat.le_of_ble_eq_true rfl, Nat.le_of_ble_eq_true rfl, Nat.le_refl _, Nat.le_refl _⟩ (Nat.le_of_ble_eq_true rfl) rfl d10_crc_5 rfl ?_
  refine V_bne (tgt := 14) (pc1 := 11) d10_crc_8 (by decide) rfl (fun h1 => ?_) (fun h1 => ?_)
  · skip
    refine V_aload_n (pc1 := 15) 0 d10_crc_14 rfl rfl ?_
    refine V_iload_n (pc1 := 16) 1 d10_crc_15 rfl rfl ?_
    refine V_iload_n (pc1 := 17) 2 d10_crc_16 rfl rfl ?_
    refine V_si (pc1 := 20) (w10_keyOf g  idn rm  I L ) s10_keyOf l10_95 rfl rfl ⟨Nat.le_of_ble_eq_true rfl, Nat.le_of_ble_eq_true rfl, Nat.le_refl _, Nat.le_refl _⟩ (Nat.le_of_ble_eq_true rfl) rfl d10_crc_17 rfl ?_
    refine V_iload_n (pc1 := 21) 3 d10_crc_20 rfl rfl ?_
    refine V_iload (pc1 := 23) 4 d10_crc_21 rfl rfl ?_
    refine V_bipush (pc1 := 25) d10_crc_23 vb_82 rfl ?_
    refine V_vi (pc1 := 28) (w10_walk g  (r10_keyOf idn rm) ln dt 82 (by omega) (by omega) I L ) ly0 (lt305 rfl) s10_walk l10_226 rfl rfl ⟨Nat.le_of_ble_eq_true rfl, Nat.le_of_ble_eq_true rfl, Nat.le_refl _, Nat.le_refl _⟩ (Nat.le_of_ble_eq_true rfl) rfl d10_crc_25 rfl ?_
    refine V_pop (pc1 := 29) d10_crc_28 rfl rfl ?_
    refine V_aload_n (pc1 := 30) 0 d10_crc_29 rfl rfl ?_
    refine V_getr (pc1 := 33) ly0 (lt305 rfl) f10_30 (fun _ => rfl) rf0_4 d10_crc_30 rfl ?_
    refine V_geti (pc1 := 36) ly287 (lt305 rfl) f10_230 (fun _ => rfl) rfl d10_crc_33 rfl ?_
    refine V_iret rfl d10_crc_36 (Nat.zero_le _) (Nat.zero_le _) ?_
    have hq2 := hq
    simp only [r10_crc, i10_crc, m10_crc, if_pos h1] at hq2
    exact hq2
  · skip
    refine V_bipush (pc1 := 13) d10_crc_11 vb_m2 rfl ?_
    refine V_iret rfl d10_crc_13 (Nat.zero_le _) (Nat.zero_le _) ?_
    have hq2 := hq
    simp only [r10_crc, i10_crc, m10_crc, if_neg h1] at hq2
    exact hq2
theorem w10_crc (g : GlT)  (idn : Int32) (rm : Int32) (ln : Int32) (dt : Int32) (I : Nat → Nat → Int32) (L : Nat → Nat → Int64) : Call g (k10_crc, 5, 0, 0) [.ref (xA g 0), .int idn, .int rm, .int ln, .int dt] (I, L, R0, 305) (Qi (r10_crc idn rm ln dt I L) (i10_crc idn rm ln dt I L) (m10_crc idn rm ln dt I L)) := Call.of (by decide) (Nat.le_of_ble_eq_true rfl) rfl (v10_crc g  idn rm ln dt  I L  _ (And.intro rfl rfl))


def r10_frameBits (idn : Int32) (rm : Int32) (ln : Int32) (dt : Int32) (I : Nat → Nat → Int32) (L : Nat → Nat → Int64) : Int32 := (if (r10_isFrame idn rm ln dt) = true then (r10_walk (r10_keyOf idn rm) ln dt 82 I L) + 10 else (-2))
def i10_frameBits (idn : Int32) (rm : Int32) (ln : Int32) (dt : Int32) (I : Nat → Nat → Int32) (L : Nat → Nat → Int64) : Nat → Nat → Int32 := (if (r10_isFrame idn rm ln dt) = true then i10_walk (r10_keyOf idn rm) ln dt 82 I L else I)
def m10_frameBits (idn : Int32) (rm : Int32) (ln : Int32) (dt : Int32) (I : Nat → Nat → Int32) (L : Nat → Nat → Int64) : Nat → Nat → Int64 := (if (r10_isFrame idn rm ln dt) = true then m10_walk (r10_keyOf idn rm) ln dt 82 I L else L)
set_option maxRecDepth 4000 in
theorem v10_frameBits (g : GlT)  (idn : Int32) (rm : Int32) (ln : Int32) (dt : Int32) (I : Nat → Nat → Int32) (L : Nat → Nat → Int64) (Q : Option Value → MemT → Prop) (hq : Q (some (.int (r10_frameBits idn rm ln dt I L))) (i10_frameBits idn rm ln dt I L, m10_frameBits idn rm ln dt I L, R0, 305)) : V g (k10_frameBits, 5, 0, 0) 0 0 0 [(0, .ref (xA g 0)), (1, .int idn), (2, .int rm), (3, .int ln), (4, .int dt)] [] (I, L, R0, 305) Q := by
  refine V_iload_n (pc1 := 1) 1 d10_frameBits_0 rfl rfl ?_
  refine V_iload_n (pc1 := 2) 2 d10_frameBits_1 rfl rfl ?_
  refine V_iload_n (pc1 := 3) 3 d10_frameBits_2 rfl rfl ?_
  refine V_iload (pc1 := 5) 4 d10_frameBits_3 rfl rfl ?_
  refine V_si (pc1 := 8) (w10_isFrame g  idn rm ln dt  I L ) s10_isFrame l10_87 rfl rfl ⟨Nat.le_of_ble_eq_true rfl, Nat.le_of_ble_eq_true rfl, Nat.le_refl _, Nat.le_refl _⟩ (Nat.le_of_ble_eq_true rfl) rfl d10_frameBits_5 rfl ?_
  refine V_bne (tgt := 14) (pc1 := 11) d10_frameBits_8 (by decide) rfl (fun h1 => ?_) (fun h1 => ?_)
  · skip
    refine V_aload_n (pc1 := 15) 0 d10_frameBits_14 rfl rfl ?_
    refine V_iload_n (pc1 := 16) 1 d10_frameBits_15 rfl rfl ?_
    refine V_iload_n (pc1 := 17) 2 d10_frameBits_16 rfl rfl ?_
    refine V_si (pc1 := 20) (w10_keyOf g  idn rm  I L ) s10_keyOf l10_95 rfl rfl ⟨Nat.le_of_ble_eq_true rfl, Nat.le_of_ble_eq_true rfl, Nat.le_refl _, Nat.le_refl _⟩ (Nat.le_of_ble_eq_true rfl) rfl d10_frameBits_17 rfl ?_
    refine V_iload_n (pc1 := 21) 3 d10_frameBits_20 rfl rfl ?_
    refine V_iload (pc1 := 23) 4 d10_frameBits_21 rfl rfl ?_
    refine V_bipush (pc1 := 25) d10_frameBits_23 vb_82 rfl ?_
    refine V_vi (pc1 := 28) (w10_walk g  (r10_keyOf idn rm) ln dt 82 (by omega) (by omega) I L ) ly0 (lt305 rfl) s10_walk l10_226 rfl rfl ⟨Nat.le_of_ble_eq_true rfl, Nat.le_of_ble_eq_true rfl, Nat.le_refl _, Nat.le_refl _⟩ (Nat.le_of_ble_eq_true rfl) rfl d10_frameBits_25 rfl ?_
    refine V_bipush (pc1 := 30) d10_frameBits_28 vb_10 rfl ?_
    refine V_iadd (pc1 := 31) d10_frameBits_30 rfl ?_
    refine V_iret rfl d10_frameBits_31 (Nat.zero_le _) (Nat.zero_le _) ?_
    have hq2 := hq
    simp only [r10_frameBits, i10_frameBits, m10_frameBits, if_pos h1] at hq2
    exact hq2
  · skip
    refine V_bipush (pc1 := 13) d10_frameBits_11 vb_m2 rfl ?_
    refine V_iret rfl d10_frameBits_13 (Nat.zero_le _) (Nat.zero_le _) ?_
    have hq2 := hq
    simp only [r10_frameBits, i10_frameBits, m10_frameBits, if_neg h1] at hq2
    exact hq2
theorem w10_frameBits (g : GlT)  (idn : Int32) (rm : Int32) (ln : Int32) (dt : Int32) (I : Nat → Nat → Int32) (L : Nat → Nat → Int64) : Call g (k10_frameBits, 5, 0, 0) [.ref (xA g 0), .int idn, .int rm, .int ln, .int dt] (I, L, R0, 305) (Qi (r10_frameBits idn rm ln dt I L) (i10_frameBits idn rm ln dt I L) (m10_frameBits idn rm ln dt I L)) := Call.of (by decide) (Nat.le_of_ble_eq_true rfl) rfl (v10_frameBits g  idn rm ln dt  I L  _ (And.intro rfl rfl))


def r10_frameBit (idn : Int32) (rm : Int32) (ln : Int32) (dt : Int32) (x : Int32) (I : Nat → Nat → Int32) (L : Nat → Nat → Int64) : Int32 := (if (r10_isFrame idn rm ln dt) = true then (if (x < 0) ∨ (¬ (x < 92)) then (-5) else (if r10_walk (r10_keyOf idn rm) ln dt ((x.toNatClampNeg) + 1) I L ≤ nI (x.toNatClampNeg) then (if (r10_walk (r10_keyOf idn rm) ln dt ((x.toNatClampNeg) + 1) I L) + 10 ≤ nI (x.toNatClampNeg) then (-5) else 1) else (i10_walk (r10_keyOf idn rm) ln dt ((x.toNatClampNeg) + 1) I L) 287 6)) else (-2))
def i10_frameBit (idn : Int32) (rm : Int32) (ln : Int32) (dt : Int32) (x : Int32) (I : Nat → Nat → Int32) (L : Nat → Nat → Int64) : Nat → Nat → Int32 := (if (r10_isFrame idn rm ln dt) = true then (if (x < 0) ∨ (¬ (x < 92)) then I else i10_walk (r10_keyOf idn rm) ln dt ((x.toNatClampNeg) + 1) I L) else I)
def m10_frameBit (idn : Int32) (rm : Int32) (ln : Int32) (dt : Int32) (x : Int32) (I : Nat → Nat → Int32) (L : Nat → Nat → Int64) : Nat → Nat → Int64 := (if (r10_isFrame idn rm ln dt) = true then (if (x < 0) ∨ (¬ (x < 92)) then L else m10_walk (r10_keyOf idn rm) ln dt ((x.toNatClampNeg) + 1) I L) else L)
set_option maxRecDepth 4000 in
theorem v10_frameBit (g : GlT)  (idn : Int32) (rm : Int32) (ln : Int32) (dt : Int32) (x : Int32) (I : Nat → Nat → Int32) (L : Nat → Nat → Int64) (Q : Option Value → MemT → Prop) (hq : Q (some (.int (r10_frameBit idn rm ln dt x I L))) (i10_frameBit idn rm ln dt x I L, m10_frameBit idn rm ln dt x I L, R0, 305)) : V g (k10_frameBit, 5, 0, 0) 0 0 0 [(0, .ref (xA g 0)), (1, .int idn), (2, .int rm), (3, .int ln), (4, .int dt), (5, .int x)] [] (I, L, R0, 305) Q := by
  refine V_iload_n (pc1 := 1) 1 d10_frameBit_0 rfl rfl ?_
  refine V_iload_n (pc1 := 2) 2 d10_frameBit_1 rfl rfl ?_
  refine V_iload_n (pc1 := 3) 3 d10_frameBit_2 rfl rfl ?_
  refine V_iload (pc1 := 5) 4 d10_frameBit_3 rfl rfl ?_
  refine V_si (pc1 := 8) (w10_isFrame g  idn rm ln dt  I L ) s10_isFrame l10_87 rfl rfl ⟨Nat.le_of_ble_eq_true rfl, Nat.le_of_ble_eq_true rfl, Nat.le_refl _, Nat.le_refl _⟩ (Nat.le_of_ble_eq_true rfl) rfl d10_frameBit_5 rfl ?_
  refine V_bne (tgt := 14) (pc1 := 11) d10_frameBit_8 (by decide) rfl (fun h1 => ?_) (fun h1 => ?_)
  · skip
    refine V_iload (pc1 := 16) 5 d10_frameBit_14 rfl rfl ?_
    have k3 : ((x < 0) ∨ (¬ (x < 92))) → V g (k10_frameBit, 5, 0, 0) 0 0 26 [(0, .ref (xA g 0)), (1, .int idn), (2, .int rm), (3, .int ln), (4, .int dt), (5, .int x)] [] (I, L, R0, 305) Q := by
      intro h2
      refine V_bipush (pc1 := 28) d10_frameBit_26 vb_m5 rfl ?_
      refine V_iret rfl d10_frameBit_28 (Nat.zero_le _) (Nat.zero_le _) ?_
      have hq2 := hq
      simp only [r10_frameBit, i10_frameBit, m10_frameBit, if_pos h1, if_pos h2] at hq2
      exact hq2
    have k4 : ¬ ((x < 0) ∨ (¬ (x < 92))) → V g (k10_frameBit, 5, 0, 0) 0 0 29 [(0, .ref (xA g 0)), (1, .int idn), (2, .int rm), (3, .int ln), (4, .int dt), (5, .int x)] [] (I, L, R0, 305) Q := by
      intro h2
      obtain ⟨jx, hjx, rfl⟩ := lt92 h2
      have hjx3 : (nI jx).toNatClampNeg = jx := nI_clamp (by omega)
      refine V_aload_n (pc1 := 30) 0 d10_frameBit_29 rfl rfl ?_
      refine V_iload_n (pc1 := 31) 1 d10_frameBit_30 rfl rfl ?_
      refine V_iload_n (pc1 := 32) 2 d10_frameBit_31 rfl rfl ?_
      refine V_si (pc1 := 35) (w10_keyOf g  idn rm  I L ) s10_keyOf l10_95 rfl rfl ⟨Nat.le_of_ble_eq_true rfl, Nat.le_of_ble_eq_true rfl, Nat.le_refl _, Nat.le_refl _⟩ (Nat.le_of_ble_eq_true rfl) rfl d10_frameBit_32 rfl ?_
      refine V_iload_n (pc1 := 36) 3 d10_frameBit_35 rfl rfl ?_
      refine V_iload (pc1 := 38) 4 d10_frameBit_36 rfl rfl ?_
      refine V_iload (pc1 := 40) 5 d10_frameBit_38 rfl rfl ?_
      refine V_iconst (pc1 := 41) d10_frameBit_40 vc_1 rfl ?_
      refine V_iadd (pc1 := 42) d10_frameBit_41 rfl ?_
      rw [nI_1]
      refine V_vi (pc1 := 45) (w10_walk g  (r10_keyOf idn rm) ln dt (jx + 1) (by omega) (by omega) I L ) ly0 (lt305 rfl) s10_walk l10_226 rfl rfl ⟨Nat.le_of_ble_eq_true rfl, Nat.le_of_ble_eq_true rfl, Nat.le_refl _, Nat.le_refl _⟩ (Nat.le_of_ble_eq_true rfl) rfl d10_frameBit_42 rfl ?_
      refine V_istore (pc1 := 47) d10_frameBit_45 (Nat.le_of_ble_eq_true rfl) rfl rfl ?_
      refine V_iload (pc1 := 49) 0 d10_frameBit_47 rfl rfl ?_
      refine V_iload (pc1 := 51) 6 d10_frameBit_49 rfl rfl ?_
      refine V_icmp_le (tgt := 62) (pc1 := 54) d10_frameBit_51 (by decide) rfl (fun h5 => ?_) (fun h5 => ?_)
      · skip
        refine V_iload (pc1 := 64) 6 d10_frameBit_62 rfl rfl ?_
        refine V_iload (pc1 := 66) 0 d10_frameBit_64 rfl rfl ?_
        refine V_bipush (pc1 := 68) d10_frameBit_66 vb_10 rfl ?_
        refine V_iadd (pc1 := 69) d10_frameBit_68 rfl ?_
        have key7 : ∀ (y78_0 : Int32), y78_0 = (if (r10_walk (r10_keyOf idn rm) ln dt (jx + 1) I L) + 10 ≤ nI jx then (-5) else 1) → ∀ (lv : List (Nat × Value)), lvsub [(6, .int (r10_walk (r10_keyOf idn rm) ln dt (jx + 1) I L)), (0, .ref (xA g 0)), (1, .int idn), (2, .int rm), (3, .int ln), (4, .int dt), (5, .int (nI jx))] lv → V g (k10_frameBit, 5, 0, 0) 0 0 78 lv [.int y78_0] (i10_walk (r10_keyOf idn rm) ln dt (jx + 1) I L, m10_walk (r10_keyOf idn rm) ln dt (jx + 1) I L, R0, 305) Q := by
          intro y78_0 ey78_0
          subst ey78_0
          intro lv hlv
          refine V_lv hlv ?_
          refine V_iret rfl d10_frameBit_78 (Nat.zero_le _) (Nat.zero_le _) ?_
          have hq2 := hq
          simp only [r10_frameBit, i10_frameBit, m10_frameBit, if_pos h1, if_neg h2, hjx3, if_pos h5] at hq2
          exact hq2
        refine V_icmp_ge (tgt := 76) (pc1 := 72) d10_frameBit_69 (by decide) rfl (fun h6 => ?_) (fun h6 => ?_)
        · skip
          refine V_bipush (pc1 := 78) d10_frameBit_76 vb_m5 rfl ?_
          exact key7 _ (by first | rfl | (simp only [hjx3, if_pos h6]; done) | (simp only [hjx3, if_pos h6]; rfl)) _ (lvsub_p [0, 1, 2, 3, 4, 5, 6] rfl)
        · skip
          refine V_iconst (pc1 := 73) d10_frameBit_72 vc_1 rfl ?_
          refine V_goto (tgt := 78) d10_frameBit_73 (by decide) ?_
          exact key7 _ (by first | rfl | (simp only [hjx3, if_neg h6]; done) | (simp only [hjx3, if_neg h6]; rfl)) _ (lvsub_p [0, 1, 2, 3, 4, 5, 6] rfl)
      · skip
        refine V_aload_n (pc1 := 55) 1 d10_frameBit_54 rfl rfl ?_
        refine V_getr (pc1 := 58) ly0 (lt305 rfl) f10_30 (fun _ => rfl) rf0_4 d10_frameBit_55 rfl ?_
        refine V_geti (pc1 := 61) ly287 (lt305 rfl) f10_233 (fun _ => rfl) rfl d10_frameBit_58 rfl ?_
        refine V_iret rfl d10_frameBit_61 (Nat.zero_le _) (Nat.zero_le _) ?_
        have hq2 := hq
        simp only [r10_frameBit, i10_frameBit, m10_frameBit, if_pos h1, if_neg h2, hjx3, if_neg h5] at hq2
        exact hq2
    refine V_if_lt (tgt := 26) (pc1 := 19) d10_frameBit_16 (by decide) rfl (fun h8 => ?_) (fun h8 => ?_)
    · skip
      exact k3 (Or.inl h8)
    · skip
      refine V_iload (pc1 := 21) 5 d10_frameBit_19 rfl rfl ?_
      refine V_bipush (pc1 := 23) d10_frameBit_21 vb_92 rfl ?_
      refine V_icmp_lt (tgt := 29) (pc1 := 26) d10_frameBit_23 (by decide) rfl (fun h9 => ?_) (fun h9 => ?_)
      · skip
        exact k4 (fun z => z.elim h8 (fun z => z h9))
      · skip
        exact k3 (Or.inr h9)
  · skip
    refine V_bipush (pc1 := 13) d10_frameBit_11 vb_m2 rfl ?_
    refine V_iret rfl d10_frameBit_13 (Nat.zero_le _) (Nat.zero_le _) ?_
    have hq2 := hq
    simp only [r10_frameBit, i10_frameBit, m10_frameBit, if_neg h1] at hq2
    exact hq2
theorem w10_frameBit (g : GlT)  (idn : Int32) (rm : Int32) (ln : Int32) (dt : Int32) (x : Int32) (I : Nat → Nat → Int32) (L : Nat → Nat → Int64) : Call g (k10_frameBit, 5, 0, 0) [.ref (xA g 0), .int idn, .int rm, .int ln, .int dt, .int x] (I, L, R0, 305) (Qi (r10_frameBit idn rm ln dt x I L) (i10_frameBit idn rm ln dt x I L) (m10_frameBit idn rm ln dt x I L)) := Call.of (by decide) (Nat.le_of_ble_eq_true rfl) rfl (v10_frameBit g  idn rm ln dt x  I L  _ (And.intro rfl rfl))

