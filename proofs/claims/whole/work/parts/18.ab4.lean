def r10_mixNode_58 (k : Nat) (l : Nat) (h : Int64) : Nat → Nat → Int64 → (Nat → Nat → Int32) → (Nat → Nat → Int64) → Int64
  | 0, i, z, I, L => r10_mixFrames (k + 3) 4 (k + 7) 6 (r10_mix (r10_mix (r10_mix (r10_mix (r10_mix z ((I (k + 1) 1).toInt64)) ((I (k + 1) 2).toInt64)) ((I (k + 1) 3).toInt64)) ((I (k + 1) 4).toInt64)) ((I (k + 1) 5).toInt64)) I L
  | n + 1, i, z, I, L => r10_mixNode_58 k l h n (i + 1) (r10_mix z ((I (k + 2) i).toInt64)) I L
set_option maxRecDepth 4000 in
theorem t10_mixNode_58 (g : GlT) {k : Nat} {l : Nat} (hk : okN k l) (h : Int64)  : ∀ (n i : Nat) (z : Int64) (I : Nat → Nat → Int32) (L : Nat → Nat → Int64), (hv : nV k I) → (hn : i + n = 6) → ∀ (Q : Option Value → MemT → Prop), Q (some (.long (r10_mixNode_58 k l h n i z I L))) (I, L, R0, 305) → V g (k10_mixNode, 4, 0, 0) 0 0 58 [(2, .ref (xA g k)), (3, .ref (xA g (k + 1))), (4, .long z), (6, .int (nI i))] [] (I, L, R0, 305) Q := by
  intro n
  induction n with
  | zero =>
    intro i z I L hv hn Q hq
    have hv0 := hv
    obtain ⟨⟨gw, hw4, hw⟩, ⟨gr, hr6, hr⟩, ga, ha4, ha⟩ := hv0
    refine V_iload (pc1 := 60) 3 d10_mixNode_58 rfl rfl ?_
    refine V_iconst (pc1 := 61) d10_mixNode_60 vc_5 rfl ?_
    refine V_icmp_gt (tgt := 85) (pc1 := 64) d10_mixNode_61 (by decide) rfl (fun _ => ?_) (fun h1 => absurd (by rw [show i = 6 by omega]; decide) h1)
    refine V_lload (pc1 := 87) 2 d10_mixNode_85 rfl rfl ?_
    refine V_aload_n (pc1 := 88) 1 d10_mixNode_87 rfl rfl ?_
    refine V_geti (pc1 := 91) (nd_l1 hk) (nd_b1 hk) f10_189 (fun _ => rfl) rfl d10_mixNode_88 rfl ?_
    refine V_i2l (pc1 := 92) d10_mixNode_91 rfl ?_
    refine V_sl (pc1 := 95) (w10_mix g  z ((I (k + 1) 1).toInt64)  I L ) s10_mix l10_285 rfl rfl ⟨Nat.le_of_ble_eq_true rfl, Nat.le_of_ble_eq_true rfl, Nat.le_refl _, Nat.le_refl _⟩ (Nat.le_of_ble_eq_true rfl) rfl d10_mixNode_92 rfl ?_
    refine V_lstore (pc1 := 97) d10_mixNode_95 (Nat.le_of_ble_eq_true rfl) rfl rfl ?_
    refine V_lload (pc1 := 99) 0 d10_mixNode_97 rfl rfl ?_
    refine V_aload_n (pc1 := 100) 2 d10_mixNode_99 rfl rfl ?_
    refine V_geti (pc1 := 103) (nd_l1 hk) (nd_b1 hk) f10_192 (fun _ => rfl) rfl d10_mixNode_100 rfl ?_
    refine V_i2l (pc1 := 104) d10_mixNode_103 rfl ?_
    refine V_sl (pc1 := 107) (w10_mix g  (r10_mix z ((I (k + 1) 1).toInt64)) ((I (k + 1) 2).toInt64)  I L ) s10_mix l10_285 rfl rfl ⟨Nat.le_of_ble_eq_true rfl, Nat.le_of_ble_eq_true rfl, Nat.le_refl _, Nat.le_refl _⟩ (Nat.le_of_ble_eq_true rfl) rfl d10_mixNode_104 rfl ?_
    refine V_lstore (pc1 := 109) d10_mixNode_107 (Nat.le_of_ble_eq_true rfl) rfl rfl ?_
    refine V_lload (pc1 := 111) 0 d10_mixNode_109 rfl rfl ?_
    refine V_aload_n (pc1 := 112) 2 d10_mixNode_111 rfl rfl ?_
    refine V_geti (pc1 := 115) (nd_l1 hk) (nd_b1 hk) f10_195 (fun _ => rfl) rfl d10_mixNode_112 rfl ?_
    refine V_i2l (pc1 := 116) d10_mixNode_115 rfl ?_
    refine V_sl (pc1 := 119) (w10_mix g  (r10_mix (r10_mix z ((I (k + 1) 1).toInt64)) ((I (k + 1) 2).toInt64)) ((I (k + 1) 3).toInt64)  I L ) s10_mix l10_285 rfl rfl ⟨Nat.le_of_ble_eq_true rfl, Nat.le_of_ble_eq_true rfl, Nat.le_refl _, Nat.le_refl _⟩ (Nat.le_of_ble_eq_true rfl) rfl d10_mixNode_116 rfl ?_
    refine V_lstore (pc1 := 121) d10_mixNode_119 (Nat.le_of_ble_eq_true rfl) rfl rfl ?_
    refine V_lload (pc1 := 123) 0 d10_mixNode_121 rfl rfl ?_
    refine V_aload_n (pc1 := 124) 2 d10_mixNode_123 rfl rfl ?_
    refine V_geti (pc1 := 127) (nd_l1 hk) (nd_b1 hk) f10_198 (fun _ => rfl) rfl d10_mixNode_124 rfl ?_
    refine V_i2l (pc1 := 128) d10_mixNode_127 rfl ?_
    refine V_sl (pc1 := 131) (w10_mix g  (r10_mix (r10_mix (r10_mix z ((I (k + 1) 1).toInt64)) ((I (k + 1) 2).toInt64)) ((I (k + 1) 3).toInt64)) ((I (k + 1) 4).toInt64)  I L ) s10_mix l10_285 rfl rfl ⟨Nat.le_of_ble_eq_true rfl, Nat.le_of_ble_eq_true rfl, Nat.le_refl _, Nat.le_refl _⟩ (Nat.le_of_ble_eq_true rfl) rfl d10_mixNode_128 rfl ?_
    refine V_lstore (pc1 := 133) d10_mixNode_131 (Nat.le_of_ble_eq_true rfl) rfl rfl ?_
    refine V_lload (pc1 := 135) 0 d10_mixNode_133 rfl rfl ?_
    refine V_aload_n (pc1 := 136) 2 d10_mixNode_135 rfl rfl ?_
    refine V_geti (pc1 := 139) (nd_l1 hk) (nd_b1 hk) f10_201 (fun _ => rfl) rfl d10_mixNode_136 rfl ?_
    refine V_i2l (pc1 := 140) d10_mixNode_139 rfl ?_
    refine V_sl (pc1 := 143) (w10_mix g  (r10_mix (r10_mix (r10_mix (r10_mix z ((I (k + 1) 1).toInt64)) ((I (k + 1) 2).toInt64)) ((I (k + 1) 3).toInt64)) ((I (k + 1) 4).toInt64)) ((I (k + 1) 5).toInt64)  I L ) s10_mix l10_285 rfl rfl ⟨Nat.le_of_ble_eq_true rfl, Nat.le_of_ble_eq_true rfl, Nat.le_refl _, Nat.le_refl _⟩ (Nat.le_of_ble_eq_true rfl) rfl d10_mixNode_140 rfl ?_
    refine V_lstore (pc1 := 145) d10_mixNode_143 (Nat.le_of_ble_eq_true rfl) rfl rfl ?_
    refine V_lload (pc1 := 147) 0 d10_mixNode_145 rfl rfl ?_
    refine V_aload_n (pc1 := 148) 1 d10_mixNode_147 rfl rfl ?_
    refine V_getr (pc1 := 151) (nd_l0 hk) (nd_b0 hk) f10_133 (fun _ => rfl) (nd_r0_2 hk) d10_mixNode_148 rfl ?_
    refine V_aload_n (pc1 := 152) 1 d10_mixNode_151 rfl rfl ?_
    refine V_getr (pc1 := 155) (nd_l0 hk) (nd_b0 hk) f10_207 (fun _ => rfl) (nd_r0_3 hk) d10_mixNode_152 rfl ?_
    refine V_sl (pc1 := 158) (w10_mixFrames g (nd_F3 hk) (nd_F7 hk) (r10_mix (r10_mix (r10_mix (r10_mix (r10_mix z ((I (k + 1) 1).toInt64)) ((I (k + 1) 2).toInt64)) ((I (k + 1) 3).toInt64)) ((I (k + 1) 4).toInt64)) ((I (k + 1) 5).toInt64)) gw hw4 gr hr6 I L hw hr) s10_mixFrames l10_295 rfl rfl ⟨Nat.le_of_ble_eq_true rfl, Nat.le_of_ble_eq_true rfl, Nat.le_refl _, Nat.le_refl _⟩ (Nat.le_of_ble_eq_true rfl) rfl d10_mixNode_155 rfl ?_
    refine V_lret rfl d10_mixNode_158 (Nat.zero_le _) (Nat.zero_le _) ?_
    have hq2 := hq
    simp only [r10_mixNode_58] at hq2
    exact hq2
  | succ n ih =>
    intro i z I L hv hn Q hq
    refine V_iload (pc1 := 60) 3 d10_mixNode_58 rfl rfl ?_
    refine V_iconst (pc1 := 61) d10_mixNode_60 vc_5 rfl ?_
    refine V_icmp_gt (tgt := 85) (pc1 := 64) d10_mixNode_61 (by decide) rfl (fun h1 => absurd h1 (nI_nlt (a := 5) (by omega) (by omega))) (fun _ => ?_)
    refine V_lload (pc1 := 66) 2 d10_mixNode_64 rfl rfl ?_
    refine V_aload_n (pc1 := 67) 1 d10_mixNode_66 rfl rfl ?_
    refine V_getr (pc1 := 70) (nd_l1 hk) (nd_b1 hk) f10_183 (fun _ => rfl) (nd_r1_0 hk) d10_mixNode_67 rfl ?_
    refine V_iload (pc1 := 72) 3 d10_mixNode_70 rfl rfl ?_
    refine V_iald2 (pc1 := 73) i (nd_l2 hk) (nd_b2 hk) rfl (by omega) rfl d10_mixNode_72 rfl ?_
    refine V_i2l (pc1 := 74) d10_mixNode_73 rfl ?_
    refine V_sl (pc1 := 77) (w10_mix g  z ((I (k + 2) i).toInt64)  I L ) s10_mix l10_285 rfl rfl ⟨Nat.le_of_ble_eq_true rfl, Nat.le_of_ble_eq_true rfl, Nat.le_refl _, Nat.le_refl _⟩ (Nat.le_of_ble_eq_true rfl) rfl d10_mixNode_74 rfl ?_
    refine V_lstore (pc1 := 79) d10_mixNode_77 (Nat.le_of_ble_eq_true rfl) rfl rfl ?_
    refine V_iinc (pc1 := 82) 3 (v := nI (i + 1)) d10_mixNode_79 rfl (nI_1 _) (Nat.le_of_ble_eq_true rfl) rfl rfl ?_
    refine V_goto (tgt := 58) d10_mixNode_82 (by decide) ?_
    refine V_lv (lv1 := [(2, .ref (xA g k)), (3, .ref (xA g (k + 1))), (4, .long (r10_mix z ((I (k + 2) i).toInt64))), (6, .int (nI (i + 1)))]) (lvsub_p [2, 3, 1, 0] rfl) ?_
    have hq2 := hq
    simp only [r10_mixNode_58] at hq2
    exact ih (i + 1) (r10_mix z ((I (k + 2) i).toInt64)) I L hv (by omega) Q hq2
def r10_mixNode (k : Nat) (l : Nat) (h : Int64) (I : Nat → Nat → Int32) (L : Nat → Nat → Int64) : Int64 := r10_mixNode_58 k l h 5 1 (r10_mix (r10_mix (r10_mix (r10_mix h ((I k 8).toInt64)) ((r10_asInt (I k 9)).toInt64)) ((I k 10).toInt64)) ((I k 11).toInt64)) I L
set_option maxRecDepth 4000 in
theorem v10_mixNode (g : GlT) {k : Nat} {l : Nat} (hk : okN k l) (h : Int64) (I : Nat → Nat → Int32) (L : Nat → Nat → Int64) (hv : nV k I) (Q : Option Value → MemT → Prop) (hq : Q (some (.long (r10_mixNode k l h I L))) (I, L, R0, 305)) : V g (k10_mixNode, 4, 0, 0) 0 0 0 [(0, .long h), (2, .ref (xA g k))] [] (I, L, R0, 305) Q := by
  refine V_aload_n (pc1 := 1) 1 d10_mixNode_0 rfl rfl ?_
  refine V_getr (pc1 := 4) (nd_l0 hk) (nd_b0 hk) f10_179 (fun _ => rfl) (nd_r0_1 hk) d10_mixNode_1 rfl ?_
  refine V_astore_n (pc1 := 5) d10_mixNode_4 (Nat.le_of_ble_eq_true rfl) rfl rfl ?_
  refine V_lload_n (pc1 := 6) 1 d10_mixNode_5 rfl rfl ?_
  refine V_aload_n (pc1 := 7) 2 d10_mixNode_6 rfl rfl ?_
  refine V_geti (pc1 := 10) (nd_l0 hk) (nd_b0 hk) f10_120 (fun _ => rfl) rfl d10_mixNode_7 rfl ?_
  refine V_i2l (pc1 := 11) d10_mixNode_10 rfl ?_
  refine V_sl (pc1 := 14) (w10_mix g  h ((I k 8).toInt64)  I L ) s10_mix l10_285 rfl rfl ⟨Nat.le_of_ble_eq_true rfl, Nat.le_of_ble_eq_true rfl, Nat.le_refl _, Nat.le_refl _⟩ (Nat.le_of_ble_eq_true rfl) rfl d10_mixNode_11 rfl ?_
  refine V_lstore (pc1 := 16) d10_mixNode_14 (Nat.le_of_ble_eq_true rfl) rfl rfl ?_
  refine V_lload (pc1 := 18) 0 d10_mixNode_16 rfl rfl ?_
  refine V_aload_n (pc1 := 19) 3 d10_mixNode_18 rfl rfl ?_
  refine V_geti (pc1 := 22) (nd_l0 hk) (nd_b0 hk) f10_162 (fun _ => rfl) rfl d10_mixNode_19 rfl ?_
  refine V_si (pc1 := 25) (w10_asInt g  (I k 9)  I L ) s10_asInt l10_166 rfl rfl ⟨Nat.le_of_ble_eq_true rfl, Nat.le_of_ble_eq_true rfl, Nat.le_refl _, Nat.le_refl _⟩ (Nat.le_of_ble_eq_true rfl) rfl d10_mixNode_22 rfl ?_
  refine V_i2l (pc1 := 26) d10_mixNode_25 rfl ?_
  refine V_sl (pc1 := 29) (w10_mix g  (r10_mix h ((I k 8).toInt64)) ((r10_asInt (I k 9)).toInt64)  I L ) s10_mix l10_285 rfl rfl ⟨Nat.le_of_ble_eq_true rfl, Nat.le_of_ble_eq_true rfl, Nat.le_refl _, Nat.le_refl _⟩ (Nat.le_of_ble_eq_true rfl) rfl d10_mixNode_26 rfl ?_
  refine V_lstore (pc1 := 31) d10_mixNode_29 (Nat.le_of_ble_eq_true rfl) rfl rfl ?_
  refine V_lload (pc1 := 33) 0 d10_mixNode_31 rfl rfl ?_
  refine V_aload_n (pc1 := 34) 3 d10_mixNode_33 rfl rfl ?_
  refine V_geti (pc1 := 37) (nd_l0 hk) (nd_b0 hk) f10_170 (fun _ => rfl) rfl d10_mixNode_34 rfl ?_
  refine V_i2l (pc1 := 38) d10_mixNode_37 rfl ?_
  refine V_sl (pc1 := 41) (w10_mix g  (r10_mix (r10_mix h ((I k 8).toInt64)) ((r10_asInt (I k 9)).toInt64)) ((I k 10).toInt64)  I L ) s10_mix l10_285 rfl rfl ⟨Nat.le_of_ble_eq_true rfl, Nat.le_of_ble_eq_true rfl, Nat.le_refl _, Nat.le_refl _⟩ (Nat.le_of_ble_eq_true rfl) rfl d10_mixNode_38 rfl ?_
  refine V_lstore (pc1 := 43) d10_mixNode_41 (Nat.le_of_ble_eq_true rfl) rfl rfl ?_
  refine V_lload (pc1 := 45) 0 d10_mixNode_43 rfl rfl ?_
  refine V_aload_n (pc1 := 46) 3 d10_mixNode_45 rfl rfl ?_
  refine V_geti (pc1 := 49) (nd_l0 hk) (nd_b0 hk) f10_173 (fun _ => rfl) rfl d10_mixNode_46 rfl ?_
  refine V_i2l (pc1 := 50) d10_mixNode_49 rfl ?_
  refine V_sl (pc1 := 53) (w10_mix g  (r10_mix (r10_mix (r10_mix h ((I k 8).toInt64)) ((r10_asInt (I k 9)).toInt64)) ((I k 10).toInt64)) ((I k 11).toInt64)  I L ) s10_mix l10_285 rfl rfl ⟨Nat.le_of_ble_eq_true rfl, Nat.le_of_ble_eq_true rfl, Nat.le_refl _, Nat.le_refl _⟩ (Nat.le_of_ble_eq_true rfl) rfl d10_mixNode_50 rfl ?_
  refine V_lstore (pc1 := 55) d10_mixNode_53 (Nat.le_of_ble_eq_true rfl) rfl rfl ?_
  refine V_iconst (pc1 := 56) d10_mixNode_55 vc_1 rfl ?_
  refine V_istore (pc1 := 58) d10_mixNode_56 (Nat.le_of_ble_eq_true rfl) rfl rfl ?_
  refine V_lv (lv1 := [(2, .ref (xA g k)), (3, .ref (xA g (k + 1))), (4, .long (r10_mix (r10_mix (r10_mix (r10_mix h ((I k 8).toInt64)) ((r10_asInt (I k 9)).toInt64)) ((I k 10).toInt64)) ((I k 11).toInt64))), (6, .int (nI 1))]) (lvsub_p [4, 2, 1, 0] rfl) ?_
  have hq2 := hq
  simp only [r10_mixNode] at hq2
  exact t10_mixNode_58 g hk _  5 1 (r10_mix (r10_mix (r10_mix (r10_mix h ((I k 8).toInt64)) ((r10_asInt (I k 9)).toInt64)) ((I k 10).toInt64)) ((I k 11).toInt64)) I L hv rfl Q hq2
theorem w10_mixNode (g : GlT) {k : Nat} {l : Nat} (hk : okN k l) (h : Int64) (I : Nat → Nat → Int32) (L : Nat → Nat → Int64) (hv : nV k I) : Call g (k10_mixNode, 4, 0, 0) [.long h, .ref (xA g k)] (I, L, R0, 305) (Ql (r10_mixNode k l h I L) (I) L) := Call.of (by decide) (Nat.le_of_ble_eq_true rfl) rfl (v10_mixNode g hk h  I L hv _ (And.intro rfl rfl))


def r10_checksum_44 : Nat → Nat → Int64 → (Nat → Nat → Int32) → (Nat → Nat → Int64) → Int64
  | 0, i, z, I, L => z
  | n + 1, i, z, I, L => r10_checksum_44  n (i + 1) (r10_mix z ((r0_levelBefore 1 (nI i) I L).toInt64)) I L
set_option maxRecDepth 4000 in
theorem t10_checksum_44 (g : GlT)   : ∀ (n i : Nat) (z : Int64) (I : Nat → Nat → Int32) (L : Nat → Nat → Int64), (hn : i + n = 33) → ∀ (Q : Option Value → MemT → Prop), Q (some (.long (r10_checksum_44 n i z I L))) (I, L, R0, 305) → V g (k10_checksum, 5, 0, 0) 0 0 44 [(0, .ref (xA g 0)), (1, .long z), (3, .int (nI i))] [] (I, L, R0, 305) Q := by
  intro n
  induction n with
  | zero =>
    intro i z I L hn Q hq
    refine V_iload_n (pc1 := 45) 2 d10_checksum_44 rfl rfl ?_
    refine V_bipush (pc1 := 47) d10_checksum_45 vb_32 rfl ?_
    refine V_icmp_gt (tgt := 70) (pc1 := 50) d10_checksum_47 (by decide) rfl (fun _ => ?_) (fun h1 => absurd (by rw [show i = 33 by omega]; decide) h1)
    refine V_lload_n (pc1 := 71) 1 d10_checksum_70 rfl rfl ?_
    refine V_lret rfl d10_checksum_71 (Nat.zero_le _) (Nat.zero_le _) ?_
    have hq2 := hq
    simp only [r10_checksum_44] at hq2
    exact hq2
  | succ n ih =>
    intro i z I L hn Q hq
    refine V_iload_n (pc1 := 45) 2 d10_checksum_44 rfl rfl ?_
    refine V_bipush (pc1 := 47) d10_checksum_45 vb_32 rfl ?_
    refine V_icmp_gt (tgt := 70) (pc1 := 50) d10_checksum_47 (by decide) rfl (fun h1 => absurd h1 (nI_nlt (a := 32) (by omega) (by omega))) (fun _ => ?_)
    refine V_lload_n (pc1 := 51) 1 d10_checksum_50 rfl rfl ?_
    refine V_aload_n (pc1 := 52) 0 d10_checksum_51 rfl rfl ?_
    refine V_getr (pc1 := 55) ly0 (lt305 rfl) f10_10 (fun _ => rfl) rf0_0 d10_checksum_52 rfl ?_
    refine V_iload_n (pc1 := 56) 2 d10_checksum_55 rfl rfl ?_
    refine V_vi (pc1 := 59) (w0_levelBefore g okB1 (nI i)  I L ) ly1 (lt305 rfl) s0_levelBefore l10_216 rfl rfl ⟨Nat.le_of_ble_eq_true rfl, Nat.le_of_ble_eq_true rfl, Nat.le_refl _, Nat.le_refl _⟩ (Nat.le_of_ble_eq_true rfl) rfl d10_checksum_56 rfl ?_
    refine V_i2l (pc1 := 60) d10_checksum_59 rfl ?_
    refine V_sl (pc1 := 63) (w10_mix g  z ((r0_levelBefore 1 (nI i) I L).toInt64)  I L ) s10_mix l10_285 rfl rfl ⟨Nat.le_of_ble_eq_true rfl, Nat.le_of_ble_eq_true rfl, Nat.le_refl _, Nat.le_refl _⟩ (Nat.le_of_ble_eq_true rfl) rfl d10_checksum_60 rfl ?_
    refine V_lstore_n (pc1 := 64) d10_checksum_63 (Nat.le_of_ble_eq_true rfl) rfl rfl ?_
    refine V_iinc (pc1 := 67) 2 (v := nI (i + 1)) d10_checksum_64 rfl (nI_1 _) (Nat.le_of_ble_eq_true rfl) rfl rfl ?_
    refine V_goto (tgt := 44) d10_checksum_67 (by decide) ?_
    refine V_lv (lv1 := [(0, .ref (xA g 0)), (1, .long (r10_mix z ((r0_levelBefore 1 (nI i) I L).toInt64))), (3, .int (nI (i + 1)))]) (lvsub_p [2, 1, 0] rfl) ?_
    have hq2 := hq
    simp only [r10_checksum_44] at hq2
    exact ih (i + 1) (r10_mix z ((r0_levelBefore 1 (nI i) I L).toInt64)) I L (by omega) Q hq2
def r10_checksum_17 : Nat → Nat → Int64 → (Nat → Nat → Int32) → (Nat → Nat → Int64) → Int64
  | 0, i, z, I, L => r10_checksum_44  32 1 z I L
  | n + 1, i, z, I, L => r10_checksum_17  n (i + 1) (r10_mixNode (4 + 16 * i) 2 z I L) I L
set_option maxRecDepth 4000 in
theorem t10_checksum_17 (g : GlT)   : ∀ (n i : Nat) (z : Int64) (I : Nat → Nat → Int32) (L : Nat → Nat → Int64), (hv : bV 1 I) → (hn : i + n = 4) → ∀ (Q : Option Value → MemT → Prop), Q (some (.long (r10_checksum_17 n i z I L))) (I, L, R0, 305) → V g (k10_checksum, 5, 0, 0) 0 0 17 [(0, .ref (xA g 0)), (1, .long z), (3, .int (nI i))] [] (I, L, R0, 305) Q := by
  intro n
  induction n with
  | zero =>
    intro i z I L hv hn Q hq
    refine V_iload_n (pc1 := 18) 2 d10_checksum_17 rfl rfl ?_
    refine V_iconst (pc1 := 19) d10_checksum_18 vc_4 rfl ?_
    refine V_icmp_ge (tgt := 42) (pc1 := 22) d10_checksum_19 (by decide) rfl (fun _ => ?_) (fun h1 => absurd (by rw [show i = 4 by omega]; decide) h1)
    refine V_iconst (pc1 := 43) d10_checksum_42 vc_1 rfl ?_
    refine V_istore_n (pc1 := 44) d10_checksum_43 (Nat.le_of_ble_eq_true rfl) rfl rfl ?_
    refine V_lv (lv1 := [(0, .ref (xA g 0)), (1, .long z), (3, .int (nI 1))]) (lvsub_p [1, 2, 0] rfl) ?_
    have hq2 := hq
    simp only [r10_checksum_17] at hq2
    exact t10_checksum_44 g    32 1 z I L rfl Q hq2
  | succ n ih =>
    intro i z I L hv hn Q hq
    refine V_iload_n (pc1 := 18) 2 d10_checksum_17 rfl rfl ?_
    refine V_iconst (pc1 := 19) d10_checksum_18 vc_4 rfl ?_
    refine V_icmp_ge (tgt := 42) (pc1 := 22) d10_checksum_19 (by decide) rfl (fun h1 => absurd h1 (nI_ge (b := 4) (by omega) (by omega))) (fun _ => ?_)
    refine V_lload_n (pc1 := 23) 1 d10_checksum_22 rfl rfl ?_
    refine V_aload_n (pc1 := 24) 0 d10_checksum_23 rfl rfl ?_
    refine V_getr (pc1 := 27) ly0 (lt305 rfl) f10_10 (fun _ => rfl) rf0_0 d10_checksum_24 rfl ?_
    refine V_getr (pc1 := 30) ly1 (lt305 rfl) f10_75 (fun _ => rfl) rf1_1 d10_checksum_27 rfl ?_
    refine V_iload_n (pc1 := 31) 2 d10_checksum_30 rfl rfl ?_
    refine V_aald (pc1 := 32) i ((4 + 16 * i)) ly3 (Or.inr rfl) (lt305 rfl) rfl (show i < 4 by omega) (rfi (show i < 4 by omega)) d10_checksum_31 rfl ?_
    refine V_sl (pc1 := 35) (w10_mixNode g (okNi (show i < 4 by omega)) z  I L (hv.1 i (by omega))) s10_mixNode l10_289 rfl rfl ⟨Nat.le_of_ble_eq_true rfl, Nat.le_of_ble_eq_true rfl, Nat.le_refl _, Nat.le_refl _⟩ (Nat.le_of_ble_eq_true rfl) rfl d10_checksum_32 rfl ?_
    refine V_lstore_n (pc1 := 36) d10_checksum_35 (Nat.le_of_ble_eq_true rfl) rfl rfl ?_
    refine V_iinc (pc1 := 39) 2 (v := nI (i + 1)) d10_checksum_36 rfl (nI_1 _) (Nat.le_of_ble_eq_true rfl) rfl rfl ?_
    refine V_goto (tgt := 17) d10_checksum_39 (by decide) ?_
    refine V_lv (lv1 := [(0, .ref (xA g 0)), (1, .long (r10_mixNode (4 + 16 * i) 2 z I L)), (3, .int (nI (i + 1)))]) (lvsub_p [2, 1, 0] rfl) ?_
    have hq2 := hq
    simp only [r10_checksum_17] at hq2
    exact ih (i + 1) (r10_mixNode (4 + 16 * i) 2 z I L) I L hv (by omega) Q hq2
def r10_checksum (I : Nat → Nat → Int32) (L : Nat → Nat → Int64) : Int64 := r10_checksum_17  4 0 (r10_mix 11 ((I 1 4).toInt64)) I L
set_option maxRecDepth 4000 in
theorem v10_checksum (g : GlT)  (I : Nat → Nat → Int32) (L : Nat → Nat → Int64) (hv : bV 1 I) (Q : Option Value → MemT → Prop) (hq : Q (some (.long (r10_checksum I L))) (I, L, R0, 305)) : V g (k10_checksum, 5, 0, 0) 0 0 0 [(0, .ref (xA g 0))] [] (I, L, R0, 305) Q := by
  refine V_ldc2 (pc1 := 3) d10_checksum_0 q10_283 rfl ?_
  refine V_aload_n (pc1 := 4) 0 d10_checksum_3 rfl rfl ?_
  refine V_getr (pc1 := 7) ly0 (lt305 rfl) f10_10 (fun _ => rfl) rf0_0 d10_checksum_4 rfl ?_
  refine V_geti (pc1 := 10) ly1 (lt305 rfl) f10_143 (fun _ => rfl) rfl d10_checksum_7 rfl ?_
  refine V_i2l (pc1 := 11) d10_checksum_10 rfl ?_
  refine V_sl (pc1 := 14) (w10_mix g  11 ((I 1 4).toInt64)  I L ) s10_mix l10_285 rfl rfl ⟨Nat.le_of_ble_eq_true rfl, Nat.le_of_ble_eq_true rfl, Nat.le_refl _, Nat.le_refl _⟩ (Nat.le_of_ble_eq_true rfl) rfl d10_checksum_11 rfl ?_
  refine V_lstore_n (pc1 := 15) d10_checksum_14 (Nat.le_of_ble_eq_true rfl) rfl rfl ?_
  refine V_iconst (pc1 := 16) d10_checksum_15 vc_0 rfl ?_
  refine V_istore_n (pc1 := 17) d10_checksum_16 (Nat.le_of_ble_eq_true rfl) rfl rfl ?_
  refine V_lv (lv1 := [(0, .ref (xA g 0)), (1, .long (r10_mix 11 ((I 1 4).toInt64))), (3, .int (nI 0))]) (lvsub_p [2, 1, 0] rfl) ?_
  have hq2 := hq
  simp only [r10_checksum] at hq2
  exact t10_checksum_17 g    4 0 (r10_mix 11 ((I 1 4).toInt64)) I L hv rfl Q hq2
theorem w10_checksum (g : GlT)  (I : Nat → Nat → Int32) (L : Nat → Nat → Int64) (hv : bV 1 I) : Call g (k10_checksum, 5, 0, 0) [.ref (xA g 0)] (I, L, R0, 305) (Ql (r10_checksum I L) (I) L) := Call.of (by decide) (Nat.le_of_ble_eq_true rfl) rfl (v10_checksum g    I L hv _ (And.intro rfl rfl))

