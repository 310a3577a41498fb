def r11_messageOf_2 (idn : Int32) : Nat → Nat → (Nat → Nat → Int32) → (Nat → Nat → Int64) → Int32
  | 0, j, I, L => (-1)
  | n + 1, j, I, L => (if I 302 (4 * j) = idn then nI j else r11_messageOf_2 idn n (j + 1) I L)
set_option maxRecDepth 4000 in
theorem t11_messageOf_2 (g : GlT)  (idn : Int32) (m : Nat) (hm8 : m ≤ 8) : ∀ (n j : Nat) (I : Nat → Nat → Int32) (L : Nat → Nat → Int64), (hm : I 296 7 = nI m) → (hn : j + n = m) → ∀ (Q : Option Value → MemT → Prop), Q (some (.int (r11_messageOf_2 idn n j I L))) (I, L, R0, 305) → V g (k11_messageOf, 1, 0, 0) 0 0 2 [(0, .ref (xA g 296)), (1, .int idn), (2, .int (nI j))] [] (I, L, R0, 305) Q := by
  intro n
  induction n with
  | zero =>
    intro j I L hm hn Q hq
    refine V_iload_n (pc1 := 3) 2 d11_messageOf_2 rfl rfl ?_
    refine V_aload_n (pc1 := 4) 0 d11_messageOf_3 rfl rfl ?_
    refine V_geti (pc1 := 7) ly296 (lt305 rfl) f11_201 (fun _ => rfl) hm d11_messageOf_4 rfl ?_
    refine V_icmp_ge (tgt := 30) (pc1 := 10) d11_messageOf_7 (by decide) rfl (fun _ => ?_) (fun h1 => absurd (nI_le (by omega) (by omega)) h1)
    refine V_iconst (pc1 := 31) d11_messageOf_30 vc_m1 rfl ?_
    refine V_iret rfl d11_messageOf_31 (Nat.zero_le _) (Nat.zero_le _) ?_
    have hq2 := hq
    simp only [r11_messageOf_2] at hq2
    exact hq2
  | succ n ih =>
    intro j I L hm hn Q hq
    refine V_iload_n (pc1 := 3) 2 d11_messageOf_2 rfl rfl ?_
    refine V_aload_n (pc1 := 4) 0 d11_messageOf_3 rfl rfl ?_
    refine V_geti (pc1 := 7) ly296 (lt305 rfl) f11_201 (fun _ => rfl) hm d11_messageOf_4 rfl ?_
    refine V_icmp_ge (tgt := 30) (pc1 := 10) d11_messageOf_7 (by decide) rfl (fun h1 => absurd h1 (nI_ge (by omega) (by omega))) (fun _ => ?_)
    refine V_aload_n (pc1 := 11) 0 d11_messageOf_10 rfl rfl ?_
    refine V_getr (pc1 := 14) ly296 (lt305 rfl) f11_26 (fun _ => rfl) rf296_6 d11_messageOf_11 rfl ?_
    refine V_iconst (pc1 := 15) d11_messageOf_14 vc_4 rfl ?_
    refine V_iload_n (pc1 := 16) 2 d11_messageOf_15 rfl rfl ?_
    refine V_mulN (pc1 := 17) (a := 4) (b := j) (c := 4 * j) rfl rfl (by omega) d11_messageOf_16 rfl ?_
    refine V_iald2 (pc1 := 18) (4 * j) ly302 (lt305 rfl) rfl (by omega) rfl d11_messageOf_17 rfl ?_
    refine V_iload_n (pc1 := 19) 1 d11_messageOf_18 rfl rfl ?_
    refine V_icmp_ne (tgt := 24) (pc1 := 22) d11_messageOf_19 (by decide) rfl (fun h2 => ?_) (fun h2 => ?_)
    · skip
      refine V_iinc (pc1 := 27) 2 (v := nI (j + 1)) d11_messageOf_24 rfl (nI_1 _) (Nat.le_of_ble_eq_true rfl) rfl rfl ?_
      refine V_goto (tgt := 2) d11_messageOf_27 (by decide) ?_
      refine V_lv (lv1 := [(0, .ref (xA g 296)), (1, .int idn), (2, .int (nI (j + 1)))]) (lvsub_p [1, 2, 0] rfl) ?_
      have hq2 := hq
      simp only [r11_messageOf_2, if_neg h2] at hq2
      exact ih (j + 1) I L hm (by omega) Q hq2
    · skip
      refine V_iload_n (pc1 := 23) 2 d11_messageOf_22 rfl rfl ?_
      refine V_iret rfl d11_messageOf_23 (Nat.zero_le _) (Nat.zero_le _) ?_
      have hq2 := hq
      simp only [r11_messageOf_2, if_pos h2] at hq2
      exact hq2
def r11_messageOf (idn : Int32) (I : Nat → Nat → Int32) (L : Nat → Nat → Int64) : Int32 := r11_messageOf_2 idn ((I 296 7).toNatClampNeg) 0 I L
set_option maxRecDepth 4000 in
theorem v11_messageOf (g : GlT)  (idn : Int32) (m : Nat) (hm8 : m ≤ 8) (I : Nat → Nat → Int32) (L : Nat → Nat → Int64) (hm : I 296 7 = nI m) (Q : Option Value → MemT → Prop) (hq : Q (some (.int (r11_messageOf idn I L))) (I, L, R0, 305)) : V g (k11_messageOf, 1, 0, 0) 0 0 0 [(0, .ref (xA g 296)), (1, .int idn)] [] (I, L, R0, 305) Q := by
  have hm3 : (I 296 7).toNatClampNeg = m := by rw [hm]; exact nI_clamp (by omega)
  refine V_iconst (pc1 := 1) d11_messageOf_0 vc_0 rfl ?_
  refine V_istore_n (pc1 := 2) d11_messageOf_1 (Nat.le_of_ble_eq_true rfl) rfl rfl ?_
  refine V_lv (lv1 := [(0, .ref (xA g 296)), (1, .int idn), (2, .int (nI 0))]) (lvsub_p [1, 2, 0] rfl) ?_
  have hq2 := hq
  simp only [r11_messageOf, hm3] at hq2
  exact t11_messageOf_2 g  _ _ hm8 m 0 I L hm (by omega) Q hq2
theorem w11_messageOf (g : GlT)  (idn : Int32) (m : Nat) (hm8 : m ≤ 8) (I : Nat → Nat → Int32) (L : Nat → Nat → Int64) (hm : I 296 7 = nI m) : Call g (k11_messageOf, 1, 0, 0) [.ref (xA g 296), .int idn] (I, L, R0, 305) (Qi (r11_messageOf idn I L) (I) L) := Call.of (by decide) (Nat.le_of_ble_eq_true rfl) rfl (v11_messageOf g  idn m hm8 I L hm _ (And.intro rfl rfl))


theorem mo2 {idn : Int32} {I : Nat → Nat → Int32} {L : Nat → Nat → Int64} : ∀ n j, r11_messageOf_2 idn n j I L = (-1) ∨ ∃ p, p < j + n ∧ r11_messageOf_2 idn n j I L = nI p := by
  intro n
  induction n with
  | zero => intro j; exact Or.inl rfl
  | succ n ih =>
    intro j
    simp only [r11_messageOf_2]
    split
    · exact Or.inr ⟨j, by omega, rfl⟩
    · rcases ih (j + 1) with h | ⟨p, h1, h2⟩
      · exact Or.inl h
      · exact Or.inr ⟨p, by omega, h2⟩
theorem mo_p {m : Nat} {idn : Int32} {I : Nat → Nat → Int32} {L : Nat → Nat → Int64} (hm : I 296 7 = nI m) (h8 : m ≤ 8) (h : 0 ≤ r11_messageOf idn I L) : ∃ p, p < m ∧ r11_messageOf idn I L = nI p := by
  have e : (I 296 7).toNatClampNeg = m := by rw [hm]; exact nI_clamp (by omega)
  unfold r11_messageOf at h ⊢
  rw [e] at h ⊢
  rcases mo2 (idn := idn) (I := I) (L := L) m 0 with q | ⟨p, h1, h2⟩
  · rw [q] at h; exact absurd h (by decide)
  · exact ⟨p, by omega, h2⟩

def r11_addMessage (idn : Int32) (ln : Int32) (pd : Int32) (jt : Int32) (I : Nat → Nat → Int32) (L : Nat → Nat → Int64) : Int32 := (if (¬ ((r11_in idn 0 2047) = true)) ∨ ((¬ ((r11_in ln 0 4) = true)) ∨ ((¬ ((r11_in pd 1 5000) = true)) ∨ (¬ ((r11_in jt 0 500) = true)))) then (-2) else (if 0 ≤ r11_messageOf idn I L then I 296 7 else (if nI ((I 296 7).toNatClampNeg) = 8 then (-3) else (I 296 7) + 1)))
def i11_addMessage (idn : Int32) (ln : Int32) (pd : Int32) (jt : Int32) (I : Nat → Nat → Int32) (L : Nat → Nat → Int64) : Nat → Nat → Int32 := (if (¬ ((r11_in idn 0 2047) = true)) ∨ ((¬ ((r11_in ln 0 4) = true)) ∨ ((¬ ((r11_in pd 1 5000) = true)) ∨ (¬ ((r11_in jt 0 500) = true)))) then I else (if 0 ≤ r11_messageOf idn I L then uI (uI (uI (uI I 302 (4 * ((r11_messageOf idn I L).toNatClampNeg)) idn) 302 (4 * ((r11_messageOf idn I L).toNatClampNeg) + 1) ln) 302 (4 * ((r11_messageOf idn I L).toNatClampNeg) + 2) pd) 302 (4 * ((r11_messageOf idn I L).toNatClampNeg) + 3) jt else (if nI ((I 296 7).toNatClampNeg) = 8 then I else uI (uI (uI (uI (uI I 296 7 ((I 296 7) + 1)) 302 (4 * ((I 296 7).toNatClampNeg)) idn) 302 (4 * ((I 296 7).toNatClampNeg) + 1) ln) 302 (4 * ((I 296 7).toNatClampNeg) + 2) pd) 302 (4 * ((I 296 7).toNatClampNeg) + 3) jt)))
set_option maxRecDepth 4000 in
theorem v11_addMessage (g : GlT)  (idn : Int32) (ln : Int32) (pd : Int32) (jt : Int32) (m : Nat) (hm8 : m ≤ 8) (I : Nat → Nat → Int32) (L : Nat → Nat → Int64) (hm : I 296 7 = nI m) (Q : Option Value → MemT → Prop) (hq : Q (some (.int (r11_addMessage idn ln pd jt I L))) (i11_addMessage idn ln pd jt I L, L, R0, 305)) : V g (k11_addMessage, 2, 0, 0) 0 0 0 [(0, .ref (xA g 296)), (1, .int idn), (2, .int ln), (3, .int pd), (4, .int jt)] [] (I, L, R0, 305) Q := by
  have hm3 : (I 296 7).toNatClampNeg = m := by rw [hm]; exact nI_clamp (by omega)
  refine V_iload_n (pc1 := 1) 1 d11_addMessage_0 rfl rfl ?_
  refine V_iconst (pc1 := 2) d11_addMessage_1 vc_0 rfl ?_
  refine V_sipush (pc1 := 5) d11_addMessage_2 vs_2047 rfl ?_
  refine V_si (pc1 := 8) (w11_in g  idn 0 2047  I L ) s11_in l11_39 rfl rfl ⟨Nat.le_of_ble_eq_true rfl, Nat.le_of_ble_eq_true rfl, Nat.le_refl _, Nat.le_refl _⟩ (Nat.le_of_ble_eq_true rfl) rfl d11_addMessage_5 rfl ?_
  have k2 : ((¬ ((r11_in idn 0 2047) = true)) ∨ ((¬ ((r11_in ln 0 4) = true)) ∨ ((¬ ((r11_in pd 1 5000) = true)) ∨ (¬ ((r11_in jt 0 500) = true))))) → V g (k11_addMessage, 2, 0, 0) 0 0 43 [(0, .ref (xA g 296)), (1, .int idn), (2, .int ln), (3, .int pd), (4, .int jt)] [] (I, L, R0, 305) Q := by
    intro h1
    refine V_bipush (pc1 := 45) d11_addMessage_43 vb_m2 rfl ?_
    refine V_iret rfl d11_addMessage_45 (Nat.zero_le _) (Nat.zero_le _) ?_
    have hq2 := hq
    simp only [r11_addMessage, i11_addMessage, hm3, if_pos h1] at hq2
    exact hq2
  have k3 : ¬ ((¬ ((r11_in idn 0 2047) = true)) ∨ ((¬ ((r11_in ln 0 4) = true)) ∨ ((¬ ((r11_in pd 1 5000) = true)) ∨ (¬ ((r11_in jt 0 500) = true))))) → V g (k11_addMessage, 2, 0, 0) 0 0 46 [(0, .ref (xA g 296)), (1, .int idn), (2, .int ln), (3, .int pd), (4, .int jt)] [] (I, L, R0, 305) Q := by
    intro h1
    refine V_aload_n (pc1 := 47) 0 d11_addMessage_46 rfl rfl ?_
    refine V_iload_n (pc1 := 48) 1 d11_addMessage_47 rfl rfl ?_
    refine V_vi (pc1 := 51) (w11_messageOf g  idn m hm8 I L hm) ly296 (lt305 rfl) s11_messageOf l11_205 rfl rfl ⟨Nat.le_of_ble_eq_true rfl, Nat.le_of_ble_eq_true rfl, Nat.le_refl _, Nat.le_refl _⟩ (Nat.le_of_ble_eq_true rfl) rfl d11_addMessage_48 rfl ?_
    refine V_istore (pc1 := 53) d11_addMessage_51 (Nat.le_of_ble_eq_true rfl) rfl rfl ?_
    refine V_iload (pc1 := 55) 0 d11_addMessage_53 rfl rfl ?_
    refine V_if_ge (tgt := 86) (pc1 := 58) d11_addMessage_55 (by decide) rfl (fun h4 => ?_) (fun h4 => ?_)
    · skip
      obtain ⟨p, hp, hpe⟩ := mo_p hm hm8 h4
      have hp3 : (r11_messageOf idn I L).toNatClampNeg = p := by rw [hpe]; exact nI_clamp (by omega)
      rw [hpe]
      refine V_aload_n (pc1 := 87) 1 d11_addMessage_86 rfl rfl ?_
      refine V_getr (pc1 := 90) ly296 (lt305 rfl) f11_26 (fun _ => rfl) rf296_6 d11_addMessage_87 rfl ?_
      refine V_iconst (pc1 := 91) d11_addMessage_90 vc_4 rfl ?_
      refine V_iload (pc1 := 93) 0 d11_addMessage_91 rfl rfl ?_
      refine V_mulN (pc1 := 94) (a := 4) (b := p) (c := 4 * p) rfl rfl (by omega) d11_addMessage_93 rfl ?_
      refine V_iload_n (pc1 := 95) 2 d11_addMessage_94 rfl rfl ?_
      refine V_iast (pc1 := 96) (4 * p) ly302 (lt305 rfl) rfl (by omega) d11_addMessage_95 rfl ?_
      refine V_aload_n (pc1 := 97) 1 d11_addMessage_96 rfl rfl ?_
      refine V_getr (pc1 := 100) ly296 (lt305 rfl) f11_26 (fun _ => rfl) rf296_6 d11_addMessage_97 rfl ?_
      refine V_iconst (pc1 := 101) d11_addMessage_100 vc_4 rfl ?_
      refine V_iload (pc1 := 103) 0 d11_addMessage_101 rfl rfl ?_
      refine V_mulN (pc1 := 104) (a := 4) (b := p) (c := 4 * p) rfl rfl (by omega) d11_addMessage_103 rfl ?_
      refine V_iconst (pc1 := 105) d11_addMessage_104 vc_1 rfl ?_
      refine V_addN (pc1 := 106) (a := 4 * p) (b := 1) (c := 4 * p + 1) rfl rfl (by omega) d11_addMessage_105 rfl ?_
      refine V_iload_n (pc1 := 107) 3 d11_addMessage_106 rfl rfl ?_
      refine V_iast (pc1 := 108) (4 * p + 1) ly302 (lt305 rfl) rfl (by omega) d11_addMessage_107 rfl ?_
      refine V_aload_n (pc1 := 109) 1 d11_addMessage_108 rfl rfl ?_
      refine V_getr (pc1 := 112) ly296 (lt305 rfl) f11_26 (fun _ => rfl) rf296_6 d11_addMessage_109 rfl ?_
      refine V_iconst (pc1 := 113) d11_addMessage_112 vc_4 rfl ?_
      refine V_iload (pc1 := 115) 0 d11_addMessage_113 rfl rfl ?_
      refine V_mulN (pc1 := 116) (a := 4) (b := p) (c := 4 * p) rfl rfl (by omega) d11_addMessage_115 rfl ?_
      refine V_iconst (pc1 := 117) d11_addMessage_116 vc_2 rfl ?_
      refine V_addN (pc1 := 118) (a := 4 * p) (b := 2) (c := 4 * p + 2) rfl rfl (by omega) d11_addMessage_117 rfl ?_
      refine V_iload_n (pc1 := 119) 4 d11_addMessage_118 rfl rfl ?_
      refine V_iast (pc1 := 120) (4 * p + 2) ly302 (lt305 rfl) rfl (by omega) d11_addMessage_119 rfl ?_
      refine V_aload_n (pc1 := 121) 1 d11_addMessage_120 rfl rfl ?_
      refine V_getr (pc1 := 124) ly296 (lt305 rfl) f11_26 (fun _ => rfl) rf296_6 d11_addMessage_121 rfl ?_
      refine V_iconst (pc1 := 125) d11_addMessage_124 vc_4 rfl ?_
      refine V_iload (pc1 := 127) 0 d11_addMessage_125 rfl rfl ?_
      refine V_mulN (pc1 := 128) (a := 4) (b := p) (c := 4 * p) rfl rfl (by omega) d11_addMessage_127 rfl ?_
      refine V_iconst (pc1 := 129) d11_addMessage_128 vc_3 rfl ?_
      refine V_addN (pc1 := 130) (a := 4 * p) (b := 3) (c := 4 * p + 3) rfl rfl (by omega) d11_addMessage_129 rfl ?_
      refine V_iload (pc1 := 132) 5 d11_addMessage_130 rfl rfl ?_
      refine V_iast (pc1 := 133) (4 * p + 3) ly302 (lt305 rfl) rfl (by omega) d11_addMessage_132 rfl ?_
      refine V_aload_n (pc1 := 134) 1 d11_addMessage_133 rfl rfl ?_
      refine V_geti (pc1 := 137) ly296 (lt305 rfl) f11_201 (fun _ => rfl) ((congrFun (uI_off (uI (uI (uI I 302 (4 * p) idn) 302 (4 * p + 1) ln) 302 (4 * p + 2) pd) (4 * p + 3) jt (show (296 : Nat) ≠ 302 by decide)) _).trans ((congrFun (uI_off (uI (uI I 302 (4 * p) idn) 302 (4 * p + 1) ln) (4 * p + 2) pd (show (296 : Nat) ≠ 302 by decide)) _).trans ((congrFun (uI_off (uI I 302 (4 * p) idn) (4 * p + 1) ln (show (296 : Nat) ≠ 302 by decide)) _).trans (congrFun (uI_off I (4 * p) idn (show (296 : Nat) ≠ 302 by decide)) _)))) d11_addMessage_134 rfl ?_
      refine V_iret rfl d11_addMessage_137 (Nat.zero_le _) (Nat.zero_le _) ?_
      have hq2 := hq
      simp only [r11_addMessage, i11_addMessage, hm3, if_neg h1, if_pos h4, hp3] at hq2
      exact hq2
    · skip
      refine V_aload_n (pc1 := 59) 1 d11_addMessage_58 rfl rfl ?_
      refine V_geti (pc1 := 62) ly296 (lt305 rfl) f11_201 (fun _ => rfl) hm d11_addMessage_59 rfl ?_
      refine V_bipush (pc1 := 64) d11_addMessage_62 vb_8 rfl ?_
      refine V_icmp_ne (tgt := 70) (pc1 := 67) d11_addMessage_64 (by decide) rfl (fun h5 => ?_) (fun h5 => ?_)
      · skip
        have hm7 := q4_lt (n := 8) rfl (by omega) hm8 h5
        refine V_aload_n (pc1 := 71) 1 d11_addMessage_70 rfl rfl ?_
        refine V_geti (pc1 := 74) ly296 (lt305 rfl) f11_201 (fun _ => rfl) hm d11_addMessage_71 rfl ?_
        refine V_istore (pc1 := 76) d11_addMessage_74 (Nat.le_of_ble_eq_true rfl) rfl rfl ?_
        refine V_aload_n (pc1 := 77) 1 d11_addMessage_76 rfl rfl ?_
        refine V_dup (pc1 := 78) d11_addMessage_77 rfl rfl ?_
        refine V_geti (pc1 := 81) ly296 (lt305 rfl) f11_201 (fun _ => rfl) rfl d11_addMessage_78 rfl ?_
        refine V_iconst (pc1 := 82) d11_addMessage_81 vc_1 rfl ?_
        refine V_iadd (pc1 := 83) d11_addMessage_82 rfl ?_
        refine V_puti (pc1 := 86) ly296 (lt305 rfl) f11_201 rfl rfl d11_addMessage_83 rfl ?_
        refine V_aload_n (pc1 := 87) 1 d11_addMessage_86 rfl rfl ?_
        refine V_getr (pc1 := 90) ly296 (lt305 rfl) f11_26 (fun _ => rfl) rf296_6 d11_addMessage_87 rfl ?_
        refine V_iconst (pc1 := 91) d11_addMessage_90 vc_4 rfl ?_
        refine V_iload (pc1 := 93) 0 d11_addMessage_91 rfl rfl ?_
        refine V_mulN (pc1 := 94) (a := 4) (b := m) (c := 4 * m) rfl rfl (by omega) d11_addMessage_93 rfl ?_
        refine V_iload_n (pc1 := 95) 2 d11_addMessage_94 rfl rfl ?_
        refine V_iast (pc1 := 96) (4 * m) ly302 (lt305 rfl) rfl (by omega) d11_addMessage_95 rfl ?_
        refine V_aload_n (pc1 := 97) 1 d11_addMessage_96 rfl rfl ?_
        refine V_getr (pc1 := 100) ly296 (lt305 rfl) f11_26 (fun _ => rfl) rf296_6 d11_addMessage_97 rfl ?_
        refine V_iconst (pc1 := 101) d11_addMessage_100 vc_4 rfl ?_
        refine V_iload (pc1 := 103) 0 d11_addMessage_101 rfl rfl ?_
        refine V_mulN (pc1 := 104) (a := 4) (b := m) (c := 4 * m) rfl rfl (by omega) d11_addMessage_103 rfl ?_
        refine V_iconst (pc1 := 105) d11_addMessage_104 vc_1 rfl ?_
        refine V_addN (pc1 := 106) (a := 4 * m) (b := 1) (c := 4 * m + 1) rfl rfl (by omega) d11_addMessage_105 rfl ?_
        refine V_iload_n (pc1 := 107) 3 d11_addMessage_106 rfl rfl ?_
        refine V_iast (pc1 := 108) (4 * m + 1) ly302 (lt305 rfl) rfl (by omega) d11_addMessage_107 rfl ?_
        refine V_aload_n (pc1 := 109) 1 d11_addMessage_108 rfl rfl ?_
        refine V_getr (pc1 := 112) ly296 (lt305 rfl) f11_26 (fun _ => rfl) rf296_6 d11_addMessage_109 rfl ?_
        refine V_iconst (pc1 := 113) d11_addMessage_112 vc_4 rfl ?_
        refine V_iload (pc1 := 115) 0 d11_addMessage_113 rfl rfl ?_
        refine V_mulN (pc1 := 116) (a := 4) (b := m) (c := 4 * m) rfl rfl (by omega) d11_addMessage_115 rfl ?_
        refine V_iconst (pc1 := 117) d11_addMessage_116 vc_2 rfl ?_
        refine V_addN (pc1 := 118) (a := 4 * m) (b := 2) (c := 4 * m + 2) rfl rfl (by omega) d11_addMessage_117 rfl ?_
        refine V_iload_n (pc1 := 119) 4 d11_addMessage_118 rfl rfl ?_
        refine V_iast (pc1 := 120) (4 * m + 2) ly302 (lt305 rfl) rfl (by omega) d11_addMessage_119 rfl ?_
        refine V_aload_n (pc1 := 121) 1 d11_addMessage_120 rfl rfl ?_
        refine V_getr (pc1 := 124) ly296 (lt305 rfl) f11_26 (fun _ => rfl) rf296_6 d11_addMessage_121 rfl ?_
        refine V_iconst (pc1 := 125) d11_addMessage_124 vc_4 rfl ?_
        refine V_iload (pc1 := 127) 0 d11_addMessage_125 rfl rfl ?_
        refine V_mulN (pc1 := 128) (a := 4) (b := m) (c := 4 * m) rfl rfl (by omega) d11_addMessage_127 rfl ?_
        refine V_iconst (pc1 := 129) d11_addMessage_128 vc_3 rfl ?_
        refine V_addN (pc1 := 130) (a := 4 * m) (b := 3) (c := 4 * m + 3) rfl rfl (by omega) d11_addMessage_129 rfl ?_
        refine V_iload (pc1 := 132) 5 d11_addMessage_130 rfl rfl ?_
        refine V_iast (pc1 := 133) (4 * m + 3) ly302 (lt305 rfl) rfl (by omega) d11_addMessage_132 rfl ?_
        refine V_aload_n (pc1 := 134) 1 d11_addMessage_133 rfl rfl ?_
        refine V_geti (pc1 := 137) ly296 (lt305 rfl) f11_201 (fun _ => rfl) ((congrFun (uI_off (uI (uI (uI (uI I 296 7 ((I 296 7) + 1)) 302 (4 * m) idn) 302 (4 * m + 1) ln) 302 (4 * m + 2) pd) (4 * m + 3) jt (show (296 : Nat) ≠ 302 by decide)) _).trans ((congrFun (uI_off (uI (uI (uI I 296 7 ((I 296 7) + 1)) 302 (4 * m) idn) 302 (4 * m + 1) ln) (4 * m + 2) pd (show (296 : Nat) ≠ 302 by decide)) _).trans ((congrFun (uI_off (uI (uI I 296 7 ((I 296 7) + 1)) 302 (4 * m) idn) (4 * m + 1) ln (show (296 : Nat) ≠ 302 by decide)) _).trans ((congrFun (uI_off (uI I 296 7 ((I 296 7) + 1)) (4 * m) idn (show (296 : Nat) ≠ 302 by decide)) _).trans (uI_self I 296 7 ((I 296 7) + 1)))))) d11_addMessage_134 rfl ?_
        refine V_iret rfl d11_addMessage_137 (Nat.zero_le _) (Nat.zero_le _) ?_
        have hq2 := hq
        simp only [r11_addMessage, i11_addMessage, hm3, if_neg h1, if_neg h4, if_neg h5] at hq2
        exact hq2
      · skip
        refine V_bipush (pc1 := 69) d11_addMessage_67 vb_m3 rfl ?_
        refine V_iret rfl d11_addMessage_69 (Nat.zero_le _) (Nat.zero_le _) ?_
        have hq2 := hq
        simp only [r11_addMessage, i11_addMessage, hm3, if_neg h1, if_neg h4, if_pos h5] at hq2
        exact hq2
  refine V_beq (tgt := 43) (pc1 := 11) d11_addMessage_8 (by decide) rfl (fun h6 => ?_) (fun h6 => ?_)
  · skip
    exact k2 (Or.inl h6)
  · skip
    refine V_iload_n (pc1 := 12) 2 d11_addMessage_11 rfl rfl ?_
    refine V_iconst (pc1 := 13) d11_addMessage_12 vc_0 rfl ?_
    refine V_iconst (pc1 := 14) d11_addMessage_13 vc_4 rfl ?_
    refine V_si (pc1 := 17) (w11_in g  ln 0 4  I L ) s11_in l11_39 rfl rfl ⟨Nat.le_of_ble_eq_true rfl, Nat.le_of_ble_eq_true rfl, Nat.le_refl _, Nat.le_refl _⟩ (Nat.le_of_ble_eq_true rfl) rfl d11_addMessage_14 rfl ?_
    refine V_beq (tgt := 43) (pc1 := 20) d11_addMessage_17 (by decide) rfl (fun h7 => ?_) (fun h7 => ?_)
    · skip
      exact k2 (Or.inr (Or.inl h7))
    · skip
      refine V_iload_n (pc1 := 21) 3 d11_addMessage_20 rfl rfl ?_
      refine V_iconst (pc1 := 22) d11_addMessage_21 vc_1 rfl ?_
      refine V_sipush (pc1 := 25) d11_addMessage_22 vs_5000 rfl ?_
      refine V_si (pc1 := 28) (w11_in g  pd 1 5000  I L ) s11_in l11_39 rfl rfl ⟨Nat.le_of_ble_eq_true rfl, Nat.le_of_ble_eq_true rfl, Nat.le_refl _, Nat.le_refl _⟩ (Nat.le_of_ble_eq_true rfl) rfl d11_addMessage_25 rfl ?_
      refine V_beq (tgt := 43) (pc1 := 31) d11_addMessage_28 (by decide) rfl (fun h8 => ?_) (fun h8 => ?_)
      · skip
        exact k2 (Or.inr (Or.inr (Or.inl h8)))
      · skip
        refine V_iload (pc1 := 33) 4 d11_addMessage_31 rfl rfl ?_
        refine V_iconst (pc1 := 34) d11_addMessage_33 vc_0 rfl ?_
        refine V_sipush (pc1 := 37) d11_addMessage_34 vs_500 rfl ?_
        refine V_si (pc1 := 40) (w11_in g  jt 0 500  I L ) s11_in l11_39 rfl rfl ⟨Nat.le_of_ble_eq_true rfl, Nat.le_of_ble_eq_true rfl, Nat.le_refl _, Nat.le_refl _⟩ (Nat.le_of_ble_eq_true rfl) rfl d11_addMessage_37 rfl ?_
        refine V_bne (tgt := 46) (pc1 := 43) d11_addMessage_40 (by decide) rfl (fun h9 => ?_) (fun h9 => ?_)
        · skip
          exact k3 (fun z => z.elim (fun z => z h6) (fun z => z.elim (fun z => z h7) (fun z => z.elim (fun z => z h8) (fun z => z h9))))
        · skip
          exact k2 (Or.inr (Or.inr (Or.inr h9)))
theorem w11_addMessage (g : GlT)  (idn : Int32) (ln : Int32) (pd : Int32) (jt : Int32) (m : Nat) (hm8 : m ≤ 8) (I : Nat → Nat → Int32) (L : Nat → Nat → Int64) (hm : I 296 7 = nI m) : Call g (k11_addMessage, 2, 0, 0) [.ref (xA g 296), .int idn, .int ln, .int pd, .int jt] (I, L, R0, 305) (Qi (r11_addMessage idn ln pd jt I L) (i11_addMessage idn ln pd jt I L) L) := Call.of (by decide) (Nat.le_of_ble_eq_true rfl) rfl (v11_addMessage g  idn ln pd jt m hm8 I L hm _ (And.intro rfl rfl))

theorem xs11_addMessage {idn : Int32} {ln : Int32} {pd : Int32} {jt : Int32} {I : Nat → Nat → Int32} {L : Nat → Nat → Int64} {s0 : Nat}  : i11_addMessage idn ln pd jt I L 297 s0 = I 297 s0 := by
  first | (simp only [i11_addMessage]; done) | (simp only [i11_addMessage]; (try (repeat' split)) <;> first | rfl | (simp [uI_eq]; done))

def r11_removeMessage_27 (idn : Int32) : Nat → Nat → Nat → (Nat → Nat → Int32) → (Nat → Nat → Int64) → Int32
  | 0, t, m, I, L => I 296 7
  | n + 1, t, m, I, L => r11_removeMessage_27 idn n (t + 1) m (uI I 302 t (I 302 (t + 4))) L
def i11_removeMessage_27 (idn : Int32) : Nat → Nat → Nat → (Nat → Nat → Int32) → (Nat → Nat → Int64) → (Nat → Nat → Int32)
  | 0, t, m, I, L => I
  | n + 1, t, m, I, L => i11_removeMessage_27 idn n (t + 1) m (uI I 302 t (I 302 (t + 4))) L
set_option maxRecDepth 4000 in
theorem t11_removeMessage_27 (g : GlT)  (idn : Int32) (m : Nat) (hm8 : m ≤ 8) : ∀ (n t m : Nat) (I : Nat → Nat → Int32) (L : Nat → Nat → Int64), (hm : I 296 7 = nI m) → (hm8 : m ≤ 7) → (hn : t + n = 4 * m) → ∀ (Q : Option Value → MemT → Prop), Q (some (.int (r11_removeMessage_27 idn n t m I L))) (i11_removeMessage_27 idn n t m I L, L, R0, 305) → V g (k11_removeMessage, 2, 0, 0) 0 0 27 [(0, .ref (xA g 296)), (3, .int (nI t))] [] (I, L, R0, 305) Q := by
  intro n
  induction n with
  | zero =>
    intro t m I L hm hm8 hn Q hq
    refine V_iload_n (pc1 := 28) 1 d11_removeMessage_27 rfl rfl ?_
    refine V_iconst (pc1 := 29) d11_removeMessage_28 vc_4 rfl ?_
    refine V_aload_n (pc1 := 30) 0 d11_removeMessage_29 rfl rfl ?_
    refine V_geti (pc1 := 33) ly296 (lt305 rfl) f11_201 (fun _ => rfl) hm d11_removeMessage_30 rfl ?_
    refine V_mulN (pc1 := 34) (a := 4) (b := m) (c := 4 * m) rfl rfl (by omega) d11_removeMessage_33 rfl ?_
    refine V_icmp_ge (tgt := 57) (pc1 := 37) d11_removeMessage_34 (by decide) rfl (fun _ => ?_) (fun h1 => absurd (nI_le (by omega) (by omega)) h1)
    refine V_aload_n (pc1 := 58) 0 d11_removeMessage_57 rfl rfl ?_
    refine V_geti (pc1 := 61) ly296 (lt305 rfl) f11_201 (fun _ => rfl) rfl d11_removeMessage_58 rfl ?_
    refine V_iret rfl d11_removeMessage_61 (Nat.zero_le _) (Nat.zero_le _) ?_
    have hq2 := hq
    simp only [r11_removeMessage_27, i11_removeMessage_27] at hq2
    exact hq2
  | succ n ih =>
    intro t m I L hm hm8 hn Q hq
    refine V_iload_n (pc1 := 28) 1 d11_removeMessage_27 rfl rfl ?_
    refine V_iconst (pc1 := 29) d11_removeMessage_28 vc_4 rfl ?_
    refine V_aload_n (pc1 := 30) 0 d11_removeMessage_29 rfl rfl ?_
    refine V_geti (pc1 := 33) ly296 (lt305 rfl) f11_201 (fun _ => rfl) hm d11_removeMessage_30 rfl ?_
    refine V_mulN (pc1 := 34) (a := 4) (b := m) (c := 4 * m) rfl rfl (by omega) d11_removeMessage_33 rfl ?_
    refine V_icmp_ge (tgt := 57) (pc1 := 37) d11_removeMessage_34 (by decide) rfl (fun h1 => absurd h1 (nI_ge (by omega) (by omega))) (fun _ => ?_)
    refine V_aload_n (pc1 := 38) 0 d11_removeMessage_37 rfl rfl ?_
    refine V_getr (pc1 := 41) ly296 (lt305 rfl) f11_26 (fun _ => rfl) rf296_6 d11_removeMessage_38 rfl ?_
    refine V_iload_n (pc1 := 42) 1 d11_removeMessage_41 rfl rfl ?_
    refine V_aload_n (pc1 := 43) 0 d11_removeMessage_42 rfl rfl ?_
    refine V_getr (pc1 := 46) ly296 (lt305 rfl) f11_26 (fun _ => rfl) rf296_6 d11_removeMessage_43 rfl ?_
    refine V_iload_n (pc1 := 47) 1 d11_removeMessage_46 rfl rfl ?_
    refine V_iconst (pc1 := 48) d11_removeMessage_47 vc_4 rfl ?_
    refine V_addN (pc1 := 49) (a := t) (b := 4) (c := t + 4) rfl rfl (by omega) d11_removeMessage_48 rfl ?_
    refine V_iald2 (pc1 := 50) (t + 4) ly302 (lt305 rfl) rfl (by omega) rfl d11_removeMessage_49 rfl ?_
    refine V_iast (pc1 := 51) t ly302 (lt305 rfl) rfl (by omega) d11_removeMessage_50 rfl ?_
    refine V_iinc (pc1 := 54) 1 (v := nI (t + 1)) d11_removeMessage_51 rfl (nI_1 _) (Nat.le_of_ble_eq_true rfl) rfl rfl ?_
    refine V_goto (tgt := 27) d11_removeMessage_54 (by decide) ?_
    refine V_lv (lv1 := [(0, .ref (xA g 296)), (3, .int (nI (t + 1)))]) (lvsub_p [1, 0] rfl) ?_
    have hq2 := hq
    simp only [r11_removeMessage_27, i11_removeMessage_27] at hq2
    exact ih (t + 1) m (uI I 302 t (I 302 (t + 4))) L ((congrFun (uI_off I t (I 302 (t + 4)) (show (296 : Nat) ≠ 302 by decide)) _).trans hm) hm8 (by omega) Q hq2
def r11_removeMessage (idn : Int32) (I : Nat → Nat → Int32) (L : Nat → Nat → Int64) : Int32 := (if 0 ≤ r11_messageOf idn I L then r11_removeMessage_27 idn (4 * (((I 296 7).toNatClampNeg) - 1 - ((r11_messageOf idn I L).toNatClampNeg))) (4 * ((r11_messageOf idn I L).toNatClampNeg)) (((I 296 7).toNatClampNeg) - 1) (uI I 296 7 (nI (((I 296 7).toNatClampNeg) - 1))) L else (-5))
def i11_removeMessage (idn : Int32) (I : Nat → Nat → Int32) (L : Nat → Nat → Int64) : Nat → Nat → Int32 := (if 0 ≤ r11_messageOf idn I L then i11_removeMessage_27 idn (4 * (((I 296 7).toNatClampNeg) - 1 - ((r11_messageOf idn I L).toNatClampNeg))) (4 * ((r11_messageOf idn I L).toNatClampNeg)) (((I 296 7).toNatClampNeg) - 1) (uI I 296 7 (nI (((I 296 7).toNatClampNeg) - 1))) L else I)
set_option maxRecDepth 4000 in
theorem v11_removeMessage (g : GlT)  (idn : Int32) (m : Nat) (hm8 : m ≤ 8) (I : Nat → Nat → Int32) (L : Nat → Nat → Int64) (hm : I 296 7 = nI m) (Q : Option Value → MemT → Prop) (hq : Q (some (.int (r11_removeMessage idn I L))) (i11_removeMessage idn I L, L, R0, 305)) : V g (k11_removeMessage, 2, 0, 0) 0 0 0 [(0, .ref (xA g 296)), (1, .int idn)] [] (I, L, R0, 305) Q := by
  have hm3 : (I 296 7).toNatClampNeg = m := by rw [hm]; exact nI_clamp (by omega)
  refine V_aload_n (pc1 := 1) 0 d11_removeMessage_0 rfl rfl ?_
  refine V_iload_n (pc1 := 2) 1 d11_removeMessage_1 rfl rfl ?_
  refine V_vi (pc1 := 5) (w11_messageOf g  idn m hm8 I L hm) ly296 (lt305 rfl) s11_messageOf l11_205 rfl rfl ⟨Nat.le_of_ble_eq_true rfl, Nat.le_of_ble_eq_true rfl, Nat.le_refl _, Nat.le_refl _⟩ (Nat.le_of_ble_eq_true rfl) rfl d11_removeMessage_2 rfl ?_
  refine V_istore_n (pc1 := 6) d11_removeMessage_5 (Nat.le_of_ble_eq_true rfl) rfl rfl ?_
  refine V_iload_n (pc1 := 7) 0 d11_removeMessage_6 rfl rfl ?_
  refine V_if_ge (tgt := 13) (pc1 := 10) d11_removeMessage_7 (by decide) rfl (fun h1 => ?_) (fun h1 => ?_)
  · skip
    obtain ⟨p, hp, hpe⟩ := mo_p hm hm8 h1
    have hp3 : (r11_messageOf idn I L).toNatClampNeg = p := by rw [hpe]; exact nI_clamp (by omega)
    rw [hpe]
    refine V_aload_n (pc1 := 14) 1 d11_removeMessage_13 rfl rfl ?_
    refine V_dup (pc1 := 15) d11_removeMessage_14 rfl rfl ?_
    refine V_geti (pc1 := 18) ly296 (lt305 rfl) f11_201 (fun _ => rfl) hm d11_removeMessage_15 rfl ?_
    refine V_iconst (pc1 := 19) d11_removeMessage_18 vc_1 rfl ?_
    refine V_subN (pc1 := 20) (a := m) (b := 1) (c := m - 1) rfl rfl (by omega) d11_removeMessage_19 rfl ?_
    refine V_puti (pc1 := 23) ly296 (lt305 rfl) f11_201 rfl rfl d11_removeMessage_20 rfl ?_
    refine V_iconst (pc1 := 24) d11_removeMessage_23 vc_4 rfl ?_
    refine V_iload_n (pc1 := 25) 0 d11_removeMessage_24 rfl rfl ?_
    refine V_mulN (pc1 := 26) (a := 4) (b := p) (c := 4 * p) rfl rfl (by omega) d11_removeMessage_25 rfl ?_
    refine V_istore_n (pc1 := 27) d11_removeMessage_26 (Nat.le_of_ble_eq_true rfl) rfl rfl ?_
    refine V_lv (lv1 := [(0, .ref (xA g 296)), (3, .int (nI (4 * p)))]) (lvsub_p [2, 0] rfl) ?_
    have hq2 := hq
    simp only [r11_removeMessage, i11_removeMessage, hm3, if_pos h1, hp3] at hq2
    exact t11_removeMessage_27 g  _ _ hm8 (4 * (m - 1 - p)) (4 * p) (m - 1) (uI I 296 7 (nI (m - 1))) L (uI_self I 296 7 (nI (m - 1))) (by omega) (by omega) Q hq2
  · skip
    refine V_bipush (pc1 := 12) d11_removeMessage_10 vb_m5 rfl ?_
    refine V_iret rfl d11_removeMessage_12 (Nat.zero_le _) (Nat.zero_le _) ?_
    have hq2 := hq
    simp only [r11_removeMessage, i11_removeMessage, hm3, if_neg h1] at hq2
    exact hq2
theorem w11_removeMessage (g : GlT)  (idn : Int32) (m : Nat) (hm8 : m ≤ 8) (I : Nat → Nat → Int32) (L : Nat → Nat → Int64) (hm : I 296 7 = nI m) : Call g (k11_removeMessage, 2, 0, 0) [.ref (xA g 296), .int idn] (I, L, R0, 305) (Qi (r11_removeMessage idn I L) (i11_removeMessage idn I L) L) := Call.of (by decide) (Nat.le_of_ble_eq_true rfl) rfl (v11_removeMessage g  idn m hm8 I L hm _ (And.intro rfl rfl))

