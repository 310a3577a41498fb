/-- the sizes of the reference's lists -/
def rN (i : Nat) (I : Nat → Nat → Int32) : Prop := (∃ w, w ≤ 4 ∧ I 297 (256 * i + 23) = nI w) ∧ (∃ r, r ≤ 6 ∧ I 297 (256 * i + 24) = nI r) ∧ ∃ q, q ≤ 4 ∧ I 297 (256 * i + 25) = nI q
def rV (I : Nat → Nat → Int32) : Prop := ∀ i, i < 4 → rN i I
theorem unw7_23 {i p : Nat} : ∀ (n t : Nat) (I : Nat → Nat → Int32) (L : Nat → Nat → Int64), 30 ≤ t → i11_unwaits_7 i p n t I L 297 (256 * i + 23) = I 297 (256 * i + 23) - 1 := by
  intro n
  induction n with
  | zero =>
    intro t I L ht
    simp only [i11_unwaits_7]
    rw [uI_ne _ _ _ (by omega), uI_self]
  | succ n ih =>
    intro t I L ht
    simp only [i11_unwaits_7]
    rw [ih _ _ _ (by omega), uI_ne _ _ _ (by omega)]
theorem unw_23 {i p w : Nat} {I : Nat → Nat → Int32} {L : Nat → Nat → Int64} (hw : I 297 (256 * i + 23) = nI w) (h1 : 1 ≤ w) : i11_unwaits i p I L 297 (256 * i + 23) = nI (w - 1) := by
  unfold i11_unwaits
  rw [unw7_23 _ _ _ _ (by omega), hw]
  exact nI_dec h1
theorem af_n {i q : Nat} {idn : Int32} {I : Nat → Nat → Int32} {L : Nat → Nat → Int64} (hs : I 297 (256 * i + 25) = nI q) (h4 : q ≤ 4) (h : 0 ≤ r11_answerFor i idn I L) : ∃ p, p < q ∧ r11_answerFor i idn I L = nI p := by
  refine af_p hs h4 (fun e => ?_)
  have h1 := Int32.lt_iff_toInt_lt.mp e
  have h2 := Int32.le_iff_toInt_le.mp h
  omega
theorem q4_lt {q n : Nat} {y : Int32} (hy : y = nI n) (hn : n < 100) (h4 : q ≤ n) (h : ¬ nI q = y) : q < n := by
  subst hy
  rcases Nat.lt_or_ge q n with e | e
  · exact e
  · exact absurd (by rw [show q = n by omega]) h
theorem in_nat {x : Int32} {w : Nat} {y : Int32} (hw : y = nI w) (hw6 : w ≤ 8) (h : r11_in x 0 (y - 1) = true) : ∃ j, j < w ∧ x = nI j := by
  subst hw
  unfold r11_in at h
  split at h
  · exact absurd h (by decide)
  · rename_i hc
    have h1 : ¬ x < 0 := fun e => hc (Or.inl e)
    obtain ⟨j, hj, rfl⟩ := nI_of h1
    refine ⟨j, ?_, rfl⟩
    rcases Nat.lt_or_ge j w with e | e
    · exact e
    · refine absurd (Or.inr ?_) hc
      rcases (show w = 0 ∨ 0 < w by omega) with q | q
      · subst q
        exact Int32.lt_iff_toInt_lt.mpr (by rw [nI_toInt hj]; exact Int.lt_of_lt_of_le (show ((nI 0 - 1 : Int32)).toInt < 0 by decide) (Int.natCast_nonneg _))
      · rw [nI_dec q]
        exact nI_lt (by omega) hj
theorem ni0_ne {w : Nat} (h8 : w ≤ 8) (h : ¬ nI w = 0) : 1 ≤ w := by
  rcases Nat.eq_zero_or_pos w with e | e
  · subst e; exact absurd rfl h
  · exact e

def r11_setAnswer (nd : Int32) (idn : Int32) (ln : Int32) (dt : Int32) (I : Nat → Nat → Int32) (L : Nat → Nat → Int64) : Int32 := (if (r11_isNode nd) = true then (if (r11_isFrame idn 0 ln dt) = true then (if 0 ≤ r11_answerFor (nd.toNatClampNeg) idn I L then I 297 (256 * (nd.toNatClampNeg) + 25) else (if nI ((I 297 (256 * (nd.toNatClampNeg) + 25)).toNatClampNeg) = 4 then (-3) else (I 297 (256 * (nd.toNatClampNeg) + 25)) + 1)) else (-2)) else (-1))
def i11_setAnswer (nd : Int32) (idn : Int32) (ln : Int32) (dt : Int32) (I : Nat → Nat → Int32) (L : Nat → Nat → Int64) : Nat → Nat → Int32 := (if (r11_isNode nd) = true then (if (r11_isFrame idn 0 ln dt) = true then (if 0 ≤ r11_answerFor (nd.toNatClampNeg) idn I L then uI (uI (uI I 297 (256 * (nd.toNatClampNeg) + 3 * ((r11_answerFor (nd.toNatClampNeg) idn I L).toNatClampNeg) + 74) idn) 297 (256 * (nd.toNatClampNeg) + 3 * ((r11_answerFor (nd.toNatClampNeg) idn I L).toNatClampNeg) + 75) ln) 297 (256 * (nd.toNatClampNeg) + 3 * ((r11_answerFor (nd.toNatClampNeg) idn I L).toNatClampNeg) + 76) dt else (if nI ((I 297 (256 * (nd.toNatClampNeg) + 25)).toNatClampNeg) = 4 then I else uI (uI (uI (uI I 297 (256 * (nd.toNatClampNeg) + 25) ((I 297 (256 * (nd.toNatClampNeg) + 25)) + 1)) 297 (256 * (nd.toNatClampNeg) + 3 * ((I 297 (256 * (nd.toNatClampNeg) + 25)).toNatClampNeg) + 74) idn) 297 (256 * (nd.toNatClampNeg) + 3 * ((I 297 (256 * (nd.toNatClampNeg) + 25)).toNatClampNeg) + 75) ln) 297 (256 * (nd.toNatClampNeg) + 3 * ((I 297 (256 * (nd.toNatClampNeg) + 25)).toNatClampNeg) + 76) dt)) else I) else I)
set_option maxRecDepth 4000 in
theorem v11_setAnswer (g : GlT)  (nd : Int32) (idn : Int32) (ln : Int32) (dt : Int32) (I : Nat → Nat → Int32) (L : Nat → Nat → Int64) (hv : rV I) (Q : Option Value → MemT → Prop) (hq : Q (some (.int (r11_setAnswer nd idn ln dt I L))) (i11_setAnswer nd idn ln dt I L, L, R0, 305)) : V g (k11_setAnswer, 3, 0, 0) 0 0 0 [(0, .ref (xA g 296)), (1, .int nd), (2, .int idn), (3, .int ln), (4, .int dt)] [] (I, L, R0, 305) Q := by
  refine V_iload_n (pc1 := 1) 1 d11_setAnswer_0 rfl rfl ?_
  refine V_si (pc1 := 4) (w11_isNode g  nd  I L ) s11_isNode l11_66 rfl rfl ⟨Nat.le_of_ble_eq_true rfl, Nat.le_of_ble_eq_true rfl, Nat.le_refl _, Nat.le_refl _⟩ (Nat.le_of_ble_eq_true rfl) rfl d11_setAnswer_1 rfl ?_
  refine V_bne (tgt := 9) (pc1 := 7) d11_setAnswer_4 (by decide) rfl (fun h1 => ?_) (fun h1 => ?_)
  · skip
    obtain ⟨ni, hni, rfl⟩ := isNode11 h1
    have hn3 : (nI ni).toNatClampNeg = ni := nI_clamp (by omega)
    obtain ⟨⟨w, hw4, hw⟩, ⟨r, hr6, hr⟩, q, hq4, hq0⟩ := hv ni hni
    have hq3 : (I 297 (256 * ni + 25)).toNatClampNeg = q := by rw [hq0]; exact nI_clamp (by omega)
    refine V_iload_n (pc1 := 10) 2 d11_setAnswer_9 rfl rfl ?_
    refine V_iconst (pc1 := 11) d11_setAnswer_10 vc_0 rfl ?_
    refine V_iload_n (pc1 := 12) 3 d11_setAnswer_11 rfl rfl ?_
    refine V_iload (pc1 := 14) 4 d11_setAnswer_12 rfl rfl ?_
    refine V_si (pc1 := 17) (w11_isFrame g  idn 0 ln dt  I L ) s11_isFrame l11_51 rfl rfl ⟨Nat.le_of_ble_eq_true rfl, Nat.le_of_ble_eq_true rfl, Nat.le_refl _, Nat.le_refl _⟩ (Nat.le_of_ble_eq_true rfl) rfl d11_setAnswer_14 rfl ?_
    refine V_bne (tgt := 23) (pc1 := 20) d11_setAnswer_17 (by decide) rfl (fun h2 => ?_) (fun h2 => ?_)
    · skip
      refine V_aload_n (pc1 := 24) 0 d11_setAnswer_23 rfl rfl ?_
      refine V_iload_n (pc1 := 25) 1 d11_setAnswer_24 rfl rfl ?_
      refine V_iload_n (pc1 := 26) 2 d11_setAnswer_25 rfl rfl ?_
      refine V_vi (pc1 := 29) (w11_answerFor g  ni idn hni q hq4 I L hq0) ly296 (lt305 rfl) s11_answerFor l11_74 rfl rfl ⟨Nat.le_of_ble_eq_true rfl, Nat.le_of_ble_eq_true rfl, Nat.le_refl _, Nat.le_refl _⟩ (Nat.le_of_ble_eq_true rfl) rfl d11_setAnswer_26 rfl ?_
      refine V_istore (pc1 := 31) d11_setAnswer_29 (Nat.le_of_ble_eq_true rfl) rfl rfl ?_
      refine V_iload (pc1 := 33) 0 d11_setAnswer_31 rfl rfl ?_
      refine V_if_ge (tgt := 82) (pc1 := 36) d11_setAnswer_33 (by decide) rfl (fun h3 => ?_) (fun h3 => ?_)
      · skip
        obtain ⟨p, hp, hpe⟩ := af_n hq0 hq4 h3
        have hp3 : (r11_answerFor ni idn I L).toNatClampNeg = p := by rw [hpe]; exact nI_clamp (by omega)
        rw [hpe]
        refine V_aload_n (pc1 := 83) 1 d11_setAnswer_82 rfl rfl ?_
        refine V_getr (pc1 := 86) ly296 (lt305 rfl) f11_7 (fun _ => rfl) rf296_0 d11_setAnswer_83 rfl ?_
        refine V_iload_n (pc1 := 87) 2 d11_setAnswer_86 rfl rfl ?_
        refine V_iload (pc1 := 89) 0 d11_setAnswer_87 rfl rfl ?_
        refine V_iconst (pc1 := 90) d11_setAnswer_89 vc_0 rfl ?_
        refine V_si (pc1 := 93) (w11_answer2 g  ni p 0 (256 * ni + 3 * p + 74) (by omega) I L ) s11_answer l11_70 rfl rfl ⟨Nat.le_of_ble_eq_true rfl, Nat.le_of_ble_eq_true rfl, Nat.le_refl _, Nat.le_refl _⟩ (Nat.le_of_ble_eq_true rfl) rfl d11_setAnswer_90 rfl ?_
        refine V_iload_n (pc1 := 94) 3 d11_setAnswer_93 rfl rfl ?_
        refine V_iast (pc1 := 95) (256 * ni + 3 * p + 74) ly297 (lt305 rfl) rfl (by omega) d11_setAnswer_94 rfl ?_
        refine V_aload_n (pc1 := 96) 1 d11_setAnswer_95 rfl rfl ?_
        refine V_getr (pc1 := 99) ly296 (lt305 rfl) f11_7 (fun _ => rfl) rf296_0 d11_setAnswer_96 rfl ?_
        refine V_iload_n (pc1 := 100) 2 d11_setAnswer_99 rfl rfl ?_
        refine V_iload (pc1 := 102) 0 d11_setAnswer_100 rfl rfl ?_
        refine V_iconst (pc1 := 103) d11_setAnswer_102 vc_1 rfl ?_
        refine V_si (pc1 := 106) (w11_answer2 g  ni p 1 (256 * ni + 3 * p + 75) (by omega) (uI I 297 (256 * ni + 3 * p + 74) idn) L ) s11_answer l11_70 rfl rfl ⟨Nat.le_of_ble_eq_true rfl, Nat.le_of_ble_eq_true rfl, Nat.le_refl _, Nat.le_refl _⟩ (Nat.le_of_ble_eq_true rfl) rfl d11_setAnswer_103 rfl ?_
        refine V_iload_n (pc1 := 107) 4 d11_setAnswer_106 rfl rfl ?_
        refine V_iast (pc1 := 108) (256 * ni + 3 * p + 75) ly297 (lt305 rfl) rfl (by omega) d11_setAnswer_107 rfl ?_
        refine V_aload_n (pc1 := 109) 1 d11_setAnswer_108 rfl rfl ?_
        refine V_getr (pc1 := 112) ly296 (lt305 rfl) f11_7 (fun _ => rfl) rf296_0 d11_setAnswer_109 rfl ?_
        refine V_iload_n (pc1 := 113) 2 d11_setAnswer_112 rfl rfl ?_
        refine V_iload (pc1 := 115) 0 d11_setAnswer_113 rfl rfl ?_
        refine V_iconst (pc1 := 116) d11_setAnswer_115 vc_2 rfl ?_
        refine V_si (pc1 := 119) (w11_answer2 g  ni p 2 (256 * ni + 3 * p + 76) (by omega) (uI (uI I 297 (256 * ni + 3 * p + 74) idn) 297 (256 * ni + 3 * p + 75) ln) L ) s11_answer l11_70 rfl rfl ⟨Nat.le_of_ble_eq_true rfl, Nat.le_of_ble_eq_true rfl, Nat.le_refl _, Nat.le_refl _⟩ (Nat.le_of_ble_eq_true rfl) rfl d11_setAnswer_116 rfl ?_
        refine V_iload (pc1 := 121) 5 d11_setAnswer_119 rfl rfl ?_
        refine V_iast (pc1 := 122) (256 * ni + 3 * p + 76) ly297 (lt305 rfl) rfl (by omega) d11_setAnswer_121 rfl ?_
        refine V_aload_n (pc1 := 123) 1 d11_setAnswer_122 rfl rfl ?_
        refine V_getr (pc1 := 126) ly296 (lt305 rfl) f11_7 (fun _ => rfl) rf296_0 d11_setAnswer_123 rfl ?_
        refine V_iload_n (pc1 := 127) 2 d11_setAnswer_126 rfl rfl ?_
        refine V_bipush (pc1 := 129) d11_setAnswer_127 vb_25 rfl ?_
        refine V_si (pc1 := 132) (w11_at2 g  ni 25 (256 * ni + 25) (by omega) (uI (uI (uI I 297 (256 * ni + 3 * p + 74) idn) 297 (256 * ni + 3 * p + 75) ln) 297 (256 * ni + 3 * p + 76) dt) L ) s11_at l11_35 rfl rfl ⟨Nat.le_of_ble_eq_true rfl, Nat.le_of_ble_eq_true rfl, Nat.le_refl _, Nat.le_refl _⟩ (Nat.le_of_ble_eq_true rfl) rfl d11_setAnswer_129 rfl ?_
        refine V_iald2 (pc1 := 133) (256 * ni + 25) ly297 (lt305 rfl) rfl (by omega) ((uI_ne (uI (uI I 297 (256 * ni + 3 * p + 74) idn) 297 (256 * ni + 3 * p + 75) ln) 297 dt (show (256 * ni + 25 : Nat) ≠ 256 * ni + 3 * p + 76 by omega)).trans ((uI_ne (uI I 297 (256 * ni + 3 * p + 74) idn) 297 ln (show (256 * ni + 25 : Nat) ≠ 256 * ni + 3 * p + 75 by omega)).trans (uI_ne I 297 idn (show (256 * ni + 25 : Nat) ≠ 256 * ni + 3 * p + 74 by omega)))) d11_setAnswer_132 rfl ?_
        refine V_iret rfl d11_setAnswer_133 (Nat.zero_le _) (Nat.zero_le _) ?_
        have hq2 := hq
        simp only [r11_setAnswer, i11_setAnswer, if_pos h1, hn3, hq3, if_pos h2, if_pos h3, hp3] at hq2
        exact hq2
      · skip
        refine V_aload_n (pc1 := 37) 1 d11_setAnswer_36 rfl rfl ?_
        refine V_getr (pc1 := 40) ly296 (lt305 rfl) f11_7 (fun _ => rfl) rf296_0 d11_setAnswer_37 rfl ?_
        refine V_iload_n (pc1 := 41) 2 d11_setAnswer_40 rfl rfl ?_
        refine V_bipush (pc1 := 43) d11_setAnswer_41 vb_25 rfl ?_
        refine V_si (pc1 := 46) (w11_at2 g  ni 25 (256 * ni + 25) (by omega) I L ) s11_at l11_35 rfl rfl ⟨Nat.le_of_ble_eq_true rfl, Nat.le_of_ble_eq_true rfl, Nat.le_refl _, Nat.le_refl _⟩ (Nat.le_of_ble_eq_true rfl) rfl d11_setAnswer_43 rfl ?_
        refine V_iald2 (pc1 := 47) (256 * ni + 25) ly297 (lt305 rfl) rfl (by omega) hq0 d11_setAnswer_46 rfl ?_
        refine V_iconst (pc1 := 48) d11_setAnswer_47 vc_4 rfl ?_
        refine V_icmp_ne (tgt := 54) (pc1 := 51) d11_setAnswer_48 (by decide) rfl (fun h4 => ?_) (fun h4 => ?_)
        · skip
          have hq5 := q4_lt (n := 4) rfl (by omega) hq4 h4
          refine V_aload_n (pc1 := 55) 1 d11_setAnswer_54 rfl rfl ?_
          refine V_getr (pc1 := 58) ly296 (lt305 rfl) f11_7 (fun _ => rfl) rf296_0 d11_setAnswer_55 rfl ?_
          refine V_iload_n (pc1 := 59) 2 d11_setAnswer_58 rfl rfl ?_
          refine V_bipush (pc1 := 61) d11_setAnswer_59 vb_25 rfl ?_
          refine V_si (pc1 := 64) (w11_at2 g  ni 25 (256 * ni + 25) (by omega) I L ) s11_at l11_35 rfl rfl ⟨Nat.le_of_ble_eq_true rfl, Nat.le_of_ble_eq_true rfl, Nat.le_refl _, Nat.le_refl _⟩ (Nat.le_of_ble_eq_true rfl) rfl d11_setAnswer_61 rfl ?_
          refine V_iald2 (pc1 := 65) (256 * ni + 25) ly297 (lt305 rfl) rfl (by omega) hq0 d11_setAnswer_64 rfl ?_
          refine V_istore (pc1 := 67) d11_setAnswer_65 (Nat.le_of_ble_eq_true rfl) rfl rfl ?_
          refine V_aload_n (pc1 := 68) 1 d11_setAnswer_67 rfl rfl ?_
          refine V_getr (pc1 := 71) ly296 (lt305 rfl) f11_7 (fun _ => rfl) rf296_0 d11_setAnswer_68 rfl ?_
          refine V_iload_n (pc1 := 72) 2 d11_setAnswer_71 rfl rfl ?_
          refine V_bipush (pc1 := 74) d11_setAnswer_72 vb_25 rfl ?_
          refine V_si (pc1 := 77) (w11_at2 g  ni 25 (256 * ni + 25) (by omega) I L ) s11_at l11_35 rfl rfl ⟨Nat.le_of_ble_eq_true rfl, Nat.le_of_ble_eq_true rfl, Nat.le_refl _, Nat.le_refl _⟩ (Nat.le_of_ble_eq_true rfl) rfl d11_setAnswer_74 rfl ?_
          refine V_dup2 (pc1 := 78) d11_setAnswer_77 rfl rfl rfl ?_
          refine V_iald2 (pc1 := 79) (256 * ni + 25) ly297 (lt305 rfl) rfl (by omega) rfl d11_setAnswer_78 rfl ?_
          refine V_iconst (pc1 := 80) d11_setAnswer_79 vc_1 rfl ?_
          refine V_iadd (pc1 := 81) d11_setAnswer_80 rfl ?_
          refine V_iast (pc1 := 82) (256 * ni + 25) ly297 (lt305 rfl) rfl (by omega) d11_setAnswer_81 rfl ?_
          refine V_aload_n (pc1 := 83) 1 d11_setAnswer_82 rfl rfl ?_
          refine V_getr (pc1 := 86) ly296 (lt305 rfl) f11_7 (fun _ => rfl) rf296_0 d11_setAnswer_83 rfl ?_
          refine V_iload_n (pc1 := 87) 2 d11_setAnswer_86 rfl rfl ?_
          refine V_iload (pc1 := 89) 0 d11_setAnswer_87 rfl rfl ?_
          refine V_iconst (pc1 := 90) d11_setAnswer_89 vc_0 rfl ?_
          refine V_si (pc1 := 93) (w11_answer2 g  ni q 0 (256 * ni + 3 * q + 74) (by omega) (uI I 297 (256 * ni + 25) ((I 297 (256 * ni + 25)) + 1)) L ) s11_answer l11_70 rfl rfl ⟨Nat.le_of_ble_eq_true rfl, Nat.le_of_ble_eq_true rfl, Nat.le_refl _, Nat.le_refl _⟩ (Nat.le_of_ble_eq_true rfl) rfl d11_setAnswer_90 rfl ?_
          refine V_iload_n (pc1 := 94) 3 d11_setAnswer_93 rfl rfl ?_
          refine V_iast (pc1 := 95) (256 * ni + 3 * q + 74) ly297 (lt305 rfl) rfl (by omega) d11_setAnswer_94 rfl ?_
          refine V_aload_n (pc1 := 96) 1 d11_setAnswer_95 rfl rfl ?_
          refine V_getr (pc1 := 99) ly296 (lt305 rfl) f11_7 (fun _ => rfl) rf296_0 d11_setAnswer_96 rfl ?_
          refine V_iload_n (pc1 := 100) 2 d11_setAnswer_99 rfl rfl ?_
          refine V_iload (pc1 := 102) 0 d11_setAnswer_100 rfl rfl ?_
          refine V_iconst (pc1 := 103) d11_setAnswer_102 vc_1 rfl ?_
          refine V_si (pc1 := 106) (w11_answer2 g  ni q 1 (256 * ni + 3 * q + 75) (by omega) (uI (uI I 297 (256 * ni + 25) ((I 297 (256 * ni + 25)) + 1)) 297 (256 * ni + 3 * q + 74) idn) L ) s11_answer l11_70 rfl rfl ⟨Nat.le_of_ble_eq_true rfl, Nat.le_of_ble_eq_true rfl, Nat.le_refl _, Nat.le_refl _⟩ (Nat.le_of_ble_eq_true rfl) rfl d11_setAnswer_103 rfl ?_
          refine V_iload_n (pc1 := 107) 4 d11_setAnswer_106 rfl rfl ?_
          refine V_iast (pc1 := 108) (256 * ni + 3 * q + 75) ly297 (lt305 rfl) rfl (by omega) d11_setAnswer_107 rfl ?_
          refine V_aload_n (pc1 := 109) 1 d11_setAnswer_108 rfl rfl ?_
          refine V_getr (pc1 := 112) ly296 (lt305 rfl) f11_7 (fun _ => rfl) rf296_0 d11_setAnswer_109 rfl ?_
          refine V_iload_n (pc1 := 113) 2 d11_setAnswer_112 rfl rfl ?_
          refine V_iload (pc1 := 115) 0 d11_setAnswer_113 rfl rfl ?_
          refine V_iconst (pc1 := 116) d11_setAnswer_115 vc_2 rfl ?_
          refine V_si (pc1 := 119) (w11_answer2 g  ni q 2 (256 * ni + 3 * q + 76) (by omega) (uI (uI (uI I 297 (256 * ni + 25) ((I 297 (256 * ni + 25)) + 1)) 297 (256 * ni + 3 * q + 74) idn) 297 (256 * ni + 3 * q + 75) ln) L ) s11_answer l11_70 rfl rfl ⟨Nat.le_of_ble_eq_true rfl, Nat.le_of_ble_eq_true rfl, Nat.le_refl _, Nat.le_refl _⟩ (Nat.le_of_ble_eq_true rfl) rfl d11_setAnswer_116 rfl ?_
          refine V_iload (pc1 := 121) 5 d11_setAnswer_119 rfl rfl ?_
          refine V_iast (pc1 := 122) (256 * ni + 3 * q + 76) ly297 (lt305 rfl) rfl (by omega) d11_setAnswer_121 rfl ?_
          refine V_aload_n (pc1 := 123) 1 d11_setAnswer_122 rfl rfl ?_
          refine V_getr (pc1 := 126) ly296 (lt305 rfl) f11_7 (fun _ => rfl) rf296_0 d11_setAnswer_123 rfl ?_
          refine V_iload_n (pc1 := 127) 2 d11_setAnswer_126 rfl rfl ?_
          refine V_bipush (pc1 := 129) d11_setAnswer_127 vb_25 rfl ?_
          refine V_si (pc1 := 132) (w11_at2 g  ni 25 (256 * ni + 25) (by omega) (uI (uI (uI (uI I 297 (256 * ni + 25) ((I 297 (256 * ni + 25)) + 1)) 297 (256 * ni + 3 * q + 74) idn) 297 (256 * ni + 3 * q + 75) ln) 297 (256 * ni + 3 * q + 76) dt) L ) s11_at l11_35 rfl rfl ⟨Nat.le_of_ble_eq_true rfl, Nat.le_of_ble_eq_true rfl, Nat.le_refl _, Nat.le_refl _⟩ (Nat.le_of_ble_eq_true rfl) rfl d11_setAnswer_129 rfl ?_
          refine V_iald2 (pc1 := 133) (256 * ni + 25) ly297 (lt305 rfl) rfl (by omega) ((uI_ne (uI (uI (uI I 297 (256 * ni + 25) ((I 297 (256 * ni + 25)) + 1)) 297 (256 * ni + 3 * q + 74) idn) 297 (256 * ni + 3 * q + 75) ln) 297 dt (show (256 * ni + 25 : Nat) ≠ 256 * ni + 3 * q + 76 by omega)).trans ((uI_ne (uI (uI I 297 (256 * ni + 25) ((I 297 (256 * ni + 25)) + 1)) 297 (256 * ni + 3 * q + 74) idn) 297 ln (show (256 * ni + 25 : Nat) ≠ 256 * ni + 3 * q + 75 by omega)).trans ((uI_ne (uI I 297 (256 * ni + 25) ((I 297 (256 * ni + 25)) + 1)) 297 idn (show (256 * ni + 25 : Nat) ≠ 256 * ni + 3 * q + 74 by omega)).trans (uI_self I 297 (256 * ni + 25) ((I 297 (256 * ni + 25)) + 1))))) d11_setAnswer_132 rfl ?_
          refine V_iret rfl d11_setAnswer_133 (Nat.zero_le _) (Nat.zero_le _) ?_
          have hq2 := hq
          simp only [r11_setAnswer, i11_setAnswer, if_pos h1, hn3, hq3, if_pos h2, if_neg h3, if_neg h4] at hq2
          exact hq2
        · skip
          refine V_bipush (pc1 := 53) d11_setAnswer_51 vb_m3 rfl ?_
          refine V_iret rfl d11_setAnswer_53 (Nat.zero_le _) (Nat.zero_le _) ?_
          have hq2 := hq
          simp only [r11_setAnswer, i11_setAnswer, if_pos h1, hn3, hq3, if_pos h2, if_neg h3, if_pos h4] at hq2
          exact hq2
    · skip
      refine V_bipush (pc1 := 22) d11_setAnswer_20 vb_m2 rfl ?_
      refine V_iret rfl d11_setAnswer_22 (Nat.zero_le _) (Nat.zero_le _) ?_
      have hq2 := hq
      simp only [r11_setAnswer, i11_setAnswer, if_pos h1, hn3, hq3, if_neg h2] at hq2
      exact hq2
  · skip
    refine V_iconst (pc1 := 8) d11_setAnswer_7 vc_m1 rfl ?_
    refine V_iret rfl d11_setAnswer_8 (Nat.zero_le _) (Nat.zero_le _) ?_
    have hq2 := hq
    simp only [r11_setAnswer, i11_setAnswer, if_neg h1] at hq2
    exact hq2
theorem w11_setAnswer (g : GlT)  (nd : Int32) (idn : Int32) (ln : Int32) (dt : Int32) (I : Nat → Nat → Int32) (L : Nat → Nat → Int64) (hv : rV I) : Call g (k11_setAnswer, 3, 0, 0) [.ref (xA g 296), .int nd, .int idn, .int ln, .int dt] (I, L, R0, 305) (Qi (r11_setAnswer nd idn ln dt I L) (i11_setAnswer nd idn ln dt I L) L) := Call.of (by decide) (Nat.le_of_ble_eq_true rfl) rfl (v11_setAnswer g  nd idn ln dt  I L hv _ (And.intro rfl rfl))


def r11_removeAnswer_46 (nd : Int32) (idn : Int32) : Nat → Nat → Nat → Nat → (Nat → Nat → Int32) → (Nat → Nat → Int64) → Int32
  | 0, t, ni, q, I, L => I 297 (256 * ni + 25)
  | n + 1, t, ni, q, I, L => r11_removeAnswer_46 nd idn n (t + 1) ni q (uI I 297 (256 * ni + t) (I 297 (256 * ni + t + 3))) L
def i11_removeAnswer_46 (nd : Int32) (idn : Int32) : Nat → Nat → Nat → Nat → (Nat → Nat → Int32) → (Nat → Nat → Int64) → (Nat → Nat → Int32)
  | 0, t, ni, q, I, L => I
  | n + 1, t, ni, q, I, L => i11_removeAnswer_46 nd idn n (t + 1) ni q (uI I 297 (256 * ni + t) (I 297 (256 * ni + t + 3))) L
set_option maxRecDepth 4000 in
theorem t11_removeAnswer_46 (g : GlT)  (nd : Int32) (idn : Int32)  : ∀ (n t ni q : Nat) (I : Nat → Nat → Int32) (L : Nat → Nat → Int64), (hni : ni < 4) → (hq0 : I 297 (256 * ni + 25) = nI q) → (hq3 : q ≤ 3) → (hn : t + n = 3 * q + 74) → (ht : 74 ≤ t) → ∀ (Q : Option Value → MemT → Prop), Q (some (.int (r11_removeAnswer_46 nd idn n t ni q I L))) (i11_removeAnswer_46 nd idn n t ni q I L, L, R0, 305) → V g (k11_removeAnswer, 3, 0, 0) 0 0 46 [(0, .ref (xA g 296)), (1, .int (nI ni)), (4, .int (nI (256 * ni + t)))] [] (I, L, R0, 305) Q := by
  intro n
  induction n with
  | zero =>
    intro t ni q I L hni hq0 hq3 hn ht Q hq
    refine V_iload (pc1 := 48) 2 d11_removeAnswer_46 rfl rfl ?_
    refine V_iload_n (pc1 := 49) 1 d11_removeAnswer_48 rfl rfl ?_
    refine V_aload_n (pc1 := 50) 0 d11_removeAnswer_49 rfl rfl ?_
    refine V_getr (pc1 := 53) ly296 (lt305 rfl) f11_7 (fun _ => rfl) rf296_0 d11_removeAnswer_50 rfl ?_
    refine V_iload_n (pc1 := 54) 1 d11_removeAnswer_53 rfl rfl ?_
    refine V_bipush (pc1 := 56) d11_removeAnswer_54 vb_25 rfl ?_
    refine V_si (pc1 := 59) (w11_at2 g  ni 25 (256 * ni + 25) (by omega) I L ) s11_at l11_35 rfl rfl ⟨Nat.le_of_ble_eq_true rfl, Nat.le_of_ble_eq_true rfl, Nat.le_refl _, Nat.le_refl _⟩ (Nat.le_of_ble_eq_true rfl) rfl d11_removeAnswer_56 rfl ?_
    refine V_iald2 (pc1 := 60) (256 * ni + 25) ly297 (lt305 rfl) rfl (by omega) hq0 d11_removeAnswer_59 rfl ?_
    refine V_iconst (pc1 := 61) d11_removeAnswer_60 vc_0 rfl ?_
    refine V_si (pc1 := 64) (w11_answer2 g  ni q 0 (256 * ni + 3 * q + 74) (by omega) I L ) s11_answer l11_70 rfl rfl ⟨Nat.le_of_ble_eq_true rfl, Nat.le_of_ble_eq_true rfl, Nat.le_refl _, Nat.le_refl _⟩ (Nat.le_of_ble_eq_true rfl) rfl d11_removeAnswer_61 rfl ?_
    refine V_icmp_ge (tgt := 89) (pc1 := 67) d11_removeAnswer_64 (by decide) rfl (fun _ => ?_) (fun h1 => absurd (nI_le (by omega) (by omega)) h1)
    refine V_aload_n (pc1 := 90) 0 d11_removeAnswer_89 rfl rfl ?_
    refine V_getr (pc1 := 93) ly296 (lt305 rfl) f11_7 (fun _ => rfl) rf296_0 d11_removeAnswer_90 rfl ?_
    refine V_iload_n (pc1 := 94) 1 d11_removeAnswer_93 rfl rfl ?_
    refine V_bipush (pc1 := 96) d11_removeAnswer_94 vb_25 rfl ?_
    refine V_si (pc1 := 99) (w11_at2 g  ni 25 (256 * ni + 25) (by omega) I L ) s11_at l11_35 rfl rfl ⟨Nat.le_of_ble_eq_true rfl, Nat.le_of_ble_eq_true rfl, Nat.le_refl _, Nat.le_refl _⟩ (Nat.le_of_ble_eq_true rfl) rfl d11_removeAnswer_96 rfl ?_
    refine V_iald2 (pc1 := 100) (256 * ni + 25) ly297 (lt305 rfl) rfl (by omega) rfl d11_removeAnswer_99 rfl ?_
    refine V_iret rfl d11_removeAnswer_100 (Nat.zero_le _) (Nat.zero_le _) ?_
    have hq2 := hq
    simp only [r11_removeAnswer_46, i11_removeAnswer_46] at hq2
    exact hq2
  | succ n ih =>
    intro t ni q I L hni hq0 hq3 hn ht Q hq
    refine V_iload (pc1 := 48) 2 d11_removeAnswer_46 rfl rfl ?_
    refine V_iload_n (pc1 := 49) 1 d11_removeAnswer_48 rfl rfl ?_
    refine V_aload_n (pc1 := 50) 0 d11_removeAnswer_49 rfl rfl ?_
    refine V_getr (pc1 := 53) ly296 (lt305 rfl) f11_7 (fun _ => rfl) rf296_0 d11_removeAnswer_50 rfl ?_
    refine V_iload_n (pc1 := 54) 1 d11_removeAnswer_53 rfl rfl ?_
    refine V_bipush (pc1 := 56) d11_removeAnswer_54 vb_25 rfl ?_
    refine V_si (pc1 := 59) (w11_at2 g  ni 25 (256 * ni + 25) (by omega) I L ) s11_at l11_35 rfl rfl ⟨Nat.le_of_ble_eq_true rfl, Nat.le_of_ble_eq_true rfl, Nat.le_refl _, Nat.le_refl _⟩ (Nat.le_of_ble_eq_true rfl) rfl d11_removeAnswer_56 rfl ?_
    refine V_iald2 (pc1 := 60) (256 * ni + 25) ly297 (lt305 rfl) rfl (by omega) hq0 d11_removeAnswer_59 rfl ?_
    refine V_iconst (pc1 := 61) d11_removeAnswer_60 vc_0 rfl ?_
    refine V_si (pc1 := 64) (w11_answer2 g  ni q 0 (256 * ni + 3 * q + 74) (by omega) I L ) s11_answer l11_70 rfl rfl ⟨Nat.le_of_ble_eq_true rfl, Nat.le_of_ble_eq_true rfl, Nat.le_refl _, Nat.le_refl _⟩ (Nat.le_of_ble_eq_true rfl) rfl d11_removeAnswer_61 rfl ?_
    refine V_icmp_ge (tgt := 89) (pc1 := 67) d11_removeAnswer_64 (by decide) rfl (fun h1 => absurd h1 (nI_ge (by omega) (by omega))) (fun _ => ?_)
    refine V_aload_n (pc1 := 68) 0 d11_removeAnswer_67 rfl rfl ?_
    refine V_getr (pc1 := 71) ly296 (lt305 rfl) f11_7 (fun _ => rfl) rf296_0 d11_removeAnswer_68 rfl ?_
    refine V_iload (pc1 := 73) 2 d11_removeAnswer_71 rfl rfl ?_
    refine V_aload_n (pc1 := 74) 0 d11_removeAnswer_73 rfl rfl ?_
    refine V_getr (pc1 := 77) ly296 (lt305 rfl) f11_7 (fun _ => rfl) rf296_0 d11_removeAnswer_74 rfl ?_
    refine V_iload (pc1 := 79) 2 d11_removeAnswer_77 rfl rfl ?_
    refine V_iconst (pc1 := 80) d11_removeAnswer_79 vc_3 rfl ?_
    refine V_addN (pc1 := 81) (a := 256 * ni + t) (b := 3) (c := 256 * ni + t + 3) rfl rfl (by omega) d11_removeAnswer_80 rfl ?_
    refine V_iald2 (pc1 := 82) (256 * ni + t + 3) ly297 (lt305 rfl) rfl (by omega) rfl d11_removeAnswer_81 rfl ?_
    refine V_iast (pc1 := 83) (256 * ni + t) ly297 (lt305 rfl) rfl (by omega) d11_removeAnswer_82 rfl ?_
    refine V_iinc (pc1 := 86) 2 (v := nI ((256 * ni + t) + 1)) d11_removeAnswer_83 rfl (nI_1 _) (Nat.le_of_ble_eq_true rfl) rfl rfl ?_
    refine V_goto (tgt := 46) d11_removeAnswer_86 (by decide) ?_
    refine V_lv (lv1 := [(0, .ref (xA g 296)), (1, .int (nI ni)), (4, .int (nI (256 * ni + (t + 1))))]) (lvsub_p [1, 2, 0] rfl) ?_
    have hq2 := hq
    simp only [r11_removeAnswer_46, i11_removeAnswer_46] at hq2
    exact ih (t + 1) ni q (uI I 297 (256 * ni + t) (I 297 (256 * ni + t + 3))) L hni ((uI_ne I 297 (I 297 (256 * ni + t + 3)) (show (256 * ni + 25 : Nat) ≠ 256 * ni + t by omega)).trans hq0) hq3 (by omega) (by omega) Q hq2
def r11_removeAnswer (nd : Int32) (idn : Int32) (I : Nat → Nat → Int32) (L : Nat → Nat → Int64) : Int32 := (if (r11_isNode nd) = true then (if 0 ≤ r11_answerFor (nd.toNatClampNeg) idn I L then r11_removeAnswer_46 nd idn (3 * (((I 297 (256 * (nd.toNatClampNeg) + 25)).toNatClampNeg) - 1 - ((r11_answerFor (nd.toNatClampNeg) idn I L).toNatClampNeg))) (3 * ((r11_answerFor (nd.toNatClampNeg) idn I L).toNatClampNeg) + 74) (nd.toNatClampNeg) (((I 297 (256 * (nd.toNatClampNeg) + 25)).toNatClampNeg) - 1) (uI I 297 (256 * (nd.toNatClampNeg) + 25) (nI (((I 297 (256 * (nd.toNatClampNeg) + 25)).toNatClampNeg) - 1))) L else (-5)) else (-1))
def i11_removeAnswer (nd : Int32) (idn : Int32) (I : Nat → Nat → Int32) (L : Nat → Nat → Int64) : Nat → Nat → Int32 := (if (r11_isNode nd) = true then (if 0 ≤ r11_answerFor (nd.toNatClampNeg) idn I L then i11_removeAnswer_46 nd idn (3 * (((I 297 (256 * (nd.toNatClampNeg) + 25)).toNatClampNeg) - 1 - ((r11_answerFor (nd.toNatClampNeg) idn I L).toNatClampNeg))) (3 * ((r11_answerFor (nd.toNatClampNeg) idn I L).toNatClampNeg) + 74) (nd.toNatClampNeg) (((I 297 (256 * (nd.toNatClampNeg) + 25)).toNatClampNeg) - 1) (uI I 297 (256 * (nd.toNatClampNeg) + 25) (nI (((I 297 (256 * (nd.toNatClampNeg) + 25)).toNatClampNeg) - 1))) L else I) else I)
set_option maxRecDepth 4000 in
theorem v11_removeAnswer (g : GlT)  (nd : Int32) (idn : Int32) (I : Nat → Nat → Int32) (L : Nat → Nat → Int64) (hv : rV I) (Q : Option Value → MemT → Prop) (hq : Q (some (.int (r11_removeAnswer nd idn I L))) (i11_removeAnswer nd idn I L, L, R0, 305)) : V g (k11_removeAnswer, 3, 0, 0) 0 0 0 [(0, .ref (xA g 296)), (1, .int nd), (2, .int idn)] [] (I, L, R0, 305) Q := by
  refine V_iload_n (pc1 := 1) 1 d11_removeAnswer_0 rfl rfl ?_
  refine V_si (pc1 := 4) (w11_isNode g  nd  I L ) s11_isNode l11_66 rfl rfl ⟨Nat.le_of_ble_eq_true rfl, Nat.le_of_ble_eq_true rfl, Nat.le_refl _, Nat.le_refl _⟩ (Nat.le_of_ble_eq_true rfl) rfl d11_removeAnswer_1 rfl ?_
  refine V_bne (tgt := 9) (pc1 := 7) d11_removeAnswer_4 (by decide) rfl (fun h1 => ?_) (fun h1 => ?_)
  · skip
    obtain ⟨ni, hni, rfl⟩ := isNode11 h1
    have hn3 : (nI ni).toNatClampNeg = ni := nI_clamp (by omega)
    obtain ⟨⟨w, hw4, hw⟩, ⟨r, hr6, hr⟩, q, hq4, hq0⟩ := hv ni hni
    have hq3 : (I 297 (256 * ni + 25)).toNatClampNeg = q := by rw [hq0]; exact nI_clamp (by omega)
    refine V_aload_n (pc1 := 10) 0 d11_removeAnswer_9 rfl rfl ?_
    refine V_iload_n (pc1 := 11) 1 d11_removeAnswer_10 rfl rfl ?_
    refine V_iload_n (pc1 := 12) 2 d11_removeAnswer_11 rfl rfl ?_
    refine V_vi (pc1 := 15) (w11_answerFor g  ni idn hni q hq4 I L hq0) ly296 (lt305 rfl) s11_answerFor l11_74 rfl rfl ⟨Nat.le_of_ble_eq_true rfl, Nat.le_of_ble_eq_true rfl, Nat.le_refl _, Nat.le_refl _⟩ (Nat.le_of_ble_eq_true rfl) rfl d11_removeAnswer_12 rfl ?_
    refine V_istore_n (pc1 := 16) d11_removeAnswer_15 (Nat.le_of_ble_eq_true rfl) rfl rfl ?_
    refine V_iload_n (pc1 := 17) 0 d11_removeAnswer_16 rfl rfl ?_
    refine V_if_ge (tgt := 23) (pc1 := 20) d11_removeAnswer_17 (by decide) rfl (fun h2 => ?_) (fun h2 => ?_)
    · skip
      obtain ⟨p, hp, hpe⟩ := af_n hq0 hq4 h2
      have hp3 : (r11_answerFor ni idn I L).toNatClampNeg = p := by rw [hpe]; exact nI_clamp (by omega)
      rw [hpe]
      refine V_aload_n (pc1 := 24) 1 d11_removeAnswer_23 rfl rfl ?_
      refine V_getr (pc1 := 27) ly296 (lt305 rfl) f11_7 (fun _ => rfl) rf296_0 d11_removeAnswer_24 rfl ?_
      refine V_iload_n (pc1 := 28) 2 d11_removeAnswer_27 rfl rfl ?_
      refine V_bipush (pc1 := 30) d11_removeAnswer_28 vb_25 rfl ?_
      refine V_si (pc1 := 33) (w11_at2 g  ni 25 (256 * ni + 25) (by omega) I L ) s11_at l11_35 rfl rfl ⟨Nat.le_of_ble_eq_true rfl, Nat.le_of_ble_eq_true rfl, Nat.le_refl _, Nat.le_refl _⟩ (Nat.le_of_ble_eq_true rfl) rfl d11_removeAnswer_30 rfl ?_
      refine V_dup2 (pc1 := 34) d11_removeAnswer_33 rfl rfl rfl ?_
      refine V_iald2 (pc1 := 35) (256 * ni + 25) ly297 (lt305 rfl) rfl (by omega) hq0 d11_removeAnswer_34 rfl ?_
      refine V_iconst (pc1 := 36) d11_removeAnswer_35 vc_1 rfl ?_
      refine V_subN (pc1 := 37) (a := q) (b := 1) (c := q - 1) rfl rfl (by omega) d11_removeAnswer_36 rfl ?_
      refine V_iast (pc1 := 38) (256 * ni + 25) ly297 (lt305 rfl) rfl (by omega) d11_removeAnswer_37 rfl ?_
      refine V_iload_n (pc1 := 39) 2 d11_removeAnswer_38 rfl rfl ?_
      refine V_iload_n (pc1 := 40) 0 d11_removeAnswer_39 rfl rfl ?_
      refine V_iconst (pc1 := 41) d11_removeAnswer_40 vc_0 rfl ?_
      refine V_si (pc1 := 44) (w11_answer2 g  ni p 0 (256 * ni + 3 * p + 74) (by omega) (uI I 297 (256 * ni + 25) (nI (q - 1))) L ) s11_answer l11_70 rfl rfl ⟨Nat.le_of_ble_eq_true rfl, Nat.le_of_ble_eq_true rfl, Nat.le_refl _, Nat.le_refl _⟩ (Nat.le_of_ble_eq_true rfl) rfl d11_removeAnswer_41 rfl ?_
      refine V_istore (pc1 := 46) d11_removeAnswer_44 (Nat.le_of_ble_eq_true rfl) rfl rfl ?_
      refine V_lv (lv1 := [(0, .ref (xA g 296)), (1, .int (nI ni)), (4, .int (nI (256 * ni + (3 * p + 74))))]) (lvsub_p [2, 3, 0] rfl) ?_
      have hq2 := hq
      simp only [r11_removeAnswer, i11_removeAnswer, if_pos h1, hn3, hq3, if_pos h2, hp3] at hq2
      exact t11_removeAnswer_46 g  _ _  (3 * (q - 1 - p)) (3 * p + 74) ni (q - 1) (uI I 297 (256 * ni + 25) (nI (q - 1))) L hni (uI_self I 297 (256 * ni + 25) (nI (q - 1))) (by omega) (by omega) (by omega) Q hq2
    · skip
      refine V_bipush (pc1 := 22) d11_removeAnswer_20 vb_m5 rfl ?_
      refine V_iret rfl d11_removeAnswer_22 (Nat.zero_le _) (Nat.zero_le _) ?_
      have hq2 := hq
      simp only [r11_removeAnswer, i11_removeAnswer, if_pos h1, hn3, hq3, if_neg h2] at hq2
      exact hq2
  · skip
    refine V_iconst (pc1 := 8) d11_removeAnswer_7 vc_m1 rfl ?_
    refine V_iret rfl d11_removeAnswer_8 (Nat.zero_le _) (Nat.zero_le _) ?_
    have hq2 := hq
    simp only [r11_removeAnswer, i11_removeAnswer, if_neg h1] at hq2
    exact hq2
theorem w11_removeAnswer (g : GlT)  (nd : Int32) (idn : Int32) (I : Nat → Nat → Int32) (L : Nat → Nat → Int64) (hv : rV I) : Call g (k11_removeAnswer, 3, 0, 0) [.ref (xA g 296), .int nd, .int idn] (I, L, R0, 305) (Qi (r11_removeAnswer nd idn I L) (i11_removeAnswer nd idn I L) L) := Call.of (by decide) (Nat.le_of_ble_eq_true rfl) rfl (v11_removeAnswer g  nd idn  I L hv _ (And.intro rfl rfl))


def r11_attach_35 (nd : Int32) : Nat → Nat → Int32 → (Nat → Nat → Int32) → (Nat → Nat → Int64) → Int32
  | 0, i, z, I, L => z
  | n + 1, i, z, I, L => r11_attach_35 nd n (i + 1) (z + (bI (if I 297 (256 * i) = 0 then false else true))) I L
set_option maxRecDepth 4000 in
theorem t11_attach_35 (g : GlT)  (nd : Int32)  : ∀ (n i : Nat) (z : Int32) (I : Nat → Nat → Int32) (L : Nat → Nat → Int64), (hn : i + n = 4) → ∀ (Q : Option Value → MemT → Prop), Q (some (.int (r11_attach_35 nd n i z I L))) (I, L, R0, 305) → V g (k11_attach, 4, 0, 0) 0 0 35 [(0, .ref (xA g 296)), (2, .int z), (3, .int (nI i))] [] (I, L, R0, 305) Q := by
  intro n
  induction n with
  | zero =>
    intro i z I L hn Q hq
    refine V_iload_n (pc1 := 36) 2 d11_attach_35 rfl rfl ?_
    refine V_iconst (pc1 := 37) d11_attach_36 vc_4 rfl ?_
    refine V_icmp_ge (tgt := 67) (pc1 := 40) d11_attach_37 (by decide) rfl (fun _ => ?_) (fun h1 => absurd (by rw [show i = 4 by omega]; decide) h1)
    refine V_iload_n (pc1 := 68) 1 d11_attach_67 rfl rfl ?_
    refine V_iret rfl d11_attach_68 (Nat.zero_le _) (Nat.zero_le _) ?_
    have hq2 := hq
    simp only [r11_attach_35] at hq2
    exact hq2
  | succ n ih =>
    intro i z I L hn Q hq
    refine V_iload_n (pc1 := 36) 2 d11_attach_35 rfl rfl ?_
    refine V_iconst (pc1 := 37) d11_attach_36 vc_4 rfl ?_
    refine V_icmp_ge (tgt := 67) (pc1 := 40) d11_attach_37 (by decide) rfl (fun h1 => absurd h1 (nI_ge (b := 4) (by omega) (by omega))) (fun _ => ?_)
    refine V_iload_n (pc1 := 41) 1 d11_attach_40 rfl rfl ?_
    refine V_aload_n (pc1 := 42) 0 d11_attach_41 rfl rfl ?_
    refine V_getr (pc1 := 45) ly296 (lt305 rfl) f11_7 (fun _ => rfl) rf296_0 d11_attach_42 rfl ?_
    refine V_iload_n (pc1 := 46) 2 d11_attach_45 rfl rfl ?_
    refine V_iconst (pc1 := 47) d11_attach_46 vc_0 rfl ?_
    refine V_si (pc1 := 50) (w11_at2 g  i 0 (256 * i) (by omega) I L ) s11_at l11_35 rfl rfl ⟨Nat.le_of_ble_eq_true rfl, Nat.le_of_ble_eq_true rfl, Nat.le_refl _, Nat.le_refl _⟩ (Nat.le_of_ble_eq_true rfl) rfl d11_attach_47 rfl ?_
    refine V_iald2 (pc1 := 51) (256 * i) ly297 (lt305 rfl) rfl (by omega) rfl d11_attach_50 rfl ?_
    have key3 : ∀ (y59_0 : Int32), y59_0 = bI (if I 297 (256 * i) = 0 then false else true) → ∀ (lv : List (Nat × Value)), lvsub [(0, .ref (xA g 296)), (2, .int z), (3, .int (nI i))] lv → V g (k11_attach, 4, 0, 0) 0 0 59 lv [.int y59_0, .int z] (I, L, R0, 305) Q := by
      intro y59_0 ey59_0
      subst ey59_0
      intro lv hlv
      refine V_lv hlv ?_
      refine V_iadd (pc1 := 60) d11_attach_59 rfl ?_
      refine V_istore_n (pc1 := 61) d11_attach_60 (Nat.le_of_ble_eq_true rfl) rfl rfl ?_
      refine V_iinc (pc1 := 64) 2 (v := nI (i + 1)) d11_attach_61 rfl (nI_1 _) (Nat.le_of_ble_eq_true rfl) rfl rfl ?_
      refine V_goto (tgt := 35) d11_attach_64 (by decide) ?_
      refine V_lv (lv1 := [(0, .ref (xA g 296)), (2, .int (z + (bI (if I 297 (256 * i) = 0 then false else true)))), (3, .int (nI (i + 1)))]) (lvsub_p [2, 1, 0] rfl) ?_
      have hq2 := hq
      simp only [r11_attach_35] at hq2
      exact ih (i + 1) (z + (bI (if I 297 (256 * i) = 0 then false else true))) I L (by omega) Q hq2
    refine V_if_ne (tgt := 58) (pc1 := 54) d11_attach_51 (by decide) rfl (fun h2 => ?_) (fun h2 => ?_)
    · skip
      refine V_iconst (pc1 := 59) d11_attach_58 vc_1 rfl ?_
      exact key3 _ (by first | rfl | (simp only [if_neg h2]; done) | (simp only [if_neg h2]; rfl)) _ (lvsub_p [0, 1, 2] rfl)
    · skip
      refine V_iconst (pc1 := 55) d11_attach_54 vc_0 rfl ?_
      refine V_goto (tgt := 59) d11_attach_55 (by decide) ?_
      exact key3 _ (by first | rfl | (simp only [if_pos h2]; done) | (simp only [if_pos h2]; rfl)) _ (lvsub_p [0, 1, 2] rfl)
def r11_attach (nd : Int32) (I : Nat → Nat → Int32) (L : Nat → Nat → Int64) : Int32 := (if (r11_isNode nd) = true then (if I 297 (256 * (nd.toNatClampNeg)) = 0 then r11_attach_35 nd 4 0 0 (i11_goes (nd.toNatClampNeg) 2 I L) L else (-4)) else (-1))
def i11_attach (nd : Int32) (I : Nat → Nat → Int32) (L : Nat → Nat → Int64) : Nat → Nat → Int32 := (if (r11_isNode nd) = true then (if I 297 (256 * (nd.toNatClampNeg)) = 0 then i11_goes (nd.toNatClampNeg) 2 I L else I) else I)
set_option maxRecDepth 4000 in
theorem v11_attach (g : GlT)  (nd : Int32) (I : Nat → Nat → Int32) (L : Nat → Nat → Int64) (hv : rV I) (Q : Option Value → MemT → Prop) (hq : Q (some (.int (r11_attach nd I L))) (i11_attach nd I L, L, R0, 305)) : V g (k11_attach, 4, 0, 0) 0 0 0 [(0, .ref (xA g 296)), (1, .int nd)] [] (I, L, R0, 305) Q := by
  refine V_iload_n (pc1 := 1) 1 d11_attach_0 rfl rfl ?_
  refine V_si (pc1 := 4) (w11_isNode g  nd  I L ) s11_isNode l11_66 rfl rfl ⟨Nat.le_of_ble_eq_true rfl, Nat.le_of_ble_eq_true rfl, Nat.le_refl _, Nat.le_refl _⟩ (Nat.le_of_ble_eq_true rfl) rfl d11_attach_1 rfl ?_
  refine V_bne (tgt := 9) (pc1 := 7) d11_attach_4 (by decide) rfl (fun h1 => ?_) (fun h1 => ?_)
  · skip
    obtain ⟨ni, hni, rfl⟩ := isNode11 h1
    have hn3 : (nI ni).toNatClampNeg = ni := nI_clamp (by omega)
    obtain ⟨⟨w, hw4, hw⟩, ⟨r, hr6, hr⟩, q, hq4, hq0⟩ := hv ni hni
    refine V_aload_n (pc1 := 10) 0 d11_attach_9 rfl rfl ?_
    refine V_getr (pc1 := 13) ly296 (lt305 rfl) f11_7 (fun _ => rfl) rf296_0 d11_attach_10 rfl ?_
    refine V_iload_n (pc1 := 14) 1 d11_attach_13 rfl rfl ?_
    refine V_iconst (pc1 := 15) d11_attach_14 vc_0 rfl ?_
    refine V_si (pc1 := 18) (w11_at2 g  ni 0 (256 * ni) (by omega) I L ) s11_at l11_35 rfl rfl ⟨Nat.le_of_ble_eq_true rfl, Nat.le_of_ble_eq_true rfl, Nat.le_refl _, Nat.le_refl _⟩ (Nat.le_of_ble_eq_true rfl) rfl d11_attach_15 rfl ?_
    refine V_iald2 (pc1 := 19) (256 * ni) ly297 (lt305 rfl) rfl (by omega) rfl d11_attach_18 rfl ?_
    refine V_if_eq (tgt := 25) (pc1 := 22) d11_attach_19 (by decide) rfl (fun h2 => ?_) (fun h2 => ?_)
    · skip
      refine V_aload_n (pc1 := 26) 0 d11_attach_25 rfl rfl ?_
      refine V_iload_n (pc1 := 27) 1 d11_attach_26 rfl rfl ?_
      refine V_iconst (pc1 := 28) d11_attach_27 vc_2 rfl ?_
      refine V_vv (pc1 := 31) (w11_goes g  ni 2 hni I L ) ly296 (lt305 rfl) s11_goes l11_84 rfl rfl ⟨Nat.le_of_ble_eq_true rfl, Nat.le_of_ble_eq_true rfl, Nat.le_refl _, Nat.le_refl _⟩ (Nat.le_of_ble_eq_true rfl) rfl d11_attach_28 rfl ?_
      refine V_iconst (pc1 := 32) d11_attach_31 vc_0 rfl ?_
      refine V_istore_n (pc1 := 33) d11_attach_32 (Nat.le_of_ble_eq_true rfl) rfl rfl ?_
      refine V_iconst (pc1 := 34) d11_attach_33 vc_0 rfl ?_
      refine V_istore_n (pc1 := 35) d11_attach_34 (Nat.le_of_ble_eq_true rfl) rfl rfl ?_
      refine V_lv (lv1 := [(0, .ref (xA g 296)), (2, .int 0), (3, .int (nI 0))]) (lvsub_p [2, 1, 0] rfl) ?_
      have hq2 := hq
      simp only [r11_attach, i11_attach, if_pos h1, hn3, if_pos h2] at hq2
      exact t11_attach_35 g  _  4 0 0 (i11_goes ni 2 I L) L rfl Q hq2
    · skip
      refine V_bipush (pc1 := 24) d11_attach_22 vb_m4 rfl ?_
      refine V_iret rfl d11_attach_24 (Nat.zero_le _) (Nat.zero_le _) ?_
      have hq2 := hq
      simp only [r11_attach, i11_attach, if_pos h1, hn3, if_neg h2] at hq2
      exact hq2
  · skip
    refine V_iconst (pc1 := 8) d11_attach_7 vc_m1 rfl ?_
    refine V_iret rfl d11_attach_8 (Nat.zero_le _) (Nat.zero_le _) ?_
    have hq2 := hq
    simp only [r11_attach, i11_attach, if_neg h1] at hq2
    exact hq2
theorem w11_attach (g : GlT)  (nd : Int32) (I : Nat → Nat → Int32) (L : Nat → Nat → Int64) (hv : rV I) : Call g (k11_attach, 4, 0, 0) [.ref (xA g 296), .int nd] (I, L, R0, 305) (Qi (r11_attach nd I L) (i11_attach nd I L) L) := Call.of (by decide) (Nat.le_of_ble_eq_true rfl) rfl (v11_attach g  nd  I L hv _ (And.intro rfl rfl))


def r11_request (nd : Int32) (idn : Int32) (rm : Int32) (ln : Int32) (dt : Int32) (I : Nat → Nat → Int32) (L : Nat → Nat → Int64) : Int32 := (if (r11_isNode nd) = true then (if (r11_isFrame idn rm ln dt) = true then (if (r11_isRoom (nd.toNatClampNeg) I L) = true then (i11_waits (nd.toNatClampNeg) idn (bI (if rm = 0 then false else true)) ln dt I L) 297 (256 * (nd.toNatClampNeg) + 23) else (-3)) else (-2)) else (-1))
def i11_request (nd : Int32) (idn : Int32) (rm : Int32) (ln : Int32) (dt : Int32) (I : Nat → Nat → Int32) (L : Nat → Nat → Int64) : Nat → Nat → Int32 := (if (r11_isNode nd) = true then (if (r11_isFrame idn rm ln dt) = true then (if (r11_isRoom (nd.toNatClampNeg) I L) = true then i11_waits (nd.toNatClampNeg) idn (bI (if rm = 0 then false else true)) ln dt I L else I) else I) else I)
set_option maxRecDepth 4000 in
theorem v11_request (g : GlT)  (nd : Int32) (idn : Int32) (rm : Int32) (ln : Int32) (dt : Int32) (I : Nat → Nat → Int32) (L : Nat → Nat → Int64) (hv : rV I) (Q : Option Value → MemT → Prop) (hq : Q (some (.int (r11_request nd idn rm ln dt I L))) (i11_request nd idn rm ln dt I L, L, R0, 305)) : V g (k11_request, 3, 0, 0) 0 0 0 [(0, .ref (xA g 296)), (1, .int nd), (2, .int idn), (3, .int rm), (4, .int ln), (5, .int dt)] [] (I, L, R0, 305) Q := by
  refine V_iload_n (pc1 := 1) 1 d11_request_0 rfl rfl ?_
  refine V_si (pc1 := 4) (w11_isNode g  nd  I L ) s11_isNode l11_66 rfl rfl ⟨Nat.le_of_ble_eq_true rfl, Nat.le_of_ble_eq_true rfl, Nat.le_refl _, Nat.le_refl _⟩ (Nat.le_of_ble_eq_true rfl) rfl d11_request_1 rfl ?_
  refine V_bne (tgt := 9) (pc1 := 7) d11_request_4 (by decide) rfl (fun h1 => ?_) (fun h1 => ?_)
  · skip
    obtain ⟨ni, hni, rfl⟩ := isNode11 h1
    have hn3 : (nI ni).toNatClampNeg = ni := nI_clamp (by omega)
    obtain ⟨⟨w, hw4, hw⟩, ⟨r, hr6, hr⟩, q, hq4, hq0⟩ := hv ni hni
    refine V_iload_n (pc1 := 10) 2 d11_request_9 rfl rfl ?_
    refine V_iload_n (pc1 := 11) 3 d11_request_10 rfl rfl ?_
    refine V_iload (pc1 := 13) 4 d11_request_11 rfl rfl ?_
    refine V_iload (pc1 := 15) 5 d11_request_13 rfl rfl ?_
    refine V_si (pc1 := 18) (w11_isFrame g  idn rm ln dt  I L ) s11_isFrame l11_51 rfl rfl ⟨Nat.le_of_ble_eq_true rfl, Nat.le_of_ble_eq_true rfl, Nat.le_refl _, Nat.le_refl _⟩ (Nat.le_of_ble_eq_true rfl) rfl d11_request_15 rfl ?_
    refine V_bne (tgt := 24) (pc1 := 21) d11_request_18 (by decide) rfl (fun h2 => ?_) (fun h2 => ?_)
    · skip
      refine V_aload_n (pc1 := 25) 0 d11_request_24 rfl rfl ?_
      refine V_iload_n (pc1 := 26) 1 d11_request_25 rfl rfl ?_
      refine V_vi (pc1 := 29) (w11_isRoom g  ni hni I L ) ly296 (lt305 rfl) s11_isRoom l11_88 rfl rfl ⟨Nat.le_of_ble_eq_true rfl, Nat.le_of_ble_eq_true rfl, Nat.le_refl _, Nat.le_refl _⟩ (Nat.le_of_ble_eq_true rfl) rfl d11_request_26 rfl ?_
      refine V_bne (tgt := 35) (pc1 := 32) d11_request_29 (by decide) rfl (fun h3 => ?_) (fun h3 => ?_)
      · skip
        refine V_aload_n (pc1 := 36) 0 d11_request_35 rfl rfl ?_
        refine V_iload_n (pc1 := 37) 1 d11_request_36 rfl rfl ?_
        refine V_iload_n (pc1 := 38) 2 d11_request_37 rfl rfl ?_
        refine V_iload_n (pc1 := 39) 3 d11_request_38 rfl rfl ?_
        have key5 : ∀ (y47_0 : Int32), y47_0 = bI (if rm = 0 then false else true) → ∀ (lv : List (Nat × Value)), lvsub [(0, .ref (xA g 296)), (1, .int (nI ni)), (2, .int idn), (3, .int rm), (4, .int ln), (5, .int dt)] lv → V g (k11_request, 3, 0, 0) 0 0 47 lv [.int y47_0, .int idn, .int (nI ni), .ref (xA g 296)] (I, L, R0, 305) Q := by
          intro y47_0 ey47_0
          subst ey47_0
          intro lv hlv
          refine V_lv hlv ?_
          refine V_iload (pc1 := 49) 4 d11_request_47 rfl rfl ?_
          refine V_iload (pc1 := 51) 5 d11_request_49 rfl rfl ?_
          refine V_vv (pc1 := 54) (w11_waits g  ni idn (bI (if rm = 0 then false else true)) ln dt hni w (room_lt hw hw4 h3) I L hw) ly296 (lt305 rfl) s11_waits l11_91 rfl rfl ⟨Nat.le_of_ble_eq_true rfl, Nat.le_of_ble_eq_true rfl, Nat.le_refl _, Nat.le_refl _⟩ (Nat.le_of_ble_eq_true rfl) rfl d11_request_51 rfl ?_
          refine V_aload_n (pc1 := 55) 0 d11_request_54 rfl rfl ?_
          refine V_getr (pc1 := 58) ly296 (lt305 rfl) f11_7 (fun _ => rfl) rf296_0 d11_request_55 rfl ?_
          refine V_iload_n (pc1 := 59) 1 d11_request_58 rfl rfl ?_
          refine V_bipush (pc1 := 61) d11_request_59 vb_23 rfl ?_
          refine V_si (pc1 := 64) (w11_at2 g  ni 23 (256 * ni + 23) (by omega) (i11_waits ni idn (bI (if rm = 0 then false else true)) ln dt I L) L ) s11_at l11_35 rfl rfl ⟨Nat.le_of_ble_eq_true rfl, Nat.le_of_ble_eq_true rfl, Nat.le_refl _, Nat.le_refl _⟩ (Nat.le_of_ble_eq_true rfl) rfl d11_request_61 rfl ?_
          refine V_iald2 (pc1 := 65) (256 * ni + 23) ly297 (lt305 rfl) rfl (by omega) rfl d11_request_64 rfl ?_
          refine V_iret rfl d11_request_65 (Nat.zero_le _) (Nat.zero_le _) ?_
          have hq2 := hq
          simp only [r11_request, i11_request, if_pos h1, hn3, if_pos h2, if_pos h3] at hq2
          exact hq2
        refine V_if_eq (tgt := 46) (pc1 := 42) d11_request_39 (by decide) rfl (fun h4 => ?_) (fun h4 => ?_)
        · skip
          refine V_iconst (pc1 := 47) d11_request_46 vc_0 rfl ?_
          exact key5 _ (by first | rfl | (simp only [hn3, if_pos h4]; done) | (simp only [hn3, if_pos h4]; rfl)) _ (lvsub_p [0, 1, 2, 3, 4, 5] rfl)
        · skip
          refine V_iconst (pc1 := 43) d11_request_42 vc_1 rfl ?_
          refine V_goto (tgt := 47) d11_request_43 (by decide) ?_
          exact key5 _ (by first | rfl | (simp only [hn3, if_neg h4]; done) | (simp only [hn3, if_neg h4]; rfl)) _ (lvsub_p [0, 1, 2, 3, 4, 5] rfl)
      · skip
        refine V_bipush (pc1 := 34) d11_request_32 vb_m3 rfl ?_
        refine V_iret rfl d11_request_34 (Nat.zero_le _) (Nat.zero_le _) ?_
        have hq2 := hq
        simp only [r11_request, i11_request, if_pos h1, hn3, if_pos h2, if_neg h3] at hq2
        exact hq2
    · skip
      refine V_bipush (pc1 := 23) d11_request_21 vb_m2 rfl ?_
      refine V_iret rfl d11_request_23 (Nat.zero_le _) (Nat.zero_le _) ?_
      have hq2 := hq
      simp only [r11_request, i11_request, if_pos h1, hn3, if_neg h2] at hq2
      exact hq2
  · skip
    refine V_iconst (pc1 := 8) d11_request_7 vc_m1 rfl ?_
    refine V_iret rfl d11_request_8 (Nat.zero_le _) (Nat.zero_le _) ?_
    have hq2 := hq
    simp only [r11_request, i11_request, if_neg h1] at hq2
    exact hq2
theorem w11_request (g : GlT)  (nd : Int32) (idn : Int32) (rm : Int32) (ln : Int32) (dt : Int32) (I : Nat → Nat → Int32) (L : Nat → Nat → Int64) (hv : rV I) : Call g (k11_request, 3, 0, 0) [.ref (xA g 296), .int nd, .int idn, .int rm, .int ln, .int dt] (I, L, R0, 305) (Qi (r11_request nd idn rm ln dt I L) (i11_request nd idn rm ln dt I L) L) := Call.of (by decide) (Nat.le_of_ble_eq_true rfl) rfl (v11_request g  nd idn rm ln dt  I L hv _ (And.intro rfl rfl))


def r11_cancel_26 (nd : Int32) (idn : Int32) : Nat → Nat → Nat → Int32 → (Nat → Nat → Int32) → (Nat → Nat → Int64) → Int32
  | 0, i, ni, z, I, L => z
  | n + 1, i, ni, z, I, L => r11_cancel_26 nd idn n n ni (if (¬ (I 297 (5 * n + 256 * ni + 30) = idn)) ∨ (¬ (I 297 (5 * n + 256 * ni + 34) = 0)) then z else z + 1) (if (¬ (I 297 (5 * n + 256 * ni + 30) = idn)) ∨ (¬ (I 297 (5 * n + 256 * ni + 34) = 0)) then I else i11_unwaits ni n I L) L
def i11_cancel_26 (nd : Int32) (idn : Int32) : Nat → Nat → Nat → Int32 → (Nat → Nat → Int32) → (Nat → Nat → Int64) → (Nat → Nat → Int32)
  | 0, i, ni, z, I, L => I
  | n + 1, i, ni, z, I, L => i11_cancel_26 nd idn n n ni (if (¬ (I 297 (5 * n + 256 * ni + 30) = idn)) ∨ (¬ (I 297 (5 * n + 256 * ni + 34) = 0)) then z else z + 1) (if (¬ (I 297 (5 * n + 256 * ni + 30) = idn)) ∨ (¬ (I 297 (5 * n + 256 * ni + 34) = 0)) then I else i11_unwaits ni n I L) L
set_option maxRecDepth 4000 in
theorem t11_cancel_26 (g : GlT)  (nd : Int32) (idn : Int32)  : ∀ (n i ni : Nat) (z : Int32) (I : Nat → Nat → Int32) (L : Nat → Nat → Int64), (hni : ni < 4) → (hn : i = n) → (hs : ∃ s, s ≤ 4 ∧ i ≤ s ∧ I 297 (256 * ni + 23) = nI s) → ∀ (Q : Option Value → MemT → Prop), Q (some (.int (r11_cancel_26 nd idn n i ni z I L))) (i11_cancel_26 nd idn n i ni z I L, L, R0, 305) → V g (k11_cancel, 3, 0, 0) 0 0 26 [(0, .ref (xA g 296)), (1, .int (nI ni)), (2, .int idn), (3, .int z), (4, .int (nI i - 1))] [] (I, L, R0, 305) Q := by
  intro n
  induction n with
  | zero =>
    intro i ni z I L hni hn hs Q hq
    obtain rfl : i = 0 := hn
    refine V_iload (pc1 := 28) 4 d11_cancel_26 rfl rfl ?_
    refine V_if_lt (tgt := 78) (pc1 := 31) d11_cancel_28 (by decide) rfl (fun _ => ?_) (fun h1 => absurd (by decide) h1)
    refine V_iload_n (pc1 := 79) 3 d11_cancel_78 rfl rfl ?_
    refine V_iret rfl d11_cancel_79 (Nat.zero_le _) (Nat.zero_le _) ?_
    have hq2 := hq
    simp only [r11_cancel_26, i11_cancel_26] at hq2
    exact hq2
  | succ n ih =>
    intro i ni z I L hni hn hs Q hq
    obtain rfl : i = n + 1 := hn
    rw [nI_pred]
    obtain ⟨s, hs4, his, hs⟩ := hs
    refine V_iload (pc1 := 28) 4 d11_cancel_26 rfl rfl ?_
    refine V_if_lt (tgt := 78) (pc1 := 31) d11_cancel_28 (by decide) rfl (fun h1 => absurd h1 (nI_pos (by omega))) (fun _ => ?_)
    refine V_aload_n (pc1 := 32) 0 d11_cancel_31 rfl rfl ?_
    refine V_getr (pc1 := 35) ly296 (lt305 rfl) f11_7 (fun _ => rfl) rf296_0 d11_cancel_32 rfl ?_
    refine V_iload_n (pc1 := 36) 1 d11_cancel_35 rfl rfl ?_
    refine V_iload (pc1 := 38) 4 d11_cancel_36 rfl rfl ?_
    refine V_iconst (pc1 := 39) d11_cancel_38 vc_0 rfl ?_
    refine V_si (pc1 := 42) (w11_wait2 g  ni n 0 (5 * n + 256 * ni + 30) (by omega) I L ) s11_wait l11_81 rfl rfl ⟨Nat.le_of_ble_eq_true rfl, Nat.le_of_ble_eq_true rfl, Nat.le_refl _, Nat.le_refl _⟩ (Nat.le_of_ble_eq_true rfl) rfl d11_cancel_39 rfl ?_
    refine V_iald2 (pc1 := 43) (5 * n + 256 * ni + 30) ly297 (lt305 rfl) rfl (by omega) rfl d11_cancel_42 rfl ?_
    refine V_iload_n (pc1 := 44) 2 d11_cancel_43 rfl rfl ?_
    have key7 : ∀ (z72_3 : Int32), z72_3 = (if (¬ (I 297 (5 * n + 256 * ni + 30) = idn)) ∨ (¬ (I 297 (5 * n + 256 * ni + 34) = 0)) then z else z + 1) → ∀ (zI72 : Nat → Nat → Int32), zI72 = (if (¬ (I 297 (5 * n + 256 * ni + 30) = idn)) ∨ (¬ (I 297 (5 * n + 256 * ni + 34) = 0)) then I else i11_unwaits ni n I L) → ∀ (lv : List (Nat × Value)), lvsub [(0, .ref (xA g 296)), (1, .int (nI ni)), (2, .int idn), (3, .int z72_3), (4, .int (nI n))] lv → V g (k11_cancel, 3, 0, 0) 0 0 72 lv [] (zI72, L, R0, 305) Q := by
      intro z72_3 ez72_3 zI72 ezI72
      subst ez72_3
      subst ezI72
      intro lv hlv
      refine V_lv hlv ?_
      refine V_iinc (pc1 := 75) 4 (v := nI n - 1) d11_cancel_72 rfl (i32_m1 _) (Nat.le_of_ble_eq_true rfl) rfl rfl ?_
      refine V_goto (tgt := 26) d11_cancel_75 (by decide) ?_
      refine V_lv (lv1 := [(0, .ref (xA g 296)), (1, .int (nI ni)), (2, .int idn), (3, .int (if (¬ (I 297 (5 * n + 256 * ni + 30) = idn)) ∨ (¬ (I 297 (5 * n + 256 * ni + 34) = 0)) then z else z + 1)), (4, .int (nI n - 1))]) (lvsub_p [1, 2, 3, 4, 0] rfl) ?_
      have hq2 := hq
      simp only [r11_cancel_26, i11_cancel_26] at hq2
      exact ih n ni (if (¬ (I 297 (5 * n + 256 * ni + 30) = idn)) ∨ (¬ (I 297 (5 * n + 256 * ni + 34) = 0)) then z else z + 1) (if (¬ (I 297 (5 * n + 256 * ni + 30) = idn)) ∨ (¬ (I 297 (5 * n + 256 * ni + 34) = 0)) then I else i11_unwaits ni n I L) L hni rfl (by (repeat' split) <;> first | exact ⟨s, hs4, by omega, hs⟩ | exact ⟨s - 1, by omega, by omega, unw_23 hs (by omega)⟩) Q hq2
    have k3 : ((¬ (I 297 (5 * n + 256 * ni + 30) = idn)) ∨ (¬ (I 297 (5 * n + 256 * ni + 34) = 0))) → V g (k11_cancel, 3, 0, 0) 0 0 72 [(0, .ref (xA g 296)), (1, .int (nI ni)), (2, .int idn), (3, .int z), (4, .int (nI n))] [] (I, L, R0, 305) Q := by
      intro h2
      exact key7 _ (by first | rfl | (simp only [if_pos h2]; done) | (simp only [if_pos h2]; rfl)) _ (by first | rfl | (simp only [if_pos h2]; done) | (simp only [if_pos h2]; rfl)) _ (lvsub_p [0, 1, 2, 3, 4] rfl)
    have k4 : ¬ ((¬ (I 297 (5 * n + 256 * ni + 30) = idn)) ∨ (¬ (I 297 (5 * n + 256 * ni + 34) = 0))) → V g (k11_cancel, 3, 0, 0) 0 0 62 [(0, .ref (xA g 296)), (1, .int (nI ni)), (2, .int idn), (3, .int z), (4, .int (nI n))] [] (I, L, R0, 305) Q := by
      intro h2
      refine V_aload_n (pc1 := 63) 0 d11_cancel_62 rfl rfl ?_
      refine V_iload_n (pc1 := 64) 1 d11_cancel_63 rfl rfl ?_
      refine V_iload (pc1 := 66) 4 d11_cancel_64 rfl rfl ?_
      refine V_vv (pc1 := 69) (w11_unwaits g  ni n hni (by omega) s (by omega) hs4 I L hs) ly296 (lt305 rfl) s11_unwaits l11_95 rfl rfl ⟨Nat.le_of_ble_eq_true rfl, Nat.le_of_ble_eq_true rfl, Nat.le_refl _, Nat.le_refl _⟩ (Nat.le_of_ble_eq_true rfl) rfl d11_cancel_66 rfl ?_
      refine V_iinc (pc1 := 72) 3 (v := z + 1) d11_cancel_69 rfl rfl (Nat.le_of_ble_eq_true rfl) rfl rfl ?_
      exact key7 _ (by first | rfl | (simp only [if_neg h2]; done) | (simp only [if_neg h2]; rfl)) _ (by first | rfl | (simp only [if_neg h2]; done) | (simp only [if_neg h2]; rfl)) _ (lvsub_p [1, 2, 3, 0, 4] rfl)
    refine V_icmp_ne (tgt := 72) (pc1 := 47) d11_cancel_44 (by decide) rfl (fun h5 => ?_) (fun h5 => ?_)
    · skip
      exact k3 (Or.inl h5)
    · skip
      refine V_aload_n (pc1 := 48) 0 d11_cancel_47 rfl rfl ?_
      refine V_getr (pc1 := 51) ly296 (lt305 rfl) f11_7 (fun _ => rfl) rf296_0 d11_cancel_48 rfl ?_
      refine V_iload_n (pc1 := 52) 1 d11_cancel_51 rfl rfl ?_
      refine V_iload (pc1 := 54) 4 d11_cancel_52 rfl rfl ?_
      refine V_iconst (pc1 := 55) d11_cancel_54 vc_4 rfl ?_
      refine V_si (pc1 := 58) (w11_wait2 g  ni n 4 (5 * n + 256 * ni + 34) (by omega) I L ) s11_wait l11_81 rfl rfl ⟨Nat.le_of_ble_eq_true rfl, Nat.le_of_ble_eq_true rfl, Nat.le_refl _, Nat.le_refl _⟩ (Nat.le_of_ble_eq_true rfl) rfl d11_cancel_55 rfl ?_
      refine V_iald2 (pc1 := 59) (5 * n + 256 * ni + 34) ly297 (lt305 rfl) rfl (by omega) rfl d11_cancel_58 rfl ?_
      refine V_if_ne (tgt := 72) (pc1 := 62) d11_cancel_59 (by decide) rfl (fun h6 => ?_) (fun h6 => ?_)
      · skip
        exact k3 (Or.inr h6)
      · skip
        exact k4 (fun z => z.elim (fun z => z h5) (fun z => z h6))
def r11_cancel (nd : Int32) (idn : Int32) (I : Nat → Nat → Int32) (L : Nat → Nat → Int64) : Int32 := (if (r11_isNode nd) = true then r11_cancel_26 nd idn ((I 297 (256 * (nd.toNatClampNeg) + 23)).toNatClampNeg) ((I 297 (256 * (nd.toNatClampNeg) + 23)).toNatClampNeg) (nd.toNatClampNeg) 0 I L else (-1))
def i11_cancel (nd : Int32) (idn : Int32) (I : Nat → Nat → Int32) (L : Nat → Nat → Int64) : Nat → Nat → Int32 := (if (r11_isNode nd) = true then i11_cancel_26 nd idn ((I 297 (256 * (nd.toNatClampNeg) + 23)).toNatClampNeg) ((I 297 (256 * (nd.toNatClampNeg) + 23)).toNatClampNeg) (nd.toNatClampNeg) 0 I L else I)
set_option maxRecDepth 4000 in
theorem v11_cancel (g : GlT)  (nd : Int32) (idn : Int32) (I : Nat → Nat → Int32) (L : Nat → Nat → Int64) (hv : rV I) (Q : Option Value → MemT → Prop) (hq : Q (some (.int (r11_cancel nd idn I L))) (i11_cancel nd idn I L, L, R0, 305)) : V g (k11_cancel, 3, 0, 0) 0 0 0 [(0, .ref (xA g 296)), (1, .int nd), (2, .int idn)] [] (I, L, R0, 305) Q := by
  refine V_iload_n (pc1 := 1) 1 d11_cancel_0 rfl rfl ?_
  refine V_si (pc1 := 4) (w11_isNode g  nd  I L ) s11_isNode l11_66 rfl rfl ⟨Nat.le_of_ble_eq_true rfl, Nat.le_of_ble_eq_true rfl, Nat.le_refl _, Nat.le_refl _⟩ (Nat.le_of_ble_eq_true rfl) rfl d11_cancel_1 rfl ?_
  refine V_bne (tgt := 9) (pc1 := 7) d11_cancel_4 (by decide) rfl (fun h1 => ?_) (fun h1 => ?_)
  · skip
    obtain ⟨ni, hni, rfl⟩ := isNode11 h1
    have hn3 : (nI ni).toNatClampNeg = ni := nI_clamp (by omega)
    obtain ⟨⟨w, hw4, hw⟩, ⟨r, hr6, hr⟩, q, hq4, hq0⟩ := hv ni hni
    have hw3 : (I 297 (256 * ni + 23)).toNatClampNeg = w := by rw [hw]; exact nI_clamp (by omega)
    refine V_iconst (pc1 := 10) d11_cancel_9 vc_0 rfl ?_
    refine V_istore_n (pc1 := 11) d11_cancel_10 (Nat.le_of_ble_eq_true rfl) rfl rfl ?_
    refine V_aload_n (pc1 := 12) 1 d11_cancel_11 rfl rfl ?_
    refine V_getr (pc1 := 15) ly296 (lt305 rfl) f11_7 (fun _ => rfl) rf296_0 d11_cancel_12 rfl ?_
    refine V_iload_n (pc1 := 16) 2 d11_cancel_15 rfl rfl ?_
    refine V_bipush (pc1 := 18) d11_cancel_16 vb_23 rfl ?_
    refine V_si (pc1 := 21) (w11_at2 g  ni 23 (256 * ni + 23) (by omega) I L ) s11_at l11_35 rfl rfl ⟨Nat.le_of_ble_eq_true rfl, Nat.le_of_ble_eq_true rfl, Nat.le_refl _, Nat.le_refl _⟩ (Nat.le_of_ble_eq_true rfl) rfl d11_cancel_18 rfl ?_
    refine V_iald2 (pc1 := 22) (256 * ni + 23) ly297 (lt305 rfl) rfl (by omega) hw d11_cancel_21 rfl ?_
    refine V_iconst (pc1 := 23) d11_cancel_22 vc_1 rfl ?_
    refine V_isub (pc1 := 24) d11_cancel_23 rfl ?_
    refine V_istore (pc1 := 26) d11_cancel_24 (Nat.le_of_ble_eq_true rfl) rfl rfl ?_
    refine V_lv (lv1 := [(0, .ref (xA g 296)), (1, .int (nI ni)), (2, .int idn), (3, .int 0), (4, .int (nI w - 1))]) (lvsub_p [2, 3, 4, 1, 0] rfl) ?_
    have hq2 := hq
    simp only [r11_cancel, i11_cancel, if_pos h1, hn3, hw3] at hq2
    exact t11_cancel_26 g  _ _  w w ni 0 I L hni rfl ⟨w, hw4, Nat.le_refl _, hw⟩ Q hq2
  · skip
    refine V_iconst (pc1 := 8) d11_cancel_7 vc_m1 rfl ?_
    refine V_iret rfl d11_cancel_8 (Nat.zero_le _) (Nat.zero_le _) ?_
    have hq2 := hq
    simp only [r11_cancel, i11_cancel, if_neg h1] at hq2
    exact hq2
theorem w11_cancel (g : GlT)  (nd : Int32) (idn : Int32) (I : Nat → Nat → Int32) (L : Nat → Nat → Int64) (hv : rV I) : Call g (k11_cancel, 3, 0, 0) [.ref (xA g 296), .int nd, .int idn] (I, L, R0, 305) (Qi (r11_cancel nd idn I L) (i11_cancel nd idn I L) L) := Call.of (by decide) (Nat.le_of_ble_eq_true rfl) rfl (v11_cancel g  nd idn  I L hv _ (And.intro rfl rfl))


def r11_keyOf (i : Nat) (j : Nat) (I : Nat → Nat → Int32) (L : Nat → Nat → Int64) : Int32 := ((2 : Int32) * (I 297 (256 * i + 5 * j + 30))) + (I 297 (256 * i + 5 * j + 31))
set_option maxRecDepth 4000 in
theorem v11_keyOf (g : GlT)  (i : Nat) (j : Nat) (hi : i < 4) (hj : j < 4) (I : Nat → Nat → Int32) (L : Nat → Nat → Int64) (Q : Option Value → MemT → Prop) (hq : Q (some (.int (r11_keyOf i j I L))) (I, L, R0, 305)) : V g (k11_keyOf, 2, 0, 0) 0 0 0 [(0, .ref (xA g 296)), (1, .int (nI i)), (2, .int (nI j))] [] (I, L, R0, 305) Q := by
  refine V_iconst (pc1 := 1) d11_keyOf_0 vc_2 rfl ?_
  refine V_aload_n (pc1 := 2) 0 d11_keyOf_1 rfl rfl ?_
  refine V_getr (pc1 := 5) ly296 (lt305 rfl) f11_7 (fun _ => rfl) rf296_0 d11_keyOf_2 rfl ?_
  refine V_iload_n (pc1 := 6) 1 d11_keyOf_5 rfl rfl ?_
  refine V_iload_n (pc1 := 7) 2 d11_keyOf_6 rfl rfl ?_
  refine V_iconst (pc1 := 8) d11_keyOf_7 vc_0 rfl ?_
  refine V_si (pc1 := 11) (w11_wait2 g  i j 0 (256 * i + 5 * j + 30) (by omega) I L ) s11_wait l11_81 rfl rfl ⟨Nat.le_of_ble_eq_true rfl, Nat.le_of_ble_eq_true rfl, Nat.le_refl _, Nat.le_refl _⟩ (Nat.le_of_ble_eq_true rfl) rfl d11_keyOf_8 rfl ?_
  refine V_iald2 (pc1 := 12) (256 * i + 5 * j + 30) ly297 (lt305 rfl) rfl (by omega) rfl d11_keyOf_11 rfl ?_
  refine V_imul (pc1 := 13) d11_keyOf_12 rfl ?_
  refine V_aload_n (pc1 := 14) 0 d11_keyOf_13 rfl rfl ?_
  refine V_getr (pc1 := 17) ly296 (lt305 rfl) f11_7 (fun _ => rfl) rf296_0 d11_keyOf_14 rfl ?_
  refine V_iload_n (pc1 := 18) 1 d11_keyOf_17 rfl rfl ?_
  refine V_iload_n (pc1 := 19) 2 d11_keyOf_18 rfl rfl ?_
  refine V_iconst (pc1 := 20) d11_keyOf_19 vc_1 rfl ?_
  refine V_si (pc1 := 23) (w11_wait2 g  i j 1 (256 * i + 5 * j + 31) (by omega) I L ) s11_wait l11_81 rfl rfl ⟨Nat.le_of_ble_eq_true rfl, Nat.le_of_ble_eq_true rfl, Nat.le_refl _, Nat.le_refl _⟩ (Nat.le_of_ble_eq_true rfl) rfl d11_keyOf_20 rfl ?_
  refine V_iald2 (pc1 := 24) (256 * i + 5 * j + 31) ly297 (lt305 rfl) rfl (by omega) rfl d11_keyOf_23 rfl ?_
  refine V_iadd (pc1 := 25) d11_keyOf_24 rfl ?_
  refine V_iret rfl d11_keyOf_25 (Nat.zero_le _) (Nat.zero_le _) ?_
  have hq2 := hq
  simp only [r11_keyOf] at hq2
  exact hq2
theorem w11_keyOf (g : GlT)  (i : Nat) (j : Nat) (hi : i < 4) (hj : j < 4) (I : Nat → Nat → Int32) (L : Nat → Nat → Int64) : Call g (k11_keyOf, 2, 0, 0) [.ref (xA g 296), .int (nI i), .int (nI j)] (I, L, R0, 305) (Qi (r11_keyOf i j I L) (I) L) := Call.of (by decide) (Nat.le_of_ble_eq_true rfl) rfl (v11_keyOf g  i j hi hj I L  _ (And.intro rfl rfl))


def r11_isGot (i : Nat) (x : Int32) (I : Nat → Nat → Int32) (L : Nat → Nat → Int64) : Bool := r11_in x 0 ((I 297 (256 * i + 24)) - 1)
set_option maxRecDepth 4000 in
theorem v11_isGot (g : GlT)  (i : Nat) (x : Int32) (hi : i < 4) (I : Nat → Nat → Int32) (L : Nat → Nat → Int64) (Q : Option Value → MemT → Prop) (hq : Q (some (.int (bI (r11_isGot i x I L)))) (I, L, R0, 305)) : V g (k11_isGot, 2, 0, 0) 0 0 0 [(0, .ref (xA g 296)), (1, .int (nI i)), (2, .int x)] [] (I, L, R0, 305) Q := by
  refine V_iload_n (pc1 := 1) 2 d11_isGot_0 rfl rfl ?_
  refine V_iconst (pc1 := 2) d11_isGot_1 vc_0 rfl ?_
  refine V_aload_n (pc1 := 3) 0 d11_isGot_2 rfl rfl ?_
  refine V_getr (pc1 := 6) ly296 (lt305 rfl) f11_7 (fun _ => rfl) rf296_0 d11_isGot_3 rfl ?_
  refine V_iload_n (pc1 := 7) 1 d11_isGot_6 rfl rfl ?_
  refine V_bipush (pc1 := 9) d11_isGot_7 vb_24 rfl ?_
  refine V_si (pc1 := 12) (w11_at2 g  i 24 (256 * i + 24) (by omega) I L ) s11_at l11_35 rfl rfl ⟨Nat.le_of_ble_eq_true rfl, Nat.le_of_ble_eq_true rfl, Nat.le_refl _, Nat.le_refl _⟩ (Nat.le_of_ble_eq_true rfl) rfl d11_isGot_9 rfl ?_
  refine V_iald2 (pc1 := 13) (256 * i + 24) ly297 (lt305 rfl) rfl (by omega) rfl d11_isGot_12 rfl ?_
  refine V_iconst (pc1 := 14) d11_isGot_13 vc_1 rfl ?_
  refine V_isub (pc1 := 15) d11_isGot_14 rfl ?_
  refine V_si (pc1 := 18) (w11_in g  x 0 ((I 297 (256 * i + 24)) - 1)  I L ) s11_in l11_39 rfl rfl ⟨Nat.le_of_ble_eq_true rfl, Nat.le_of_ble_eq_true rfl, Nat.le_refl _, Nat.le_refl _⟩ (Nat.le_of_ble_eq_true rfl) rfl d11_isGot_15 rfl ?_
  refine V_zret rfl (bI_or _) d11_isGot_18 (Nat.zero_le _) (Nat.zero_le _) ?_
  have hq2 := hq
  simp only [r11_isGot] at hq2
  exact hq2
theorem w11_isGot (g : GlT)  (i : Nat) (x : Int32) (hi : i < 4) (I : Nat → Nat → Int32) (L : Nat → Nat → Int64) : Call g (k11_isGot, 2, 0, 0) [.ref (xA g 296), .int (nI i), .int x] (I, L, R0, 305) (Qi (bI (r11_isGot i x I L)) (I) L) := Call.of (by decide) (Nat.le_of_ble_eq_true rfl) rfl (v11_isGot g  i x hi I L  _ (And.intro rfl rfl))


def r11_gotKey (i : Nat) (j : Nat) (I : Nat → Nat → Int32) (L : Nat → Nat → Int64) : Int32 := ((2 : Int32) * (I 297 (256 * i + 4 * j + 50))) + (I 297 (256 * i + 4 * j + 51))
set_option maxRecDepth 4000 in
theorem v11_gotKey (g : GlT)  (i : Nat) (j : Nat) (hi : i < 4) (hj : j < 6) (I : Nat → Nat → Int32) (L : Nat → Nat → Int64) (Q : Option Value → MemT → Prop) (hq : Q (some (.int (r11_gotKey i j I L))) (I, L, R0, 305)) : V g (k11_gotKey, 2, 0, 0) 0 0 0 [(0, .ref (xA g 296)), (1, .int (nI i)), (2, .int (nI j))] [] (I, L, R0, 305) Q := by
  refine V_iconst (pc1 := 1) d11_gotKey_0 vc_2 rfl ?_
  refine V_aload_n (pc1 := 2) 0 d11_gotKey_1 rfl rfl ?_
  refine V_getr (pc1 := 5) ly296 (lt305 rfl) f11_7 (fun _ => rfl) rf296_0 d11_gotKey_2 rfl ?_
  refine V_iload_n (pc1 := 6) 1 d11_gotKey_5 rfl rfl ?_
  refine V_iload_n (pc1 := 7) 2 d11_gotKey_6 rfl rfl ?_
  refine V_iconst (pc1 := 8) d11_gotKey_7 vc_0 rfl ?_
  refine V_si (pc1 := 11) (w11_got2 g  i j 0 (256 * i + 4 * j + 50) (by omega) I L ) s11_got l11_159 rfl rfl ⟨Nat.le_of_ble_eq_true rfl, Nat.le_of_ble_eq_true rfl, Nat.le_refl _, Nat.le_refl _⟩ (Nat.le_of_ble_eq_true rfl) rfl d11_gotKey_8 rfl ?_
  refine V_iald2 (pc1 := 12) (256 * i + 4 * j + 50) ly297 (lt305 rfl) rfl (by omega) rfl d11_gotKey_11 rfl ?_
  refine V_imul (pc1 := 13) d11_gotKey_12 rfl ?_
  refine V_aload_n (pc1 := 14) 0 d11_gotKey_13 rfl rfl ?_
  refine V_getr (pc1 := 17) ly296 (lt305 rfl) f11_7 (fun _ => rfl) rf296_0 d11_gotKey_14 rfl ?_
  refine V_iload_n (pc1 := 18) 1 d11_gotKey_17 rfl rfl ?_
  refine V_iload_n (pc1 := 19) 2 d11_gotKey_18 rfl rfl ?_
  refine V_iconst (pc1 := 20) d11_gotKey_19 vc_1 rfl ?_
  refine V_si (pc1 := 23) (w11_got2 g  i j 1 (256 * i + 4 * j + 51) (by omega) I L ) s11_got l11_159 rfl rfl ⟨Nat.le_of_ble_eq_true rfl, Nat.le_of_ble_eq_true rfl, Nat.le_refl _, Nat.le_refl _⟩ (Nat.le_of_ble_eq_true rfl) rfl d11_gotKey_20 rfl ?_
  refine V_iald2 (pc1 := 24) (256 * i + 4 * j + 51) ly297 (lt305 rfl) rfl (by omega) rfl d11_gotKey_23 rfl ?_
  refine V_iadd (pc1 := 25) d11_gotKey_24 rfl ?_
  refine V_iret rfl d11_gotKey_25 (Nat.zero_le _) (Nat.zero_le _) ?_
  have hq2 := hq
  simp only [r11_gotKey] at hq2
  exact hq2
theorem w11_gotKey (g : GlT)  (i : Nat) (j : Nat) (hi : i < 4) (hj : j < 6) (I : Nat → Nat → Int32) (L : Nat → Nat → Int64) : Call g (k11_gotKey, 2, 0, 0) [.ref (xA g 296), .int (nI i), .int (nI j)] (I, L, R0, 305) (Qi (r11_gotKey i j I L) (I) L) := Call.of (by decide) (Nat.le_of_ble_eq_true rfl) rfl (v11_gotKey g  i j hi hj I L  _ (And.intro rfl rfl))


def r11_waitingFrame (nd : Int32) (x : Int32) (I : Nat → Nat → Int32) (L : Nat → Nat → Int64) : Int32 := (if (r11_isNode nd) = true then (if (r11_in x 0 ((I 297 (256 * (nd.toNatClampNeg) + 23)) - 1)) = true then r11_keyOf (nd.toNatClampNeg) (x.toNatClampNeg) I L else (-5)) else (-1))
set_option maxRecDepth 4000 in
theorem v11_waitingFrame (g : GlT)  (nd : Int32) (x : Int32) (I : Nat → Nat → Int32) (L : Nat → Nat → Int64) (hv : rV I) (Q : Option Value → MemT → Prop) (hq : Q (some (.int (r11_waitingFrame nd x I L))) (I, L, R0, 305)) : V g (k11_waitingFrame, 3, 0, 0) 0 0 0 [(0, .ref (xA g 296)), (1, .int nd), (2, .int x)] [] (I, L, R0, 305) Q := by
  refine V_iload_n (pc1 := 1) 1 d11_waitingFrame_0 rfl rfl ?_
  refine V_si (pc1 := 4) (w11_isNode g  nd  I L ) s11_isNode l11_66 rfl rfl ⟨Nat.le_of_ble_eq_true rfl, Nat.le_of_ble_eq_true rfl, Nat.le_refl _, Nat.le_refl _⟩ (Nat.le_of_ble_eq_true rfl) rfl d11_waitingFrame_1 rfl ?_
  refine V_bne (tgt := 9) (pc1 := 7) d11_waitingFrame_4 (by decide) rfl (fun h1 => ?_) (fun h1 => ?_)
  · skip
    obtain ⟨ni, hni, rfl⟩ := isNode11 h1
    have hn3 : (nI ni).toNatClampNeg = ni := nI_clamp (by omega)
    obtain ⟨⟨w, hw4, hw⟩, ⟨r, hr6, hr⟩, q, hq4, hq0⟩ := hv ni hni
    refine V_iload_n (pc1 := 10) 2 d11_waitingFrame_9 rfl rfl ?_
    refine V_iconst (pc1 := 11) d11_waitingFrame_10 vc_0 rfl ?_
    refine V_aload_n (pc1 := 12) 0 d11_waitingFrame_11 rfl rfl ?_
    refine V_getr (pc1 := 15) ly296 (lt305 rfl) f11_7 (fun _ => rfl) rf296_0 d11_waitingFrame_12 rfl ?_
    refine V_iload_n (pc1 := 16) 1 d11_waitingFrame_15 rfl rfl ?_
    refine V_bipush (pc1 := 18) d11_waitingFrame_16 vb_23 rfl ?_
    refine V_si (pc1 := 21) (w11_at2 g  ni 23 (256 * ni + 23) (by omega) I L ) s11_at l11_35 rfl rfl ⟨Nat.le_of_ble_eq_true rfl, Nat.le_of_ble_eq_true rfl, Nat.le_refl _, Nat.le_refl _⟩ (Nat.le_of_ble_eq_true rfl) rfl d11_waitingFrame_18 rfl ?_
    refine V_iald2 (pc1 := 22) (256 * ni + 23) ly297 (lt305 rfl) rfl (by omega) rfl d11_waitingFrame_21 rfl ?_
    refine V_iconst (pc1 := 23) d11_waitingFrame_22 vc_1 rfl ?_
    refine V_isub (pc1 := 24) d11_waitingFrame_23 rfl ?_
    refine V_si (pc1 := 27) (w11_in g  x 0 ((I 297 (256 * ni + 23)) - 1)  I L ) s11_in l11_39 rfl rfl ⟨Nat.le_of_ble_eq_true rfl, Nat.le_of_ble_eq_true rfl, Nat.le_refl _, Nat.le_refl _⟩ (Nat.le_of_ble_eq_true rfl) rfl d11_waitingFrame_24 rfl ?_
    have key3 : ∀ (z41_2 : Int32), z41_2 = (if (r11_in x 0 ((I 297 (256 * ni + 23)) - 1)) = true then nI (x.toNatClampNeg) else x) → ∀ (y41_0 : Int32), y41_0 = (if (r11_in x 0 ((I 297 (256 * ni + 23)) - 1)) = true then r11_keyOf ni (x.toNatClampNeg) I L else (-5)) → ∀ (lv : List (Nat × Value)), lvsub [(0, .ref (xA g 296)), (1, .int (nI ni)), (2, .int z41_2)] lv → V g (k11_waitingFrame, 3, 0, 0) 0 0 41 lv [.int y41_0] (I, L, R0, 305) Q := by
      intro z41_2 ez41_2 y41_0 ey41_0
      subst ez41_2
      subst ey41_0
      intro lv hlv
      refine V_lv hlv ?_
      refine V_iret rfl d11_waitingFrame_41 (Nat.zero_le _) (Nat.zero_le _) ?_
      have hq2 := hq
      simp only [r11_waitingFrame, if_pos h1, hn3] at hq2
      exact hq2
    refine V_beq (tgt := 39) (pc1 := 30) d11_waitingFrame_27 (by decide) rfl (fun h2 => ?_) (fun h2 => ?_)
    · skip
      refine V_bipush (pc1 := 41) d11_waitingFrame_39 vb_m5 rfl ?_
      exact key3 _ (by first | rfl | (simp only [hn3, if_neg h2]; done) | (simp only [hn3, if_neg h2]; rfl)) _ (by first | rfl | (simp only [hn3, if_neg h2]; done) | (simp only [hn3, if_neg h2]; rfl)) _ (lvsub_p [0, 1, 2] rfl)
    · skip
      obtain ⟨jn, hjn, rfl⟩ := in_nat hw (by omega) h2
      have hjn3 : (nI jn).toNatClampNeg = jn := nI_clamp (by omega)
      refine V_aload_n (pc1 := 31) 0 d11_waitingFrame_30 rfl rfl ?_
      refine V_iload_n (pc1 := 32) 1 d11_waitingFrame_31 rfl rfl ?_
      refine V_iload_n (pc1 := 33) 2 d11_waitingFrame_32 rfl rfl ?_
      refine V_vi (pc1 := 36) (w11_keyOf g  ni jn hni (by omega) I L ) ly296 (lt305 rfl) s11_keyOf l11_191 rfl rfl ⟨Nat.le_of_ble_eq_true rfl, Nat.le_of_ble_eq_true rfl, Nat.le_refl _, Nat.le_refl _⟩ (Nat.le_of_ble_eq_true rfl) rfl d11_waitingFrame_33 rfl ?_
      refine V_goto (tgt := 41) d11_waitingFrame_36 (by decide) ?_
      exact key3 _ (by first | rfl | (simp only [hn3, if_pos h2, hjn3]; done) | (simp only [hn3, if_pos h2, hjn3]; rfl)) _ (by first | rfl | (simp only [hn3, if_pos h2, hjn3]; done) | (simp only [hn3, if_pos h2, hjn3]; rfl)) _ (lvsub_p [0, 1, 2] rfl)
  · skip
    refine V_iconst (pc1 := 8) d11_waitingFrame_7 vc_m1 rfl ?_
    refine V_iret rfl d11_waitingFrame_8 (Nat.zero_le _) (Nat.zero_le _) ?_
    have hq2 := hq
    simp only [r11_waitingFrame, if_neg h1] at hq2
    exact hq2
theorem w11_waitingFrame (g : GlT)  (nd : Int32) (x : Int32) (I : Nat → Nat → Int32) (L : Nat → Nat → Int64) (hv : rV I) : Call g (k11_waitingFrame, 3, 0, 0) [.ref (xA g 296), .int nd, .int x] (I, L, R0, 305) (Qi (r11_waitingFrame nd x I L) (I) L) := Call.of (by decide) (Nat.le_of_ble_eq_true rfl) rfl (v11_waitingFrame g  nd x  I L hv _ (And.intro rfl rfl))


def r11_receivedFrame (nd : Int32) (x : Int32) (I : Nat → Nat → Int32) (L : Nat → Nat → Int64) : Int32 := (if (r11_isNode nd) = true then (if (r11_isGot (nd.toNatClampNeg) x I L) = true then r11_gotKey (nd.toNatClampNeg) (x.toNatClampNeg) I L else (-5)) else (-1))
set_option maxRecDepth 4000 in
theorem v11_receivedFrame (g : GlT)  (nd : Int32) (x : Int32) (I : Nat → Nat → Int32) (L : Nat → Nat → Int64) (hv : rV I) (Q : Option Value → MemT → Prop) (hq : Q (some (.int (r11_receivedFrame nd x I L))) (I, L, R0, 305)) : V g (k11_receivedFrame, 3, 0, 0) 0 0 0 [(0, .ref (xA g 296)), (1, .int nd), (2, .int x)] [] (I, L, R0, 305) Q := by
  refine V_iload_n (pc1 := 1) 1 d11_receivedFrame_0 rfl rfl ?_
  refine V_si (pc1 := 4) (w11_isNode g  nd  I L ) s11_isNode l11_66 rfl rfl ⟨Nat.le_of_ble_eq_true rfl, Nat.le_of_ble_eq_true rfl, Nat.le_refl _, Nat.le_refl _⟩ (Nat.le_of_ble_eq_true rfl) rfl d11_receivedFrame_1 rfl ?_
  refine V_bne (tgt := 9) (pc1 := 7) d11_receivedFrame_4 (by decide) rfl (fun h1 => ?_) (fun h1 => ?_)
  · skip
    obtain ⟨ni, hni, rfl⟩ := isNode11 h1
    have hn3 : (nI ni).toNatClampNeg = ni := nI_clamp (by omega)
    obtain ⟨⟨w, hw4, hw⟩, ⟨r, hr6, hr⟩, q, hq4, hq0⟩ := hv ni hni
    refine V_aload_n (pc1 := 10) 0 d11_receivedFrame_9 rfl rfl ?_
    refine V_iload_n (pc1 := 11) 1 d11_receivedFrame_10 rfl rfl ?_
    refine V_iload_n (pc1 := 12) 2 d11_receivedFrame_11 rfl rfl ?_
    refine V_vi (pc1 := 15) (w11_isGot g  ni x hni I L ) ly296 (lt305 rfl) s11_isGot l11_194 rfl rfl ⟨Nat.le_of_ble_eq_true rfl, Nat.le_of_ble_eq_true rfl, Nat.le_refl _, Nat.le_refl _⟩ (Nat.le_of_ble_eq_true rfl) rfl d11_receivedFrame_12 rfl ?_
    have key3 : ∀ (z29_2 : Int32), z29_2 = (if (r11_isGot ni x I L) = true then nI (x.toNatClampNeg) else x) → ∀ (y29_0 : Int32), y29_0 = (if (r11_isGot ni x I L) = true then r11_gotKey ni (x.toNatClampNeg) I L else (-5)) → ∀ (lv : List (Nat × Value)), lvsub [(0, .ref (xA g 296)), (1, .int (nI ni)), (2, .int z29_2)] lv → V g (k11_receivedFrame, 3, 0, 0) 0 0 29 lv [.int y29_0] (I, L, R0, 305) Q := by
      intro z29_2 ez29_2 y29_0 ey29_0
      subst ez29_2
      subst ey29_0
      intro lv hlv
      refine V_lv hlv ?_
      refine V_iret rfl d11_receivedFrame_29 (Nat.zero_le _) (Nat.zero_le _) ?_
      have hq2 := hq
      simp only [r11_receivedFrame, if_pos h1, hn3] at hq2
      exact hq2
    refine V_beq (tgt := 27) (pc1 := 18) d11_receivedFrame_15 (by decide) rfl (fun h2 => ?_) (fun h2 => ?_)
    · skip
      refine V_bipush (pc1 := 29) d11_receivedFrame_27 vb_m5 rfl ?_
      exact key3 _ (by first | rfl | (simp only [hn3, if_neg h2]; done) | (simp only [hn3, if_neg h2]; rfl)) _ (by first | rfl | (simp only [hn3, if_neg h2]; done) | (simp only [hn3, if_neg h2]; rfl)) _ (lvsub_p [0, 1, 2] rfl)
    · skip
      obtain ⟨jn, hjn, rfl⟩ := in_nat hr (by omega) (by have h0 := h2; unfold r11_isGot at h0; exact h0)
      have hjn3 : (nI jn).toNatClampNeg = jn := nI_clamp (by omega)
      refine V_aload_n (pc1 := 19) 0 d11_receivedFrame_18 rfl rfl ?_
      refine V_iload_n (pc1 := 20) 1 d11_receivedFrame_19 rfl rfl ?_
      refine V_iload_n (pc1 := 21) 2 d11_receivedFrame_20 rfl rfl ?_
      refine V_vi (pc1 := 24) (w11_gotKey g  ni jn hni (by omega) I L ) ly296 (lt305 rfl) s11_gotKey l11_198 rfl rfl ⟨Nat.le_of_ble_eq_true rfl, Nat.le_of_ble_eq_true rfl, Nat.le_refl _, Nat.le_refl _⟩ (Nat.le_of_ble_eq_true rfl) rfl d11_receivedFrame_21 rfl ?_
      refine V_goto (tgt := 29) d11_receivedFrame_24 (by decide) ?_
      exact key3 _ (by first | rfl | (simp only [hn3, if_pos h2, hjn3]; done) | (simp only [hn3, if_pos h2, hjn3]; rfl)) _ (by first | rfl | (simp only [hn3, if_pos h2, hjn3]; done) | (simp only [hn3, if_pos h2, hjn3]; rfl)) _ (lvsub_p [0, 1, 2] rfl)
  · skip
    refine V_iconst (pc1 := 8) d11_receivedFrame_7 vc_m1 rfl ?_
    refine V_iret rfl d11_receivedFrame_8 (Nat.zero_le _) (Nat.zero_le _) ?_
    have hq2 := hq
    simp only [r11_receivedFrame, if_neg h1] at hq2
    exact hq2
theorem w11_receivedFrame (g : GlT)  (nd : Int32) (x : Int32) (I : Nat → Nat → Int32) (L : Nat → Nat → Int64) (hv : rV I) : Call g (k11_receivedFrame, 3, 0, 0) [.ref (xA g 296), .int nd, .int x] (I, L, R0, 305) (Qi (r11_receivedFrame nd x I L) (I) L) := Call.of (by decide) (Nat.le_of_ble_eq_true rfl) rfl (v11_receivedFrame g  nd x  I L hv _ (And.intro rfl rfl))


def r11_receivedLength (nd : Int32) (x : Int32) (I : Nat → Nat → Int32) (L : Nat → Nat → Int64) : Int32 := (if (r11_isNode nd) = true then (if (r11_isGot (nd.toNatClampNeg) x I L) = true then I 297 (4 * (x.toNatClampNeg) + 256 * (nd.toNatClampNeg) + 52) else (-5)) else (-1))
set_option maxRecDepth 4000 in
theorem v11_receivedLength (g : GlT)  (nd : Int32) (x : Int32) (I : Nat → Nat → Int32) (L : Nat → Nat → Int64) (hv : rV I) (Q : Option Value → MemT → Prop) (hq : Q (some (.int (r11_receivedLength nd x I L))) (I, L, R0, 305)) : V g (k11_receivedLength, 3, 0, 0) 0 0 0 [(0, .ref (xA g 296)), (1, .int nd), (2, .int x)] [] (I, L, R0, 305) Q := by
  refine V_iload_n (pc1 := 1) 1 d11_receivedLength_0 rfl rfl ?_
  refine V_si (pc1 := 4) (w11_isNode g  nd  I L ) s11_isNode l11_66 rfl rfl ⟨Nat.le_of_ble_eq_true rfl, Nat.le_of_ble_eq_true rfl, Nat.le_refl _, Nat.le_refl _⟩ (Nat.le_of_ble_eq_true rfl) rfl d11_receivedLength_1 rfl ?_
  refine V_bne (tgt := 9) (pc1 := 7) d11_receivedLength_4 (by decide) rfl (fun h1 => ?_) (fun h1 => ?_)
  · skip
    obtain ⟨ni, hni, rfl⟩ := isNode11 h1
    have hn3 : (nI ni).toNatClampNeg = ni := nI_clamp (by omega)
    obtain ⟨⟨w, hw4, hw⟩, ⟨r, hr6, hr⟩, q, hq4, hq0⟩ := hv ni hni
    refine V_aload_n (pc1 := 10) 0 d11_receivedLength_9 rfl rfl ?_
    refine V_iload_n (pc1 := 11) 1 d11_receivedLength_10 rfl rfl ?_
    refine V_iload_n (pc1 := 12) 2 d11_receivedLength_11 rfl rfl ?_
    refine V_vi (pc1 := 15) (w11_isGot g  ni x hni I L ) ly296 (lt305 rfl) s11_isGot l11_194 rfl rfl ⟨Nat.le_of_ble_eq_true rfl, Nat.le_of_ble_eq_true rfl, Nat.le_refl _, Nat.le_refl _⟩ (Nat.le_of_ble_eq_true rfl) rfl d11_receivedLength_12 rfl ?_
    have key3 : ∀ (z34_2 : Int32), z34_2 = (if (r11_isGot ni x I L) = true then nI (x.toNatClampNeg) else x) → ∀ (y34_0 : Int32), y34_0 = (if (r11_isGot ni x I L) = true then I 297 (4 * (x.toNatClampNeg) + 256 * ni + 52) else (-5)) → ∀ (lv : List (Nat × Value)), lvsub [(0, .ref (xA g 296)), (1, .int (nI ni)), (2, .int z34_2)] lv → V g (k11_receivedLength, 3, 0, 0) 0 0 34 lv [.int y34_0] (I, L, R0, 305) Q := by
      intro z34_2 ez34_2 y34_0 ey34_0
      subst ez34_2
      subst ey34_0
      intro lv hlv
      refine V_lv hlv ?_
      refine V_iret rfl d11_receivedLength_34 (Nat.zero_le _) (Nat.zero_le _) ?_
      have hq2 := hq
      simp only [r11_receivedLength, if_pos h1, hn3] at hq2
      exact hq2
    refine V_beq (tgt := 32) (pc1 := 18) d11_receivedLength_15 (by decide) rfl (fun h2 => ?_) (fun h2 => ?_)
    · skip
      refine V_bipush (pc1 := 34) d11_receivedLength_32 vb_m5 rfl ?_
      exact key3 _ (by first | rfl | (simp only [hn3, if_neg h2]; done) | (simp only [hn3, if_neg h2]; rfl)) _ (by first | rfl | (simp only [hn3, if_neg h2]; done) | (simp only [hn3, if_neg h2]; rfl)) _ (lvsub_p [0, 1, 2] rfl)
    · skip
      obtain ⟨jn, hjn, rfl⟩ := in_nat hr (by omega) (by have h0 := h2; unfold r11_isGot at h0; exact h0)
      have hjn3 : (nI jn).toNatClampNeg = jn := nI_clamp (by omega)
      refine V_aload_n (pc1 := 19) 0 d11_receivedLength_18 rfl rfl ?_
      refine V_getr (pc1 := 22) ly296 (lt305 rfl) f11_7 (fun _ => rfl) rf296_0 d11_receivedLength_19 rfl ?_
      refine V_iload_n (pc1 := 23) 1 d11_receivedLength_22 rfl rfl ?_
      refine V_iload_n (pc1 := 24) 2 d11_receivedLength_23 rfl rfl ?_
      refine V_iconst (pc1 := 25) d11_receivedLength_24 vc_2 rfl ?_
      refine V_si (pc1 := 28) (w11_got2 g  ni jn 2 (4 * jn + 256 * ni + 52) (by omega) I L ) s11_got l11_159 rfl rfl ⟨Nat.le_of_ble_eq_true rfl, Nat.le_of_ble_eq_true rfl, Nat.le_refl _, Nat.le_refl _⟩ (Nat.le_of_ble_eq_true rfl) rfl d11_receivedLength_25 rfl ?_
      refine V_iald2 (pc1 := 29) (4 * jn + 256 * ni + 52) ly297 (lt305 rfl) rfl (by omega) rfl d11_receivedLength_28 rfl ?_
      refine V_goto (tgt := 34) d11_receivedLength_29 (by decide) ?_
      exact key3 _ (by first | rfl | (simp only [hn3, if_pos h2, hjn3]; done) | (simp only [hn3, if_pos h2, hjn3]; rfl)) _ (by first | rfl | (simp only [hn3, if_pos h2, hjn3]; done) | (simp only [hn3, if_pos h2, hjn3]; rfl)) _ (lvsub_p [0, 1, 2] rfl)
  · skip
    refine V_iconst (pc1 := 8) d11_receivedLength_7 vc_m1 rfl ?_
    refine V_iret rfl d11_receivedLength_8 (Nat.zero_le _) (Nat.zero_le _) ?_
    have hq2 := hq
    simp only [r11_receivedLength, if_neg h1] at hq2
    exact hq2
theorem w11_receivedLength (g : GlT)  (nd : Int32) (x : Int32) (I : Nat → Nat → Int32) (L : Nat → Nat → Int64) (hv : rV I) : Call g (k11_receivedLength, 3, 0, 0) [.ref (xA g 296), .int nd, .int x] (I, L, R0, 305) (Qi (r11_receivedLength nd x I L) (I) L) := Call.of (by decide) (Nat.le_of_ble_eq_true rfl) rfl (v11_receivedLength g  nd x  I L hv _ (And.intro rfl rfl))


theorem rd_and {a b : Prop} (h : ¬ (a ∨ b)) : ¬ a ∧ ¬ b := ⟨fun e => h (Or.inl e), fun e => h (Or.inr e)⟩
