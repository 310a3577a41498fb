theorem dec_of {x : Int32} {w : Nat} (h : x = nI w) (hw : 0 < w) : x - 1 = nI (w - 1) := by
  subst h
  exact nI_dec hw
theorem inc_of {x : Int32} {w : Nat} (h : x = nI w) : x + 1 = nI (w + 1) := by
  subst h
  exact nI_1 w

def i11_unwaits_7 (i : Nat) (p : Nat) : Nat → Nat → (Nat → Nat → Int32) → (Nat → Nat → Int64) → (Nat → Nat → Int32)
  | 0, t, I, L => uI (uI I 297 (256 * i + 23) ((I 297 (256 * i + 23)) - 1)) 297 (256 * (i) + 5 * (((I 297 (256 * i + 23)).toNatClampNeg) - 1) + (4) + 30) 0
  | n + 1, t, I, L => i11_unwaits_7 i p n (t + 1) (uI I 297 (256 * i + t) (I 297 (256 * i + t + 5))) L
set_option maxRecDepth 4000 in
theorem t11_unwaits_7 (g : GlT)  (i : Nat) (p : Nat) (hi : i < 4) (hp : p ≤ 3) (w : Nat) (hw1 : 1 ≤ w) (hw4 : w ≤ 4) : ∀ (n t : Nat) (I : Nat → Nat → Int32) (L : Nat → Nat → Int64), (hw : I 297 (256 * i + 23) = nI w) → (hn : t + n = 45) → (ht : 30 ≤ t) → ∀ (Q : Option Value → MemT → Prop), Q (none) (i11_unwaits_7 i p n t I L, L, R0, 305) → V g (k11_unwaits, 2, 0, 0) 0 0 7 [(0, .ref (xA g 296)), (1, .int (nI i)), (3, .int (nI (256 * i + t)))] [] (I, L, R0, 305) Q := by
  intro n
  induction n with
  | zero =>
    intro t I L hw hn ht Q hq
    have hw3 : (I 297 (256 * i + 23)).toNatClampNeg = w := by rw [hw]; exact nI_clamp (by omega)
    refine V_iload_n (pc1 := 8) 2 d11_unwaits_7 rfl rfl ?_
    refine V_iload_n (pc1 := 9) 1 d11_unwaits_8 rfl rfl ?_
    refine V_iconst (pc1 := 10) d11_unwaits_9 vc_3 rfl ?_
    refine V_iconst (pc1 := 11) d11_unwaits_10 vc_0 rfl ?_
    refine V_si (pc1 := 14) (w11_wait2 g  i 3 0 (256 * i + 45) (by omega) I L ) s11_wait l11_81 rfl rfl ⟨Nat.le_of_ble_eq_true rfl, Nat.le_of_ble_eq_true rfl, Nat.le_refl _, Nat.le_refl _⟩ (Nat.le_of_ble_eq_true rfl) rfl d11_unwaits_11 rfl ?_
    refine V_icmp_ge (tgt := 37) (pc1 := 17) d11_unwaits_14 (by decide) rfl (fun _ => ?_) (fun h1 => absurd (nI_le (by omega) (by omega)) h1)
    refine V_aload_n (pc1 := 38) 0 d11_unwaits_37 rfl rfl ?_
    refine V_getr (pc1 := 41) ly296 (lt305 rfl) f11_7 (fun _ => rfl) rf296_0 d11_unwaits_38 rfl ?_
    refine V_iload_n (pc1 := 42) 1 d11_unwaits_41 rfl rfl ?_
    refine V_bipush (pc1 := 44) d11_unwaits_42 vb_23 rfl ?_
    refine V_si (pc1 := 47) (w11_at2 g  i 23 (256 * i + 23) (by omega) I L ) s11_at l11_35 rfl rfl ⟨Nat.le_of_ble_eq_true rfl, Nat.le_of_ble_eq_true rfl, Nat.le_refl _, Nat.le_refl _⟩ (Nat.le_of_ble_eq_true rfl) rfl d11_unwaits_44 rfl ?_
    refine V_dup2 (pc1 := 48) d11_unwaits_47 rfl rfl rfl ?_
    refine V_iald2 (pc1 := 49) (256 * i + 23) ly297 (lt305 rfl) rfl (by omega) rfl d11_unwaits_48 rfl ?_
    refine V_iconst (pc1 := 50) d11_unwaits_49 vc_1 rfl ?_
    refine V_isub (pc1 := 51) d11_unwaits_50 rfl ?_
    refine V_iast (pc1 := 52) (256 * i + 23) ly297 (lt305 rfl) rfl (by omega) d11_unwaits_51 rfl ?_
    refine V_aload_n (pc1 := 53) 0 d11_unwaits_52 rfl rfl ?_
    refine V_getr (pc1 := 56) ly296 (lt305 rfl) f11_7 (fun _ => rfl) rf296_0 d11_unwaits_53 rfl ?_
    refine V_iload_n (pc1 := 57) 1 d11_unwaits_56 rfl rfl ?_
    refine V_aload_n (pc1 := 58) 0 d11_unwaits_57 rfl rfl ?_
    refine V_getr (pc1 := 61) ly296 (lt305 rfl) f11_7 (fun _ => rfl) rf296_0 d11_unwaits_58 rfl ?_
    refine V_iload_n (pc1 := 62) 1 d11_unwaits_61 rfl rfl ?_
    refine V_bipush (pc1 := 64) d11_unwaits_62 vb_23 rfl ?_
    refine V_si (pc1 := 67) (w11_at2 g  i 23 (256 * i + 23) (by omega) (uI I 297 (256 * i + 23) ((I 297 (256 * i + 23)) - 1)) L ) s11_at l11_35 rfl rfl ⟨Nat.le_of_ble_eq_true rfl, Nat.le_of_ble_eq_true rfl, Nat.le_refl _, Nat.le_refl _⟩ (Nat.le_of_ble_eq_true rfl) rfl d11_unwaits_64 rfl ?_
    refine V_iald2 (pc1 := 68) (256 * i + 23) ly297 (lt305 rfl) rfl (by omega) ((uI_self I 297 (256 * i + 23) ((I 297 (256 * i + 23)) - 1)).trans (dec_of hw (by omega))) d11_unwaits_67 rfl ?_
    refine V_iconst (pc1 := 69) d11_unwaits_68 vc_4 rfl ?_
    refine V_si (pc1 := 72) (w11_wait2 g  i (w - 1) 4 (256 * (i) + 5 * (w - 1) + (4) + 30) (by omega) (uI I 297 (256 * i + 23) ((I 297 (256 * i + 23)) - 1)) L ) s11_wait l11_81 rfl rfl ⟨Nat.le_of_ble_eq_true rfl, Nat.le_of_ble_eq_true rfl, Nat.le_refl _, Nat.le_refl _⟩ (Nat.le_of_ble_eq_true rfl) rfl d11_unwaits_69 rfl ?_
    refine V_iconst (pc1 := 73) d11_unwaits_72 vc_0 rfl ?_
    refine V_iast (pc1 := 74) (256 * (i) + 5 * (w - 1) + (4) + 30) ly297 (lt305 rfl) rfl (by omega) d11_unwaits_73 rfl ?_
    refine V_vret rfl d11_unwaits_74 (Nat.zero_le _) (Nat.zero_le _) ?_
    have hq2 := hq
    simp only [i11_unwaits_7, hw3] at hq2
    exact hq2
  | succ n ih =>
    intro t I L hw hn ht Q hq
    have hw3 : (I 297 (256 * i + 23)).toNatClampNeg = w := by rw [hw]; exact nI_clamp (by omega)
    refine V_iload_n (pc1 := 8) 2 d11_unwaits_7 rfl rfl ?_
    refine V_iload_n (pc1 := 9) 1 d11_unwaits_8 rfl rfl ?_
    refine V_iconst (pc1 := 10) d11_unwaits_9 vc_3 rfl ?_
    refine V_iconst (pc1 := 11) d11_unwaits_10 vc_0 rfl ?_
    refine V_si (pc1 := 14) (w11_wait2 g  i 3 0 (256 * i + 45) (by omega) I L ) s11_wait l11_81 rfl rfl ⟨Nat.le_of_ble_eq_true rfl, Nat.le_of_ble_eq_true rfl, Nat.le_refl _, Nat.le_refl _⟩ (Nat.le_of_ble_eq_true rfl) rfl d11_unwaits_11 rfl ?_
    refine V_icmp_ge (tgt := 37) (pc1 := 17) d11_unwaits_14 (by decide) rfl (fun h1 => absurd h1 (nI_ge (by omega) (by omega))) (fun _ => ?_)
    refine V_aload_n (pc1 := 18) 0 d11_unwaits_17 rfl rfl ?_
    refine V_getr (pc1 := 21) ly296 (lt305 rfl) f11_7 (fun _ => rfl) rf296_0 d11_unwaits_18 rfl ?_
    refine V_iload_n (pc1 := 22) 2 d11_unwaits_21 rfl rfl ?_
    refine V_aload_n (pc1 := 23) 0 d11_unwaits_22 rfl rfl ?_
    refine V_getr (pc1 := 26) ly296 (lt305 rfl) f11_7 (fun _ => rfl) rf296_0 d11_unwaits_23 rfl ?_
    refine V_iload_n (pc1 := 27) 2 d11_unwaits_26 rfl rfl ?_
    refine V_iconst (pc1 := 28) d11_unwaits_27 vc_5 rfl ?_
    refine V_addN (pc1 := 29) (a := 256 * i + t) (b := 5) (c := 256 * i + t + 5) rfl rfl (by omega) d11_unwaits_28 rfl ?_
    refine V_iald2 (pc1 := 30) (256 * i + t + 5) ly297 (lt305 rfl) rfl (by omega) rfl d11_unwaits_29 rfl ?_
    refine V_iast (pc1 := 31) (256 * i + t) ly297 (lt305 rfl) rfl (by omega) d11_unwaits_30 rfl ?_
    refine V_iinc (pc1 := 34) 2 (v := nI ((256 * i + t) + 1)) d11_unwaits_31 rfl (nI_1 _) (Nat.le_of_ble_eq_true rfl) rfl rfl ?_
    refine V_goto (tgt := 7) d11_unwaits_34 (by decide) ?_
    refine V_lv (lv1 := [(0, .ref (xA g 296)), (1, .int (nI i)), (3, .int (nI (256 * i + (t + 1))))]) (lvsub_p [1, 2, 0] rfl) ?_
    have hq2 := hq
    simp only [i11_unwaits_7, hw3] at hq2
    exact ih (t + 1) (uI I 297 (256 * i + t) (I 297 (256 * i + t + 5))) L ((uI_ne I 297 (I 297 (256 * i + t + 5)) (show (256 * i + 23 : Nat) ≠ 256 * i + t by omega)).trans hw) (by omega) (by omega) Q hq2
def i11_unwaits (i : Nat) (p : Nat) (I : Nat → Nat → Int32) (L : Nat → Nat → Int64) : Nat → Nat → Int32 := i11_unwaits_7 i p (15 - 5 * p) (5 * p + 30) I L
set_option maxRecDepth 4000 in
theorem v11_unwaits (g : GlT)  (i : Nat) (p : Nat) (hi : i < 4) (hp : p ≤ 3) (w : Nat) (hw1 : 1 ≤ w) (hw4 : w ≤ 4) (I : Nat → Nat → Int32) (L : Nat → Nat → Int64) (hw : I 297 (256 * i + 23) = nI w) (Q : Option Value → MemT → Prop) (hq : Q (none) (i11_unwaits i p I L, L, R0, 305)) : V g (k11_unwaits, 2, 0, 0) 0 0 0 [(0, .ref (xA g 296)), (1, .int (nI i)), (2, .int (nI p))] [] (I, L, R0, 305) Q := by
  have hw3 : (I 297 (256 * i + 23)).toNatClampNeg = w := by rw [hw]; exact nI_clamp (by omega)
  refine V_iload_n (pc1 := 1) 1 d11_unwaits_0 rfl rfl ?_
  refine V_iload_n (pc1 := 2) 2 d11_unwaits_1 rfl rfl ?_
  refine V_iconst (pc1 := 3) d11_unwaits_2 vc_0 rfl ?_
  refine V_si (pc1 := 6) (w11_wait2 g  i p 0 (256 * i + 5 * p + 30) (by omega) I L ) s11_wait l11_81 rfl rfl ⟨Nat.le_of_ble_eq_true rfl, Nat.le_of_ble_eq_true rfl, Nat.le_refl _, Nat.le_refl _⟩ (Nat.le_of_ble_eq_true rfl) rfl d11_unwaits_3 rfl ?_
  refine V_istore_n (pc1 := 7) d11_unwaits_6 (Nat.le_of_ble_eq_true rfl) rfl rfl ?_
  refine V_lv (lv1 := [(0, .ref (xA g 296)), (1, .int (nI i)), (3, .int (nI (256 * i + (5 * p + 30))))]) (lvsub_p [1, 2, 0] rfl) ?_
  have hq2 := hq
  simp only [i11_unwaits, hw3] at hq2
  exact t11_unwaits_7 g  _ _ hi hp _ hw1 hw4 (15 - 5 * p) (5 * p + 30) I L hw (by omega) (by omega) Q hq2
theorem w11_unwaits (g : GlT)  (i : Nat) (p : Nat) (hi : i < 4) (hp : p ≤ 3) (w : Nat) (hw1 : 1 ≤ w) (hw4 : w ≤ 4) (I : Nat → Nat → Int32) (L : Nat → Nat → Int64) (hw : I 297 (256 * i + 23) = nI w) : Call g (k11_unwaits, 2, 0, 0) [.ref (xA g 296), .int (nI i), .int (nI p)] (I, L, R0, 305) (Qv (i11_unwaits i p I L) L) := Call.of (by decide) (Nat.le_of_ble_eq_true rfl) rfl (v11_unwaits g  i p hi hp w hw1 hw4 I L hw _ (And.intro rfl rfl))


def i11_waits_20 (i : Nat) (idn : Int32) (rm : Int32) (ln : Int32) (dt : Int32) : Nat → Nat → Int32 → (Nat → Nat → Int32) → (Nat → Nat → Int64) → (Nat → Nat → Int32)
  | 0, j, ky, I, L => uI (uI (uI (uI (uI (uI I 297 (256 * i + 30) idn) 297 (256 * i + 31) rm) 297 (256 * i + 32) ln) 297 (256 * i + 33) dt) 297 (256 * i + 34) 0) 297 (256 * i + 23) ((I 297 (256 * i + 23)) + 1)
  | n + 1, j, ky, I, L => (if ((2 : Int32) * (I 297 (256 * i + 5 * n + 30))) + (I 297 (256 * i + 5 * n + 31)) ≤ ky then uI (uI (uI (uI (uI (uI I 297 (256 * i + 5 * n + 35) idn) 297 (256 * i + 5 * n + 36) rm) 297 (256 * i + 5 * n + 37) ln) 297 (256 * i + 5 * n + 38) dt) 297 (256 * i + 5 * n + 39) 0) 297 (256 * i + 23) ((I 297 (256 * i + 23)) + 1) else i11_waits_20 i idn rm ln dt n n ky (uI (uI (uI (uI (uI I 297 (256 * i + 5 * n + 35) (I 297 (256 * i + 5 * n + 30))) 297 (256 * i + 5 * n + 36) (I 297 (256 * i + 5 * n + 31))) 297 (256 * i + 5 * n + 37) (I 297 (256 * i + 5 * n + 32))) 297 (256 * i + 5 * n + 38) (I 297 (256 * i + 5 * n + 33))) 297 (256 * i + 5 * n + 39) (I 297 (256 * i + 5 * n + 34))) L)
set_option maxRecDepth 4000 in
theorem t11_waits_20 (g : GlT)  (i : Nat) (idn : Int32) (rm : Int32) (ln : Int32) (dt : Int32) (hi : i < 4) (w : Nat) (hw4 : w ≤ 3) : ∀ (n j : Nat) (ky : Int32) (I : Nat → Nat → Int32) (L : Nat → Nat → Int64), (hn : j = n) → (hj : j ≤ 3) → ∀ (Q : Option Value → MemT → Prop), Q (none) (i11_waits_20 i idn rm ln dt n j ky I L, L, R0, 305) → V g (k11_waits, 2, 0, 0) 0 0 20 [(0, .ref (xA g 296)), (1, .int (nI i)), (2, .int idn), (3, .int rm), (4, .int ln), (5, .int dt), (6, .int (nI j)), (7, .int ky)] [] (I, L, R0, 305) Q := by
  intro n
  induction n with
  | zero =>
    intro j ky I L hn hj Q hq
    obtain rfl : j = 0 := hn
    refine V_iload (pc1 := 22) 6 d11_waits_20 rfl rfl ?_
    refine V_if_le (tgt := 110) (pc1 := 25) d11_waits_22 (by decide) rfl (fun _ => ?_) (fun h1 => absurd (by decide) h1)
    refine V_aload_n (pc1 := 111) 0 d11_waits_110 rfl rfl ?_
    refine V_getr (pc1 := 114) ly296 (lt305 rfl) f11_7 (fun _ => rfl) rf296_0 d11_waits_111 rfl ?_
    refine V_iload_n (pc1 := 115) 1 d11_waits_114 rfl rfl ?_
    refine V_iload (pc1 := 117) 6 d11_waits_115 rfl rfl ?_
    refine V_iconst (pc1 := 118) d11_waits_117 vc_0 rfl ?_
    refine V_si (pc1 := 121) (w11_wait2 g  i 0 0 (256 * i + 30) (by omega) I L ) s11_wait l11_81 rfl rfl ⟨Nat.le_of_ble_eq_true rfl, Nat.le_of_ble_eq_true rfl, Nat.le_refl _, Nat.le_refl _⟩ (Nat.le_of_ble_eq_true rfl) rfl d11_waits_118 rfl ?_
    refine V_iload_n (pc1 := 122) 2 d11_waits_121 rfl rfl ?_
    refine V_iast (pc1 := 123) (256 * i + 30) ly297 (lt305 rfl) rfl (by omega) d11_waits_122 rfl ?_
    refine V_aload_n (pc1 := 124) 0 d11_waits_123 rfl rfl ?_
    refine V_getr (pc1 := 127) ly296 (lt305 rfl) f11_7 (fun _ => rfl) rf296_0 d11_waits_124 rfl ?_
    refine V_iload_n (pc1 := 128) 1 d11_waits_127 rfl rfl ?_
    refine V_iload (pc1 := 130) 6 d11_waits_128 rfl rfl ?_
    refine V_iconst (pc1 := 131) d11_waits_130 vc_1 rfl ?_
    refine V_si (pc1 := 134) (w11_wait2 g  i 0 1 (256 * i + 31) (by omega) (uI I 297 (256 * i + 30) idn) L ) s11_wait l11_81 rfl rfl ⟨Nat.le_of_ble_eq_true rfl, Nat.le_of_ble_eq_true rfl, Nat.le_refl _, Nat.le_refl _⟩ (Nat.le_of_ble_eq_true rfl) rfl d11_waits_131 rfl ?_
    refine V_iload_n (pc1 := 135) 3 d11_waits_134 rfl rfl ?_
    refine V_iast (pc1 := 136) (256 * i + 31) ly297 (lt305 rfl) rfl (by omega) d11_waits_135 rfl ?_
    refine V_aload_n (pc1 := 137) 0 d11_waits_136 rfl rfl ?_
    refine V_getr (pc1 := 140) ly296 (lt305 rfl) f11_7 (fun _ => rfl) rf296_0 d11_waits_137 rfl ?_
    refine V_iload_n (pc1 := 141) 1 d11_waits_140 rfl rfl ?_
    refine V_iload (pc1 := 143) 6 d11_waits_141 rfl rfl ?_
    refine V_iconst (pc1 := 144) d11_waits_143 vc_2 rfl ?_
    refine V_si (pc1 := 147) (w11_wait2 g  i 0 2 (256 * i + 32) (by omega) (uI (uI I 297 (256 * i + 30) idn) 297 (256 * i + 31) rm) L ) s11_wait l11_81 rfl rfl ⟨Nat.le_of_ble_eq_true rfl, Nat.le_of_ble_eq_true rfl, Nat.le_refl _, Nat.le_refl _⟩ (Nat.le_of_ble_eq_true rfl) rfl d11_waits_144 rfl ?_
    refine V_iload (pc1 := 149) 4 d11_waits_147 rfl rfl ?_
    refine V_iast (pc1 := 150) (256 * i + 32) ly297 (lt305 rfl) rfl (by omega) d11_waits_149 rfl ?_
    refine V_aload_n (pc1 := 151) 0 d11_waits_150 rfl rfl ?_
    refine V_getr (pc1 := 154) ly296 (lt305 rfl) f11_7 (fun _ => rfl) rf296_0 d11_waits_151 rfl ?_
    refine V_iload_n (pc1 := 155) 1 d11_waits_154 rfl rfl ?_
    refine V_iload (pc1 := 157) 6 d11_waits_155 rfl rfl ?_
    refine V_iconst (pc1 := 158) d11_waits_157 vc_3 rfl ?_
    refine V_si (pc1 := 161) (w11_wait2 g  i 0 3 (256 * i + 33) (by omega) (uI (uI (uI I 297 (256 * i + 30) idn) 297 (256 * i + 31) rm) 297 (256 * i + 32) ln) L ) s11_wait l11_81 rfl rfl ⟨Nat.le_of_ble_eq_true rfl, Nat.le_of_ble_eq_true rfl, Nat.le_refl _, Nat.le_refl _⟩ (Nat.le_of_ble_eq_true rfl) rfl d11_waits_158 rfl ?_
    refine V_iload (pc1 := 163) 5 d11_waits_161 rfl rfl ?_
    refine V_iast (pc1 := 164) (256 * i + 33) ly297 (lt305 rfl) rfl (by omega) d11_waits_163 rfl ?_
    refine V_aload_n (pc1 := 165) 0 d11_waits_164 rfl rfl ?_
    refine V_getr (pc1 := 168) ly296 (lt305 rfl) f11_7 (fun _ => rfl) rf296_0 d11_waits_165 rfl ?_
    refine V_iload_n (pc1 := 169) 1 d11_waits_168 rfl rfl ?_
    refine V_iload (pc1 := 171) 6 d11_waits_169 rfl rfl ?_
    refine V_iconst (pc1 := 172) d11_waits_171 vc_4 rfl ?_
    refine V_si (pc1 := 175) (w11_wait2 g  i 0 4 (256 * i + 34) (by omega) (uI (uI (uI (uI I 297 (256 * i + 30) idn) 297 (256 * i + 31) rm) 297 (256 * i + 32) ln) 297 (256 * i + 33) dt) L ) s11_wait l11_81 rfl rfl ⟨Nat.le_of_ble_eq_true rfl, Nat.le_of_ble_eq_true rfl, Nat.le_refl _, Nat.le_refl _⟩ (Nat.le_of_ble_eq_true rfl) rfl d11_waits_172 rfl ?_
    refine V_iconst (pc1 := 176) d11_waits_175 vc_0 rfl ?_
    refine V_iast (pc1 := 177) (256 * i + 34) ly297 (lt305 rfl) rfl (by omega) d11_waits_176 rfl ?_
    refine V_aload_n (pc1 := 178) 0 d11_waits_177 rfl rfl ?_
    refine V_getr (pc1 := 181) ly296 (lt305 rfl) f11_7 (fun _ => rfl) rf296_0 d11_waits_178 rfl ?_
    refine V_iload_n (pc1 := 182) 1 d11_waits_181 rfl rfl ?_
    refine V_bipush (pc1 := 184) d11_waits_182 vb_23 rfl ?_
    refine V_si (pc1 := 187) (w11_at2 g  i 23 (256 * i + 23) (by omega) (uI (uI (uI (uI (uI I 297 (256 * i + 30) idn) 297 (256 * i + 31) rm) 297 (256 * i + 32) ln) 297 (256 * i + 33) dt) 297 (256 * i + 34) 0) L ) s11_at l11_35 rfl rfl ⟨Nat.le_of_ble_eq_true rfl, Nat.le_of_ble_eq_true rfl, Nat.le_refl _, Nat.le_refl _⟩ (Nat.le_of_ble_eq_true rfl) rfl d11_waits_184 rfl ?_
    refine V_dup2 (pc1 := 188) d11_waits_187 rfl rfl rfl ?_
    refine V_iald2 (pc1 := 189) (256 * i + 23) ly297 (lt305 rfl) rfl (by omega) ((uI_ne (uI (uI (uI (uI I 297 (256 * i + 30) idn) 297 (256 * i + 31) rm) 297 (256 * i + 32) ln) 297 (256 * i + 33) dt) 297 0 (show (256 * i + 23 : Nat) ≠ 256 * i + 34 by omega)).trans ((uI_ne (uI (uI (uI I 297 (256 * i + 30) idn) 297 (256 * i + 31) rm) 297 (256 * i + 32) ln) 297 dt (show (256 * i + 23 : Nat) ≠ 256 * i + 33 by omega)).trans ((uI_ne (uI (uI I 297 (256 * i + 30) idn) 297 (256 * i + 31) rm) 297 ln (show (256 * i + 23 : Nat) ≠ 256 * i + 32 by omega)).trans ((uI_ne (uI I 297 (256 * i + 30) idn) 297 rm (show (256 * i + 23 : Nat) ≠ 256 * i + 31 by omega)).trans (uI_ne I 297 idn (show (256 * i + 23 : Nat) ≠ 256 * i + 30 by omega)))))) d11_waits_188 rfl ?_
    refine V_iconst (pc1 := 190) d11_waits_189 vc_1 rfl ?_
    refine V_iadd (pc1 := 191) d11_waits_190 rfl ?_
    refine V_iast (pc1 := 192) (256 * i + 23) ly297 (lt305 rfl) rfl (by omega) d11_waits_191 rfl ?_
    refine V_vret rfl d11_waits_192 (Nat.zero_le _) (Nat.zero_le _) ?_
    have hq2 := hq
    simp only [i11_waits_20] at hq2
    exact hq2
  | succ n ih =>
    intro j ky I L hn hj Q hq
    obtain rfl : j = n + 1 := hn
    refine V_iload (pc1 := 22) 6 d11_waits_20 rfl rfl ?_
    refine V_if_le (tgt := 110) (pc1 := 25) d11_waits_22 (by decide) rfl (fun h1 => absurd h1 (nI_nle (by omega) (by omega))) (fun _ => ?_)
    refine V_iconst (pc1 := 26) d11_waits_25 vc_2 rfl ?_
    refine V_aload_n (pc1 := 27) 0 d11_waits_26 rfl rfl ?_
    refine V_getr (pc1 := 30) ly296 (lt305 rfl) f11_7 (fun _ => rfl) rf296_0 d11_waits_27 rfl ?_
    refine V_iload_n (pc1 := 31) 1 d11_waits_30 rfl rfl ?_
    refine V_iload (pc1 := 33) 6 d11_waits_31 rfl rfl ?_
    refine V_iconst (pc1 := 34) d11_waits_33 vc_1 rfl ?_
    refine V_subN (pc1 := 35) (a := n + 1) (b := 1) (c := n) rfl rfl (by omega) d11_waits_34 rfl ?_
    refine V_iconst (pc1 := 36) d11_waits_35 vc_0 rfl ?_
    refine V_si (pc1 := 39) (w11_wait2 g  i n 0 (256 * i + 5 * n + 30) (by omega) I L ) s11_wait l11_81 rfl rfl ⟨Nat.le_of_ble_eq_true rfl, Nat.le_of_ble_eq_true rfl, Nat.le_refl _, Nat.le_refl _⟩ (Nat.le_of_ble_eq_true rfl) rfl d11_waits_36 rfl ?_
    refine V_iald2 (pc1 := 40) (256 * i + 5 * n + 30) ly297 (lt305 rfl) rfl (by omega) rfl d11_waits_39 rfl ?_
    refine V_imul (pc1 := 41) d11_waits_40 rfl ?_
    refine V_aload_n (pc1 := 42) 0 d11_waits_41 rfl rfl ?_
    refine V_getr (pc1 := 45) ly296 (lt305 rfl) f11_7 (fun _ => rfl) rf296_0 d11_waits_42 rfl ?_
    refine V_iload_n (pc1 := 46) 1 d11_waits_45 rfl rfl ?_
    refine V_iload (pc1 := 48) 6 d11_waits_46 rfl rfl ?_
    refine V_iconst (pc1 := 49) d11_waits_48 vc_1 rfl ?_
    refine V_subN (pc1 := 50) (a := n + 1) (b := 1) (c := n) rfl rfl (by omega) d11_waits_49 rfl ?_
    refine V_iconst (pc1 := 51) d11_waits_50 vc_1 rfl ?_
    refine V_si (pc1 := 54) (w11_wait2 g  i n 1 (256 * i + 5 * n + 31) (by omega) I L ) s11_wait l11_81 rfl rfl ⟨Nat.le_of_ble_eq_true rfl, Nat.le_of_ble_eq_true rfl, Nat.le_refl _, Nat.le_refl _⟩ (Nat.le_of_ble_eq_true rfl) rfl d11_waits_51 rfl ?_
    refine V_iald2 (pc1 := 55) (256 * i + 5 * n + 31) ly297 (lt305 rfl) rfl (by omega) rfl d11_waits_54 rfl ?_
    refine V_iadd (pc1 := 56) d11_waits_55 rfl ?_
    refine V_iload (pc1 := 58) 7 d11_waits_56 rfl rfl ?_
    refine V_icmp_le (tgt := 110) (pc1 := 61) d11_waits_58 (by decide) rfl (fun h2 => ?_) (fun h2 => ?_)
    · skip
      refine V_aload_n (pc1 := 111) 0 d11_waits_110 rfl rfl ?_
      refine V_getr (pc1 := 114) ly296 (lt305 rfl) f11_7 (fun _ => rfl) rf296_0 d11_waits_111 rfl ?_
      refine V_iload_n (pc1 := 115) 1 d11_waits_114 rfl rfl ?_
      refine V_iload (pc1 := 117) 6 d11_waits_115 rfl rfl ?_
      refine V_iconst (pc1 := 118) d11_waits_117 vc_0 rfl ?_
      refine V_si (pc1 := 121) (w11_wait2 g  i (n + 1) 0 (256 * i + 5 * n + 35) (by omega) I L ) s11_wait l11_81 rfl rfl ⟨Nat.le_of_ble_eq_true rfl, Nat.le_of_ble_eq_true rfl, Nat.le_refl _, Nat.le_refl _⟩ (Nat.le_of_ble_eq_true rfl) rfl d11_waits_118 rfl ?_
      refine V_iload_n (pc1 := 122) 2 d11_waits_121 rfl rfl ?_
      refine V_iast (pc1 := 123) (256 * i + 5 * n + 35) ly297 (lt305 rfl) rfl (by omega) d11_waits_122 rfl ?_
      refine V_aload_n (pc1 := 124) 0 d11_waits_123 rfl rfl ?_
      refine V_getr (pc1 := 127) ly296 (lt305 rfl) f11_7 (fun _ => rfl) rf296_0 d11_waits_124 rfl ?_
      refine V_iload_n (pc1 := 128) 1 d11_waits_127 rfl rfl ?_
      refine V_iload (pc1 := 130) 6 d11_waits_128 rfl rfl ?_
      refine V_iconst (pc1 := 131) d11_waits_130 vc_1 rfl ?_
      refine V_si (pc1 := 134) (w11_wait2 g  i (n + 1) 1 (256 * i + 5 * n + 36) (by omega) (uI I 297 (256 * i + 5 * n + 35) idn) L ) s11_wait l11_81 rfl rfl ⟨Nat.le_of_ble_eq_true rfl, Nat.le_of_ble_eq_true rfl, Nat.le_refl _, Nat.le_refl _⟩ (Nat.le_of_ble_eq_true rfl) rfl d11_waits_131 rfl ?_
      refine V_iload_n (pc1 := 135) 3 d11_waits_134 rfl rfl ?_
      refine V_iast (pc1 := 136) (256 * i + 5 * n + 36) ly297 (lt305 rfl) rfl (by omega) d11_waits_135 rfl ?_
      refine V_aload_n (pc1 := 137) 0 d11_waits_136 rfl rfl ?_
      refine V_getr (pc1 := 140) ly296 (lt305 rfl) f11_7 (fun _ => rfl) rf296_0 d11_waits_137 rfl ?_
      refine V_iload_n (pc1 := 141) 1 d11_waits_140 rfl rfl ?_
      refine V_iload (pc1 := 143) 6 d11_waits_141 rfl rfl ?_
      refine V_iconst (pc1 := 144) d11_waits_143 vc_2 rfl ?_
      refine V_si (pc1 := 147) (w11_wait2 g  i (n + 1) 2 (256 * i + 5 * n + 37) (by omega) (uI (uI I 297 (256 * i + 5 * n + 35) idn) 297 (256 * i + 5 * n + 36) rm) L ) s11_wait l11_81 rfl rfl ⟨Nat.le_of_ble_eq_true rfl, Nat.le_of_ble_eq_true rfl, Nat.le_refl _, Nat.le_refl _⟩ (Nat.le_of_ble_eq_true rfl) rfl d11_waits_144 rfl ?_
      refine V_iload (pc1 := 149) 4 d11_waits_147 rfl rfl ?_
      refine V_iast (pc1 := 150) (256 * i + 5 * n + 37) ly297 (lt305 rfl) rfl (by omega) d11_waits_149 rfl ?_
      refine V_aload_n (pc1 := 151) 0 d11_waits_150 rfl rfl ?_
      refine V_getr (pc1 := 154) ly296 (lt305 rfl) f11_7 (fun _ => rfl) rf296_0 d11_waits_151 rfl ?_
      refine V_iload_n (pc1 := 155) 1 d11_waits_154 rfl rfl ?_
      refine V_iload (pc1 := 157) 6 d11_waits_155 rfl rfl ?_
      refine V_iconst (pc1 := 158) d11_waits_157 vc_3 rfl ?_
      refine V_si (pc1 := 161) (w11_wait2 g  i (n + 1) 3 (256 * i + 5 * n + 38) (by omega) (uI (uI (uI I 297 (256 * i + 5 * n + 35) idn) 297 (256 * i + 5 * n + 36) rm) 297 (256 * i + 5 * n + 37) ln) L ) s11_wait l11_81 rfl rfl ⟨Nat.le_of_ble_eq_true rfl, Nat.le_of_ble_eq_true rfl, Nat.le_refl _, Nat.le_refl _⟩ (Nat.le_of_ble_eq_true rfl) rfl d11_waits_158 rfl ?_
      refine V_iload (pc1 := 163) 5 d11_waits_161 rfl rfl ?_
      refine V_iast (pc1 := 164) (256 * i + 5 * n + 38) ly297 (lt305 rfl) rfl (by omega) d11_waits_163 rfl ?_
      refine V_aload_n (pc1 := 165) 0 d11_waits_164 rfl rfl ?_
      refine V_getr (pc1 := 168) ly296 (lt305 rfl) f11_7 (fun _ => rfl) rf296_0 d11_waits_165 rfl ?_
      refine V_iload_n (pc1 := 169) 1 d11_waits_168 rfl rfl ?_
      refine V_iload (pc1 := 171) 6 d11_waits_169 rfl rfl ?_
      refine V_iconst (pc1 := 172) d11_waits_171 vc_4 rfl ?_
      refine V_si (pc1 := 175) (w11_wait2 g  i (n + 1) 4 (256 * i + 5 * n + 39) (by omega) (uI (uI (uI (uI I 297 (256 * i + 5 * n + 35) idn) 297 (256 * i + 5 * n + 36) rm) 297 (256 * i + 5 * n + 37) ln) 297 (256 * i + 5 * n + 38) dt) L ) s11_wait l11_81 rfl rfl ⟨Nat.le_of_ble_eq_true rfl, Nat.le_of_ble_eq_true rfl, Nat.le_refl _, Nat.le_refl _⟩ (Nat.le_of_ble_eq_true rfl) rfl d11_waits_172 rfl ?_
      refine V_iconst (pc1 := 176) d11_waits_175 vc_0 rfl ?_
      refine V_iast (pc1 := 177) (256 * i + 5 * n + 39) ly297 (lt305 rfl) rfl (by omega) d11_waits_176 rfl ?_
      refine V_aload_n (pc1 := 178) 0 d11_waits_177 rfl rfl ?_
      refine V_getr (pc1 := 181) ly296 (lt305 rfl) f11_7 (fun _ => rfl) rf296_0 d11_waits_178 rfl ?_
      refine V_iload_n (pc1 := 182) 1 d11_waits_181 rfl rfl ?_
      refine V_bipush (pc1 := 184) d11_waits_182 vb_23 rfl ?_
      refine V_si (pc1 := 187) (w11_at2 g  i 23 (256 * i + 23) (by omega) (uI (uI (uI (uI (uI I 297 (256 * i + 5 * n + 35) idn) 297 (256 * i + 5 * n + 36) rm) 297 (256 * i + 5 * n + 37) ln) 297 (256 * i + 5 * n + 38) dt) 297 (256 * i + 5 * n + 39) 0) L ) s11_at l11_35 rfl rfl ⟨Nat.le_of_ble_eq_true rfl, Nat.le_of_ble_eq_true rfl, Nat.le_refl _, Nat.le_refl _⟩ (Nat.le_of_ble_eq_true rfl) rfl d11_waits_184 rfl ?_
      refine V_dup2 (pc1 := 188) d11_waits_187 rfl rfl rfl ?_
      refine V_iald2 (pc1 := 189) (256 * i + 23) ly297 (lt305 rfl) rfl (by omega) ((uI_ne (uI (uI (uI (uI I 297 (256 * i + 5 * n + 35) idn) 297 (256 * i + 5 * n + 36) rm) 297 (256 * i + 5 * n + 37) ln) 297 (256 * i + 5 * n + 38) dt) 297 0 (show (256 * i + 23 : Nat) ≠ 256 * i + 5 * n + 39 by omega)).trans ((uI_ne (uI (uI (uI I 297 (256 * i + 5 * n + 35) idn) 297 (256 * i + 5 * n + 36) rm) 297 (256 * i + 5 * n + 37) ln) 297 dt (show (256 * i + 23 : Nat) ≠ 256 * i + 5 * n + 38 by omega)).trans ((uI_ne (uI (uI I 297 (256 * i + 5 * n + 35) idn) 297 (256 * i + 5 * n + 36) rm) 297 ln (show (256 * i + 23 : Nat) ≠ 256 * i + 5 * n + 37 by omega)).trans ((uI_ne (uI I 297 (256 * i + 5 * n + 35) idn) 297 rm (show (256 * i + 23 : Nat) ≠ 256 * i + 5 * n + 36 by omega)).trans (uI_ne I 297 idn (show (256 * i + 23 : Nat) ≠ 256 * i + 5 * n + 35 by omega)))))) d11_waits_188 rfl ?_
      refine V_iconst (pc1 := 190) d11_waits_189 vc_1 rfl ?_
      refine V_iadd (pc1 := 191) d11_waits_190 rfl ?_
      refine V_iast (pc1 := 192) (256 * i + 23) ly297 (lt305 rfl) rfl (by omega) d11_waits_191 rfl ?_
      refine V_vret rfl d11_waits_192 (Nat.zero_le _) (Nat.zero_le _) ?_
      have hq2 := hq
      simp only [i11_waits_20, if_pos h2] at hq2
      exact hq2
    · skip
      refine V_iconst (pc1 := 62) d11_waits_61 vc_0 rfl ?_
      refine V_istore (pc1 := 64) d11_waits_62 (Nat.le_of_ble_eq_true rfl) rfl rfl ?_
      refine V_iload (pc1 := 66) 0 d11_waits_64 rfl rfl ?_
      refine V_iconst (pc1 := 67) d11_waits_66 vc_5 rfl ?_
      refine V_icmp_ge (tgt := 104) (pc1 := 70) d11_waits_67 (by decide) rfl (fun h3 => absurd h3 (by decide)) (fun _ => ?_)
      refine V_aload_n (pc1 := 71) 1 d11_waits_70 rfl rfl ?_
      refine V_getr (pc1 := 74) ly296 (lt305 rfl) f11_7 (fun _ => rfl) rf296_0 d11_waits_71 rfl ?_
      refine V_iload_n (pc1 := 75) 2 d11_waits_74 rfl rfl ?_
      refine V_iload (pc1 := 77) 7 d11_waits_75 rfl rfl ?_
      refine V_iload (pc1 := 79) 0 d11_waits_77 rfl rfl ?_
      refine V_si (pc1 := 82) (w11_wait2 g  i (n + 1) 0 (256 * i + 5 * n + 35) (by omega) I L ) s11_wait l11_81 rfl rfl ⟨Nat.le_of_ble_eq_true rfl, Nat.le_of_ble_eq_true rfl, Nat.le_refl _, Nat.le_refl _⟩ (Nat.le_of_ble_eq_true rfl) rfl d11_waits_79 rfl ?_
      refine V_aload_n (pc1 := 83) 1 d11_waits_82 rfl rfl ?_
      refine V_getr (pc1 := 86) ly296 (lt305 rfl) f11_7 (fun _ => rfl) rf296_0 d11_waits_83 rfl ?_
      refine V_iload_n (pc1 := 87) 2 d11_waits_86 rfl rfl ?_
      refine V_iload (pc1 := 89) 7 d11_waits_87 rfl rfl ?_
      refine V_iconst (pc1 := 90) d11_waits_89 vc_1 rfl ?_
      refine V_subN (pc1 := 91) (a := n + 1) (b := 1) (c := n) rfl rfl (by omega) d11_waits_90 rfl ?_
      refine V_iload (pc1 := 93) 0 d11_waits_91 rfl rfl ?_
      refine V_si (pc1 := 96) (w11_wait2 g  i n 0 (256 * i + 5 * n + 30) (by omega) I L ) s11_wait l11_81 rfl rfl ⟨Nat.le_of_ble_eq_true rfl, Nat.le_of_ble_eq_true rfl, Nat.le_refl _, Nat.le_refl _⟩ (Nat.le_of_ble_eq_true rfl) rfl d11_waits_93 rfl ?_
      refine V_iald2 (pc1 := 97) (256 * i + 5 * n + 30) ly297 (lt305 rfl) rfl (by omega) rfl d11_waits_96 rfl ?_
      refine V_iast (pc1 := 98) (256 * i + 5 * n + 35) ly297 (lt305 rfl) rfl (by omega) d11_waits_97 rfl ?_
      refine V_iinc (pc1 := 101) 0 (v := 1) d11_waits_98 rfl (by decide) (Nat.le_of_ble_eq_true rfl) rfl rfl ?_
      refine V_goto (tgt := 64) d11_waits_101 (by decide) ?_
      refine V_iload (pc1 := 66) 0 d11_waits_64 rfl rfl ?_
      refine V_iconst (pc1 := 67) d11_waits_66 vc_5 rfl ?_
      refine V_icmp_ge (tgt := 104) (pc1 := 70) d11_waits_67 (by decide) rfl (fun h4 => absurd h4 (by decide)) (fun _ => ?_)
      refine V_aload_n (pc1 := 71) 1 d11_waits_70 rfl rfl ?_
      refine V_getr (pc1 := 74) ly296 (lt305 rfl) f11_7 (fun _ => rfl) rf296_0 d11_waits_71 rfl ?_
      refine V_iload_n (pc1 := 75) 2 d11_waits_74 rfl rfl ?_
      refine V_iload (pc1 := 77) 7 d11_waits_75 rfl rfl ?_
      refine V_iload (pc1 := 79) 0 d11_waits_77 rfl rfl ?_
      refine V_si (pc1 := 82) (w11_wait2 g  i (n + 1) 1 (256 * i + 5 * n + 36) (by omega) (uI I 297 (256 * i + 5 * n + 35) (I 297 (256 * i + 5 * n + 30))) L ) s11_wait l11_81 rfl rfl ⟨Nat.le_of_ble_eq_true rfl, Nat.le_of_ble_eq_true rfl, Nat.le_refl _, Nat.le_refl _⟩ (Nat.le_of_ble_eq_true rfl) rfl d11_waits_79 rfl ?_
      refine V_aload_n (pc1 := 83) 1 d11_waits_82 rfl rfl ?_
      refine V_getr (pc1 := 86) ly296 (lt305 rfl) f11_7 (fun _ => rfl) rf296_0 d11_waits_83 rfl ?_
      refine V_iload_n (pc1 := 87) 2 d11_waits_86 rfl rfl ?_
      refine V_iload (pc1 := 89) 7 d11_waits_87 rfl rfl ?_
      refine V_iconst (pc1 := 90) d11_waits_89 vc_1 rfl ?_
      refine V_subN (pc1 := 91) (a := n + 1) (b := 1) (c := n) rfl rfl (by omega) d11_waits_90 rfl ?_
      refine V_iload (pc1 := 93) 0 d11_waits_91 rfl rfl ?_
      refine V_si (pc1 := 96) (w11_wait2 g  i n 1 (256 * i + 5 * n + 31) (by omega) (uI I 297 (256 * i + 5 * n + 35) (I 297 (256 * i + 5 * n + 30))) L ) s11_wait l11_81 rfl rfl ⟨Nat.le_of_ble_eq_true rfl, Nat.le_of_ble_eq_true rfl, Nat.le_refl _, Nat.le_refl _⟩ (Nat.le_of_ble_eq_true rfl) rfl d11_waits_93 rfl ?_
      refine V_iald2 (pc1 := 97) (256 * i + 5 * n + 31) ly297 (lt305 rfl) rfl (by omega) (uI_ne I 297 (I 297 (256 * i + 5 * n + 30)) (show (256 * i + 5 * n + 31 : Nat) ≠ 256 * i + 5 * n + 35 by omega)) d11_waits_96 rfl ?_
      refine V_iast (pc1 := 98) (256 * i + 5 * n + 36) ly297 (lt305 rfl) rfl (by omega) d11_waits_97 rfl ?_
      refine V_iinc (pc1 := 101) 0 (v := 2) d11_waits_98 rfl (by decide) (Nat.le_of_ble_eq_true rfl) rfl rfl ?_
      refine V_goto (tgt := 64) d11_waits_101 (by decide) ?_
      refine V_iload (pc1 := 66) 0 d11_waits_64 rfl rfl ?_
      refine V_iconst (pc1 := 67) d11_waits_66 vc_5 rfl ?_
      refine V_icmp_ge (tgt := 104) (pc1 := 70) d11_waits_67 (by decide) rfl (fun h5 => absurd h5 (by decide)) (fun _ => ?_)
      refine V_aload_n (pc1 := 71) 1 d11_waits_70 rfl rfl ?_
      refine V_getr (pc1 := 74) ly296 (lt305 rfl) f11_7 (fun _ => rfl) rf296_0 d11_waits_71 rfl ?_
      refine V_iload_n (pc1 := 75) 2 d11_waits_74 rfl rfl ?_
      refine V_iload (pc1 := 77) 7 d11_waits_75 rfl rfl ?_
      refine V_iload (pc1 := 79) 0 d11_waits_77 rfl rfl ?_
      refine V_si (pc1 := 82) (w11_wait2 g  i (n + 1) 2 (256 * i + 5 * n + 37) (by omega) (uI (uI I 297 (256 * i + 5 * n + 35) (I 297 (256 * i + 5 * n + 30))) 297 (256 * i + 5 * n + 36) (I 297 (256 * i + 5 * n + 31))) L ) s11_wait l11_81 rfl rfl ⟨Nat.le_of_ble_eq_true rfl, Nat.le_of_ble_eq_true rfl, Nat.le_refl _, Nat.le_refl _⟩ (Nat.le_of_ble_eq_true rfl) rfl d11_waits_79 rfl ?_
      refine V_aload_n (pc1 := 83) 1 d11_waits_82 rfl rfl ?_
      refine V_getr (pc1 := 86) ly296 (lt305 rfl) f11_7 (fun _ => rfl) rf296_0 d11_waits_83 rfl ?_
      refine V_iload_n (pc1 := 87) 2 d11_waits_86 rfl rfl ?_
      refine V_iload (pc1 := 89) 7 d11_waits_87 rfl rfl ?_
      refine V_iconst (pc1 := 90) d11_waits_89 vc_1 rfl ?_
      refine V_subN (pc1 := 91) (a := n + 1) (b := 1) (c := n) rfl rfl (by omega) d11_waits_90 rfl ?_
      refine V_iload (pc1 := 93) 0 d11_waits_91 rfl rfl ?_
      refine V_si (pc1 := 96) (w11_wait2 g  i n 2 (256 * i + 5 * n + 32) (by omega) (uI (uI I 297 (256 * i + 5 * n + 35) (I 297 (256 * i + 5 * n + 30))) 297 (256 * i + 5 * n + 36) (I 297 (256 * i + 5 * n + 31))) L ) s11_wait l11_81 rfl rfl ⟨Nat.le_of_ble_eq_true rfl, Nat.le_of_ble_eq_true rfl, Nat.le_refl _, Nat.le_refl _⟩ (Nat.le_of_ble_eq_true rfl) rfl d11_waits_93 rfl ?_
      refine V_iald2 (pc1 := 97) (256 * i + 5 * n + 32) ly297 (lt305 rfl) rfl (by omega) ((uI_ne (uI I 297 (256 * i + 5 * n + 35) (I 297 (256 * i + 5 * n + 30))) 297 (I 297 (256 * i + 5 * n + 31)) (show (256 * i + 5 * n + 32 : Nat) ≠ 256 * i + 5 * n + 36 by omega)).trans (uI_ne I 297 (I 297 (256 * i + 5 * n + 30)) (show (256 * i + 5 * n + 32 : Nat) ≠ 256 * i + 5 * n + 35 by omega))) d11_waits_96 rfl ?_
      refine V_iast (pc1 := 98) (256 * i + 5 * n + 37) ly297 (lt305 rfl) rfl (by omega) d11_waits_97 rfl ?_
      refine V_iinc (pc1 := 101) 0 (v := 3) d11_waits_98 rfl (by decide) (Nat.le_of_ble_eq_true rfl) rfl rfl ?_
      refine V_goto (tgt := 64) d11_waits_101 (by decide) ?_
      refine V_iload (pc1 := 66) 0 d11_waits_64 rfl rfl ?_
      refine V_iconst (pc1 := 67) d11_waits_66 vc_5 rfl ?_
      refine V_icmp_ge (tgt := 104) (pc1 := 70) d11_waits_67 (by decide) rfl (fun h6 => absurd h6 (by decide)) (fun _ => ?_)
      refine V_aload_n (pc1 := 71) 1 d11_waits_70 rfl rfl ?_
      refine V_getr (pc1 := 74) ly296 (lt305 rfl) f11_7 (fun _ => rfl) rf296_0 d11_waits_71 rfl ?_
      refine V_iload_n (pc1 := 75) 2 d11_waits_74 rfl rfl ?_
      refine V_iload (pc1 := 77) 7 d11_waits_75 rfl rfl ?_
      refine V_iload (pc1 := 79) 0 d11_waits_77 rfl rfl ?_
      refine V_si (pc1 := 82) (w11_wait2 g  i (n + 1) 3 (256 * i + 5 * n + 38) (by omega) (uI (uI (uI I 297 (256 * i + 5 * n + 35) (I 297 (256 * i + 5 * n + 30))) 297 (256 * i + 5 * n + 36) (I 297 (256 * i + 5 * n + 31))) 297 (256 * i + 5 * n + 37) (I 297 (256 * i + 5 * n + 32))) L ) s11_wait l11_81 rfl rfl ⟨Nat.le_of_ble_eq_true rfl, Nat.le_of_ble_eq_true rfl, Nat.le_refl _, Nat.le_refl _⟩ (Nat.le_of_ble_eq_true rfl) rfl d11_waits_79 rfl ?_
      refine V_aload_n (pc1 := 83) 1 d11_waits_82 rfl rfl ?_
      refine V_getr (pc1 := 86) ly296 (lt305 rfl) f11_7 (fun _ => rfl) rf296_0 d11_waits_83 rfl ?_
      refine V_iload_n (pc1 := 87) 2 d11_waits_86 rfl rfl ?_
      refine V_iload (pc1 := 89) 7 d11_waits_87 rfl rfl ?_
      refine V_iconst (pc1 := 90) d11_waits_89 vc_1 rfl ?_
      refine V_subN (pc1 := 91) (a := n + 1) (b := 1) (c := n) rfl rfl (by omega) d11_waits_90 rfl ?_
      refine V_iload (pc1 := 93) 0 d11_waits_91 rfl rfl ?_
      refine V_si (pc1 := 96) (w11_wait2 g  i n 3 (256 * i + 5 * n + 33) (by omega) (uI (uI (uI I 297 (256 * i + 5 * n + 35) (I 297 (256 * i + 5 * n + 30))) 297 (256 * i + 5 * n + 36) (I 297 (256 * i + 5 * n + 31))) 297 (256 * i + 5 * n + 37) (I 297 (256 * i + 5 * n + 32))) L ) s11_wait l11_81 rfl rfl ⟨Nat.le_of_ble_eq_true rfl, Nat.le_of_ble_eq_true rfl, Nat.le_refl _, Nat.le_refl _⟩ (Nat.le_of_ble_eq_true rfl) rfl d11_waits_93 rfl ?_
      refine V_iald2 (pc1 := 97) (256 * i + 5 * n + 33) ly297 (lt305 rfl) rfl (by omega) ((uI_ne (uI (uI I 297 (256 * i + 5 * n + 35) (I 297 (256 * i + 5 * n + 30))) 297 (256 * i + 5 * n + 36) (I 297 (256 * i + 5 * n + 31))) 297 (I 297 (256 * i + 5 * n + 32)) (show (256 * i + 5 * n + 33 : Nat) ≠ 256 * i + 5 * n + 37 by omega)).trans ((uI_ne (uI I 297 (256 * i + 5 * n + 35) (I 297 (256 * i + 5 * n + 30))) 297 (I 297 (256 * i + 5 * n + 31)) (show (256 * i + 5 * n + 33 : Nat) ≠ 256 * i + 5 * n + 36 by omega)).trans (uI_ne I 297 (I 297 (256 * i + 5 * n + 30)) (show (256 * i + 5 * n + 33 : Nat) ≠ 256 * i + 5 * n + 35 by omega)))) d11_waits_96 rfl ?_
      refine V_iast (pc1 := 98) (256 * i + 5 * n + 38) ly297 (lt305 rfl) rfl (by omega) d11_waits_97 rfl ?_
      refine V_iinc (pc1 := 101) 0 (v := 4) d11_waits_98 rfl (by decide) (Nat.le_of_ble_eq_true rfl) rfl rfl ?_
      refine V_goto (tgt := 64) d11_waits_101 (by decide) ?_
      refine V_iload (pc1 := 66) 0 d11_waits_64 rfl rfl ?_
      refine V_iconst (pc1 := 67) d11_waits_66 vc_5 rfl ?_
      refine V_icmp_ge (tgt := 104) (pc1 := 70) d11_waits_67 (by decide) rfl (fun h7 => absurd h7 (by decide)) (fun _ => ?_)
      refine V_aload_n (pc1 := 71) 1 d11_waits_70 rfl rfl ?_
      refine V_getr (pc1 := 74) ly296 (lt305 rfl) f11_7 (fun _ => rfl) rf296_0 d11_waits_71 rfl ?_
      refine V_iload_n (pc1 := 75) 2 d11_waits_74 rfl rfl ?_
      refine V_iload (pc1 := 77) 7 d11_waits_75 rfl rfl ?_
      refine V_iload (pc1 := 79) 0 d11_waits_77 rfl rfl ?_
      refine V_si (pc1 := 82) (w11_wait2 g  i (n + 1) 4 (256 * i + 5 * n + 39) (by omega) (uI (uI (uI (uI I 297 (256 * i + 5 * n + 35) (I 297 (256 * i + 5 * n + 30))) 297 (256 * i + 5 * n + 36) (I 297 (256 * i + 5 * n + 31))) 297 (256 * i + 5 * n + 37) (I 297 (256 * i + 5 * n + 32))) 297 (256 * i + 5 * n + 38) (I 297 (256 * i + 5 * n + 33))) L ) s11_wait l11_81 rfl rfl ⟨Nat.le_of_ble_eq_true rfl, Nat.le_of_ble_eq_true rfl, Nat.le_refl _, Nat.le_refl _⟩ (Nat.le_of_ble_eq_true rfl) rfl d11_waits_79 rfl ?_
      refine V_aload_n (pc1 := 83) 1 d11_waits_82 rfl rfl ?_
      refine V_getr (pc1 := 86) ly296 (lt305 rfl) f11_7 (fun _ => rfl) rf296_0 d11_waits_83 rfl ?_
      refine V_iload_n (pc1 := 87) 2 d11_waits_86 rfl rfl ?_
      refine V_iload (pc1 := 89) 7 d11_waits_87 rfl rfl ?_
      refine V_iconst (pc1 := 90) d11_waits_89 vc_1 rfl ?_
      refine V_subN (pc1 := 91) (a := n + 1) (b := 1) (c := n) rfl rfl (by omega) d11_waits_90 rfl ?_
      refine V_iload (pc1 := 93) 0 d11_waits_91 rfl rfl ?_
      refine V_si (pc1 := 96) (w11_wait2 g  i n 4 (256 * i + 5 * n + 34) (by omega) (uI (uI (uI (uI I 297 (256 * i + 5 * n + 35) (I 297 (256 * i + 5 * n + 30))) 297 (256 * i + 5 * n + 36) (I 297 (256 * i + 5 * n + 31))) 297 (256 * i + 5 * n + 37) (I 297 (256 * i + 5 * n + 32))) 297 (256 * i + 5 * n + 38) (I 297 (256 * i + 5 * n + 33))) L ) s11_wait l11_81 rfl rfl ⟨Nat.le_of_ble_eq_true rfl, Nat.le_of_ble_eq_true rfl, Nat.le_refl _, Nat.le_refl _⟩ (Nat.le_of_ble_eq_true rfl) rfl d11_waits_93 rfl ?_
      refine V_iald2 (pc1 := 97) (256 * i + 5 * n + 34) ly297 (lt305 rfl) rfl (by omega) ((uI_ne (uI (uI (uI I 297 (256 * i + 5 * n + 35) (I 297 (256 * i + 5 * n + 30))) 297 (256 * i + 5 * n + 36) (I 297 (256 * i + 5 * n + 31))) 297 (256 * i + 5 * n + 37) (I 297 (256 * i + 5 * n + 32))) 297 (I 297 (256 * i + 5 * n + 33)) (show (256 * i + 5 * n + 34 : Nat) ≠ 256 * i + 5 * n + 38 by omega)).trans ((uI_ne (uI (uI I 297 (256 * i + 5 * n + 35) (I 297 (256 * i + 5 * n + 30))) 297 (256 * i + 5 * n + 36) (I 297 (256 * i + 5 * n + 31))) 297 (I 297 (256 * i + 5 * n + 32)) (show (256 * i + 5 * n + 34 : Nat) ≠ 256 * i + 5 * n + 37 by omega)).trans ((uI_ne (uI I 297 (256 * i + 5 * n + 35) (I 297 (256 * i + 5 * n + 30))) 297 (I 297 (256 * i + 5 * n + 31)) (show (256 * i + 5 * n + 34 : Nat) ≠ 256 * i + 5 * n + 36 by omega)).trans (uI_ne I 297 (I 297 (256 * i + 5 * n + 30)) (show (256 * i + 5 * n + 34 : Nat) ≠ 256 * i + 5 * n + 35 by omega))))) d11_waits_96 rfl ?_
      refine V_iast (pc1 := 98) (256 * i + 5 * n + 39) ly297 (lt305 rfl) rfl (by omega) d11_waits_97 rfl ?_
      refine V_iinc (pc1 := 101) 0 (v := 5) d11_waits_98 rfl (by decide) (Nat.le_of_ble_eq_true rfl) rfl rfl ?_
      refine V_goto (tgt := 64) d11_waits_101 (by decide) ?_
      refine V_iload (pc1 := 66) 0 d11_waits_64 rfl rfl ?_
      refine V_iconst (pc1 := 67) d11_waits_66 vc_5 rfl ?_
      refine V_icmp_ge (tgt := 104) (pc1 := 70) d11_waits_67 (by decide) rfl (fun _ => ?_) (fun h8 => absurd (by decide) h8)
      refine V_iinc (pc1 := 107) 7 (v := nI n) d11_waits_104 rfl (by rw [vc_m1]; exact pk_m1 n) (Nat.le_of_ble_eq_true rfl) rfl rfl ?_
      refine V_goto (tgt := 20) d11_waits_107 (by decide) ?_
      refine V_lv (lv1 := [(0, .ref (xA g 296)), (1, .int (nI i)), (2, .int idn), (3, .int rm), (4, .int ln), (5, .int dt), (6, .int (nI n)), (7, .int ky)]) (lvsub_p [2, 3, 4, 5, 6, 7, 0, 8] rfl) ?_
      have hq2 := hq
      simp only [i11_waits_20, if_neg h2] at hq2
      exact ih n ky (uI (uI (uI (uI (uI I 297 (256 * i + 5 * n + 35) (I 297 (256 * i + 5 * n + 30))) 297 (256 * i + 5 * n + 36) (I 297 (256 * i + 5 * n + 31))) 297 (256 * i + 5 * n + 37) (I 297 (256 * i + 5 * n + 32))) 297 (256 * i + 5 * n + 38) (I 297 (256 * i + 5 * n + 33))) 297 (256 * i + 5 * n + 39) (I 297 (256 * i + 5 * n + 34))) L rfl (by omega) Q hq2
def i11_waits (i : Nat) (idn : Int32) (rm : Int32) (ln : Int32) (dt : Int32) (I : Nat → Nat → Int32) (L : Nat → Nat → Int64) : Nat → Nat → Int32 := i11_waits_20 i idn rm ln dt ((I 297 (256 * i + 23)).toNatClampNeg) ((I 297 (256 * i + 23)).toNatClampNeg) (((2 : Int32) * idn) + rm) I L
set_option maxRecDepth 4000 in
theorem v11_waits (g : GlT)  (i : Nat) (idn : Int32) (rm : Int32) (ln : Int32) (dt : Int32) (hi : i < 4) (w : Nat) (hw4 : w ≤ 3) (I : Nat → Nat → Int32) (L : Nat → Nat → Int64) (hw : I 297 (256 * i + 23) = nI w) (Q : Option Value → MemT → Prop) (hq : Q (none) (i11_waits i idn rm ln dt I L, L, R0, 305)) : V g (k11_waits, 2, 0, 0) 0 0 0 [(0, .ref (xA g 296)), (1, .int (nI i)), (2, .int idn), (3, .int rm), (4, .int ln), (5, .int dt)] [] (I, L, R0, 305) Q := by
  have hw3 : (I 297 (256 * i + 23)).toNatClampNeg = w := by rw [hw]; exact nI_clamp (by omega)
  refine V_aload_n (pc1 := 1) 0 d11_waits_0 rfl rfl ?_
  refine V_getr (pc1 := 4) ly296 (lt305 rfl) f11_7 (fun _ => rfl) rf296_0 d11_waits_1 rfl ?_
  refine V_iload_n (pc1 := 5) 1 d11_waits_4 rfl rfl ?_
  refine V_bipush (pc1 := 7) d11_waits_5 vb_23 rfl ?_
  refine V_si (pc1 := 10) (w11_at2 g  i 23 (256 * i + 23) (by omega) I L ) s11_at l11_35 rfl rfl ⟨Nat.le_of_ble_eq_true rfl, Nat.le_of_ble_eq_true rfl, Nat.le_refl _, Nat.le_refl _⟩ (Nat.le_of_ble_eq_true rfl) rfl d11_waits_7 rfl ?_
  refine V_iald2 (pc1 := 11) (256 * i + 23) ly297 (lt305 rfl) rfl (by omega) hw d11_waits_10 rfl ?_
  refine V_istore (pc1 := 13) d11_waits_11 (Nat.le_of_ble_eq_true rfl) rfl rfl ?_
  refine V_iconst (pc1 := 14) d11_waits_13 vc_2 rfl ?_
  refine V_iload_n (pc1 := 15) 3 d11_waits_14 rfl rfl ?_
  refine V_imul (pc1 := 16) d11_waits_15 rfl ?_
  refine V_iload_n (pc1 := 17) 4 d11_waits_16 rfl rfl ?_
  refine V_iadd (pc1 := 18) d11_waits_17 rfl ?_
  refine V_istore (pc1 := 20) d11_waits_18 (Nat.le_of_ble_eq_true rfl) rfl rfl ?_
  refine V_lv (lv1 := [(0, .ref (xA g 296)), (1, .int (nI i)), (2, .int idn), (3, .int rm), (4, .int ln), (5, .int dt), (6, .int (nI w)), (7, .int (((2 : Int32) * idn) + rm))]) (lvsub_p [2, 3, 4, 5, 6, 7, 1, 0] rfl) ?_
  have hq2 := hq
  simp only [i11_waits, hw3] at hq2
  exact t11_waits_20 g  _ _ _ _ _ hi _ hw4 w w (((2 : Int32) * idn) + rm) I L rfl (by omega) Q hq2
theorem w11_waits (g : GlT)  (i : Nat) (idn : Int32) (rm : Int32) (ln : Int32) (dt : Int32) (hi : i < 4) (w : Nat) (hw4 : w ≤ 3) (I : Nat → Nat → Int32) (L : Nat → Nat → Int64) (hw : I 297 (256 * i + 23) = nI w) : Call g (k11_waits, 2, 0, 0) [.ref (xA g 296), .int (nI i), .int idn, .int rm, .int ln, .int dt] (I, L, R0, 305) (Qv (i11_waits i idn rm ln dt I L) L) := Call.of (by decide) (Nat.le_of_ble_eq_true rfl) rfl (v11_waits g  i idn rm ln dt hi w hw4 I L hw _ (And.intro rfl rfl))

