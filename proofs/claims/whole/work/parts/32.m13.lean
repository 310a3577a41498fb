theorem t120_lt {t : Nat} (h8 : t ≤ 120) (h : ¬ nI t = 120) : t < 120 := by
  rcases Nat.lt_or_ge t 120 with e | e
  · exact e
  · exact absurd (by rw [show t = 120 by omega]; decide) h

def r11_append (x : Int32) (I : Nat → Nat → Int32) (L : Nat → Nat → Int64) : Int32 := (if (r11_in x 0 127) = true then (if nI ((I 296 5).toNatClampNeg) = 120 then (-3) else (I 296 5) + 1) else (-2))
def i11_append (x : Int32) (I : Nat → Nat → Int32) (L : Nat → Nat → Int64) : Nat → Nat → Int32 := (if (r11_in x 0 127) = true then (if nI ((I 296 5).toNatClampNeg) = 120 then I else uI (uI I 301 ((I 296 5).toNatClampNeg) x) 296 5 ((I 296 5) + 1)) else I)
set_option maxRecDepth 4000 in
theorem v11_append (g : GlT)  (x : Int32) (t : Nat) (ht8 : t ≤ 120) (I : Nat → Nat → Int32) (L : Nat → Nat → Int64) (ht : I 296 5 = nI t) (Q : Option Value → MemT → Prop) (hq : Q (some (.int (r11_append x I L))) (i11_append x I L, L, R0, 305)) : V g (k11_append, 2, 0, 0) 0 0 0 [(0, .ref (xA g 296)), (1, .int x)] [] (I, L, R0, 305) Q := by
  have ht3 : (I 296 5).toNatClampNeg = t := by rw [ht]; exact nI_clamp (by omega)
  refine V_iload_n (pc1 := 1) 1 d11_append_0 rfl rfl ?_
  refine V_iconst (pc1 := 2) d11_append_1 vc_0 rfl ?_
  refine V_bipush (pc1 := 4) d11_append_2 vb_127 rfl ?_
  refine V_si (pc1 := 7) (w11_in g  x 0 127  I L ) s11_in l11_39 rfl rfl ⟨Nat.le_of_ble_eq_true rfl, Nat.le_of_ble_eq_true rfl, Nat.le_refl _, Nat.le_refl _⟩ (Nat.le_of_ble_eq_true rfl) rfl d11_append_4 rfl ?_
  refine V_bne (tgt := 13) (pc1 := 10) d11_append_7 (by decide) rfl (fun h1 => ?_) (fun h1 => ?_)
  · skip
    refine V_aload_n (pc1 := 14) 0 d11_append_13 rfl rfl ?_
    refine V_geti (pc1 := 17) ly296 (lt305 rfl) f11_211 (fun _ => rfl) ht d11_append_14 rfl ?_
    refine V_bipush (pc1 := 19) d11_append_17 vb_120 rfl ?_
    refine V_icmp_ne (tgt := 25) (pc1 := 22) d11_append_19 (by decide) rfl (fun h2 => ?_) (fun h2 => ?_)
    · skip
      have ht7 := t120_lt ht8 h2
      refine V_aload_n (pc1 := 26) 0 d11_append_25 rfl rfl ?_
      refine V_getr (pc1 := 29) ly296 (lt305 rfl) f11_23 (fun _ => rfl) rf296_4 d11_append_26 rfl ?_
      refine V_aload_n (pc1 := 30) 0 d11_append_29 rfl rfl ?_
      refine V_geti (pc1 := 33) ly296 (lt305 rfl) f11_211 (fun _ => rfl) ht d11_append_30 rfl ?_
      refine V_iload_n (pc1 := 34) 1 d11_append_33 rfl rfl ?_
      refine V_iast (pc1 := 35) t ly301 (lt305 rfl) rfl (by omega) d11_append_34 rfl ?_
      refine V_aload_n (pc1 := 36) 0 d11_append_35 rfl rfl ?_
      refine V_dup (pc1 := 37) d11_append_36 rfl rfl ?_
      refine V_geti (pc1 := 40) ly296 (lt305 rfl) f11_211 (fun _ => rfl) (congrFun (uI_off I t x (show (296 : Nat) ≠ 301 by decide)) _) d11_append_37 rfl ?_
      refine V_iconst (pc1 := 41) d11_append_40 vc_1 rfl ?_
      refine V_iadd (pc1 := 42) d11_append_41 rfl ?_
      refine V_puti (pc1 := 45) ly296 (lt305 rfl) f11_211 rfl rfl d11_append_42 rfl ?_
      refine V_aload_n (pc1 := 46) 0 d11_append_45 rfl rfl ?_
      refine V_geti (pc1 := 49) ly296 (lt305 rfl) f11_211 (fun _ => rfl) (uI_self (uI I 301 t x) 296 5 ((I 296 5) + 1)) d11_append_46 rfl ?_
      refine V_iret rfl d11_append_49 (Nat.zero_le _) (Nat.zero_le _) ?_
      have hq2 := hq
      simp only [r11_append, i11_append, ht3, if_pos h1, if_neg h2] at hq2
      exact hq2
    · skip
      refine V_bipush (pc1 := 24) d11_append_22 vb_m3 rfl ?_
      refine V_iret rfl d11_append_24 (Nat.zero_le _) (Nat.zero_le _) ?_
      have hq2 := hq
      simp only [r11_append, i11_append, ht3, if_pos h1, if_pos h2] at hq2
      exact hq2
  · skip
    refine V_bipush (pc1 := 12) d11_append_10 vb_m2 rfl ?_
    refine V_iret rfl d11_append_12 (Nat.zero_le _) (Nat.zero_le _) ?_
    have hq2 := hq
    simp only [r11_append, i11_append, ht3, if_neg h1] at hq2
    exact hq2
theorem w11_append (g : GlT)  (x : Int32) (t : Nat) (ht8 : t ≤ 120) (I : Nat → Nat → Int32) (L : Nat → Nat → Int64) (ht : I 296 5 = nI t) : Call g (k11_append, 2, 0, 0) [.ref (xA g 296), .int x] (I, L, R0, 305) (Qi (r11_append x I L) (i11_append x I L) L) := Call.of (by decide) (Nat.le_of_ble_eq_true rfl) rfl (v11_append g  x t ht8 I L ht _ (And.intro rfl rfl))

theorem xs11_append {x : Int32} {I : Nat → Nat → Int32} {L : Nat → Nat → Int64} {s0 : Nat}  : i11_append x I L 297 s0 = I 297 s0 := by
  first | (simp only [i11_append]; done) | (simp only [i11_append]; (try (repeat' split)) <;> first | rfl | (simp [uI_eq]; done))

def r11_here (I : Nat → Nat → Int32) (L : Nat → Nat → Int64) : Int32 := (if nI ((I 296 5).toNatClampNeg) ≤ nI ((I 296 9).toNatClampNeg) then (-1) else I 301 ((I 296 9).toNatClampNeg))
set_option maxRecDepth 4000 in
theorem v11_here (g : GlT)  (t : Nat) (ht8 : t ≤ 120) (p : Nat) (hp8 : p < 1000) (I : Nat → Nat → Int32) (L : Nat → Nat → Int64) (ht : I 296 5 = nI t) (hp : I 296 9 = nI p) (Q : Option Value → MemT → Prop) (hq : Q (some (.int (r11_here I L))) (I, L, R0, 305)) : V g (k11_here, 1, 0, 0) 0 0 0 [(0, .ref (xA g 296))] [] (I, L, R0, 305) Q := by
  have ht3 : (I 296 5).toNatClampNeg = t := by rw [ht]; exact nI_clamp (by omega)
  have hp3 : (I 296 9).toNatClampNeg = p := by rw [hp]; exact nI_clamp (by omega)
  refine V_aload_n (pc1 := 1) 0 d11_here_0 rfl rfl ?_
  refine V_geti (pc1 := 4) ly296 (lt305 rfl) f11_214 (fun _ => rfl) hp d11_here_1 rfl ?_
  refine V_aload_n (pc1 := 5) 0 d11_here_4 rfl rfl ?_
  refine V_geti (pc1 := 8) ly296 (lt305 rfl) f11_211 (fun _ => rfl) ht d11_here_5 rfl ?_
  have key2 : ∀ (y24_0 : Int32), y24_0 = (if nI t ≤ nI p then (-1) else I 301 p) → ∀ (lv : List (Nat × Value)), lvsub [(0, .ref (xA g 296))] lv → V g (k11_here, 1, 0, 0) 0 0 24 lv [.int y24_0] (I, L, R0, 305) Q := by
    intro y24_0 ey24_0
    subst ey24_0
    intro lv hlv
    refine V_lv hlv ?_
    refine V_iret rfl d11_here_24 (Nat.zero_le _) (Nat.zero_le _) ?_
    have hq2 := hq
    simp only [r11_here, ht3, hp3] at hq2
    exact hq2
  refine V_icmp_ge (tgt := 23) (pc1 := 11) d11_here_8 (by decide) rfl (fun h1 => ?_) (fun h1 => ?_)
  · skip
    refine V_iconst (pc1 := 24) d11_here_23 vc_m1 rfl ?_
    exact key2 _ (by first | rfl | (simp only [ht3, hp3, if_pos h1]; done) | (simp only [ht3, hp3, if_pos h1]; rfl)) _ (lvsub_p [0] rfl)
  · skip
    have hpt : p < t := Nat.lt_of_not_le (fun e => h1 (nI_le e (by omega)))
    refine V_aload_n (pc1 := 12) 0 d11_here_11 rfl rfl ?_
    refine V_getr (pc1 := 15) ly296 (lt305 rfl) f11_23 (fun _ => rfl) rf296_4 d11_here_12 rfl ?_
    refine V_aload_n (pc1 := 16) 0 d11_here_15 rfl rfl ?_
    refine V_geti (pc1 := 19) ly296 (lt305 rfl) f11_214 (fun _ => rfl) hp d11_here_16 rfl ?_
    refine V_iald2 (pc1 := 20) p ly301 (lt305 rfl) rfl (by omega) rfl d11_here_19 rfl ?_
    refine V_goto (tgt := 24) d11_here_20 (by decide) ?_
    exact key2 _ (by first | rfl | (simp only [ht3, hp3, if_neg h1]; done) | (simp only [ht3, hp3, if_neg h1]; rfl)) _ (lvsub_p [0] rfl)
theorem w11_here (g : GlT)  (t : Nat) (ht8 : t ≤ 120) (p : Nat) (hp8 : p < 1000) (I : Nat → Nat → Int32) (L : Nat → Nat → Int64) (ht : I 296 5 = nI t) (hp : I 296 9 = nI p) : Call g (k11_here, 1, 0, 0) [.ref (xA g 296)] (I, L, R0, 305) (Qi (r11_here I L) (I) L) := Call.of (by decide) (Nat.le_of_ble_eq_true rfl) rfl (v11_here g   t ht8 p hp8 I L ht hp _ (And.intro rfl rfl))


def r11_isRequest_217 : Nat → Nat → Nat → (Nat → Nat → Int32) → (Nat → Nat → Int64) → Bool
  | 0, j, p, I, L => (if (nI j) - (nI j) / 2 * 2 = 1 then false else (if r11_here (uI I 304 3 ((nI j) / 2)) L = 59 then true else false))
  | n + 1, j, p, I, L => (if r11_hex (r11_here I L) < 0 then (if (nI j) - (nI j) / 2 * 2 = 1 then false else (if r11_here (uI I 304 3 ((nI j) / 2)) L = 59 then true else false)) else r11_isRequest_217  n (j + 1) (p + 1) (uI (uI I 304 4 (((I 304 4) <<< (4 &&& 31)) ||| (r11_hex (r11_here I L)))) 296 9 (nI (p + 1))) L)
def i11_isRequest_217 : Nat → Nat → Nat → (Nat → Nat → Int32) → (Nat → Nat → Int64) → (Nat → Nat → Int32)
  | 0, j, p, I, L => (if (nI j) - (nI j) / 2 * 2 = 1 then uI I 304 3 ((nI j) / 2) else (if r11_here (uI I 304 3 ((nI j) / 2)) L = 59 then uI (uI I 304 3 ((nI j) / 2)) 296 9 (nI (p + 1)) else uI I 304 3 ((nI j) / 2)))
  | n + 1, j, p, I, L => (if r11_hex (r11_here I L) < 0 then (if (nI j) - (nI j) / 2 * 2 = 1 then uI I 304 3 ((nI j) / 2) else (if r11_here (uI I 304 3 ((nI j) / 2)) L = 59 then uI (uI I 304 3 ((nI j) / 2)) 296 9 (nI (p + 1)) else uI I 304 3 ((nI j) / 2))) else i11_isRequest_217  n (j + 1) (p + 1) (uI (uI I 304 4 (((I 304 4) <<< (4 &&& 31)) ||| (r11_hex (r11_here I L)))) 296 9 (nI (p + 1))) L)
set_option maxRecDepth 4000 in
theorem t11_isRequest_217 (g : GlT)  (t : Nat) (ht8 : t ≤ 120) (p : Nat) (hp9 : p < 300) : ∀ (n j p : Nat) (I : Nat → Nat → Int32) (L : Nat → Nat → Int64), (ht : I 296 5 = nI t) → (hp : I 296 9 = nI p) → (hp8 : p + n < 500) → (hn : j + n = 8) → ∀ (Q : Option Value → MemT → Prop), Q (some (.int (bI (r11_isRequest_217 n j p I L)))) (i11_isRequest_217 n j p I L, L, R0, 305) → V g (k11_isRequest, 3, 0, 0) 0 0 217 [(0, .ref (xA g 296)), (1, .ref (xA g 304)), (2, .int (nI j))] [] (I, L, R0, 305) Q := by
  intro n
  induction n with
  | zero =>
    intro j p I L ht hp hp8 hn Q hq
    refine V_iload_n (pc1 := 218) 2 d11_isRequest_217 rfl rfl ?_
    refine V_bipush (pc1 := 220) d11_isRequest_218 vb_8 rfl ?_
    refine V_icmp_ge (tgt := 265) (pc1 := 223) d11_isRequest_220 (by decide) rfl (fun _ => ?_) (fun h1 => absurd (nI_le (a := 8) (by omega) (by omega)) h1)
    refine V_aload_n (pc1 := 266) 1 d11_isRequest_265 rfl rfl ?_
    refine V_iconst (pc1 := 267) d11_isRequest_266 vc_3 rfl ?_
    refine V_iload_n (pc1 := 268) 2 d11_isRequest_267 rfl rfl ?_
    refine V_iconst (pc1 := 269) d11_isRequest_268 vc_2 rfl ?_
    refine V_idiv (pc1 := 270) d11_isRequest_269 (by decide) rfl ?_
    refine V_iast (pc1 := 271) 3 ly304 (lt305 rfl) rfl (Nat.le_of_ble_eq_true rfl) d11_isRequest_270 rfl ?_
    refine V_iload_n (pc1 := 272) 2 d11_isRequest_271 rfl rfl ?_
    refine V_iconst (pc1 := 273) d11_isRequest_272 vc_2 rfl ?_
    refine V_irem (pc1 := 274) d11_isRequest_273 (by decide) rfl ?_
    refine V_iconst (pc1 := 275) d11_isRequest_274 vc_1 rfl ?_
    refine V_icmp_ne (tgt := 280) (pc1 := 278) d11_isRequest_275 (by decide) rfl (fun h2 => ?_) (fun h2 => ?_)
    · skip
      refine V_aload_n (pc1 := 281) 0 d11_isRequest_280 rfl rfl ?_
      refine V_vi (pc1 := 284) (w11_here g   t ht8 p (by omega) (uI I 304 3 ((nI j) / 2)) L ((congrFun (uI_off I 3 ((nI j) / 2) (show (296 : Nat) ≠ 304 by decide)) _).trans ht) ((congrFun (uI_off I 3 ((nI j) / 2) (show (296 : Nat) ≠ 304 by decide)) _).trans hp)) ly296 (lt305 rfl) s11_here l11_217 rfl rfl ⟨Nat.le_of_ble_eq_true rfl, Nat.le_of_ble_eq_true rfl, Nat.le_refl _, Nat.le_refl _⟩ (Nat.le_of_ble_eq_true rfl) rfl d11_isRequest_281 rfl ?_
      refine V_bipush (pc1 := 286) d11_isRequest_284 vb_59 rfl ?_
      refine V_icmp_eq (tgt := 291) (pc1 := 289) d11_isRequest_286 (by decide) rfl (fun h3 => ?_) (fun h3 => ?_)
      · skip
        refine V_aload_n (pc1 := 292) 0 d11_isRequest_291 rfl rfl ?_
        refine V_dup (pc1 := 293) d11_isRequest_292 rfl rfl ?_
        refine V_geti (pc1 := 296) ly296 (lt305 rfl) f11_214 (fun _ => rfl) ((congrFun (uI_off I 3 ((nI j) / 2) (show (296 : Nat) ≠ 304 by decide)) _).trans hp) d11_isRequest_293 rfl ?_
        refine V_iconst (pc1 := 297) d11_isRequest_296 vc_1 rfl ?_
        refine V_addN (pc1 := 298) (a := p) (b := 1) (c := p + 1) rfl rfl (by omega) d11_isRequest_297 rfl ?_
        refine V_puti (pc1 := 301) ly296 (lt305 rfl) f11_214 rfl rfl d11_isRequest_298 rfl ?_
        refine V_iconst (pc1 := 302) d11_isRequest_301 vc_1 rfl ?_
        refine V_zret rfl (Or.inr rfl) d11_isRequest_302 (Nat.zero_le _) (Nat.zero_le _) ?_
        have hq2 := hq
        simp only [r11_isRequest_217, i11_isRequest_217, if_neg h2, if_pos h3] at hq2
        exact hq2
      · skip
        refine V_iconst (pc1 := 290) d11_isRequest_289 vc_0 rfl ?_
        refine V_zret rfl (Or.inl rfl) d11_isRequest_290 (Nat.zero_le _) (Nat.zero_le _) ?_
        have hq2 := hq
        simp only [r11_isRequest_217, i11_isRequest_217, if_neg h2, if_neg h3] at hq2
        exact hq2
    · skip
      refine V_iconst (pc1 := 279) d11_isRequest_278 vc_0 rfl ?_
      refine V_zret rfl (Or.inl rfl) d11_isRequest_279 (Nat.zero_le _) (Nat.zero_le _) ?_
      have hq2 := hq
      simp only [r11_isRequest_217, i11_isRequest_217, if_pos h2] at hq2
      exact hq2
  | succ n ih =>
    intro j p I L ht hp hp8 hn Q hq
    refine V_iload_n (pc1 := 218) 2 d11_isRequest_217 rfl rfl ?_
    refine V_bipush (pc1 := 220) d11_isRequest_218 vb_8 rfl ?_
    refine V_icmp_ge (tgt := 265) (pc1 := 223) d11_isRequest_220 (by decide) rfl (fun h1 => absurd h1 (nI_ge (b := 8) (by omega) (by omega))) (fun _ => ?_)
    refine V_aload_n (pc1 := 224) 0 d11_isRequest_223 rfl rfl ?_
    refine V_vi (pc1 := 227) (w11_here g   t ht8 p (by omega) I L ht hp) ly296 (lt305 rfl) s11_here l11_217 rfl rfl ⟨Nat.le_of_ble_eq_true rfl, Nat.le_of_ble_eq_true rfl, Nat.le_refl _, Nat.le_refl _⟩ (Nat.le_of_ble_eq_true rfl) rfl d11_isRequest_224 rfl ?_
    refine V_si (pc1 := 230) (w11_hex g  (r11_here I L)  I L ) s11_hex l11_220 rfl rfl ⟨Nat.le_of_ble_eq_true rfl, Nat.le_of_ble_eq_true rfl, Nat.le_refl _, Nat.le_refl _⟩ (Nat.le_of_ble_eq_true rfl) rfl d11_isRequest_227 rfl ?_
    refine V_if_lt (tgt := 265) (pc1 := 233) d11_isRequest_230 (by decide) rfl (fun h2 => ?_) (fun h2 => ?_)
    · skip
      refine V_aload_n (pc1 := 266) 1 d11_isRequest_265 rfl rfl ?_
      refine V_iconst (pc1 := 267) d11_isRequest_266 vc_3 rfl ?_
      refine V_iload_n (pc1 := 268) 2 d11_isRequest_267 rfl rfl ?_
      refine V_iconst (pc1 := 269) d11_isRequest_268 vc_2 rfl ?_
      refine V_idiv (pc1 := 270) d11_isRequest_269 (by decide) rfl ?_
      refine V_iast (pc1 := 271) 3 ly304 (lt305 rfl) rfl (Nat.le_of_ble_eq_true rfl) d11_isRequest_270 rfl ?_
      refine V_iload_n (pc1 := 272) 2 d11_isRequest_271 rfl rfl ?_
      refine V_iconst (pc1 := 273) d11_isRequest_272 vc_2 rfl ?_
      refine V_irem (pc1 := 274) d11_isRequest_273 (by decide) rfl ?_
      refine V_iconst (pc1 := 275) d11_isRequest_274 vc_1 rfl ?_
      refine V_icmp_ne (tgt := 280) (pc1 := 278) d11_isRequest_275 (by decide) rfl (fun h3 => ?_) (fun h3 => ?_)
      · skip
        refine V_aload_n (pc1 := 281) 0 d11_isRequest_280 rfl rfl ?_
        refine V_vi (pc1 := 284) (w11_here g   t ht8 p (by omega) (uI I 304 3 ((nI j) / 2)) L ((congrFun (uI_off I 3 ((nI j) / 2) (show (296 : Nat) ≠ 304 by decide)) _).trans ht) ((congrFun (uI_off I 3 ((nI j) / 2) (show (296 : Nat) ≠ 304 by decide)) _).trans hp)) ly296 (lt305 rfl) s11_here l11_217 rfl rfl ⟨Nat.le_of_ble_eq_true rfl, Nat.le_of_ble_eq_true rfl, Nat.le_refl _, Nat.le_refl _⟩ (Nat.le_of_ble_eq_true rfl) rfl d11_isRequest_281 rfl ?_
        refine V_bipush (pc1 := 286) d11_isRequest_284 vb_59 rfl ?_
        refine V_icmp_eq (tgt := 291) (pc1 := 289) d11_isRequest_286 (by decide) rfl (fun h4 => ?_) (fun h4 => ?_)
        · skip
          refine V_aload_n (pc1 := 292) 0 d11_isRequest_291 rfl rfl ?_
          refine V_dup (pc1 := 293) d11_isRequest_292 rfl rfl ?_
          refine V_geti (pc1 := 296) ly296 (lt305 rfl) f11_214 (fun _ => rfl) ((congrFun (uI_off I 3 ((nI j) / 2) (show (296 : Nat) ≠ 304 by decide)) _).trans hp) d11_isRequest_293 rfl ?_
          refine V_iconst (pc1 := 297) d11_isRequest_296 vc_1 rfl ?_
          refine V_addN (pc1 := 298) (a := p) (b := 1) (c := p + 1) rfl rfl (by omega) d11_isRequest_297 rfl ?_
          refine V_puti (pc1 := 301) ly296 (lt305 rfl) f11_214 rfl rfl d11_isRequest_298 rfl ?_
          refine V_iconst (pc1 := 302) d11_isRequest_301 vc_1 rfl ?_
          refine V_zret rfl (Or.inr rfl) d11_isRequest_302 (Nat.zero_le _) (Nat.zero_le _) ?_
          have hq2 := hq
          simp only [r11_isRequest_217, i11_isRequest_217, if_pos h2, if_neg h3, if_pos h4] at hq2
          exact hq2
        · skip
          refine V_iconst (pc1 := 290) d11_isRequest_289 vc_0 rfl ?_
          refine V_zret rfl (Or.inl rfl) d11_isRequest_290 (Nat.zero_le _) (Nat.zero_le _) ?_
          have hq2 := hq
          simp only [r11_isRequest_217, i11_isRequest_217, if_pos h2, if_neg h3, if_neg h4] at hq2
          exact hq2
      · skip
        refine V_iconst (pc1 := 279) d11_isRequest_278 vc_0 rfl ?_
        refine V_zret rfl (Or.inl rfl) d11_isRequest_279 (Nat.zero_le _) (Nat.zero_le _) ?_
        have hq2 := hq
        simp only [r11_isRequest_217, i11_isRequest_217, if_pos h2, if_pos h3] at hq2
        exact hq2
    · skip
      refine V_aload_n (pc1 := 234) 1 d11_isRequest_233 rfl rfl ?_
      refine V_iconst (pc1 := 235) d11_isRequest_234 vc_4 rfl ?_
      refine V_aload_n (pc1 := 236) 1 d11_isRequest_235 rfl rfl ?_
      refine V_iconst (pc1 := 237) d11_isRequest_236 vc_4 rfl ?_
      refine V_iald2 (pc1 := 238) 4 ly304 (lt305 rfl) rfl (Nat.le_of_ble_eq_true rfl) rfl d11_isRequest_237 rfl ?_
      refine V_iconst (pc1 := 239) d11_isRequest_238 vc_4 rfl ?_
      refine V_ishl (pc1 := 240) d11_isRequest_239 rfl ?_
      refine V_aload_n (pc1 := 241) 0 d11_isRequest_240 rfl rfl ?_
      refine V_vi (pc1 := 244) (w11_here g   t ht8 p (by omega) I L ht hp) ly296 (lt305 rfl) s11_here l11_217 rfl rfl ⟨Nat.le_of_ble_eq_true rfl, Nat.le_of_ble_eq_true rfl, Nat.le_refl _, Nat.le_refl _⟩ (Nat.le_of_ble_eq_true rfl) rfl d11_isRequest_241 rfl ?_
      refine V_si (pc1 := 247) (w11_hex g  (r11_here I L)  I L ) s11_hex l11_220 rfl rfl ⟨Nat.le_of_ble_eq_true rfl, Nat.le_of_ble_eq_true rfl, Nat.le_refl _, Nat.le_refl _⟩ (Nat.le_of_ble_eq_true rfl) rfl d11_isRequest_244 rfl ?_
      refine V_ior (pc1 := 248) d11_isRequest_247 rfl ?_
      refine V_iast (pc1 := 249) 4 ly304 (lt305 rfl) rfl (Nat.le_of_ble_eq_true rfl) d11_isRequest_248 rfl ?_
      refine V_aload_n (pc1 := 250) 0 d11_isRequest_249 rfl rfl ?_
      refine V_dup (pc1 := 251) d11_isRequest_250 rfl rfl ?_
      refine V_geti (pc1 := 254) ly296 (lt305 rfl) f11_214 (fun _ => rfl) ((congrFun (uI_off I 4 (((I 304 4) <<< (4 &&& 31)) ||| (r11_hex (r11_here I L))) (show (296 : Nat) ≠ 304 by decide)) _).trans hp) d11_isRequest_251 rfl ?_
      refine V_iconst (pc1 := 255) d11_isRequest_254 vc_1 rfl ?_
      refine V_addN (pc1 := 256) (a := p) (b := 1) (c := p + 1) rfl rfl (by omega) d11_isRequest_255 rfl ?_
      refine V_puti (pc1 := 259) ly296 (lt305 rfl) f11_214 rfl rfl d11_isRequest_256 rfl ?_
      refine V_iinc (pc1 := 262) 2 (v := nI (j + 1)) d11_isRequest_259 rfl (nI_1 _) (Nat.le_of_ble_eq_true rfl) rfl rfl ?_
      refine V_goto (tgt := 217) d11_isRequest_262 (by decide) ?_
      refine V_lv (lv1 := [(0, .ref (xA g 296)), (1, .ref (xA g 304)), (2, .int (nI (j + 1)))]) (lvsub_p [1, 2, 0] rfl) ?_
      have hq2 := hq
      simp only [r11_isRequest_217, i11_isRequest_217, if_neg h2] at hq2
      exact ih (j + 1) (p + 1) (uI (uI I 304 4 (((I 304 4) <<< (4 &&& 31)) ||| (r11_hex (r11_here I L)))) 296 9 (nI (p + 1))) L (((uI_ne (uI I 304 4 (((I 304 4) <<< (4 &&& 31)) ||| (r11_hex (r11_here I L)))) 296 (nI (p + 1)) (show (5 : Nat) ≠ 9 by decide)).trans (congrFun (uI_off I 4 (((I 304 4) <<< (4 &&& 31)) ||| (r11_hex (r11_here I L))) (show (296 : Nat) ≠ 304 by decide)) _)).trans ht) (uI_self (uI I 304 4 (((I 304 4) <<< (4 &&& 31)) ||| (r11_hex (r11_here I L)))) 296 9 (nI (p + 1))) (by omega) (by omega) Q hq2
def r11_isRequest_60 : Nat → Nat → Nat → (Nat → Nat → Int32) → (Nat → Nat → Int64) → Bool
  | 0, k, p, I, L => (if r11_here I L = 35 then (if bI (if r11_here (uI I 296 9 (nI (p + 1))) L = 82 then true else false) = 1 then (if (r11_in ((r11_here (uI (uI (uI (uI (uI I 296 9 (nI (p + 1))) 304 2 (bI (if r11_here (uI I 296 9 (nI (p + 1))) L = 82 then true else false))) 304 3 0) 304 4 0) 296 9 (nI (p + 2))) L) - 48) 0 4) = true then (if r11_here (uI (uI (uI (uI (uI (uI (uI I 296 9 (nI (p + 1))) 304 2 (bI (if r11_here (uI I 296 9 (nI (p + 1))) L = 82 then true else false))) 304 3 0) 304 4 0) 296 9 (nI (p + 2))) 304 3 ((r11_here (uI (uI (uI (uI (uI I 296 9 (nI (p + 1))) 304 2 (bI (if r11_here (uI I 296 9 (nI (p + 1))) L = 82 then true else false))) 304 3 0) 304 4 0) 296 9 (nI (p + 2))) L) - 48)) 296 9 (nI (p + 3))) L = 59 then true else false) else false) else r11_isRequest_217  8 0 (p + 1) (uI (uI (uI (uI I 296 9 (nI (p + 1))) 304 2 (bI (if r11_here (uI I 296 9 (nI (p + 1))) L = 82 then true else false))) 304 3 0) 304 4 0) L) else false)
  | n + 1, k, p, I, L => (if (r11_hex (r11_here I L) < 0) ∨ ((nI k = 0) ∧ (¬ (r11_hex (r11_here I L) ≤ 7))) then false else r11_isRequest_60  n (k + 1) (p + 1) (uI (uI I 304 1 (((16 : Int32) * (I 304 1)) + (r11_hex (r11_here I L)))) 296 9 (nI (p + 1))) L)
def i11_isRequest_60 : Nat → Nat → Nat → (Nat → Nat → Int32) → (Nat → Nat → Int64) → (Nat → Nat → Int32)
  | 0, k, p, I, L => (if r11_here I L = 35 then (if bI (if r11_here (uI I 296 9 (nI (p + 1))) L = 82 then true else false) = 1 then (if (r11_in ((r11_here (uI (uI (uI (uI (uI I 296 9 (nI (p + 1))) 304 2 (bI (if r11_here (uI I 296 9 (nI (p + 1))) L = 82 then true else false))) 304 3 0) 304 4 0) 296 9 (nI (p + 2))) L) - 48) 0 4) = true then (if r11_here (uI (uI (uI (uI (uI (uI (uI I 296 9 (nI (p + 1))) 304 2 (bI (if r11_here (uI I 296 9 (nI (p + 1))) L = 82 then true else false))) 304 3 0) 304 4 0) 296 9 (nI (p + 2))) 304 3 ((r11_here (uI (uI (uI (uI (uI I 296 9 (nI (p + 1))) 304 2 (bI (if r11_here (uI I 296 9 (nI (p + 1))) L = 82 then true else false))) 304 3 0) 304 4 0) 296 9 (nI (p + 2))) L) - 48)) 296 9 (nI (p + 3))) L = 59 then uI (uI (uI (uI (uI (uI (uI (uI I 296 9 (nI (p + 1))) 304 2 (bI (if r11_here (uI I 296 9 (nI (p + 1))) L = 82 then true else false))) 304 3 0) 304 4 0) 296 9 (nI (p + 2))) 304 3 ((r11_here (uI (uI (uI (uI (uI I 296 9 (nI (p + 1))) 304 2 (bI (if r11_here (uI I 296 9 (nI (p + 1))) L = 82 then true else false))) 304 3 0) 304 4 0) 296 9 (nI (p + 2))) L) - 48)) 296 9 (nI (p + 3))) 296 9 (nI (p + 4)) else uI (uI (uI (uI (uI (uI (uI I 296 9 (nI (p + 1))) 304 2 (bI (if r11_here (uI I 296 9 (nI (p + 1))) L = 82 then true else false))) 304 3 0) 304 4 0) 296 9 (nI (p + 2))) 304 3 ((r11_here (uI (uI (uI (uI (uI I 296 9 (nI (p + 1))) 304 2 (bI (if r11_here (uI I 296 9 (nI (p + 1))) L = 82 then true else false))) 304 3 0) 304 4 0) 296 9 (nI (p + 2))) L) - 48)) 296 9 (nI (p + 3))) else uI (uI (uI (uI (uI (uI I 296 9 (nI (p + 1))) 304 2 (bI (if r11_here (uI I 296 9 (nI (p + 1))) L = 82 then true else false))) 304 3 0) 304 4 0) 296 9 (nI (p + 2))) 304 3 ((r11_here (uI (uI (uI (uI (uI I 296 9 (nI (p + 1))) 304 2 (bI (if r11_here (uI I 296 9 (nI (p + 1))) L = 82 then true else false))) 304 3 0) 304 4 0) 296 9 (nI (p + 2))) L) - 48)) else i11_isRequest_217  8 0 (p + 1) (uI (uI (uI (uI I 296 9 (nI (p + 1))) 304 2 (bI (if r11_here (uI I 296 9 (nI (p + 1))) L = 82 then true else false))) 304 3 0) 304 4 0) L) else I)
  | n + 1, k, p, I, L => (if (r11_hex (r11_here I L) < 0) ∨ ((nI k = 0) ∧ (¬ (r11_hex (r11_here I L) ≤ 7))) then I else i11_isRequest_60  n (k + 1) (p + 1) (uI (uI I 304 1 (((16 : Int32) * (I 304 1)) + (r11_hex (r11_here I L)))) 296 9 (nI (p + 1))) L)
set_option maxRecDepth 4000 in
theorem t11_isRequest_60 (g : GlT)  (t : Nat) (ht8 : t ≤ 120) (p : Nat) (hp9 : p < 300) : ∀ (n k p : Nat) (I : Nat → Nat → Int32) (L : Nat → Nat → Int64), (ht : I 296 5 = nI t) → (hp : I 296 9 = nI p) → (hp8 : p + n < 400) → (hn : k + n = 3) → ∀ (Q : Option Value → MemT → Prop), Q (some (.int (bI (r11_isRequest_60 n k p I L)))) (i11_isRequest_60 n k p I L, L, R0, 305) → V g (k11_isRequest, 3, 0, 0) 0 0 60 [(0, .ref (xA g 296)), (1, .ref (xA g 304)), (2, .int (nI k))] [] (I, L, R0, 305) Q := by
  intro n
  induction n with
  | zero =>
    intro k p I L ht hp hp8 hn Q hq
    refine V_iload_n (pc1 := 61) 2 d11_isRequest_60 rfl rfl ?_
    refine V_iconst (pc1 := 62) d11_isRequest_61 vc_3 rfl ?_
    refine V_icmp_ge (tgt := 116) (pc1 := 65) d11_isRequest_62 (by decide) rfl (fun _ => ?_) (fun h1 => absurd (nI_le (a := 3) (by omega) (by omega)) h1)
    refine V_aload_n (pc1 := 117) 0 d11_isRequest_116 rfl rfl ?_
    refine V_vi (pc1 := 120) (w11_here g   t ht8 p (by omega) I L ht hp) ly296 (lt305 rfl) s11_here l11_217 rfl rfl ⟨Nat.le_of_ble_eq_true rfl, Nat.le_of_ble_eq_true rfl, Nat.le_refl _, Nat.le_refl _⟩ (Nat.le_of_ble_eq_true rfl) rfl d11_isRequest_117 rfl ?_
    refine V_bipush (pc1 := 122) d11_isRequest_120 vb_35 rfl ?_
    refine V_icmp_eq (tgt := 127) (pc1 := 125) d11_isRequest_122 (by decide) rfl (fun h2 => ?_) (fun h2 => ?_)
    · skip
      refine V_aload_n (pc1 := 128) 0 d11_isRequest_127 rfl rfl ?_
      refine V_dup (pc1 := 129) d11_isRequest_128 rfl rfl ?_
      refine V_geti (pc1 := 132) ly296 (lt305 rfl) f11_214 (fun _ => rfl) hp d11_isRequest_129 rfl ?_
      refine V_iconst (pc1 := 133) d11_isRequest_132 vc_1 rfl ?_
      refine V_addN (pc1 := 134) (a := p) (b := 1) (c := p + 1) rfl rfl (by omega) d11_isRequest_133 rfl ?_
      refine V_puti (pc1 := 137) ly296 (lt305 rfl) f11_214 rfl rfl d11_isRequest_134 rfl ?_
      refine V_aload_n (pc1 := 138) 1 d11_isRequest_137 rfl rfl ?_
      refine V_iconst (pc1 := 139) d11_isRequest_138 vc_2 rfl ?_
      refine V_aload_n (pc1 := 140) 0 d11_isRequest_139 rfl rfl ?_
      refine V_vi (pc1 := 143) (w11_here g   t ht8 (p + 1) (by omega) (uI I 296 9 (nI (p + 1))) L ((uI_ne I 296 (nI (p + 1)) (show (5 : Nat) ≠ 9 by decide)).trans ht) (uI_self I 296 9 (nI (p + 1)))) ly296 (lt305 rfl) s11_here l11_217 rfl rfl ⟨Nat.le_of_ble_eq_true rfl, Nat.le_of_ble_eq_true rfl, Nat.le_refl _, Nat.le_refl _⟩ (Nat.le_of_ble_eq_true rfl) rfl d11_isRequest_140 rfl ?_
      refine V_bipush (pc1 := 145) d11_isRequest_143 vb_82 rfl ?_
      have key4 : ∀ (y153_0 : Int32), y153_0 = bI (if r11_here (uI I 296 9 (nI (p + 1))) L = 82 then true else false) → ∀ (lv : List (Nat × Value)), lvsub [(0, .ref (xA g 296)), (1, .ref (xA g 304)), (2, .int (nI k))] lv → V g (k11_isRequest, 3, 0, 0) 0 0 153 lv [.int y153_0, .int 2, .ref (xA g 304)] (uI I 296 9 (nI (p + 1)), L, R0, 305) Q := by
        intro y153_0 ey153_0
        subst ey153_0
        intro lv hlv
        refine V_lv hlv ?_
        refine V_iast (pc1 := 154) 2 ly304 (lt305 rfl) rfl (Nat.le_of_ble_eq_true rfl) d11_isRequest_153 rfl ?_
        refine V_aload_n (pc1 := 155) 1 d11_isRequest_154 rfl rfl ?_
        refine V_iconst (pc1 := 156) d11_isRequest_155 vc_3 rfl ?_
        refine V_iconst (pc1 := 157) d11_isRequest_156 vc_0 rfl ?_
        refine V_iast (pc1 := 158) 3 ly304 (lt305 rfl) rfl (Nat.le_of_ble_eq_true rfl) d11_isRequest_157 rfl ?_
        refine V_aload_n (pc1 := 159) 1 d11_isRequest_158 rfl rfl ?_
        refine V_iconst (pc1 := 160) d11_isRequest_159 vc_4 rfl ?_
        refine V_iconst (pc1 := 161) d11_isRequest_160 vc_0 rfl ?_
        refine V_iast (pc1 := 162) 4 ly304 (lt305 rfl) rfl (Nat.le_of_ble_eq_true rfl) d11_isRequest_161 rfl ?_
        refine V_aload_n (pc1 := 163) 1 d11_isRequest_162 rfl rfl ?_
        refine V_iconst (pc1 := 164) d11_isRequest_163 vc_2 rfl ?_
        refine V_iald2 (pc1 := 165) 2 ly304 (lt305 rfl) rfl (Nat.le_of_ble_eq_true rfl) ((uI_ne (uI (uI (uI I 296 9 (nI (p + 1))) 304 2 (bI (if r11_here (uI I 296 9 (nI (p + 1))) L = 82 then true else false))) 304 3 0) 304 0 (show (2 : Nat) ≠ 4 by decide)).trans ((uI_ne (uI (uI I 296 9 (nI (p + 1))) 304 2 (bI (if r11_here (uI I 296 9 (nI (p + 1))) L = 82 then true else false))) 304 0 (show (2 : Nat) ≠ 3 by decide)).trans (uI_self (uI I 296 9 (nI (p + 1))) 304 2 (bI (if r11_here (uI I 296 9 (nI (p + 1))) L = 82 then true else false))))) d11_isRequest_164 rfl ?_
        refine V_iconst (pc1 := 166) d11_isRequest_165 vc_1 rfl ?_
        refine V_icmp_ne (tgt := 215) (pc1 := 169) d11_isRequest_166 (by decide) rfl (fun h5 => ?_) (fun h5 => ?_)
        · skip
          refine V_iconst (pc1 := 216) d11_isRequest_215 vc_0 rfl ?_
          refine V_istore_n (pc1 := 217) d11_isRequest_216 (Nat.le_of_ble_eq_true rfl) rfl rfl ?_
          refine V_lv (lv1 := [(0, .ref (xA g 296)), (1, .ref (xA g 304)), (2, .int (nI 0))]) (lvsub_p [1, 2, 0] rfl) ?_
          have hq2 := hq
          simp only [r11_isRequest_60, i11_isRequest_60, if_pos h2, if_neg h5] at hq2
          exact t11_isRequest_217 g   _ ht8 _ hp9 8 0 (p + 1) (uI (uI (uI (uI I 296 9 (nI (p + 1))) 304 2 (bI (if r11_here (uI I 296 9 (nI (p + 1))) L = 82 then true else false))) 304 3 0) 304 4 0) L (((congrFun (uI_off (uI (uI (uI I 296 9 (nI (p + 1))) 304 2 (bI (if r11_here (uI I 296 9 (nI (p + 1))) L = 82 then true else false))) 304 3 0) 4 0 (show (296 : Nat) ≠ 304 by decide)) _).trans ((congrFun (uI_off (uI (uI I 296 9 (nI (p + 1))) 304 2 (bI (if r11_here (uI I 296 9 (nI (p + 1))) L = 82 then true else false))) 3 0 (show (296 : Nat) ≠ 304 by decide)) _).trans ((congrFun (uI_off (uI I 296 9 (nI (p + 1))) 2 (bI (if r11_here (uI I 296 9 (nI (p + 1))) L = 82 then true else false)) (show (296 : Nat) ≠ 304 by decide)) _).trans (uI_ne I 296 (nI (p + 1)) (show (5 : Nat) ≠ 9 by decide))))).trans ht) ((congrFun (uI_off (uI (uI (uI I 296 9 (nI (p + 1))) 304 2 (bI (if r11_here (uI I 296 9 (nI (p + 1))) L = 82 then true else false))) 304 3 0) 4 0 (show (296 : Nat) ≠ 304 by decide)) _).trans ((congrFun (uI_off (uI (uI I 296 9 (nI (p + 1))) 304 2 (bI (if r11_here (uI I 296 9 (nI (p + 1))) L = 82 then true else false))) 3 0 (show (296 : Nat) ≠ 304 by decide)) _).trans ((congrFun (uI_off (uI I 296 9 (nI (p + 1))) 2 (bI (if r11_here (uI I 296 9 (nI (p + 1))) L = 82 then true else false)) (show (296 : Nat) ≠ 304 by decide)) _).trans (uI_self I 296 9 (nI (p + 1)))))) (by omega) rfl Q hq2
        · skip
          refine V_aload_n (pc1 := 170) 0 d11_isRequest_169 rfl rfl ?_
          refine V_dup (pc1 := 171) d11_isRequest_170 rfl rfl ?_
          refine V_geti (pc1 := 174) ly296 (lt305 rfl) f11_214 (fun _ => rfl) ((congrFun (uI_off (uI (uI (uI I 296 9 (nI (p + 1))) 304 2 (bI (if r11_here (uI I 296 9 (nI (p + 1))) L = 82 then true else false))) 304 3 0) 4 0 (show (296 : Nat) ≠ 304 by decide)) _).trans ((congrFun (uI_off (uI (uI I 296 9 (nI (p + 1))) 304 2 (bI (if r11_here (uI I 296 9 (nI (p + 1))) L = 82 then true else false))) 3 0 (show (296 : Nat) ≠ 304 by decide)) _).trans ((congrFun (uI_off (uI I 296 9 (nI (p + 1))) 2 (bI (if r11_here (uI I 296 9 (nI (p + 1))) L = 82 then true else false)) (show (296 : Nat) ≠ 304 by decide)) _).trans (uI_self I 296 9 (nI (p + 1)))))) d11_isRequest_171 rfl ?_
          refine V_iconst (pc1 := 175) d11_isRequest_174 vc_1 rfl ?_
          refine V_addN (pc1 := 176) (a := p + 1) (b := 1) (c := p + 2) rfl rfl (by omega) d11_isRequest_175 rfl ?_
          refine V_puti (pc1 := 179) ly296 (lt305 rfl) f11_214 rfl rfl d11_isRequest_176 rfl ?_
          refine V_aload_n (pc1 := 180) 1 d11_isRequest_179 rfl rfl ?_
          refine V_iconst (pc1 := 181) d11_isRequest_180 vc_3 rfl ?_
          refine V_aload_n (pc1 := 182) 0 d11_isRequest_181 rfl rfl ?_
          refine V_vi (pc1 := 185) (w11_here g   t ht8 (p + 2) (by omega) (uI (uI (uI (uI (uI I 296 9 (nI (p + 1))) 304 2 (bI (if r11_here (uI I 296 9 (nI (p + 1))) L = 82 then true else false))) 304 3 0) 304 4 0) 296 9 (nI (p + 2))) L (((uI_ne (uI (uI (uI (uI I 296 9 (nI (p + 1))) 304 2 (bI (if r11_here (uI I 296 9 (nI (p + 1))) L = 82 then true else false))) 304 3 0) 304 4 0) 296 (nI (p + 2)) (show (5 : Nat) ≠ 9 by decide)).trans ((congrFun (uI_off (uI (uI (uI I 296 9 (nI (p + 1))) 304 2 (bI (if r11_here (uI I 296 9 (nI (p + 1))) L = 82 then true else false))) 304 3 0) 4 0 (show (296 : Nat) ≠ 304 by decide)) _).trans ((congrFun (uI_off (uI (uI I 296 9 (nI (p + 1))) 304 2 (bI (if r11_here (uI I 296 9 (nI (p + 1))) L = 82 then true else false))) 3 0 (show (296 : Nat) ≠ 304 by decide)) _).trans ((congrFun (uI_off (uI I 296 9 (nI (p + 1))) 2 (bI (if r11_here (uI I 296 9 (nI (p + 1))) L = 82 then true else false)) (show (296 : Nat) ≠ 304 by decide)) _).trans (uI_ne I 296 (nI (p + 1)) (show (5 : Nat) ≠ 9 by decide)))))).trans ht) (uI_self (uI (uI (uI (uI I 296 9 (nI (p + 1))) 304 2 (bI (if r11_here (uI I 296 9 (nI (p + 1))) L = 82 then true else false))) 304 3 0) 304 4 0) 296 9 (nI (p + 2)))) ly296 (lt305 rfl) s11_here l11_217 rfl rfl ⟨Nat.le_of_ble_eq_true rfl, Nat.le_of_ble_eq_true rfl, Nat.le_refl _, Nat.le_refl _⟩ (Nat.le_of_ble_eq_true rfl) rfl d11_isRequest_182 rfl ?_
          refine V_bipush (pc1 := 187) d11_isRequest_185 vb_48 rfl ?_
          refine V_isub (pc1 := 188) d11_isRequest_187 rfl ?_
          refine V_iast (pc1 := 189) 3 ly304 (lt305 rfl) rfl (Nat.le_of_ble_eq_true rfl) d11_isRequest_188 rfl ?_
          refine V_aload_n (pc1 := 190) 1 d11_isRequest_189 rfl rfl ?_
          refine V_iconst (pc1 := 191) d11_isRequest_190 vc_3 rfl ?_
          refine V_iald2 (pc1 := 192) 3 ly304 (lt305 rfl) rfl (Nat.le_of_ble_eq_true rfl) (uI_self (uI (uI (uI (uI (uI I 296 9 (nI (p + 1))) 304 2 (bI (if r11_here (uI I 296 9 (nI (p + 1))) L = 82 then true else false))) 304 3 0) 304 4 0) 296 9 (nI (p + 2))) 304 3 ((r11_here (uI (uI (uI (uI (uI I 296 9 (nI (p + 1))) 304 2 (bI (if r11_here (uI I 296 9 (nI (p + 1))) L = 82 then true else false))) 304 3 0) 304 4 0) 296 9 (nI (p + 2))) L) - 48)) d11_isRequest_191 rfl ?_
          refine V_iconst (pc1 := 193) d11_isRequest_192 vc_0 rfl ?_
          refine V_iconst (pc1 := 194) d11_isRequest_193 vc_4 rfl ?_
          refine V_si (pc1 := 197) (w11_in g  ((r11_here (uI (uI (uI (uI (uI I 296 9 (nI (p + 1))) 304 2 (bI (if r11_here (uI I 296 9 (nI (p + 1))) L = 82 then true else false))) 304 3 0) 304 4 0) 296 9 (nI (p + 2))) L) - 48) 0 4  (uI (uI (uI (uI (uI (uI I 296 9 (nI (p + 1))) 304 2 (bI (if r11_here (uI I 296 9 (nI (p + 1))) L = 82 then true else false))) 304 3 0) 304 4 0) 296 9 (nI (p + 2))) 304 3 ((r11_here (uI (uI (uI (uI (uI I 296 9 (nI (p + 1))) 304 2 (bI (if r11_here (uI I 296 9 (nI (p + 1))) L = 82 then true else false))) 304 3 0) 304 4 0) 296 9 (nI (p + 2))) L) - 48)) L ) s11_in l11_39 rfl rfl ⟨Nat.le_of_ble_eq_true rfl, Nat.le_of_ble_eq_true rfl, Nat.le_refl _, Nat.le_refl _⟩ (Nat.le_of_ble_eq_true rfl) rfl d11_isRequest_194 rfl ?_
          refine V_bne (tgt := 202) (pc1 := 200) d11_isRequest_197 (by decide) rfl (fun h6 => ?_) (fun h6 => ?_)
          · skip
            refine V_aload_n (pc1 := 203) 0 d11_isRequest_202 rfl rfl ?_
            refine V_dup (pc1 := 204) d11_isRequest_203 rfl rfl ?_
            refine V_geti (pc1 := 207) ly296 (lt305 rfl) f11_214 (fun _ => rfl) ((congrFun (uI_off (uI (uI (uI (uI (uI I 296 9 (nI (p + 1))) 304 2 (bI (if r11_here (uI I 296 9 (nI (p + 1))) L = 82 then true else false))) 304 3 0) 304 4 0) 296 9 (nI (p + 2))) 3 ((r11_here (uI (uI (uI (uI (uI I 296 9 (nI (p + 1))) 304 2 (bI (if r11_here (uI I 296 9 (nI (p + 1))) L = 82 then true else false))) 304 3 0) 304 4 0) 296 9 (nI (p + 2))) L) - 48) (show (296 : Nat) ≠ 304 by decide)) _).trans (uI_self (uI (uI (uI (uI I 296 9 (nI (p + 1))) 304 2 (bI (if r11_here (uI I 296 9 (nI (p + 1))) L = 82 then true else false))) 304 3 0) 304 4 0) 296 9 (nI (p + 2)))) d11_isRequest_204 rfl ?_
            refine V_iconst (pc1 := 208) d11_isRequest_207 vc_1 rfl ?_
            refine V_addN (pc1 := 209) (a := p + 2) (b := 1) (c := p + 3) rfl rfl (by omega) d11_isRequest_208 rfl ?_
            refine V_puti (pc1 := 212) ly296 (lt305 rfl) f11_214 rfl rfl d11_isRequest_209 rfl ?_
            refine V_goto (tgt := 280) d11_isRequest_212 (by decide) ?_
            refine V_aload_n (pc1 := 281) 0 d11_isRequest_280 rfl rfl ?_
            refine V_vi (pc1 := 284) (w11_here g   t ht8 (p + 3) (by omega) (uI (uI (uI (uI (uI (uI (uI I 296 9 (nI (p + 1))) 304 2 (bI (if r11_here (uI I 296 9 (nI (p + 1))) L = 82 then true else false))) 304 3 0) 304 4 0) 296 9 (nI (p + 2))) 304 3 ((r11_here (uI (uI (uI (uI (uI I 296 9 (nI (p + 1))) 304 2 (bI (if r11_here (uI I 296 9 (nI (p + 1))) L = 82 then true else false))) 304 3 0) 304 4 0) 296 9 (nI (p + 2))) L) - 48)) 296 9 (nI (p + 3))) L (((uI_ne (uI (uI (uI (uI (uI (uI I 296 9 (nI (p + 1))) 304 2 (bI (if r11_here (uI I 296 9 (nI (p + 1))) L = 82 then true else false))) 304 3 0) 304 4 0) 296 9 (nI (p + 2))) 304 3 ((r11_here (uI (uI (uI (uI (uI I 296 9 (nI (p + 1))) 304 2 (bI (if r11_here (uI I 296 9 (nI (p + 1))) L = 82 then true else false))) 304 3 0) 304 4 0) 296 9 (nI (p + 2))) L) - 48)) 296 (nI (p + 3)) (show (5 : Nat) ≠ 9 by decide)).trans ((congrFun (uI_off (uI (uI (uI (uI (uI I 296 9 (nI (p + 1))) 304 2 (bI (if r11_here (uI I 296 9 (nI (p + 1))) L = 82 then true else false))) 304 3 0) 304 4 0) 296 9 (nI (p + 2))) 3 ((r11_here (uI (uI (uI (uI (uI I 296 9 (nI (p + 1))) 304 2 (bI (if r11_here (uI I 296 9 (nI (p + 1))) L = 82 then true else false))) 304 3 0) 304 4 0) 296 9 (nI (p + 2))) L) - 48) (show (296 : Nat) ≠ 304 by decide)) _).trans ((uI_ne (uI (uI (uI (uI I 296 9 (nI (p + 1))) 304 2 (bI (if r11_here (uI I 296 9 (nI (p + 1))) L = 82 then true else false))) 304 3 0) 304 4 0) 296 (nI (p + 2)) (show (5 : Nat) ≠ 9 by decide)).trans ((congrFun (uI_off (uI (uI (uI I 296 9 (nI (p + 1))) 304 2 (bI (if r11_here (uI I 296 9 (nI (p + 1))) L = 82 then true else false))) 304 3 0) 4 0 (show (296 : Nat) ≠ 304 by decide)) _).trans ((congrFun (uI_off (uI (uI I 296 9 (nI (p + 1))) 304 2 (bI (if r11_here (uI I 296 9 (nI (p + 1))) L = 82 then true else false))) 3 0 (show (296 : Nat) ≠ 304 by decide)) _).trans ((congrFun (uI_off (uI I 296 9 (nI (p + 1))) 2 (bI (if r11_here (uI I 296 9 (nI (p + 1))) L = 82 then true else false)) (show (296 : Nat) ≠ 304 by decide)) _).trans (uI_ne I 296 (nI (p + 1)) (show (5 : Nat) ≠ 9 by decide)))))))).trans ht) (uI_self (uI (uI (uI (uI (uI (uI I 296 9 (nI (p + 1))) 304 2 (bI (if r11_here (uI I 296 9 (nI (p + 1))) L = 82 then true else false))) 304 3 0) 304 4 0) 296 9 (nI (p + 2))) 304 3 ((r11_here (uI (uI (uI (uI (uI I 296 9 (nI (p + 1))) 304 2 (bI (if r11_here (uI I 296 9 (nI (p + 1))) L = 82 then true else false))) 304 3 0) 304 4 0) 296 9 (nI (p + 2))) L) - 48)) 296 9 (nI (p + 3)))) ly296 (lt305 rfl) s11_here l11_217 rfl rfl ⟨Nat.le_of_ble_eq_true rfl, Nat.le_of_ble_eq_true rfl, Nat.le_refl _, Nat.le_refl _⟩ (Nat.le_of_ble_eq_true rfl) rfl d11_isRequest_281 rfl ?_
            refine V_bipush (pc1 := 286) d11_isRequest_284 vb_59 rfl ?_
            refine V_icmp_eq (tgt := 291) (pc1 := 289) d11_isRequest_286 (by decide) rfl (fun h7 => ?_) (fun h7 => ?_)
            · skip
              refine V_aload_n (pc1 := 292) 0 d11_isRequest_291 rfl rfl ?_
              refine V_dup (pc1 := 293) d11_isRequest_292 rfl rfl ?_
              refine V_geti (pc1 := 296) ly296 (lt305 rfl) f11_214 (fun _ => rfl) (uI_self (uI (uI (uI (uI (uI (uI I 296 9 (nI (p + 1))) 304 2 (bI (if r11_here (uI I 296 9 (nI (p + 1))) L = 82 then true else false))) 304 3 0) 304 4 0) 296 9 (nI (p + 2))) 304 3 ((r11_here (uI (uI (uI (uI (uI I 296 9 (nI (p + 1))) 304 2 (bI (if r11_here (uI I 296 9 (nI (p + 1))) L = 82 then true else false))) 304 3 0) 304 4 0) 296 9 (nI (p + 2))) L) - 48)) 296 9 (nI (p + 3))) d11_isRequest_293 rfl ?_
              refine V_iconst (pc1 := 297) d11_isRequest_296 vc_1 rfl ?_
              refine V_addN (pc1 := 298) (a := p + 3) (b := 1) (c := p + 4) rfl rfl (by omega) d11_isRequest_297 rfl ?_
              refine V_puti (pc1 := 301) ly296 (lt305 rfl) f11_214 rfl rfl d11_isRequest_298 rfl ?_
              refine V_iconst (pc1 := 302) d11_isRequest_301 vc_1 rfl ?_
              refine V_zret rfl (Or.inr rfl) d11_isRequest_302 (Nat.zero_le _) (Nat.zero_le _) ?_
              have hq2 := hq
              simp only [r11_isRequest_60, i11_isRequest_60, if_pos h2, if_pos h5, if_pos h6, if_pos h7] at hq2
              exact hq2
            · skip
              refine V_iconst (pc1 := 290) d11_isRequest_289 vc_0 rfl ?_
              refine V_zret rfl (Or.inl rfl) d11_isRequest_290 (Nat.zero_le _) (Nat.zero_le _) ?_
              have hq2 := hq
              simp only [r11_isRequest_60, i11_isRequest_60, if_pos h2, if_pos h5, if_pos h6, if_neg h7] at hq2
              exact hq2
          · skip
            refine V_iconst (pc1 := 201) d11_isRequest_200 vc_0 rfl ?_
            refine V_zret rfl (Or.inl rfl) d11_isRequest_201 (Nat.zero_le _) (Nat.zero_le _) ?_
            have hq2 := hq
            simp only [r11_isRequest_60, i11_isRequest_60, if_pos h2, if_pos h5, if_neg h6] at hq2
            exact hq2
      refine V_icmp_ne (tgt := 152) (pc1 := 148) d11_isRequest_145 (by decide) rfl (fun h3 => ?_) (fun h3 => ?_)
      · skip
        refine V_iconst (pc1 := 153) d11_isRequest_152 vc_0 rfl ?_
        exact key4 _ (by first | rfl | (simp only [if_neg h3]; done) | (simp only [if_neg h3]; rfl)) _ (lvsub_p [0, 1, 2] rfl)
      · skip
        refine V_iconst (pc1 := 149) d11_isRequest_148 vc_1 rfl ?_
        refine V_goto (tgt := 153) d11_isRequest_149 (by decide) ?_
        exact key4 _ (by first | rfl | (simp only [if_pos h3]; done) | (simp only [if_pos h3]; rfl)) _ (lvsub_p [0, 1, 2] rfl)
    · skip
      refine V_iconst (pc1 := 126) d11_isRequest_125 vc_0 rfl ?_
      refine V_zret rfl (Or.inl rfl) d11_isRequest_126 (Nat.zero_le _) (Nat.zero_le _) ?_
      have hq2 := hq
      simp only [r11_isRequest_60, i11_isRequest_60, if_neg h2] at hq2
      exact hq2
  | succ n ih =>
    intro k p I L ht hp hp8 hn Q hq
    refine V_iload_n (pc1 := 61) 2 d11_isRequest_60 rfl rfl ?_
    refine V_iconst (pc1 := 62) d11_isRequest_61 vc_3 rfl ?_
    refine V_icmp_ge (tgt := 116) (pc1 := 65) d11_isRequest_62 (by decide) rfl (fun h1 => absurd h1 (nI_ge (b := 3) (by omega) (by omega))) (fun _ => ?_)
    refine V_aload_n (pc1 := 66) 0 d11_isRequest_65 rfl rfl ?_
    refine V_vi (pc1 := 69) (w11_here g   t ht8 p (by omega) I L ht hp) ly296 (lt305 rfl) s11_here l11_217 rfl rfl ⟨Nat.le_of_ble_eq_true rfl, Nat.le_of_ble_eq_true rfl, Nat.le_refl _, Nat.le_refl _⟩ (Nat.le_of_ble_eq_true rfl) rfl d11_isRequest_66 rfl ?_
    refine V_si (pc1 := 72) (w11_hex g  (r11_here I L)  I L ) s11_hex l11_220 rfl rfl ⟨Nat.le_of_ble_eq_true rfl, Nat.le_of_ble_eq_true rfl, Nat.le_refl _, Nat.le_refl _⟩ (Nat.le_of_ble_eq_true rfl) rfl d11_isRequest_69 rfl ?_
    refine V_istore_n (pc1 := 73) d11_isRequest_72 (Nat.le_of_ble_eq_true rfl) rfl rfl ?_
    refine V_iload_n (pc1 := 74) 0 d11_isRequest_73 rfl rfl ?_
    have k3 : ((r11_hex (r11_here I L) < 0) ∨ ((nI k = 0) ∧ (¬ (r11_hex (r11_here I L) ≤ 7)))) → V g (k11_isRequest, 3, 0, 0) 0 0 87 [(3, .int (r11_hex (r11_here I L))), (0, .ref (xA g 296)), (1, .ref (xA g 304)), (2, .int (nI k))] [] (I, L, R0, 305) Q := by
      intro h2
      refine V_iconst (pc1 := 88) d11_isRequest_87 vc_0 rfl ?_
      refine V_zret rfl (Or.inl rfl) d11_isRequest_88 (Nat.zero_le _) (Nat.zero_le _) ?_
      have hq2 := hq
      simp only [r11_isRequest_60, i11_isRequest_60, if_pos h2] at hq2
      exact hq2
    have k4 : ¬ ((r11_hex (r11_here I L) < 0) ∨ ((nI k = 0) ∧ (¬ (r11_hex (r11_here I L) ≤ 7)))) → V g (k11_isRequest, 3, 0, 0) 0 0 89 [(3, .int (r11_hex (r11_here I L))), (0, .ref (xA g 296)), (1, .ref (xA g 304)), (2, .int (nI k))] [] (I, L, R0, 305) Q := by
      intro h2
      refine V_aload_n (pc1 := 90) 2 d11_isRequest_89 rfl rfl ?_
      refine V_iconst (pc1 := 91) d11_isRequest_90 vc_1 rfl ?_
      refine V_bipush (pc1 := 93) d11_isRequest_91 vb_16 rfl ?_
      refine V_aload_n (pc1 := 94) 2 d11_isRequest_93 rfl rfl ?_
      refine V_iconst (pc1 := 95) d11_isRequest_94 vc_1 rfl ?_
      refine V_iald2 (pc1 := 96) 1 ly304 (lt305 rfl) rfl (Nat.le_of_ble_eq_true rfl) rfl d11_isRequest_95 rfl ?_
      refine V_imul (pc1 := 97) d11_isRequest_96 rfl ?_
      refine V_iload_n (pc1 := 98) 0 d11_isRequest_97 rfl rfl ?_
      refine V_iadd (pc1 := 99) d11_isRequest_98 rfl ?_
      refine V_iast (pc1 := 100) 1 ly304 (lt305 rfl) rfl (Nat.le_of_ble_eq_true rfl) d11_isRequest_99 rfl ?_
      refine V_aload_n (pc1 := 101) 1 d11_isRequest_100 rfl rfl ?_
      refine V_dup (pc1 := 102) d11_isRequest_101 rfl rfl ?_
      refine V_geti (pc1 := 105) ly296 (lt305 rfl) f11_214 (fun _ => rfl) ((congrFun (uI_off I 1 (((16 : Int32) * (I 304 1)) + (r11_hex (r11_here I L))) (show (296 : Nat) ≠ 304 by decide)) _).trans hp) d11_isRequest_102 rfl ?_
      refine V_iconst (pc1 := 106) d11_isRequest_105 vc_1 rfl ?_
      refine V_addN (pc1 := 107) (a := p) (b := 1) (c := p + 1) rfl rfl (by omega) d11_isRequest_106 rfl ?_
      refine V_puti (pc1 := 110) ly296 (lt305 rfl) f11_214 rfl rfl d11_isRequest_107 rfl ?_
      refine V_iinc (pc1 := 113) 3 (v := nI (k + 1)) d11_isRequest_110 rfl (nI_1 _) (Nat.le_of_ble_eq_true rfl) rfl rfl ?_
      refine V_goto (tgt := 60) d11_isRequest_113 (by decide) ?_
      refine V_lv (lv1 := [(0, .ref (xA g 296)), (1, .ref (xA g 304)), (2, .int (nI (k + 1)))]) (lvsub_p [2, 3, 0] rfl) ?_
      have hq2 := hq
      simp only [r11_isRequest_60, i11_isRequest_60, if_neg h2] at hq2
      exact ih (k + 1) (p + 1) (uI (uI I 304 1 (((16 : Int32) * (I 304 1)) + (r11_hex (r11_here I L)))) 296 9 (nI (p + 1))) L (((uI_ne (uI I 304 1 (((16 : Int32) * (I 304 1)) + (r11_hex (r11_here I L)))) 296 (nI (p + 1)) (show (5 : Nat) ≠ 9 by decide)).trans (congrFun (uI_off I 1 (((16 : Int32) * (I 304 1)) + (r11_hex (r11_here I L))) (show (296 : Nat) ≠ 304 by decide)) _)).trans ht) (uI_self (uI I 304 1 (((16 : Int32) * (I 304 1)) + (r11_hex (r11_here I L)))) 296 9 (nI (p + 1))) (by omega) (by omega) Q hq2
    refine V_if_lt (tgt := 87) (pc1 := 77) d11_isRequest_74 (by decide) rfl (fun h5 => ?_) (fun h5 => ?_)
    · skip
      exact k3 (Or.inl h5)
    · skip
      refine V_iload_n (pc1 := 78) 3 d11_isRequest_77 rfl rfl ?_
      refine V_if_ne (tgt := 89) (pc1 := 81) d11_isRequest_78 (by decide) rfl (fun h6 => ?_) (fun h6 => ?_)
      · skip
        exact k4 (fun z => z.elim h5 (fun z => h6 z.1))
      · skip
        refine V_iload_n (pc1 := 82) 0 d11_isRequest_81 rfl rfl ?_
        refine V_bipush (pc1 := 84) d11_isRequest_82 vb_7 rfl ?_
        refine V_icmp_le (tgt := 89) (pc1 := 87) d11_isRequest_84 (by decide) rfl (fun h7 => ?_) (fun h7 => ?_)
        · skip
          exact k4 (fun z => z.elim h5 (fun z => (fun z => z h7) z.2))
        · skip
          exact k3 (Or.inr ⟨h6, h7⟩)
def r11_isRequest (I : Nat → Nat → Int32) (L : Nat → Nat → Int64) : Bool := (if (r11_in ((r11_here I L) - 48) 0 3) = true then (if r11_here (uI (uI I 304 0 ((r11_here I L) - 48)) 296 9 (nI (((I 296 9).toNatClampNeg) + 1))) L = 58 then r11_isRequest_60  3 0 (((I 296 9).toNatClampNeg) + 2) (uI (uI (uI (uI I 304 0 ((r11_here I L) - 48)) 296 9 (nI (((I 296 9).toNatClampNeg) + 1))) 296 9 (nI (((I 296 9).toNatClampNeg) + 2))) 304 1 0) L else false) else false)
def i11_isRequest (I : Nat → Nat → Int32) (L : Nat → Nat → Int64) : Nat → Nat → Int32 := (if (r11_in ((r11_here I L) - 48) 0 3) = true then (if r11_here (uI (uI I 304 0 ((r11_here I L) - 48)) 296 9 (nI (((I 296 9).toNatClampNeg) + 1))) L = 58 then i11_isRequest_60  3 0 (((I 296 9).toNatClampNeg) + 2) (uI (uI (uI (uI I 304 0 ((r11_here I L) - 48)) 296 9 (nI (((I 296 9).toNatClampNeg) + 1))) 296 9 (nI (((I 296 9).toNatClampNeg) + 2))) 304 1 0) L else uI (uI I 304 0 ((r11_here I L) - 48)) 296 9 (nI (((I 296 9).toNatClampNeg) + 1))) else uI I 304 0 ((r11_here I L) - 48))
set_option maxRecDepth 4000 in
theorem v11_isRequest (g : GlT)  (t : Nat) (ht8 : t ≤ 120) (p : Nat) (hp9 : p < 300) (I : Nat → Nat → Int32) (L : Nat → Nat → Int64) (ht : I 296 5 = nI t) (hp : I 296 9 = nI p) (Q : Option Value → MemT → Prop) (hq : Q (some (.int (bI (r11_isRequest I L)))) (i11_isRequest I L, L, R0, 305)) : V g (k11_isRequest, 3, 0, 0) 0 0 0 [(0, .ref (xA g 296)), (1, .ref (xA g 304))] [] (I, L, R0, 305) Q := by
  have hp3 : (I 296 9).toNatClampNeg = p := by rw [hp]; exact nI_clamp (by omega)
  refine V_aload_n (pc1 := 1) 1 d11_isRequest_0 rfl rfl ?_
  refine V_iconst (pc1 := 2) d11_isRequest_1 vc_0 rfl ?_
  refine V_aload_n (pc1 := 3) 0 d11_isRequest_2 rfl rfl ?_
  refine V_vi (pc1 := 6) (w11_here g   t ht8 p (by omega) I L ht hp) ly296 (lt305 rfl) s11_here l11_217 rfl rfl ⟨Nat.le_of_ble_eq_true rfl, Nat.le_of_ble_eq_true rfl, Nat.le_refl _, Nat.le_refl _⟩ (Nat.le_of_ble_eq_true rfl) rfl d11_isRequest_3 rfl ?_
  refine V_bipush (pc1 := 8) d11_isRequest_6 vb_48 rfl ?_
  refine V_isub (pc1 := 9) d11_isRequest_8 rfl ?_
  refine V_iast (pc1 := 10) 0 ly304 (lt305 rfl) rfl (Nat.le_of_ble_eq_true rfl) d11_isRequest_9 rfl ?_
  refine V_aload_n (pc1 := 11) 1 d11_isRequest_10 rfl rfl ?_
  refine V_iconst (pc1 := 12) d11_isRequest_11 vc_0 rfl ?_
  refine V_iald2 (pc1 := 13) 0 ly304 (lt305 rfl) rfl (Nat.le_of_ble_eq_true rfl) (uI_self I 304 0 ((r11_here I L) - 48)) d11_isRequest_12 rfl ?_
  refine V_iconst (pc1 := 14) d11_isRequest_13 vc_0 rfl ?_
  refine V_iconst (pc1 := 15) d11_isRequest_14 vc_3 rfl ?_
  refine V_si (pc1 := 18) (w11_in g  ((r11_here I L) - 48) 0 3  (uI I 304 0 ((r11_here I L) - 48)) L ) s11_in l11_39 rfl rfl ⟨Nat.le_of_ble_eq_true rfl, Nat.le_of_ble_eq_true rfl, Nat.le_refl _, Nat.le_refl _⟩ (Nat.le_of_ble_eq_true rfl) rfl d11_isRequest_15 rfl ?_
  refine V_bne (tgt := 23) (pc1 := 21) d11_isRequest_18 (by decide) rfl (fun h1 => ?_) (fun h1 => ?_)
  · skip
    refine V_aload_n (pc1 := 24) 0 d11_isRequest_23 rfl rfl ?_
    refine V_dup (pc1 := 25) d11_isRequest_24 rfl rfl ?_
    refine V_geti (pc1 := 28) ly296 (lt305 rfl) f11_214 (fun _ => rfl) ((congrFun (uI_off I 0 ((r11_here I L) - 48) (show (296 : Nat) ≠ 304 by decide)) _).trans hp) d11_isRequest_25 rfl ?_
    refine V_iconst (pc1 := 29) d11_isRequest_28 vc_1 rfl ?_
    refine V_addN (pc1 := 30) (a := p) (b := 1) (c := p + 1) rfl rfl (by omega) d11_isRequest_29 rfl ?_
    refine V_puti (pc1 := 33) ly296 (lt305 rfl) f11_214 rfl rfl d11_isRequest_30 rfl ?_
    refine V_aload_n (pc1 := 34) 0 d11_isRequest_33 rfl rfl ?_
    refine V_vi (pc1 := 37) (w11_here g   t ht8 (p + 1) (by omega) (uI (uI I 304 0 ((r11_here I L) - 48)) 296 9 (nI (p + 1))) L (((uI_ne (uI I 304 0 ((r11_here I L) - 48)) 296 (nI (p + 1)) (show (5 : Nat) ≠ 9 by decide)).trans (congrFun (uI_off I 0 ((r11_here I L) - 48) (show (296 : Nat) ≠ 304 by decide)) _)).trans ht) (uI_self (uI I 304 0 ((r11_here I L) - 48)) 296 9 (nI (p + 1)))) ly296 (lt305 rfl) s11_here l11_217 rfl rfl ⟨Nat.le_of_ble_eq_true rfl, Nat.le_of_ble_eq_true rfl, Nat.le_refl _, Nat.le_refl _⟩ (Nat.le_of_ble_eq_true rfl) rfl d11_isRequest_34 rfl ?_
    refine V_bipush (pc1 := 39) d11_isRequest_37 vb_58 rfl ?_
    refine V_icmp_eq (tgt := 44) (pc1 := 42) d11_isRequest_39 (by decide) rfl (fun h2 => ?_) (fun h2 => ?_)
    · skip
      refine V_aload_n (pc1 := 45) 0 d11_isRequest_44 rfl rfl ?_
      refine V_dup (pc1 := 46) d11_isRequest_45 rfl rfl ?_
      refine V_geti (pc1 := 49) ly296 (lt305 rfl) f11_214 (fun _ => rfl) (uI_self (uI I 304 0 ((r11_here I L) - 48)) 296 9 (nI (p + 1))) d11_isRequest_46 rfl ?_
      refine V_iconst (pc1 := 50) d11_isRequest_49 vc_1 rfl ?_
      refine V_addN (pc1 := 51) (a := p + 1) (b := 1) (c := p + 2) rfl rfl (by omega) d11_isRequest_50 rfl ?_
      refine V_puti (pc1 := 54) ly296 (lt305 rfl) f11_214 rfl rfl d11_isRequest_51 rfl ?_
      refine V_aload_n (pc1 := 55) 1 d11_isRequest_54 rfl rfl ?_
      refine V_iconst (pc1 := 56) d11_isRequest_55 vc_1 rfl ?_
      refine V_iconst (pc1 := 57) d11_isRequest_56 vc_0 rfl ?_
      refine V_iast (pc1 := 58) 1 ly304 (lt305 rfl) rfl (Nat.le_of_ble_eq_true rfl) d11_isRequest_57 rfl ?_
      refine V_iconst (pc1 := 59) d11_isRequest_58 vc_0 rfl ?_
      refine V_istore_n (pc1 := 60) d11_isRequest_59 (Nat.le_of_ble_eq_true rfl) rfl rfl ?_
      refine V_lv (lv1 := [(0, .ref (xA g 296)), (1, .ref (xA g 304)), (2, .int (nI 0))]) (lvsub_p [1, 2, 0] rfl) ?_
      have hq2 := hq
      simp only [r11_isRequest, i11_isRequest, hp3, if_pos h1, if_pos h2] at hq2
      exact t11_isRequest_60 g   _ ht8 _ hp9 3 0 (p + 2) (uI (uI (uI (uI I 304 0 ((r11_here I L) - 48)) 296 9 (nI (p + 1))) 296 9 (nI (p + 2))) 304 1 0) L (((congrFun (uI_off (uI (uI (uI I 304 0 ((r11_here I L) - 48)) 296 9 (nI (p + 1))) 296 9 (nI (p + 2))) 1 0 (show (296 : Nat) ≠ 304 by decide)) _).trans ((uI_ne (uI (uI I 304 0 ((r11_here I L) - 48)) 296 9 (nI (p + 1))) 296 (nI (p + 2)) (show (5 : Nat) ≠ 9 by decide)).trans ((uI_ne (uI I 304 0 ((r11_here I L) - 48)) 296 (nI (p + 1)) (show (5 : Nat) ≠ 9 by decide)).trans (congrFun (uI_off I 0 ((r11_here I L) - 48) (show (296 : Nat) ≠ 304 by decide)) _)))).trans ht) ((congrFun (uI_off (uI (uI (uI I 304 0 ((r11_here I L) - 48)) 296 9 (nI (p + 1))) 296 9 (nI (p + 2))) 1 0 (show (296 : Nat) ≠ 304 by decide)) _).trans (uI_self (uI (uI I 304 0 ((r11_here I L) - 48)) 296 9 (nI (p + 1))) 296 9 (nI (p + 2)))) (by omega) rfl Q hq2
    · skip
      refine V_iconst (pc1 := 43) d11_isRequest_42 vc_0 rfl ?_
      refine V_zret rfl (Or.inl rfl) d11_isRequest_43 (Nat.zero_le _) (Nat.zero_le _) ?_
      have hq2 := hq
      simp only [r11_isRequest, i11_isRequest, hp3, if_pos h1, if_neg h2] at hq2
      exact hq2
  · skip
    refine V_iconst (pc1 := 22) d11_isRequest_21 vc_0 rfl ?_
    refine V_zret rfl (Or.inl rfl) d11_isRequest_22 (Nat.zero_le _) (Nat.zero_le _) ?_
    have hq2 := hq
    simp only [r11_isRequest, i11_isRequest, hp3, if_neg h1] at hq2
    exact hq2
theorem w11_isRequest (g : GlT)  (t : Nat) (ht8 : t ≤ 120) (p : Nat) (hp9 : p < 300) (I : Nat → Nat → Int32) (L : Nat → Nat → Int64) (ht : I 296 5 = nI t) (hp : I 296 9 = nI p) : Call g (k11_isRequest, 3, 0, 0) [.ref (xA g 296), .ref (xA g 304)] (I, L, R0, 305) (Qi (bI (r11_isRequest I L)) (i11_isRequest I L) L) := Call.of (by decide) (Nat.le_of_ble_eq_true rfl) rfl (v11_isRequest g   t ht8 p hp9 I L ht hp _ (And.intro rfl rfl))

