theorem smp_congr {i f m : Nat} {I J : Nat → Nat → Int32} {L : Nat → Nat → Int64} (h : ∀ t, t < 70 → J 297 (256 * i + t + 90) = I 297 (256 * i + t + 90)) : ∀ (n j : Nat) (z : Int32), j + n ≤ 70 → r11_sampled_6 i f m n j z J L = r11_sampled_6 i f m n j z I L := by
  intro n
  induction n with
  | zero => intros; rfl
  | succ n ih =>
    intro j z hj
    simp only [r11_sampled_6]
    rw [show J 297 (256 * i + j + 90) = I 297 (256 * i + j + 90) from h j (by omega)]
    exact ih _ _ (by omega)
theorem sampled_congr {i f m : Nat} {I J : Nat → Nat → Int32} {L : Nat → Nat → Int64} (h : ∀ t, t < 70 → J 297 (256 * i + t + 90) = I 297 (256 * i + t + 90)) (hf : f + m ≤ 70) : r11_sampled i f m J L = r11_sampled i f m I L := by
  unfold r11_sampled
  exact smp_congr h _ _ _ (by omega)
theorem slen_congr {i : Nat} {I J : Nat → Nat → Int32} {L : Nat → Nat → Int64} (h : ∀ t, t < 70 → J 297 (256 * i + t + 90) = I 297 (256 * i + t + 90)) : r11_sampledLength i J L = r11_sampledLength i I L := by
  unfold r11_sampledLength
  exact sampled_congr h (by omega)
theorem tot_22 {i : Nat} {x : Int32} {I : Nat → Nat → Int32} {L : Nat → Nat → Int64} : r11_total i (uI I 297 (256 * i + 22) x) L = r11_total i I L := by
  unfold r11_total
  rw [uI_ne _ _ _ (by omega), uI_ne _ _ _ (by omega), slen_congr (fun t ht => uI_ne _ _ _ (by omega))]
/-- a transmitter sends one of its frames -/
def tfl (i w : Nat) (I : Nat → Nat → Int32) (L : Nat → Nat → Int64) : Prop := (r11_isTransmitting i I L) = true → 1 ≤ w ∧ ∃ s, s ≤ 3 ∧ ¬ I 297 (256 * i + 5 * s + 34) = 0
theorem tfl_22 {i w : Nat} {x : Int32} {I : Nat → Nat → Int32} {L : Nat → Nat → Int64} (h : tfl i w I L) : tfl i w (uI I 297 (256 * i + 22) x) L := by
  intro h1
  unfold r11_isTransmitting at h1
  rw [uI_ne _ _ _ (by omega)] at h1
  obtain ⟨h2, s, h3, h4⟩ := h (by unfold r11_isTransmitting; exact h1)
  exact ⟨h2, s, h3, by rw [uI_ne _ _ _ (by omega)]; exact h4⟩
theorem room_lt {i w : Nat} {I : Nat → Nat → Int32} {L : Nat → Nat → Int64} (hw : I 297 (256 * i + 23) = nI w) (hw4 : w ≤ 4) (h : r11_isRoom i I L = true) : w ≤ 3 := by
  unfold r11_isRoom at h
  rw [hw] at h
  rcases Nat.lt_or_ge w 4 with q | q
  · omega
  · rw [if_pos (show (4 : Int32) ≤ nI w by rw [show w = 4 by omega]; decide)] at h
    exact absurd h (by decide)
theorem af2 {i : Nat} {idn : Int32} {I : Nat → Nat → Int32} {L : Nat → Nat → Int64} : ∀ n j, r11_answerFor_2 i idn n j I L = (-1) ∨ ∃ p, p < j + n ∧ r11_answerFor_2 i idn n j I L = nI p := by
  intro n
  induction n with
  | zero => intro j; exact Or.inl rfl
  | succ n ih =>
    intro j
    simp only [r11_answerFor_2]
    split
    · exact Or.inr ⟨j, by omega, rfl⟩
    · rcases ih (j + 1) with h | ⟨p, h1, h2⟩
      · exact Or.inl h
      · exact Or.inr ⟨p, by omega, h2⟩
theorem af_p {i q : Nat} {idn : Int32} {I : Nat → Nat → Int32} {L : Nat → Nat → Int64} (hs : I 297 (256 * i + 25) = nI q) (h4 : q ≤ 4) (h : ¬ r11_answerFor i idn I L < 0) : ∃ p, p < q ∧ r11_answerFor i idn I L = nI p := by
  have e : (I 297 (256 * i + 25)).toNatClampNeg = q := by rw [hs]; exact nI_clamp (by omega)
  unfold r11_answerFor at h ⊢
  rw [e] at h ⊢
  rcases af2 (i := i) (idn := idn) (I := I) (L := L) q 0 with r | ⟨p, h1, h2⟩
  · rw [r] at h; exact absurd (by decide) h
  · exact ⟨p, by omega, h2⟩
theorem af_c {i q : Nat} {idn : Int32} {I : Nat → Nat → Int32} {L : Nat → Nat → Int64} {c : Prop} [Decidable c] (hs : I 297 (256 * i + 25) = nI q) (h4 : q ≤ 4) (h : ¬ (if c then r11_answerFor i idn I L else (-1)) < 0) : ∃ p, p < q ∧ (if c then r11_answerFor i idn I L else (-1)) = nI p := by
  by_cases hc : c
  · rw [if_pos hc] at h ⊢
    exact af_p hs h4 h
  · rw [if_neg hc] at h
    exact absurd (by decide) h
theorem r6_lt {r : Nat} (h6 : r ≤ 6) (h : ¬ nI r = 6) : r < 6 := by
  rcases Nat.lt_or_ge r 6 with q | q
  · exact q
  · exact absurd (by rw [show r = 6 by omega]; decide) h

def i11_accepts (i : Nat) (I : Nat → Nat → Int32) (L : Nat → Nat → Int64) : Nat → Nat → Int32 := (if ((r11_sampled i 1 11 (uI I 297 (256 * i + 5) (if I 297 (256 * i + 5) < I 297 1025 then (if I 297 (256 * i + 5) ≤ 0 then 0 else (I 297 (256 * i + 5)) - 1) else (I 297 1025) - 8)) L) ^^^ (I 297 (256 * i + 17))) &&& (I 297 (256 * i + 16)) = 0 then (if (if I 297 (256 * i + 102) = 1 then r11_answerFor i (r11_sampled i 1 11 (uI I 297 (256 * i + 5) (if I 297 (256 * i + 5) < I 297 1025 then (if I 297 (256 * i + 5) ≤ 0 then 0 else (I 297 (256 * i + 5)) - 1) else (I 297 1025) - 8)) L) (uI I 297 (256 * i + 5) (if I 297 (256 * i + 5) < I 297 1025 then (if I 297 (256 * i + 5) ≤ 0 then 0 else (I 297 (256 * i + 5)) - 1) else (I 297 1025) - 8)) L else (-1)) < 0 then (if nI ((I 297 (256 * i + 24)).toNatClampNeg) = 6 then uI (uI I 297 (256 * i + 5) (if I 297 (256 * i + 5) < I 297 1025 then (if I 297 (256 * i + 5) ≤ 0 then 0 else (I 297 (256 * i + 5)) - 1) else (I 297 1025) - 8)) 297 (256 * i + 15) ((I 297 (256 * i + 15)) + 1) else uI (uI (uI (uI (uI (uI I 297 (256 * i + 5) (if I 297 (256 * i + 5) < I 297 1025 then (if I 297 (256 * i + 5) ≤ 0 then 0 else (I 297 (256 * i + 5)) - 1) else (I 297 1025) - 8)) 297 (256 * i + 4 * ((I 297 (256 * i + 24)).toNatClampNeg) + 50) (r11_sampled i 1 11 (uI I 297 (256 * i + 5) (if I 297 (256 * i + 5) < I 297 1025 then (if I 297 (256 * i + 5) ≤ 0 then 0 else (I 297 (256 * i + 5)) - 1) else (I 297 1025) - 8)) L)) 297 (256 * i + 4 * ((I 297 (256 * i + 24)).toNatClampNeg) + 51) (I 297 (256 * i + 102))) 297 (256 * i + 4 * ((I 297 (256 * i + 24)).toNatClampNeg) + 52) (r11_sampledLength i (uI (uI (uI I 297 (256 * i + 5) (if I 297 (256 * i + 5) < I 297 1025 then (if I 297 (256 * i + 5) ≤ 0 then 0 else (I 297 (256 * i + 5)) - 1) else (I 297 1025) - 8)) 297 (256 * i + 4 * ((I 297 (256 * i + 24)).toNatClampNeg) + 50) (r11_sampled i 1 11 (uI I 297 (256 * i + 5) (if I 297 (256 * i + 5) < I 297 1025 then (if I 297 (256 * i + 5) ≤ 0 then 0 else (I 297 (256 * i + 5)) - 1) else (I 297 1025) - 8)) L)) 297 (256 * i + 4 * ((I 297 (256 * i + 24)).toNatClampNeg) + 51) (I 297 (256 * i + 102))) L)) 297 (256 * i + 4 * ((I 297 (256 * i + 24)).toNatClampNeg) + 53) (if I 297 (256 * i + 102) = 1 then 0 else r11_sampled i 19 (8 * ((r11_sampledLength i I L).toNatClampNeg)) (uI (uI (uI (uI I 297 (256 * i + 5) (if I 297 (256 * i + 5) < I 297 1025 then (if I 297 (256 * i + 5) ≤ 0 then 0 else (I 297 (256 * i + 5)) - 1) else (I 297 1025) - 8)) 297 (256 * i + 4 * ((I 297 (256 * i + 24)).toNatClampNeg) + 50) (r11_sampled i 1 11 (uI I 297 (256 * i + 5) (if I 297 (256 * i + 5) < I 297 1025 then (if I 297 (256 * i + 5) ≤ 0 then 0 else (I 297 (256 * i + 5)) - 1) else (I 297 1025) - 8)) L)) 297 (256 * i + 4 * ((I 297 (256 * i + 24)).toNatClampNeg) + 51) (I 297 (256 * i + 102))) 297 (256 * i + 4 * ((I 297 (256 * i + 24)).toNatClampNeg) + 52) (r11_sampledLength i (uI (uI (uI I 297 (256 * i + 5) (if I 297 (256 * i + 5) < I 297 1025 then (if I 297 (256 * i + 5) ≤ 0 then 0 else (I 297 (256 * i + 5)) - 1) else (I 297 1025) - 8)) 297 (256 * i + 4 * ((I 297 (256 * i + 24)).toNatClampNeg) + 50) (r11_sampled i 1 11 (uI I 297 (256 * i + 5) (if I 297 (256 * i + 5) < I 297 1025 then (if I 297 (256 * i + 5) ≤ 0 then 0 else (I 297 (256 * i + 5)) - 1) else (I 297 1025) - 8)) L)) 297 (256 * i + 4 * ((I 297 (256 * i + 24)).toNatClampNeg) + 51) (I 297 (256 * i + 102))) L)) L)) 297 (256 * i + 24) ((I 297 (256 * i + 24)) + 1)) else (if (r11_isRoom i (uI I 297 (256 * i + 5) (if I 297 (256 * i + 5) < I 297 1025 then (if I 297 (256 * i + 5) ≤ 0 then 0 else (I 297 (256 * i + 5)) - 1) else (I 297 1025) - 8)) L) = true then i11_waits i (r11_sampled i 1 11 (uI I 297 (256 * i + 5) (if I 297 (256 * i + 5) < I 297 1025 then (if I 297 (256 * i + 5) ≤ 0 then 0 else (I 297 (256 * i + 5)) - 1) else (I 297 1025) - 8)) L) 0 (I 297 (256 * i + 3 * (((if I 297 (256 * i + 102) = 1 then r11_answerFor i (r11_sampled i 1 11 (uI I 297 (256 * i + 5) (if I 297 (256 * i + 5) < I 297 1025 then (if I 297 (256 * i + 5) ≤ 0 then 0 else (I 297 (256 * i + 5)) - 1) else (I 297 1025) - 8)) L) (uI I 297 (256 * i + 5) (if I 297 (256 * i + 5) < I 297 1025 then (if I 297 (256 * i + 5) ≤ 0 then 0 else (I 297 (256 * i + 5)) - 1) else (I 297 1025) - 8)) L else (-1))).toNatClampNeg) + 75)) (I 297 (256 * i + 3 * (((if I 297 (256 * i + 102) = 1 then r11_answerFor i (r11_sampled i 1 11 (uI I 297 (256 * i + 5) (if I 297 (256 * i + 5) < I 297 1025 then (if I 297 (256 * i + 5) ≤ 0 then 0 else (I 297 (256 * i + 5)) - 1) else (I 297 1025) - 8)) L) (uI I 297 (256 * i + 5) (if I 297 (256 * i + 5) < I 297 1025 then (if I 297 (256 * i + 5) ≤ 0 then 0 else (I 297 (256 * i + 5)) - 1) else (I 297 1025) - 8)) L else (-1))).toNatClampNeg) + 76)) (uI I 297 (256 * i + 5) (if I 297 (256 * i + 5) < I 297 1025 then (if I 297 (256 * i + 5) ≤ 0 then 0 else (I 297 (256 * i + 5)) - 1) else (I 297 1025) - 8)) L else uI I 297 (256 * i + 5) (if I 297 (256 * i + 5) < I 297 1025 then (if I 297 (256 * i + 5) ≤ 0 then 0 else (I 297 (256 * i + 5)) - 1) else (I 297 1025) - 8))) else uI I 297 (256 * i + 5) (if I 297 (256 * i + 5) < I 297 1025 then (if I 297 (256 * i + 5) ≤ 0 then 0 else (I 297 (256 * i + 5)) - 1) else (I 297 1025) - 8))
set_option maxRecDepth 4000 in
theorem v11_accepts (g : GlT)  (i : Nat) (hi : i < 4) (w : Nat) (hw4 : w ≤ 4) (q : Nat) (hq4 : q ≤ 4) (r : Nat) (hr6 : r ≤ 6) (ln : Nat) (hl4 : ln ≤ 4) (I : Nat → Nat → Int32) (L : Nat → Nat → Int64) (hw : I 297 (256 * i + 23) = nI w) (hq0 : I 297 (256 * i + 25) = nI q) (hr : I 297 (256 * i + 24) = nI r) (hln : r11_sampledLength i I L = nI ln) (Q : Option Value → MemT → Prop) (hq : Q (none) (i11_accepts i I L, L, R0, 305)) : V g (k11_accepts, 4, 0, 0) 0 0 0 [(0, .ref (xA g 296)), (1, .int (nI i))] [] (I, L, R0, 305) Q := by
  have hr3 : (I 297 (256 * i + 24)).toNatClampNeg = r := by rw [hr]; exact nI_clamp (by omega)
  have hln3 : (r11_sampledLength i I L).toNatClampNeg = ln := by rw [hln]; exact nI_clamp (by omega)
  refine V_aload_n (pc1 := 1) 0 d11_accepts_0 rfl rfl ?_
  refine V_getr (pc1 := 4) ly296 (lt305 rfl) f11_7 (fun _ => rfl) rf296_0 d11_accepts_1 rfl ?_
  refine V_iload_n (pc1 := 5) 1 d11_accepts_4 rfl rfl ?_
  refine V_iconst (pc1 := 6) d11_accepts_5 vc_5 rfl ?_
  refine V_si (pc1 := 9) (w11_at2 g  i 5 (256 * i + 5) (by omega) I L ) s11_at l11_35 rfl rfl ⟨Nat.le_of_ble_eq_true rfl, Nat.le_of_ble_eq_true rfl, Nat.le_refl _, Nat.le_refl _⟩ (Nat.le_of_ble_eq_true rfl) rfl d11_accepts_6 rfl ?_
  refine V_iald2 (pc1 := 10) (256 * i + 5) ly297 (lt305 rfl) rfl (by omega) rfl d11_accepts_9 rfl ?_
  refine V_istore_n (pc1 := 11) d11_accepts_10 (Nat.le_of_ble_eq_true rfl) rfl rfl ?_
  refine V_aload_n (pc1 := 12) 1 d11_accepts_11 rfl rfl ?_
  refine V_getr (pc1 := 15) ly296 (lt305 rfl) f11_7 (fun _ => rfl) rf296_0 d11_accepts_12 rfl ?_
  refine V_iload_n (pc1 := 16) 2 d11_accepts_15 rfl rfl ?_
  refine V_iconst (pc1 := 17) d11_accepts_16 vc_5 rfl ?_
  refine V_si (pc1 := 20) (w11_at2 g  i 5 (256 * i + 5) (by omega) I L ) s11_at l11_35 rfl rfl ⟨Nat.le_of_ble_eq_true rfl, Nat.le_of_ble_eq_true rfl, Nat.le_refl _, Nat.le_refl _⟩ (Nat.le_of_ble_eq_true rfl) rfl d11_accepts_17 rfl ?_
  refine V_iload_n (pc1 := 21) 0 d11_accepts_20 rfl rfl ?_
  refine V_aload_n (pc1 := 22) 1 d11_accepts_21 rfl rfl ?_
  refine V_getr (pc1 := 25) ly296 (lt305 rfl) f11_7 (fun _ => rfl) rf296_0 d11_accepts_22 rfl ?_
  refine V_sipush (pc1 := 28) d11_accepts_25 vs_1025 rfl ?_
  refine V_iald2 (pc1 := 29) 1025 ly297 (lt305 rfl) rfl (Nat.le_of_ble_eq_true rfl) rfl d11_accepts_28 rfl ?_
  have key3 : ∀ (y57_0 : Int32), y57_0 = (if I 297 (256 * i + 5) < I 297 1025 then (if I 297 (256 * i + 5) ≤ 0 then 0 else (I 297 (256 * i + 5)) - 1) else (I 297 1025) - 8) → ∀ (lv : List (Nat × Value)), lvsub [(2, .int (I 297 (256 * i + 5))), (0, .ref (xA g 296)), (1, .int (nI i))] lv → V g (k11_accepts, 4, 0, 0) 0 0 57 lv [.int y57_0, .int (nI (256 * i + 5)), .ref (xA g 297)] (I, L, R0, 305) Q := by
    intro y57_0 ey57_0
    subst ey57_0
    intro lv hlv
    refine V_lv hlv ?_
    refine V_iast (pc1 := 58) (256 * i + 5) ly297 (lt305 rfl) rfl (by omega) d11_accepts_57 rfl ?_
    refine V_aload_n (pc1 := 59) 1 d11_accepts_58 rfl rfl ?_
    refine V_iload_n (pc1 := 60) 2 d11_accepts_59 rfl rfl ?_
    refine V_iconst (pc1 := 61) d11_accepts_60 vc_1 rfl ?_
    refine V_bipush (pc1 := 63) d11_accepts_61 vb_11 rfl ?_
    refine V_vi (pc1 := 66) (w11_sampled g  i 1 11 hi (by omega) (uI I 297 (256 * i + 5) (if I 297 (256 * i + 5) < I 297 1025 then (if I 297 (256 * i + 5) ≤ 0 then 0 else (I 297 (256 * i + 5)) - 1) else (I 297 1025) - 8)) L ) ly296 (lt305 rfl) s11_sampled l11_101 rfl rfl ⟨Nat.le_of_ble_eq_true rfl, Nat.le_of_ble_eq_true rfl, Nat.le_refl _, Nat.le_refl _⟩ (Nat.le_of_ble_eq_true rfl) rfl d11_accepts_63 rfl ?_
    refine V_istore_n (pc1 := 67) d11_accepts_66 (Nat.le_of_ble_eq_true rfl) rfl rfl ?_
    refine V_iload_n (pc1 := 68) 0 d11_accepts_67 rfl rfl ?_
    refine V_aload_n (pc1 := 69) 2 d11_accepts_68 rfl rfl ?_
    refine V_getr (pc1 := 72) ly296 (lt305 rfl) f11_7 (fun _ => rfl) rf296_0 d11_accepts_69 rfl ?_
    refine V_iload_n (pc1 := 73) 3 d11_accepts_72 rfl rfl ?_
    refine V_bipush (pc1 := 75) d11_accepts_73 vb_17 rfl ?_
    refine V_si (pc1 := 78) (w11_at2 g  i 17 (256 * i + 17) (by omega) (uI I 297 (256 * i + 5) (if I 297 (256 * i + 5) < I 297 1025 then (if I 297 (256 * i + 5) ≤ 0 then 0 else (I 297 (256 * i + 5)) - 1) else (I 297 1025) - 8)) L ) s11_at l11_35 rfl rfl ⟨Nat.le_of_ble_eq_true rfl, Nat.le_of_ble_eq_true rfl, Nat.le_refl _, Nat.le_refl _⟩ (Nat.le_of_ble_eq_true rfl) rfl d11_accepts_75 rfl ?_
    refine V_iald2 (pc1 := 79) (256 * i + 17) ly297 (lt305 rfl) rfl (by omega) (uI_ne I 297 (if I 297 (256 * i + 5) < I 297 1025 then (if I 297 (256 * i + 5) ≤ 0 then 0 else (I 297 (256 * i + 5)) - 1) else (I 297 1025) - 8) (show (256 * i + 17 : Nat) ≠ 256 * i + 5 by omega)) d11_accepts_78 rfl ?_
    refine V_ixor (pc1 := 80) d11_accepts_79 rfl ?_
    refine V_aload_n (pc1 := 81) 2 d11_accepts_80 rfl rfl ?_
    refine V_getr (pc1 := 84) ly296 (lt305 rfl) f11_7 (fun _ => rfl) rf296_0 d11_accepts_81 rfl ?_
    refine V_iload_n (pc1 := 85) 3 d11_accepts_84 rfl rfl ?_
    refine V_bipush (pc1 := 87) d11_accepts_85 vb_16 rfl ?_
    refine V_si (pc1 := 90) (w11_at2 g  i 16 (256 * i + 16) (by omega) (uI I 297 (256 * i + 5) (if I 297 (256 * i + 5) < I 297 1025 then (if I 297 (256 * i + 5) ≤ 0 then 0 else (I 297 (256 * i + 5)) - 1) else (I 297 1025) - 8)) L ) s11_at l11_35 rfl rfl ⟨Nat.le_of_ble_eq_true rfl, Nat.le_of_ble_eq_true rfl, Nat.le_refl _, Nat.le_refl _⟩ (Nat.le_of_ble_eq_true rfl) rfl d11_accepts_87 rfl ?_
    refine V_iald2 (pc1 := 91) (256 * i + 16) ly297 (lt305 rfl) rfl (by omega) (uI_ne I 297 (if I 297 (256 * i + 5) < I 297 1025 then (if I 297 (256 * i + 5) ≤ 0 then 0 else (I 297 (256 * i + 5)) - 1) else (I 297 1025) - 8) (show (256 * i + 16 : Nat) ≠ 256 * i + 5 by omega)) d11_accepts_90 rfl ?_
    refine V_iand (pc1 := 92) d11_accepts_91 rfl ?_
    refine V_if_eq (tgt := 96) (pc1 := 95) d11_accepts_92 (by decide) rfl (fun h4 => ?_) (fun h4 => ?_)
    · skip
      refine V_aload_n (pc1 := 97) 2 d11_accepts_96 rfl rfl ?_
      refine V_getr (pc1 := 100) ly296 (lt305 rfl) f11_7 (fun _ => rfl) rf296_0 d11_accepts_97 rfl ?_
      refine V_iload_n (pc1 := 101) 3 d11_accepts_100 rfl rfl ?_
      refine V_bipush (pc1 := 103) d11_accepts_101 vb_102 rfl ?_
      refine V_si (pc1 := 106) (w11_at2 g  i 102 (256 * i + 102) (by omega) (uI I 297 (256 * i + 5) (if I 297 (256 * i + 5) < I 297 1025 then (if I 297 (256 * i + 5) ≤ 0 then 0 else (I 297 (256 * i + 5)) - 1) else (I 297 1025) - 8)) L ) s11_at l11_35 rfl rfl ⟨Nat.le_of_ble_eq_true rfl, Nat.le_of_ble_eq_true rfl, Nat.le_refl _, Nat.le_refl _⟩ (Nat.le_of_ble_eq_true rfl) rfl d11_accepts_103 rfl ?_
      refine V_iald2 (pc1 := 107) (256 * i + 102) ly297 (lt305 rfl) rfl (by omega) (uI_ne I 297 (if I 297 (256 * i + 5) < I 297 1025 then (if I 297 (256 * i + 5) ≤ 0 then 0 else (I 297 (256 * i + 5)) - 1) else (I 297 1025) - 8) (show (256 * i + 102 : Nat) ≠ 256 * i + 5 by omega)) d11_accepts_106 rfl ?_
      refine V_istore (pc1 := 109) d11_accepts_107 (Nat.le_of_ble_eq_true rfl) rfl rfl ?_
      refine V_iload (pc1 := 111) 0 d11_accepts_109 rfl rfl ?_
      refine V_iconst (pc1 := 112) d11_accepts_111 vc_1 rfl ?_
      have key6 : ∀ (y125_0 : Int32), y125_0 = (if I 297 (256 * i + 102) = 1 then r11_answerFor i (r11_sampled i 1 11 (uI I 297 (256 * i + 5) (if I 297 (256 * i + 5) < I 297 1025 then (if I 297 (256 * i + 5) ≤ 0 then 0 else (I 297 (256 * i + 5)) - 1) else (I 297 1025) - 8)) L) (uI I 297 (256 * i + 5) (if I 297 (256 * i + 5) < I 297 1025 then (if I 297 (256 * i + 5) ≤ 0 then 0 else (I 297 (256 * i + 5)) - 1) else (I 297 1025) - 8)) L else (-1)) → ∀ (lv : List (Nat × Value)), lvsub [(4, .int (I 297 (256 * i + 102))), (3, .int (r11_sampled i 1 11 (uI I 297 (256 * i + 5) (if I 297 (256 * i + 5) < I 297 1025 then (if I 297 (256 * i + 5) ≤ 0 then 0 else (I 297 (256 * i + 5)) - 1) else (I 297 1025) - 8)) L)), (2, .int (I 297 (256 * i + 5))), (0, .ref (xA g 296)), (1, .int (nI i))] lv → V g (k11_accepts, 4, 0, 0) 0 0 125 lv [.int y125_0] (uI I 297 (256 * i + 5) (if I 297 (256 * i + 5) < I 297 1025 then (if I 297 (256 * i + 5) ≤ 0 then 0 else (I 297 (256 * i + 5)) - 1) else (I 297 1025) - 8), L, R0, 305) Q := by
        intro y125_0 ey125_0
        subst ey125_0
        intro lv hlv
        refine V_lv hlv ?_
        refine V_istore (pc1 := 127) d11_accepts_125 (Nat.le_of_ble_eq_true rfl) rfl rfl ?_
        refine V_iload (pc1 := 129) 0 d11_accepts_127 rfl rfl ?_
        refine V_if_lt (tgt := 172) (pc1 := 132) d11_accepts_129 (by decide) rfl (fun h7 => ?_) (fun h7 => ?_)
        · skip
          refine V_aload_n (pc1 := 173) 4 d11_accepts_172 rfl rfl ?_
          refine V_getr (pc1 := 176) ly296 (lt305 rfl) f11_7 (fun _ => rfl) rf296_0 d11_accepts_173 rfl ?_
          refine V_iload_n (pc1 := 177) 5 d11_accepts_176 rfl rfl ?_
          refine V_bipush (pc1 := 179) d11_accepts_177 vb_24 rfl ?_
          refine V_si (pc1 := 182) (w11_at2 g  i 24 (256 * i + 24) (by omega) (uI I 297 (256 * i + 5) (if I 297 (256 * i + 5) < I 297 1025 then (if I 297 (256 * i + 5) ≤ 0 then 0 else (I 297 (256 * i + 5)) - 1) else (I 297 1025) - 8)) L ) s11_at l11_35 rfl rfl ⟨Nat.le_of_ble_eq_true rfl, Nat.le_of_ble_eq_true rfl, Nat.le_refl _, Nat.le_refl _⟩ (Nat.le_of_ble_eq_true rfl) rfl d11_accepts_179 rfl ?_
          refine V_iald2 (pc1 := 183) (256 * i + 24) ly297 (lt305 rfl) rfl (by omega) ((uI_ne I 297 (if I 297 (256 * i + 5) < I 297 1025 then (if I 297 (256 * i + 5) ≤ 0 then 0 else (I 297 (256 * i + 5)) - 1) else (I 297 1025) - 8) (show (256 * i + 24 : Nat) ≠ 256 * i + 5 by omega)).trans hr) d11_accepts_182 rfl ?_
          refine V_istore (pc1 := 185) d11_accepts_183 (Nat.le_of_ble_eq_true rfl) rfl rfl ?_
          refine V_iload (pc1 := 187) 0 d11_accepts_185 rfl rfl ?_
          refine V_bipush (pc1 := 189) d11_accepts_187 vb_6 rfl ?_
          refine V_icmp_ne (tgt := 208) (pc1 := 192) d11_accepts_189 (by decide) rfl (fun h8 => ?_) (fun h8 => ?_)
          · skip
            have hr5 := r6_lt hr6 h8
            refine V_aload_n (pc1 := 209) 5 d11_accepts_208 rfl rfl ?_
            refine V_getr (pc1 := 212) ly296 (lt305 rfl) f11_7 (fun _ => rfl) rf296_0 d11_accepts_209 rfl ?_
            refine V_iload_n (pc1 := 213) 6 d11_accepts_212 rfl rfl ?_
            refine V_iload (pc1 := 215) 0 d11_accepts_213 rfl rfl ?_
            refine V_iconst (pc1 := 216) d11_accepts_215 vc_0 rfl ?_
            refine V_si (pc1 := 219) (w11_got2 g  i r 0 (256 * i + 4 * r + 50) (by omega) (uI I 297 (256 * i + 5) (if I 297 (256 * i + 5) < I 297 1025 then (if I 297 (256 * i + 5) ≤ 0 then 0 else (I 297 (256 * i + 5)) - 1) else (I 297 1025) - 8)) L ) s11_got l11_159 rfl rfl ⟨Nat.le_of_ble_eq_true rfl, Nat.le_of_ble_eq_true rfl, Nat.le_refl _, Nat.le_refl _⟩ (Nat.le_of_ble_eq_true rfl) rfl d11_accepts_216 rfl ?_
            refine V_iload_n (pc1 := 220) 3 d11_accepts_219 rfl rfl ?_
            refine V_iast (pc1 := 221) (256 * i + 4 * r + 50) ly297 (lt305 rfl) rfl (by omega) d11_accepts_220 rfl ?_
            refine V_aload_n (pc1 := 222) 5 d11_accepts_221 rfl rfl ?_
            refine V_getr (pc1 := 225) ly296 (lt305 rfl) f11_7 (fun _ => rfl) rf296_0 d11_accepts_222 rfl ?_
            refine V_iload_n (pc1 := 226) 6 d11_accepts_225 rfl rfl ?_
            refine V_iload (pc1 := 228) 0 d11_accepts_226 rfl rfl ?_
            refine V_iconst (pc1 := 229) d11_accepts_228 vc_1 rfl ?_
            refine V_si (pc1 := 232) (w11_got2 g  i r 1 (256 * i + 4 * r + 51) (by omega) (uI (uI I 297 (256 * i + 5) (if I 297 (256 * i + 5) < I 297 1025 then (if I 297 (256 * i + 5) ≤ 0 then 0 else (I 297 (256 * i + 5)) - 1) else (I 297 1025) - 8)) 297 (256 * i + 4 * r + 50) (r11_sampled i 1 11 (uI I 297 (256 * i + 5) (if I 297 (256 * i + 5) < I 297 1025 then (if I 297 (256 * i + 5) ≤ 0 then 0 else (I 297 (256 * i + 5)) - 1) else (I 297 1025) - 8)) L)) L ) s11_got l11_159 rfl rfl ⟨Nat.le_of_ble_eq_true rfl, Nat.le_of_ble_eq_true rfl, Nat.le_refl _, Nat.le_refl _⟩ (Nat.le_of_ble_eq_true rfl) rfl d11_accepts_229 rfl ?_
            refine V_iload (pc1 := 234) 2 d11_accepts_232 rfl rfl ?_
            refine V_iast (pc1 := 235) (256 * i + 4 * r + 51) ly297 (lt305 rfl) rfl (by omega) d11_accepts_234 rfl ?_
            refine V_aload_n (pc1 := 236) 5 d11_accepts_235 rfl rfl ?_
            refine V_getr (pc1 := 239) ly296 (lt305 rfl) f11_7 (fun _ => rfl) rf296_0 d11_accepts_236 rfl ?_
            refine V_iload_n (pc1 := 240) 6 d11_accepts_239 rfl rfl ?_
            refine V_iload (pc1 := 242) 0 d11_accepts_240 rfl rfl ?_
            refine V_iconst (pc1 := 243) d11_accepts_242 vc_2 rfl ?_
            refine V_si (pc1 := 246) (w11_got2 g  i r 2 (256 * i + 4 * r + 52) (by omega) (uI (uI (uI I 297 (256 * i + 5) (if I 297 (256 * i + 5) < I 297 1025 then (if I 297 (256 * i + 5) ≤ 0 then 0 else (I 297 (256 * i + 5)) - 1) else (I 297 1025) - 8)) 297 (256 * i + 4 * r + 50) (r11_sampled i 1 11 (uI I 297 (256 * i + 5) (if I 297 (256 * i + 5) < I 297 1025 then (if I 297 (256 * i + 5) ≤ 0 then 0 else (I 297 (256 * i + 5)) - 1) else (I 297 1025) - 8)) L)) 297 (256 * i + 4 * r + 51) (I 297 (256 * i + 102))) L ) s11_got l11_159 rfl rfl ⟨Nat.le_of_ble_eq_true rfl, Nat.le_of_ble_eq_true rfl, Nat.le_refl _, Nat.le_refl _⟩ (Nat.le_of_ble_eq_true rfl) rfl d11_accepts_243 rfl ?_
            refine V_aload_n (pc1 := 247) 5 d11_accepts_246 rfl rfl ?_
            refine V_iload_n (pc1 := 248) 6 d11_accepts_247 rfl rfl ?_
            refine V_vi (pc1 := 251) (w11_sampledLength g  i hi (uI (uI (uI I 297 (256 * i + 5) (if I 297 (256 * i + 5) < I 297 1025 then (if I 297 (256 * i + 5) ≤ 0 then 0 else (I 297 (256 * i + 5)) - 1) else (I 297 1025) - 8)) 297 (256 * i + 4 * r + 50) (r11_sampled i 1 11 (uI I 297 (256 * i + 5) (if I 297 (256 * i + 5) < I 297 1025 then (if I 297 (256 * i + 5) ≤ 0 then 0 else (I 297 (256 * i + 5)) - 1) else (I 297 1025) - 8)) L)) 297 (256 * i + 4 * r + 51) (I 297 (256 * i + 102))) L ) ly296 (lt305 rfl) s11_sampledLength l11_98 rfl rfl ⟨Nat.le_of_ble_eq_true rfl, Nat.le_of_ble_eq_true rfl, Nat.le_refl _, Nat.le_refl _⟩ (Nat.le_of_ble_eq_true rfl) rfl d11_accepts_248 rfl ?_
            refine V_iast (pc1 := 252) (256 * i + 4 * r + 52) ly297 (lt305 rfl) rfl (by omega) d11_accepts_251 rfl ?_
            refine V_aload_n (pc1 := 253) 5 d11_accepts_252 rfl rfl ?_
            refine V_getr (pc1 := 256) ly296 (lt305 rfl) f11_7 (fun _ => rfl) rf296_0 d11_accepts_253 rfl ?_
            refine V_iload_n (pc1 := 257) 6 d11_accepts_256 rfl rfl ?_
            refine V_iload (pc1 := 259) 0 d11_accepts_257 rfl rfl ?_
            refine V_iconst (pc1 := 260) d11_accepts_259 vc_3 rfl ?_
            refine V_si (pc1 := 263) (w11_got2 g  i r 3 (256 * i + 4 * r + 53) (by omega) (uI (uI (uI (uI I 297 (256 * i + 5) (if I 297 (256 * i + 5) < I 297 1025 then (if I 297 (256 * i + 5) ≤ 0 then 0 else (I 297 (256 * i + 5)) - 1) else (I 297 1025) - 8)) 297 (256 * i + 4 * r + 50) (r11_sampled i 1 11 (uI I 297 (256 * i + 5) (if I 297 (256 * i + 5) < I 297 1025 then (if I 297 (256 * i + 5) ≤ 0 then 0 else (I 297 (256 * i + 5)) - 1) else (I 297 1025) - 8)) L)) 297 (256 * i + 4 * r + 51) (I 297 (256 * i + 102))) 297 (256 * i + 4 * r + 52) (r11_sampledLength i (uI (uI (uI I 297 (256 * i + 5) (if I 297 (256 * i + 5) < I 297 1025 then (if I 297 (256 * i + 5) ≤ 0 then 0 else (I 297 (256 * i + 5)) - 1) else (I 297 1025) - 8)) 297 (256 * i + 4 * r + 50) (r11_sampled i 1 11 (uI I 297 (256 * i + 5) (if I 297 (256 * i + 5) < I 297 1025 then (if I 297 (256 * i + 5) ≤ 0 then 0 else (I 297 (256 * i + 5)) - 1) else (I 297 1025) - 8)) L)) 297 (256 * i + 4 * r + 51) (I 297 (256 * i + 102))) L)) L ) s11_got l11_159 rfl rfl ⟨Nat.le_of_ble_eq_true rfl, Nat.le_of_ble_eq_true rfl, Nat.le_refl _, Nat.le_refl _⟩ (Nat.le_of_ble_eq_true rfl) rfl d11_accepts_260 rfl ?_
            refine V_iload (pc1 := 265) 2 d11_accepts_263 rfl rfl ?_
            refine V_iconst (pc1 := 266) d11_accepts_265 vc_1 rfl ?_
            have key10 : ∀ (y288_0 : Int32), y288_0 = (if I 297 (256 * i + 102) = 1 then 0 else r11_sampled i 19 (8 * ln) (uI (uI (uI (uI I 297 (256 * i + 5) (if I 297 (256 * i + 5) < I 297 1025 then (if I 297 (256 * i + 5) ≤ 0 then 0 else (I 297 (256 * i + 5)) - 1) else (I 297 1025) - 8)) 297 (256 * i + 4 * r + 50) (r11_sampled i 1 11 (uI I 297 (256 * i + 5) (if I 297 (256 * i + 5) < I 297 1025 then (if I 297 (256 * i + 5) ≤ 0 then 0 else (I 297 (256 * i + 5)) - 1) else (I 297 1025) - 8)) L)) 297 (256 * i + 4 * r + 51) (I 297 (256 * i + 102))) 297 (256 * i + 4 * r + 52) (r11_sampledLength i (uI (uI (uI I 297 (256 * i + 5) (if I 297 (256 * i + 5) < I 297 1025 then (if I 297 (256 * i + 5) ≤ 0 then 0 else (I 297 (256 * i + 5)) - 1) else (I 297 1025) - 8)) 297 (256 * i + 4 * r + 50) (r11_sampled i 1 11 (uI I 297 (256 * i + 5) (if I 297 (256 * i + 5) < I 297 1025 then (if I 297 (256 * i + 5) ≤ 0 then 0 else (I 297 (256 * i + 5)) - 1) else (I 297 1025) - 8)) L)) 297 (256 * i + 4 * r + 51) (I 297 (256 * i + 102))) L)) L) → ∀ (lv : List (Nat × Value)), lvsub [(6, .int (nI r)), (5, .int (if I 297 (256 * i + 102) = 1 then r11_answerFor i (r11_sampled i 1 11 (uI I 297 (256 * i + 5) (if I 297 (256 * i + 5) < I 297 1025 then (if I 297 (256 * i + 5) ≤ 0 then 0 else (I 297 (256 * i + 5)) - 1) else (I 297 1025) - 8)) L) (uI I 297 (256 * i + 5) (if I 297 (256 * i + 5) < I 297 1025 then (if I 297 (256 * i + 5) ≤ 0 then 0 else (I 297 (256 * i + 5)) - 1) else (I 297 1025) - 8)) L else (-1))), (4, .int (I 297 (256 * i + 102))), (3, .int (r11_sampled i 1 11 (uI I 297 (256 * i + 5) (if I 297 (256 * i + 5) < I 297 1025 then (if I 297 (256 * i + 5) ≤ 0 then 0 else (I 297 (256 * i + 5)) - 1) else (I 297 1025) - 8)) L)), (2, .int (I 297 (256 * i + 5))), (0, .ref (xA g 296)), (1, .int (nI i))] lv → V g (k11_accepts, 4, 0, 0) 0 0 288 lv [.int y288_0, .int (nI (256 * i + 4 * r + 53)), .ref (xA g 297)] (uI (uI (uI (uI I 297 (256 * i + 5) (if I 297 (256 * i + 5) < I 297 1025 then (if I 297 (256 * i + 5) ≤ 0 then 0 else (I 297 (256 * i + 5)) - 1) else (I 297 1025) - 8)) 297 (256 * i + 4 * r + 50) (r11_sampled i 1 11 (uI I 297 (256 * i + 5) (if I 297 (256 * i + 5) < I 297 1025 then (if I 297 (256 * i + 5) ≤ 0 then 0 else (I 297 (256 * i + 5)) - 1) else (I 297 1025) - 8)) L)) 297 (256 * i + 4 * r + 51) (I 297 (256 * i + 102))) 297 (256 * i + 4 * r + 52) (r11_sampledLength i (uI (uI (uI I 297 (256 * i + 5) (if I 297 (256 * i + 5) < I 297 1025 then (if I 297 (256 * i + 5) ≤ 0 then 0 else (I 297 (256 * i + 5)) - 1) else (I 297 1025) - 8)) 297 (256 * i + 4 * r + 50) (r11_sampled i 1 11 (uI I 297 (256 * i + 5) (if I 297 (256 * i + 5) < I 297 1025 then (if I 297 (256 * i + 5) ≤ 0 then 0 else (I 297 (256 * i + 5)) - 1) else (I 297 1025) - 8)) L)) 297 (256 * i + 4 * r + 51) (I 297 (256 * i + 102))) L), L, R0, 305) Q := by
              intro y288_0 ey288_0
              subst ey288_0
              intro lv hlv
              refine V_lv hlv ?_
              refine V_iast (pc1 := 289) (256 * i + 4 * r + 53) ly297 (lt305 rfl) rfl (by omega) d11_accepts_288 rfl ?_
              refine V_aload_n (pc1 := 290) 5 d11_accepts_289 rfl rfl ?_
              refine V_getr (pc1 := 293) ly296 (lt305 rfl) f11_7 (fun _ => rfl) rf296_0 d11_accepts_290 rfl ?_
              refine V_iload_n (pc1 := 294) 6 d11_accepts_293 rfl rfl ?_
              refine V_bipush (pc1 := 296) d11_accepts_294 vb_24 rfl ?_
              refine V_si (pc1 := 299) (w11_at2 g  i 24 (256 * i + 24) (by omega) (uI (uI (uI (uI (uI I 297 (256 * i + 5) (if I 297 (256 * i + 5) < I 297 1025 then (if I 297 (256 * i + 5) ≤ 0 then 0 else (I 297 (256 * i + 5)) - 1) else (I 297 1025) - 8)) 297 (256 * i + 4 * r + 50) (r11_sampled i 1 11 (uI I 297 (256 * i + 5) (if I 297 (256 * i + 5) < I 297 1025 then (if I 297 (256 * i + 5) ≤ 0 then 0 else (I 297 (256 * i + 5)) - 1) else (I 297 1025) - 8)) L)) 297 (256 * i + 4 * r + 51) (I 297 (256 * i + 102))) 297 (256 * i + 4 * r + 52) (r11_sampledLength i (uI (uI (uI I 297 (256 * i + 5) (if I 297 (256 * i + 5) < I 297 1025 then (if I 297 (256 * i + 5) ≤ 0 then 0 else (I 297 (256 * i + 5)) - 1) else (I 297 1025) - 8)) 297 (256 * i + 4 * r + 50) (r11_sampled i 1 11 (uI I 297 (256 * i + 5) (if I 297 (256 * i + 5) < I 297 1025 then (if I 297 (256 * i + 5) ≤ 0 then 0 else (I 297 (256 * i + 5)) - 1) else (I 297 1025) - 8)) L)) 297 (256 * i + 4 * r + 51) (I 297 (256 * i + 102))) L)) 297 (256 * i + 4 * r + 53) (if I 297 (256 * i + 102) = 1 then 0 else r11_sampled i 19 (8 * ln) (uI (uI (uI (uI I 297 (256 * i + 5) (if I 297 (256 * i + 5) < I 297 1025 then (if I 297 (256 * i + 5) ≤ 0 then 0 else (I 297 (256 * i + 5)) - 1) else (I 297 1025) - 8)) 297 (256 * i + 4 * r + 50) (r11_sampled i 1 11 (uI I 297 (256 * i + 5) (if I 297 (256 * i + 5) < I 297 1025 then (if I 297 (256 * i + 5) ≤ 0 then 0 else (I 297 (256 * i + 5)) - 1) else (I 297 1025) - 8)) L)) 297 (256 * i + 4 * r + 51) (I 297 (256 * i + 102))) 297 (256 * i + 4 * r + 52) (r11_sampledLength i (uI (uI (uI I 297 (256 * i + 5) (if I 297 (256 * i + 5) < I 297 1025 then (if I 297 (256 * i + 5) ≤ 0 then 0 else (I 297 (256 * i + 5)) - 1) else (I 297 1025) - 8)) 297 (256 * i + 4 * r + 50) (r11_sampled i 1 11 (uI I 297 (256 * i + 5) (if I 297 (256 * i + 5) < I 297 1025 then (if I 297 (256 * i + 5) ≤ 0 then 0 else (I 297 (256 * i + 5)) - 1) else (I 297 1025) - 8)) L)) 297 (256 * i + 4 * r + 51) (I 297 (256 * i + 102))) L)) L)) L ) s11_at l11_35 rfl rfl ⟨Nat.le_of_ble_eq_true rfl, Nat.le_of_ble_eq_true rfl, Nat.le_refl _, Nat.le_refl _⟩ (Nat.le_of_ble_eq_true rfl) rfl d11_accepts_296 rfl ?_
              refine V_dup2 (pc1 := 300) d11_accepts_299 rfl rfl rfl ?_
              refine V_iald2 (pc1 := 301) (256 * i + 24) ly297 (lt305 rfl) rfl (by omega) ((uI_ne (uI (uI (uI (uI I 297 (256 * i + 5) (if I 297 (256 * i + 5) < I 297 1025 then (if I 297 (256 * i + 5) ≤ 0 then 0 else (I 297 (256 * i + 5)) - 1) else (I 297 1025) - 8)) 297 (256 * i + 4 * r + 50) (r11_sampled i 1 11 (uI I 297 (256 * i + 5) (if I 297 (256 * i + 5) < I 297 1025 then (if I 297 (256 * i + 5) ≤ 0 then 0 else (I 297 (256 * i + 5)) - 1) else (I 297 1025) - 8)) L)) 297 (256 * i + 4 * r + 51) (I 297 (256 * i + 102))) 297 (256 * i + 4 * r + 52) (r11_sampledLength i (uI (uI (uI I 297 (256 * i + 5) (if I 297 (256 * i + 5) < I 297 1025 then (if I 297 (256 * i + 5) ≤ 0 then 0 else (I 297 (256 * i + 5)) - 1) else (I 297 1025) - 8)) 297 (256 * i + 4 * r + 50) (r11_sampled i 1 11 (uI I 297 (256 * i + 5) (if I 297 (256 * i + 5) < I 297 1025 then (if I 297 (256 * i + 5) ≤ 0 then 0 else (I 297 (256 * i + 5)) - 1) else (I 297 1025) - 8)) L)) 297 (256 * i + 4 * r + 51) (I 297 (256 * i + 102))) L)) 297 (if I 297 (256 * i + 102) = 1 then 0 else r11_sampled i 19 (8 * ln) (uI (uI (uI (uI I 297 (256 * i + 5) (if I 297 (256 * i + 5) < I 297 1025 then (if I 297 (256 * i + 5) ≤ 0 then 0 else (I 297 (256 * i + 5)) - 1) else (I 297 1025) - 8)) 297 (256 * i + 4 * r + 50) (r11_sampled i 1 11 (uI I 297 (256 * i + 5) (if I 297 (256 * i + 5) < I 297 1025 then (if I 297 (256 * i + 5) ≤ 0 then 0 else (I 297 (256 * i + 5)) - 1) else (I 297 1025) - 8)) L)) 297 (256 * i + 4 * r + 51) (I 297 (256 * i + 102))) 297 (256 * i + 4 * r + 52) (r11_sampledLength i (uI (uI (uI I 297 (256 * i + 5) (if I 297 (256 * i + 5) < I 297 1025 then (if I 297 (256 * i + 5) ≤ 0 then 0 else (I 297 (256 * i + 5)) - 1) else (I 297 1025) - 8)) 297 (256 * i + 4 * r + 50) (r11_sampled i 1 11 (uI I 297 (256 * i + 5) (if I 297 (256 * i + 5) < I 297 1025 then (if I 297 (256 * i + 5) ≤ 0 then 0 else (I 297 (256 * i + 5)) - 1) else (I 297 1025) - 8)) L)) 297 (256 * i + 4 * r + 51) (I 297 (256 * i + 102))) L)) L) (show (256 * i + 24 : Nat) ≠ 256 * i + 4 * r + 53 by omega)).trans ((uI_ne (uI (uI (uI I 297 (256 * i + 5) (if I 297 (256 * i + 5) < I 297 1025 then (if I 297 (256 * i + 5) ≤ 0 then 0 else (I 297 (256 * i + 5)) - 1) else (I 297 1025) - 8)) 297 (256 * i + 4 * r + 50) (r11_sampled i 1 11 (uI I 297 (256 * i + 5) (if I 297 (256 * i + 5) < I 297 1025 then (if I 297 (256 * i + 5) ≤ 0 then 0 else (I 297 (256 * i + 5)) - 1) else (I 297 1025) - 8)) L)) 297 (256 * i + 4 * r + 51) (I 297 (256 * i + 102))) 297 (r11_sampledLength i (uI (uI (uI I 297 (256 * i + 5) (if I 297 (256 * i + 5) < I 297 1025 then (if I 297 (256 * i + 5) ≤ 0 then 0 else (I 297 (256 * i + 5)) - 1) else (I 297 1025) - 8)) 297 (256 * i + 4 * r + 50) (r11_sampled i 1 11 (uI I 297 (256 * i + 5) (if I 297 (256 * i + 5) < I 297 1025 then (if I 297 (256 * i + 5) ≤ 0 then 0 else (I 297 (256 * i + 5)) - 1) else (I 297 1025) - 8)) L)) 297 (256 * i + 4 * r + 51) (I 297 (256 * i + 102))) L) (show (256 * i + 24 : Nat) ≠ 256 * i + 4 * r + 52 by omega)).trans ((uI_ne (uI (uI I 297 (256 * i + 5) (if I 297 (256 * i + 5) < I 297 1025 then (if I 297 (256 * i + 5) ≤ 0 then 0 else (I 297 (256 * i + 5)) - 1) else (I 297 1025) - 8)) 297 (256 * i + 4 * r + 50) (r11_sampled i 1 11 (uI I 297 (256 * i + 5) (if I 297 (256 * i + 5) < I 297 1025 then (if I 297 (256 * i + 5) ≤ 0 then 0 else (I 297 (256 * i + 5)) - 1) else (I 297 1025) - 8)) L)) 297 (I 297 (256 * i + 102)) (show (256 * i + 24 : Nat) ≠ 256 * i + 4 * r + 51 by omega)).trans ((uI_ne (uI I 297 (256 * i + 5) (if I 297 (256 * i + 5) < I 297 1025 then (if I 297 (256 * i + 5) ≤ 0 then 0 else (I 297 (256 * i + 5)) - 1) else (I 297 1025) - 8)) 297 (r11_sampled i 1 11 (uI I 297 (256 * i + 5) (if I 297 (256 * i + 5) < I 297 1025 then (if I 297 (256 * i + 5) ≤ 0 then 0 else (I 297 (256 * i + 5)) - 1) else (I 297 1025) - 8)) L) (show (256 * i + 24 : Nat) ≠ 256 * i + 4 * r + 50 by omega)).trans (uI_ne I 297 (if I 297 (256 * i + 5) < I 297 1025 then (if I 297 (256 * i + 5) ≤ 0 then 0 else (I 297 (256 * i + 5)) - 1) else (I 297 1025) - 8) (show (256 * i + 24 : Nat) ≠ 256 * i + 5 by omega)))))) d11_accepts_300 rfl ?_
              refine V_iconst (pc1 := 302) d11_accepts_301 vc_1 rfl ?_
              refine V_iadd (pc1 := 303) d11_accepts_302 rfl ?_
              refine V_iast (pc1 := 304) (256 * i + 24) ly297 (lt305 rfl) rfl (by omega) d11_accepts_303 rfl ?_
              refine V_vret rfl d11_accepts_304 (Nat.zero_le _) (Nat.zero_le _) ?_
              have hq2 := hq
              simp only [i11_accepts, hr3, hln3, if_pos h4, if_pos h7, if_neg h8] at hq2
              exact hq2
            refine V_icmp_ne (tgt := 273) (pc1 := 269) d11_accepts_266 (by decide) rfl (fun h9 => ?_) (fun h9 => ?_)
            · skip
              refine V_aload_n (pc1 := 274) 5 d11_accepts_273 rfl rfl ?_
              refine V_iload_n (pc1 := 275) 6 d11_accepts_274 rfl rfl ?_
              refine V_bipush (pc1 := 277) d11_accepts_275 vb_19 rfl ?_
              refine V_bipush (pc1 := 279) d11_accepts_277 vb_8 rfl ?_
              refine V_aload_n (pc1 := 280) 5 d11_accepts_279 rfl rfl ?_
              refine V_iload_n (pc1 := 281) 6 d11_accepts_280 rfl rfl ?_
              refine V_vi (pc1 := 284) (w11_sampledLength g  i hi (uI (uI (uI (uI I 297 (256 * i + 5) (if I 297 (256 * i + 5) < I 297 1025 then (if I 297 (256 * i + 5) ≤ 0 then 0 else (I 297 (256 * i + 5)) - 1) else (I 297 1025) - 8)) 297 (256 * i + 4 * r + 50) (r11_sampled i 1 11 (uI I 297 (256 * i + 5) (if I 297 (256 * i + 5) < I 297 1025 then (if I 297 (256 * i + 5) ≤ 0 then 0 else (I 297 (256 * i + 5)) - 1) else (I 297 1025) - 8)) L)) 297 (256 * i + 4 * r + 51) (I 297 (256 * i + 102))) 297 (256 * i + 4 * r + 52) (r11_sampledLength i (uI (uI (uI I 297 (256 * i + 5) (if I 297 (256 * i + 5) < I 297 1025 then (if I 297 (256 * i + 5) ≤ 0 then 0 else (I 297 (256 * i + 5)) - 1) else (I 297 1025) - 8)) 297 (256 * i + 4 * r + 50) (r11_sampled i 1 11 (uI I 297 (256 * i + 5) (if I 297 (256 * i + 5) < I 297 1025 then (if I 297 (256 * i + 5) ≤ 0 then 0 else (I 297 (256 * i + 5)) - 1) else (I 297 1025) - 8)) L)) 297 (256 * i + 4 * r + 51) (I 297 (256 * i + 102))) L)) L ) ly296 (lt305 rfl) s11_sampledLength l11_98 rfl rfl ⟨Nat.le_of_ble_eq_true rfl, Nat.le_of_ble_eq_true rfl, Nat.le_refl _, Nat.le_refl _⟩ (Nat.le_of_ble_eq_true rfl) rfl d11_accepts_281 rfl ?_
              rw [show r11_sampledLength i (uI (uI (uI (uI I 297 (256 * i + 5) (if I 297 (256 * i + 5) < I 297 1025 then (if I 297 (256 * i + 5) ≤ 0 then 0 else (I 297 (256 * i + 5)) - 1) else (I 297 1025) - 8)) 297 (256 * i + 4 * r + 50) (r11_sampled i 1 11 (uI I 297 (256 * i + 5) (if I 297 (256 * i + 5) < I 297 1025 then (if I 297 (256 * i + 5) ≤ 0 then 0 else (I 297 (256 * i + 5)) - 1) else (I 297 1025) - 8)) L)) 297 (256 * i + 4 * r + 51) (I 297 (256 * i + 102))) 297 (256 * i + 4 * r + 52) (r11_sampledLength i (uI (uI (uI I 297 (256 * i + 5) (if I 297 (256 * i + 5) < I 297 1025 then (if I 297 (256 * i + 5) ≤ 0 then 0 else (I 297 (256 * i + 5)) - 1) else (I 297 1025) - 8)) 297 (256 * i + 4 * r + 50) (r11_sampled i 1 11 (uI I 297 (256 * i + 5) (if I 297 (256 * i + 5) < I 297 1025 then (if I 297 (256 * i + 5) ≤ 0 then 0 else (I 297 (256 * i + 5)) - 1) else (I 297 1025) - 8)) L)) 297 (256 * i + 4 * r + 51) (I 297 (256 * i + 102))) L)) L = nI ln from (slen_congr (fun t ht => ((uI_ne (uI (uI (uI I 297 (256 * i + 5) (if I 297 (256 * i + 5) < I 297 1025 then (if I 297 (256 * i + 5) ≤ 0 then 0 else (I 297 (256 * i + 5)) - 1) else (I 297 1025) - 8)) 297 (256 * i + 4 * r + 50) (r11_sampled i 1 11 (uI I 297 (256 * i + 5) (if I 297 (256 * i + 5) < I 297 1025 then (if I 297 (256 * i + 5) ≤ 0 then 0 else (I 297 (256 * i + 5)) - 1) else (I 297 1025) - 8)) L)) 297 (256 * i + 4 * r + 51) (I 297 (256 * i + 102))) 297 (r11_sampledLength i (uI (uI (uI I 297 (256 * i + 5) (if I 297 (256 * i + 5) < I 297 1025 then (if I 297 (256 * i + 5) ≤ 0 then 0 else (I 297 (256 * i + 5)) - 1) else (I 297 1025) - 8)) 297 (256 * i + 4 * r + 50) (r11_sampled i 1 11 (uI I 297 (256 * i + 5) (if I 297 (256 * i + 5) < I 297 1025 then (if I 297 (256 * i + 5) ≤ 0 then 0 else (I 297 (256 * i + 5)) - 1) else (I 297 1025) - 8)) L)) 297 (256 * i + 4 * r + 51) (I 297 (256 * i + 102))) L) (show (256 * i + t + 90 : Nat) ≠ 256 * i + 4 * r + 52 by omega)).trans ((uI_ne (uI (uI I 297 (256 * i + 5) (if I 297 (256 * i + 5) < I 297 1025 then (if I 297 (256 * i + 5) ≤ 0 then 0 else (I 297 (256 * i + 5)) - 1) else (I 297 1025) - 8)) 297 (256 * i + 4 * r + 50) (r11_sampled i 1 11 (uI I 297 (256 * i + 5) (if I 297 (256 * i + 5) < I 297 1025 then (if I 297 (256 * i + 5) ≤ 0 then 0 else (I 297 (256 * i + 5)) - 1) else (I 297 1025) - 8)) L)) 297 (I 297 (256 * i + 102)) (show (256 * i + t + 90 : Nat) ≠ 256 * i + 4 * r + 51 by omega)).trans ((uI_ne (uI I 297 (256 * i + 5) (if I 297 (256 * i + 5) < I 297 1025 then (if I 297 (256 * i + 5) ≤ 0 then 0 else (I 297 (256 * i + 5)) - 1) else (I 297 1025) - 8)) 297 (r11_sampled i 1 11 (uI I 297 (256 * i + 5) (if I 297 (256 * i + 5) < I 297 1025 then (if I 297 (256 * i + 5) ≤ 0 then 0 else (I 297 (256 * i + 5)) - 1) else (I 297 1025) - 8)) L) (show (256 * i + t + 90 : Nat) ≠ 256 * i + 4 * r + 50 by omega)).trans (uI_ne I 297 (if I 297 (256 * i + 5) < I 297 1025 then (if I 297 (256 * i + 5) ≤ 0 then 0 else (I 297 (256 * i + 5)) - 1) else (I 297 1025) - 8) (show (256 * i + t + 90 : Nat) ≠ 256 * i + 5 by omega))))))).trans hln]
              refine V_mulN (pc1 := 285) (a := 8) (b := ln) (c := 8 * ln) rfl rfl (by omega) d11_accepts_284 rfl ?_
              refine V_vi (pc1 := 288) (w11_sampled g  i 19 (8 * ln) hi (by omega) (uI (uI (uI (uI I 297 (256 * i + 5) (if I 297 (256 * i + 5) < I 297 1025 then (if I 297 (256 * i + 5) ≤ 0 then 0 else (I 297 (256 * i + 5)) - 1) else (I 297 1025) - 8)) 297 (256 * i + 4 * r + 50) (r11_sampled i 1 11 (uI I 297 (256 * i + 5) (if I 297 (256 * i + 5) < I 297 1025 then (if I 297 (256 * i + 5) ≤ 0 then 0 else (I 297 (256 * i + 5)) - 1) else (I 297 1025) - 8)) L)) 297 (256 * i + 4 * r + 51) (I 297 (256 * i + 102))) 297 (256 * i + 4 * r + 52) (r11_sampledLength i (uI (uI (uI I 297 (256 * i + 5) (if I 297 (256 * i + 5) < I 297 1025 then (if I 297 (256 * i + 5) ≤ 0 then 0 else (I 297 (256 * i + 5)) - 1) else (I 297 1025) - 8)) 297 (256 * i + 4 * r + 50) (r11_sampled i 1 11 (uI I 297 (256 * i + 5) (if I 297 (256 * i + 5) < I 297 1025 then (if I 297 (256 * i + 5) ≤ 0 then 0 else (I 297 (256 * i + 5)) - 1) else (I 297 1025) - 8)) L)) 297 (256 * i + 4 * r + 51) (I 297 (256 * i + 102))) L)) L ) ly296 (lt305 rfl) s11_sampled l11_101 rfl rfl ⟨Nat.le_of_ble_eq_true rfl, Nat.le_of_ble_eq_true rfl, Nat.le_refl _, Nat.le_refl _⟩ (Nat.le_of_ble_eq_true rfl) rfl d11_accepts_285 rfl ?_
              exact key10 _ (by first | rfl | (simp only [hr3, hln3, if_neg h9]; done) | (simp only [hr3, hln3, if_neg h9]; rfl)) _ (lvsub_p [0, 1, 2, 3, 4, 5, 6] rfl)
            · skip
              refine V_iconst (pc1 := 270) d11_accepts_269 vc_0 rfl ?_
              refine V_goto (tgt := 288) d11_accepts_270 (by decide) ?_
              exact key10 _ (by first | rfl | (simp only [hr3, hln3, if_pos h9]; done) | (simp only [hr3, hln3, if_pos h9]; rfl)) _ (lvsub_p [0, 1, 2, 3, 4, 5, 6] rfl)
          · skip
            refine V_aload_n (pc1 := 193) 5 d11_accepts_192 rfl rfl ?_
            refine V_getr (pc1 := 196) ly296 (lt305 rfl) f11_7 (fun _ => rfl) rf296_0 d11_accepts_193 rfl ?_
            refine V_iload_n (pc1 := 197) 6 d11_accepts_196 rfl rfl ?_
            refine V_bipush (pc1 := 199) d11_accepts_197 vb_15 rfl ?_
            refine V_si (pc1 := 202) (w11_at2 g  i 15 (256 * i + 15) (by omega) (uI I 297 (256 * i + 5) (if I 297 (256 * i + 5) < I 297 1025 then (if I 297 (256 * i + 5) ≤ 0 then 0 else (I 297 (256 * i + 5)) - 1) else (I 297 1025) - 8)) L ) s11_at l11_35 rfl rfl ⟨Nat.le_of_ble_eq_true rfl, Nat.le_of_ble_eq_true rfl, Nat.le_refl _, Nat.le_refl _⟩ (Nat.le_of_ble_eq_true rfl) rfl d11_accepts_199 rfl ?_
            refine V_dup2 (pc1 := 203) d11_accepts_202 rfl rfl rfl ?_
            refine V_iald2 (pc1 := 204) (256 * i + 15) ly297 (lt305 rfl) rfl (by omega) (uI_ne I 297 (if I 297 (256 * i + 5) < I 297 1025 then (if I 297 (256 * i + 5) ≤ 0 then 0 else (I 297 (256 * i + 5)) - 1) else (I 297 1025) - 8) (show (256 * i + 15 : Nat) ≠ 256 * i + 5 by omega)) d11_accepts_203 rfl ?_
            refine V_iconst (pc1 := 205) d11_accepts_204 vc_1 rfl ?_
            refine V_iadd (pc1 := 206) d11_accepts_205 rfl ?_
            refine V_iast (pc1 := 207) (256 * i + 15) ly297 (lt305 rfl) rfl (by omega) d11_accepts_206 rfl ?_
            refine V_vret rfl d11_accepts_207 (Nat.zero_le _) (Nat.zero_le _) ?_
            have hq2 := hq
            simp only [i11_accepts, hr3, hln3, if_pos h4, if_pos h7, if_pos h8] at hq2
            exact hq2
        · skip
          obtain ⟨p, hp, hpe⟩ := af_c ((uI_ne I 297 (if I 297 (256 * i + 5) < I 297 1025 then (if I 297 (256 * i + 5) ≤ 0 then 0 else (I 297 (256 * i + 5)) - 1) else (I 297 1025) - 8) (show (256 * i + 25 : Nat) ≠ 256 * i + 5 by omega)).trans hq0) hq4 h7
          have hp3 : ((if I 297 (256 * i + 102) = 1 then r11_answerFor i (r11_sampled i 1 11 (uI I 297 (256 * i + 5) (if I 297 (256 * i + 5) < I 297 1025 then (if I 297 (256 * i + 5) ≤ 0 then 0 else (I 297 (256 * i + 5)) - 1) else (I 297 1025) - 8)) L) (uI I 297 (256 * i + 5) (if I 297 (256 * i + 5) < I 297 1025 then (if I 297 (256 * i + 5) ≤ 0 then 0 else (I 297 (256 * i + 5)) - 1) else (I 297 1025) - 8)) L else (-1))).toNatClampNeg = p := by rw [hpe]; exact nI_clamp (by omega)
          rw [hpe]
          refine V_aload_n (pc1 := 133) 4 d11_accepts_132 rfl rfl ?_
          refine V_iload_n (pc1 := 134) 5 d11_accepts_133 rfl rfl ?_
          refine V_vi (pc1 := 137) (w11_isRoom g  i hi (uI I 297 (256 * i + 5) (if I 297 (256 * i + 5) < I 297 1025 then (if I 297 (256 * i + 5) ≤ 0 then 0 else (I 297 (256 * i + 5)) - 1) else (I 297 1025) - 8)) L ) ly296 (lt305 rfl) s11_isRoom l11_88 rfl rfl ⟨Nat.le_of_ble_eq_true rfl, Nat.le_of_ble_eq_true rfl, Nat.le_refl _, Nat.le_refl _⟩ (Nat.le_of_ble_eq_true rfl) rfl d11_accepts_134 rfl ?_
          have key12 : ∀ (zI171 : Nat → Nat → Int32), zI171 = (if (r11_isRoom i (uI I 297 (256 * i + 5) (if I 297 (256 * i + 5) < I 297 1025 then (if I 297 (256 * i + 5) ≤ 0 then 0 else (I 297 (256 * i + 5)) - 1) else (I 297 1025) - 8)) L) = true then i11_waits i (r11_sampled i 1 11 (uI I 297 (256 * i + 5) (if I 297 (256 * i + 5) < I 297 1025 then (if I 297 (256 * i + 5) ≤ 0 then 0 else (I 297 (256 * i + 5)) - 1) else (I 297 1025) - 8)) L) 0 (I 297 (256 * i + 3 * p + 75)) (I 297 (256 * i + 3 * p + 76)) (uI I 297 (256 * i + 5) (if I 297 (256 * i + 5) < I 297 1025 then (if I 297 (256 * i + 5) ≤ 0 then 0 else (I 297 (256 * i + 5)) - 1) else (I 297 1025) - 8)) L else uI I 297 (256 * i + 5) (if I 297 (256 * i + 5) < I 297 1025 then (if I 297 (256 * i + 5) ≤ 0 then 0 else (I 297 (256 * i + 5)) - 1) else (I 297 1025) - 8)) → ∀ (lv : List (Nat × Value)), lvsub [(5, .int (nI p)), (4, .int (I 297 (256 * i + 102))), (3, .int (r11_sampled i 1 11 (uI I 297 (256 * i + 5) (if I 297 (256 * i + 5) < I 297 1025 then (if I 297 (256 * i + 5) ≤ 0 then 0 else (I 297 (256 * i + 5)) - 1) else (I 297 1025) - 8)) L)), (2, .int (I 297 (256 * i + 5))), (0, .ref (xA g 296)), (1, .int (nI i))] lv → V g (k11_accepts, 4, 0, 0) 0 0 171 lv [] (zI171, L, R0, 305) Q := by
            intro zI171 ezI171
            subst ezI171
            intro lv hlv
            refine V_lv hlv ?_
            refine V_vret rfl d11_accepts_171 (Nat.zero_le _) (Nat.zero_le _) ?_
            have hq2 := hq
            simp only [i11_accepts, hr3, hln3, if_pos h4, if_neg h7, hp3] at hq2
            exact hq2
          refine V_beq (tgt := 171) (pc1 := 140) d11_accepts_137 (by decide) rfl (fun h11 => ?_) (fun h11 => ?_)
          · skip
            exact key12 _ (by first | rfl | (simp only [hr3, hln3, hp3, if_neg h11]; done) | (simp only [hr3, hln3, hp3, if_neg h11]; rfl)) _ (lvsub_p [0, 1, 2, 3, 4, 5] rfl)
          · skip
            refine V_aload_n (pc1 := 141) 4 d11_accepts_140 rfl rfl ?_
            refine V_iload_n (pc1 := 142) 5 d11_accepts_141 rfl rfl ?_
            refine V_iload_n (pc1 := 143) 2 d11_accepts_142 rfl rfl ?_
            refine V_iconst (pc1 := 144) d11_accepts_143 vc_0 rfl ?_
            refine V_aload_n (pc1 := 145) 4 d11_accepts_144 rfl rfl ?_
            refine V_getr (pc1 := 148) ly296 (lt305 rfl) f11_7 (fun _ => rfl) rf296_0 d11_accepts_145 rfl ?_
            refine V_iload_n (pc1 := 149) 5 d11_accepts_148 rfl rfl ?_
            refine V_iload (pc1 := 151) 0 d11_accepts_149 rfl rfl ?_
            refine V_iconst (pc1 := 152) d11_accepts_151 vc_1 rfl ?_
            refine V_si (pc1 := 155) (w11_answer2 g  i p 1 (256 * i + 3 * p + 75) (by omega) (uI I 297 (256 * i + 5) (if I 297 (256 * i + 5) < I 297 1025 then (if I 297 (256 * i + 5) ≤ 0 then 0 else (I 297 (256 * i + 5)) - 1) else (I 297 1025) - 8)) L ) s11_answer l11_70 rfl rfl ⟨Nat.le_of_ble_eq_true rfl, Nat.le_of_ble_eq_true rfl, Nat.le_refl _, Nat.le_refl _⟩ (Nat.le_of_ble_eq_true rfl) rfl d11_accepts_152 rfl ?_
            refine V_iald2 (pc1 := 156) (256 * i + 3 * p + 75) ly297 (lt305 rfl) rfl (by omega) (uI_ne I 297 (if I 297 (256 * i + 5) < I 297 1025 then (if I 297 (256 * i + 5) ≤ 0 then 0 else (I 297 (256 * i + 5)) - 1) else (I 297 1025) - 8) (show (256 * i + 3 * p + 75 : Nat) ≠ 256 * i + 5 by omega)) d11_accepts_155 rfl ?_
            refine V_aload_n (pc1 := 157) 4 d11_accepts_156 rfl rfl ?_
            refine V_getr (pc1 := 160) ly296 (lt305 rfl) f11_7 (fun _ => rfl) rf296_0 d11_accepts_157 rfl ?_
            refine V_iload_n (pc1 := 161) 5 d11_accepts_160 rfl rfl ?_
            refine V_iload (pc1 := 163) 0 d11_accepts_161 rfl rfl ?_
            refine V_iconst (pc1 := 164) d11_accepts_163 vc_2 rfl ?_
            refine V_si (pc1 := 167) (w11_answer2 g  i p 2 (256 * i + 3 * p + 76) (by omega) (uI I 297 (256 * i + 5) (if I 297 (256 * i + 5) < I 297 1025 then (if I 297 (256 * i + 5) ≤ 0 then 0 else (I 297 (256 * i + 5)) - 1) else (I 297 1025) - 8)) L ) s11_answer l11_70 rfl rfl ⟨Nat.le_of_ble_eq_true rfl, Nat.le_of_ble_eq_true rfl, Nat.le_refl _, Nat.le_refl _⟩ (Nat.le_of_ble_eq_true rfl) rfl d11_accepts_164 rfl ?_
            refine V_iald2 (pc1 := 168) (256 * i + 3 * p + 76) ly297 (lt305 rfl) rfl (by omega) (uI_ne I 297 (if I 297 (256 * i + 5) < I 297 1025 then (if I 297 (256 * i + 5) ≤ 0 then 0 else (I 297 (256 * i + 5)) - 1) else (I 297 1025) - 8) (show (256 * i + 3 * p + 76 : Nat) ≠ 256 * i + 5 by omega)) d11_accepts_167 rfl ?_
            refine V_vv (pc1 := 171) (w11_waits g  i (r11_sampled i 1 11 (uI I 297 (256 * i + 5) (if I 297 (256 * i + 5) < I 297 1025 then (if I 297 (256 * i + 5) ≤ 0 then 0 else (I 297 (256 * i + 5)) - 1) else (I 297 1025) - 8)) L) 0 (I 297 (256 * i + 3 * p + 75)) (I 297 (256 * i + 3 * p + 76)) hi w (room_lt ((uI_ne I 297 (if I 297 (256 * i + 5) < I 297 1025 then (if I 297 (256 * i + 5) ≤ 0 then 0 else (I 297 (256 * i + 5)) - 1) else (I 297 1025) - 8) (show (256 * i + 23 : Nat) ≠ 256 * i + 5 by omega)).trans hw) hw4 h11) (uI I 297 (256 * i + 5) (if I 297 (256 * i + 5) < I 297 1025 then (if I 297 (256 * i + 5) ≤ 0 then 0 else (I 297 (256 * i + 5)) - 1) else (I 297 1025) - 8)) L ((uI_ne I 297 (if I 297 (256 * i + 5) < I 297 1025 then (if I 297 (256 * i + 5) ≤ 0 then 0 else (I 297 (256 * i + 5)) - 1) else (I 297 1025) - 8) (show (256 * i + 23 : Nat) ≠ 256 * i + 5 by omega)).trans hw)) ly296 (lt305 rfl) s11_waits l11_91 rfl rfl ⟨Nat.le_of_ble_eq_true rfl, Nat.le_of_ble_eq_true rfl, Nat.le_refl _, Nat.le_refl _⟩ (Nat.le_of_ble_eq_true rfl) rfl d11_accepts_168 rfl ?_
            exact key12 _ (by first | rfl | (simp only [hr3, hln3, hp3, if_pos h11]; done) | (simp only [hr3, hln3, hp3, if_pos h11]; rfl)) _ (lvsub_p [0, 1, 2, 3, 4, 5] rfl)
      refine V_icmp_ne (tgt := 124) (pc1 := 115) d11_accepts_112 (by decide) rfl (fun h5 => ?_) (fun h5 => ?_)
      · skip
        refine V_iconst (pc1 := 125) d11_accepts_124 vc_m1 rfl ?_
        exact key6 _ (by first | rfl | (simp only [hr3, hln3, if_neg h5]; done) | (simp only [hr3, hln3, if_neg h5]; rfl)) _ (lvsub_p [0, 1, 2, 3, 4] rfl)
      · skip
        refine V_aload_n (pc1 := 116) 3 d11_accepts_115 rfl rfl ?_
        refine V_iload_n (pc1 := 117) 4 d11_accepts_116 rfl rfl ?_
        refine V_iload_n (pc1 := 118) 1 d11_accepts_117 rfl rfl ?_
        refine V_vi (pc1 := 121) (w11_answerFor g  i (r11_sampled i 1 11 (uI I 297 (256 * i + 5) (if I 297 (256 * i + 5) < I 297 1025 then (if I 297 (256 * i + 5) ≤ 0 then 0 else (I 297 (256 * i + 5)) - 1) else (I 297 1025) - 8)) L) hi q hq4 (uI I 297 (256 * i + 5) (if I 297 (256 * i + 5) < I 297 1025 then (if I 297 (256 * i + 5) ≤ 0 then 0 else (I 297 (256 * i + 5)) - 1) else (I 297 1025) - 8)) L ((uI_ne I 297 (if I 297 (256 * i + 5) < I 297 1025 then (if I 297 (256 * i + 5) ≤ 0 then 0 else (I 297 (256 * i + 5)) - 1) else (I 297 1025) - 8) (show (256 * i + 25 : Nat) ≠ 256 * i + 5 by omega)).trans hq0)) ly296 (lt305 rfl) s11_answerFor l11_74 rfl rfl ⟨Nat.le_of_ble_eq_true rfl, Nat.le_of_ble_eq_true rfl, Nat.le_refl _, Nat.le_refl _⟩ (Nat.le_of_ble_eq_true rfl) rfl d11_accepts_118 rfl ?_
        refine V_goto (tgt := 125) d11_accepts_121 (by decide) ?_
        exact key6 _ (by first | rfl | (simp only [hr3, hln3, if_pos h5]; done) | (simp only [hr3, hln3, if_pos h5]; rfl)) _ (lvsub_p [0, 1, 2, 3, 4] rfl)
    · skip
      refine V_vret rfl d11_accepts_95 (Nat.zero_le _) (Nat.zero_le _) ?_
      have hq2 := hq
      simp only [i11_accepts, hr3, hln3, if_neg h4] at hq2
      exact hq2
  refine V_icmp_lt (tgt := 46) (pc1 := 32) d11_accepts_29 (by decide) rfl (fun h1 => ?_) (fun h1 => ?_)
  · skip
    refine V_iload_n (pc1 := 47) 0 d11_accepts_46 rfl rfl ?_
    refine V_if_le (tgt := 56) (pc1 := 50) d11_accepts_47 (by decide) rfl (fun h2 => ?_) (fun h2 => ?_)
    · skip
      refine V_iconst (pc1 := 57) d11_accepts_56 vc_0 rfl ?_
      exact key3 _ (by first | rfl | (simp only [hr3, hln3, if_pos h1, if_pos h2]; done) | (simp only [hr3, hln3, if_pos h1, if_pos h2]; rfl)) _ (lvsub_p [0, 1, 2] rfl)
    · skip
      refine V_iload_n (pc1 := 51) 0 d11_accepts_50 rfl rfl ?_
      refine V_iconst (pc1 := 52) d11_accepts_51 vc_1 rfl ?_
      refine V_isub (pc1 := 53) d11_accepts_52 rfl ?_
      refine V_goto (tgt := 57) d11_accepts_53 (by decide) ?_
      exact key3 _ (by first | rfl | (simp only [hr3, hln3, if_pos h1, if_neg h2]; done) | (simp only [hr3, hln3, if_pos h1, if_neg h2]; rfl)) _ (lvsub_p [0, 1, 2] rfl)
  · skip
    refine V_aload_n (pc1 := 33) 1 d11_accepts_32 rfl rfl ?_
    refine V_getr (pc1 := 36) ly296 (lt305 rfl) f11_7 (fun _ => rfl) rf296_0 d11_accepts_33 rfl ?_
    refine V_sipush (pc1 := 39) d11_accepts_36 vs_1025 rfl ?_
    refine V_iald2 (pc1 := 40) 1025 ly297 (lt305 rfl) rfl (Nat.le_of_ble_eq_true rfl) rfl d11_accepts_39 rfl ?_
    refine V_bipush (pc1 := 42) d11_accepts_40 vb_8 rfl ?_
    refine V_isub (pc1 := 43) d11_accepts_42 rfl ?_
    refine V_goto (tgt := 57) d11_accepts_43 (by decide) ?_
    exact key3 _ (by first | rfl | (simp only [hr3, hln3, if_neg h1]; done) | (simp only [hr3, hln3, if_neg h1]; rfl)) _ (lvsub_p [0, 1, 2] rfl)
theorem w11_accepts (g : GlT)  (i : Nat) (hi : i < 4) (w : Nat) (hw4 : w ≤ 4) (q : Nat) (hq4 : q ≤ 4) (r : Nat) (hr6 : r ≤ 6) (ln : Nat) (hl4 : ln ≤ 4) (I : Nat → Nat → Int32) (L : Nat → Nat → Int64) (hw : I 297 (256 * i + 23) = nI w) (hq0 : I 297 (256 * i + 25) = nI q) (hr : I 297 (256 * i + 24) = nI r) (hln : r11_sampledLength i I L = nI ln) : Call g (k11_accepts, 4, 0, 0) [.ref (xA g 296), .int (nI i)] (I, L, R0, 305) (Qv (i11_accepts i I L) L) := Call.of (by decide) (Nat.le_of_ble_eq_true rfl) rfl (v11_accepts g  i hi w hw4 q hq4 r hr6 ln hl4 I L hw hq0 hr hln _ (And.intro rfl rfl))


def i11_tails (i : Nat) (x : Int32) (I : Nat → Nat → Int32) (L : Nat → Nat → Int64) : Nat → Nat → Int32 := (if I 297 (256 * i + 22) = 1 then (if (¬ (x = 1)) ∨ (¬ ((r11_isTransmitting i I L) = true)) then uI I 297 (256 * i + 22) ((I 297 (256 * i + 22)) + 1) else i11_errs i 5 (uI I 297 (256 * i + 22) ((I 297 (256 * i + 22)) + 1)) L) else (if I 297 (256 * i + 22) = 9 then i11_ends i x (uI I 297 (256 * i + 22) ((I 297 (256 * i + 22)) + 1)) L else (if x = 0 then i11_errs i (if (r11_isTransmitting i I L) = true then 1 else 4) (uI I 297 (256 * i + 22) ((I 297 (256 * i + 22)) + 1)) L else (if (¬ (I 297 (256 * i + 22) = 2)) ∨ ((r11_isTransmitting i I L) = true) then (if (¬ (I 297 (256 * i + 22) = 8)) ∨ ((r11_isTransmitting i I L) = true) then uI I 297 (256 * i + 22) ((I 297 (256 * i + 22)) + 1) else i11_accepts i (uI I 297 (256 * i + 22) ((I 297 (256 * i + 22)) + 1)) L) else (if (r11_isChecked i (uI I 297 (256 * i + 22) ((I 297 (256 * i + 22)) + 1)) L) = true then (if (¬ (I 297 (256 * i + 22) = 8)) ∨ ((r11_isTransmitting i I L) = true) then uI I 297 (256 * i + 22) ((I 297 (256 * i + 22)) + 1) else i11_accepts i (uI I 297 (256 * i + 22) ((I 297 (256 * i + 22)) + 1)) L) else i11_errs i 3 (uI I 297 (256 * i + 22) ((I 297 (256 * i + 22)) + 1)) L)))))
set_option maxRecDepth 4000 in
theorem v11_tails (g : GlT)  (i : Nat) (x : Int32) (hi : i < 4) (w : Nat) (hw4 : w ≤ 4) (q : Nat) (hq4 : q ≤ 4) (r : Nat) (hr6 : r ≤ 6) (ln : Nat) (hl4 : ln ≤ 4) (T : Nat) (hT1 : 15 ≤ T) (hT2 : T ≤ 70) (I : Nat → Nat → Int32) (L : Nat → Nat → Int64) (hw : I 297 (256 * i + 23) = nI w) (hq0 : I 297 (256 * i + 25) = nI q) (hr : I 297 (256 * i + 24) = nI r) (hln : r11_sampledLength i I L = nI ln) (hT : r11_total i I L = nI T) (hf : tfl i w I L) (Q : Option Value → MemT → Prop) (hq : Q (none) (i11_tails i x I L, L, R0, 305)) : V g (k11_tails, 6, 0, 0) 0 0 0 [(0, .ref (xA g 296)), (1, .int (nI i)), (2, .int x)] [] (I, L, R0, 305) Q := by
  refine V_aload_n (pc1 := 1) 0 d11_tails_0 rfl rfl ?_
  refine V_getr (pc1 := 4) ly296 (lt305 rfl) f11_7 (fun _ => rfl) rf296_0 d11_tails_1 rfl ?_
  refine V_iload_n (pc1 := 5) 1 d11_tails_4 rfl rfl ?_
  refine V_bipush (pc1 := 7) d11_tails_5 vb_22 rfl ?_
  refine V_si (pc1 := 10) (w11_at2 g  i 22 (256 * i + 22) (by omega) I L ) s11_at l11_35 rfl rfl ⟨Nat.le_of_ble_eq_true rfl, Nat.le_of_ble_eq_true rfl, Nat.le_refl _, Nat.le_refl _⟩ (Nat.le_of_ble_eq_true rfl) rfl d11_tails_7 rfl ?_
  refine V_iald2 (pc1 := 11) (256 * i + 22) ly297 (lt305 rfl) rfl (by omega) rfl d11_tails_10 rfl ?_
  refine V_istore_n (pc1 := 12) d11_tails_11 (Nat.le_of_ble_eq_true rfl) rfl rfl ?_
  refine V_aload_n (pc1 := 13) 1 d11_tails_12 rfl rfl ?_
  refine V_iload_n (pc1 := 14) 2 d11_tails_13 rfl rfl ?_
  refine V_vi (pc1 := 17) (w11_isTransmitting g  i hi I L ) ly296 (lt305 rfl) s11_isTransmitting l11_110 rfl rfl ⟨Nat.le_of_ble_eq_true rfl, Nat.le_of_ble_eq_true rfl, Nat.le_refl _, Nat.le_refl _⟩ (Nat.le_of_ble_eq_true rfl) rfl d11_tails_14 rfl ?_
  refine V_istore (pc1 := 19) d11_tails_17 (Nat.le_of_ble_eq_true rfl) rfl rfl ?_
  refine V_aload_n (pc1 := 20) 2 d11_tails_19 rfl rfl ?_
  refine V_getr (pc1 := 23) ly296 (lt305 rfl) f11_7 (fun _ => rfl) rf296_0 d11_tails_20 rfl ?_
  refine V_iload_n (pc1 := 24) 3 d11_tails_23 rfl rfl ?_
  refine V_bipush (pc1 := 26) d11_tails_24 vb_22 rfl ?_
  refine V_si (pc1 := 29) (w11_at2 g  i 22 (256 * i + 22) (by omega) I L ) s11_at l11_35 rfl rfl ⟨Nat.le_of_ble_eq_true rfl, Nat.le_of_ble_eq_true rfl, Nat.le_refl _, Nat.le_refl _⟩ (Nat.le_of_ble_eq_true rfl) rfl d11_tails_26 rfl ?_
  refine V_dup2 (pc1 := 30) d11_tails_29 rfl rfl rfl ?_
  refine V_iald2 (pc1 := 31) (256 * i + 22) ly297 (lt305 rfl) rfl (by omega) rfl d11_tails_30 rfl ?_
  refine V_iconst (pc1 := 32) d11_tails_31 vc_1 rfl ?_
  refine V_iadd (pc1 := 33) d11_tails_32 rfl ?_
  refine V_iast (pc1 := 34) (256 * i + 22) ly297 (lt305 rfl) rfl (by omega) d11_tails_33 rfl ?_
  refine V_iload_n (pc1 := 35) 1 d11_tails_34 rfl rfl ?_
  refine V_iconst (pc1 := 36) d11_tails_35 vc_1 rfl ?_
  have key27 : ∀ (zI138 : Nat → Nat → Int32), zI138 = (if I 297 (256 * i + 22) = 1 then (if (¬ (x = 1)) ∨ (¬ ((r11_isTransmitting i I L) = true)) then uI I 297 (256 * i + 22) ((I 297 (256 * i + 22)) + 1) else i11_errs i 5 (uI I 297 (256 * i + 22) ((I 297 (256 * i + 22)) + 1)) L) else (if I 297 (256 * i + 22) = 9 then i11_ends i x (uI I 297 (256 * i + 22) ((I 297 (256 * i + 22)) + 1)) L else (if x = 0 then i11_errs i (if (r11_isTransmitting i I L) = true then 1 else 4) (uI I 297 (256 * i + 22) ((I 297 (256 * i + 22)) + 1)) L else (if (¬ (I 297 (256 * i + 22) = 2)) ∨ ((r11_isTransmitting i I L) = true) then (if (¬ (I 297 (256 * i + 22) = 8)) ∨ ((r11_isTransmitting i I L) = true) then uI I 297 (256 * i + 22) ((I 297 (256 * i + 22)) + 1) else i11_accepts i (uI I 297 (256 * i + 22) ((I 297 (256 * i + 22)) + 1)) L) else (if (r11_isChecked i (uI I 297 (256 * i + 22) ((I 297 (256 * i + 22)) + 1)) L) = true then (if (¬ (I 297 (256 * i + 22) = 8)) ∨ ((r11_isTransmitting i I L) = true) then uI I 297 (256 * i + 22) ((I 297 (256 * i + 22)) + 1) else i11_accepts i (uI I 297 (256 * i + 22) ((I 297 (256 * i + 22)) + 1)) L) else i11_errs i 3 (uI I 297 (256 * i + 22) ((I 297 (256 * i + 22)) + 1)) L))))) → ∀ (lv : List (Nat × Value)), lvsub [(4, .int (bI (r11_isTransmitting i I L))), (3, .int (I 297 (256 * i + 22))), (0, .ref (xA g 296)), (1, .int (nI i)), (2, .int x)] lv → V g (k11_tails, 6, 0, 0) 0 0 138 lv [] (zI138, L, R0, 305) Q := by
    intro zI138 ezI138
    subst ezI138
    intro lv hlv
    refine V_lv hlv ?_
    refine V_vret rfl d11_tails_138 (Nat.zero_le _) (Nat.zero_le _) ?_
    have hq2 := hq
    simp only [i11_tails] at hq2
    exact hq2
  refine V_icmp_ne (tgt := 58) (pc1 := 39) d11_tails_36 (by decide) rfl (fun h1 => ?_) (fun h1 => ?_)
  · skip
    refine V_iload_n (pc1 := 59) 1 d11_tails_58 rfl rfl ?_
    refine V_bipush (pc1 := 61) d11_tails_59 vb_9 rfl ?_
    refine V_icmp_ne (tgt := 73) (pc1 := 64) d11_tails_61 (by decide) rfl (fun h2 => ?_) (fun h2 => ?_)
    · skip
      refine V_iload_n (pc1 := 74) 4 d11_tails_73 rfl rfl ?_
      refine V_if_ne (tgt := 95) (pc1 := 77) d11_tails_74 (by decide) rfl (fun h3 => ?_) (fun h3 => ?_)
      · skip
        refine V_iload_n (pc1 := 96) 1 d11_tails_95 rfl rfl ?_
        refine V_iconst (pc1 := 97) d11_tails_96 vc_2 rfl ?_
        have k5 : ((¬ (I 297 (256 * i + 22) = 2)) ∨ ((r11_isTransmitting i I L) = true)) → V g (k11_tails, 6, 0, 0) 0 0 122 [(4, .int (bI (r11_isTransmitting i I L))), (3, .int (I 297 (256 * i + 22))), (0, .ref (xA g 296)), (1, .int (nI i)), (2, .int x)] [] (uI I 297 (256 * i + 22) ((I 297 (256 * i + 22)) + 1), L, R0, 305) Q := by
          intro h4
          refine V_iload_n (pc1 := 123) 1 d11_tails_122 rfl rfl ?_
          refine V_bipush (pc1 := 125) d11_tails_123 vb_8 rfl ?_
          have k8 : ((¬ (I 297 (256 * i + 22) = 8)) ∨ ((r11_isTransmitting i I L) = true)) → V g (k11_tails, 6, 0, 0) 0 0 138 [(4, .int (bI (r11_isTransmitting i I L))), (3, .int (I 297 (256 * i + 22))), (0, .ref (xA g 296)), (1, .int (nI i)), (2, .int x)] [] (uI I 297 (256 * i + 22) ((I 297 (256 * i + 22)) + 1), L, R0, 305) Q := by
            intro h7
            exact key27 _ (by first | rfl | (simp only [if_neg h1, if_neg h2, if_neg h3, if_pos h4, if_pos h7]; done) | (simp only [if_neg h1, if_neg h2, if_neg h3, if_pos h4, if_pos h7]; rfl)) _ (lvsub_p [0, 1, 2, 3, 4] rfl)
          have k9 : ¬ ((¬ (I 297 (256 * i + 22) = 8)) ∨ ((r11_isTransmitting i I L) = true)) → V g (k11_tails, 6, 0, 0) 0 0 133 [(4, .int (bI (r11_isTransmitting i I L))), (3, .int (I 297 (256 * i + 22))), (0, .ref (xA g 296)), (1, .int (nI i)), (2, .int x)] [] (uI I 297 (256 * i + 22) ((I 297 (256 * i + 22)) + 1), L, R0, 305) Q := by
            intro h7
            refine V_aload_n (pc1 := 134) 2 d11_tails_133 rfl rfl ?_
            refine V_iload_n (pc1 := 135) 3 d11_tails_134 rfl rfl ?_
            refine V_vv (pc1 := 138) (w11_accepts g  i hi w hw4 q hq4 r hr6 ln hl4 (uI I 297 (256 * i + 22) ((I 297 (256 * i + 22)) + 1)) L ((uI_ne I 297 ((I 297 (256 * i + 22)) + 1) (show (256 * i + 23 : Nat) ≠ 256 * i + 22 by omega)).trans hw) ((uI_ne I 297 ((I 297 (256 * i + 22)) + 1) (show (256 * i + 25 : Nat) ≠ 256 * i + 22 by omega)).trans hq0) ((uI_ne I 297 ((I 297 (256 * i + 22)) + 1) (show (256 * i + 24 : Nat) ≠ 256 * i + 22 by omega)).trans hr) ((slen_congr (fun t ht => (uI_ne I 297 ((I 297 (256 * i + 22)) + 1) (show (256 * i + t + 90 : Nat) ≠ 256 * i + 22 by omega)))).trans hln)) ly296 (lt305 rfl) s11_accepts l11_156 rfl rfl ⟨Nat.le_of_ble_eq_true rfl, Nat.le_of_ble_eq_true rfl, Nat.le_refl _, Nat.le_refl _⟩ (Nat.le_of_ble_eq_true rfl) rfl d11_tails_135 rfl ?_
            exact key27 _ (by first | rfl | (simp only [if_neg h1, if_neg h2, if_neg h3, if_pos h4, if_neg h7]; done) | (simp only [if_neg h1, if_neg h2, if_neg h3, if_pos h4, if_neg h7]; rfl)) _ (lvsub_p [0, 1, 2, 3, 4] rfl)
          refine V_icmp_ne (tgt := 138) (pc1 := 128) d11_tails_125 (by decide) rfl (fun h10 => ?_) (fun h10 => ?_)
          · skip
            exact k8 (Or.inl h10)
          · skip
            refine V_iload (pc1 := 130) 0 d11_tails_128 rfl rfl ?_
            refine V_bne (tgt := 138) (pc1 := 133) d11_tails_130 (by decide) rfl (fun h11 => ?_) (fun h11 => ?_)
            · skip
              exact k8 (Or.inr h11)
            · skip
              exact k9 (fun z => z.elim (fun z => z h10) h11)
        have k6 : ¬ ((¬ (I 297 (256 * i + 22) = 2)) ∨ ((r11_isTransmitting i I L) = true)) → V g (k11_tails, 6, 0, 0) 0 0 105 [(4, .int (bI (r11_isTransmitting i I L))), (3, .int (I 297 (256 * i + 22))), (0, .ref (xA g 296)), (1, .int (nI i)), (2, .int x)] [] (uI I 297 (256 * i + 22) ((I 297 (256 * i + 22)) + 1), L, R0, 305) Q := by
          intro h4
          refine V_aload_n (pc1 := 106) 2 d11_tails_105 rfl rfl ?_
          refine V_iload_n (pc1 := 107) 3 d11_tails_106 rfl rfl ?_
          refine V_vi (pc1 := 110) (w11_isChecked g  i hi T hT1 hT2 (uI I 297 (256 * i + 22) ((I 297 (256 * i + 22)) + 1)) L (tot_22.trans hT)) ly296 (lt305 rfl) s11_isChecked l11_113 rfl rfl ⟨Nat.le_of_ble_eq_true rfl, Nat.le_of_ble_eq_true rfl, Nat.le_refl _, Nat.le_refl _⟩ (Nat.le_of_ble_eq_true rfl) rfl d11_tails_107 rfl ?_
          refine V_bne (tgt := 122) (pc1 := 113) d11_tails_110 (by decide) rfl (fun h12 => ?_) (fun h12 => ?_)
          · skip
            refine V_iload_n (pc1 := 123) 1 d11_tails_122 rfl rfl ?_
            refine V_bipush (pc1 := 125) d11_tails_123 vb_8 rfl ?_
            have k14 : ((¬ (I 297 (256 * i + 22) = 8)) ∨ ((r11_isTransmitting i I L) = true)) → V g (k11_tails, 6, 0, 0) 0 0 138 [(4, .int (bI (r11_isTransmitting i I L))), (3, .int (I 297 (256 * i + 22))), (0, .ref (xA g 296)), (1, .int (nI i)), (2, .int x)] [] (uI I 297 (256 * i + 22) ((I 297 (256 * i + 22)) + 1), L, R0, 305) Q := by
              intro h13
              exact key27 _ (by first | rfl | (simp only [if_neg h1, if_neg h2, if_neg h3, if_neg h4, if_pos h12, if_pos h13]; done) | (simp only [if_neg h1, if_neg h2, if_neg h3, if_neg h4, if_pos h12, if_pos h13]; rfl)) _ (lvsub_p [0, 1, 2, 3, 4] rfl)
            have k15 : ¬ ((¬ (I 297 (256 * i + 22) = 8)) ∨ ((r11_isTransmitting i I L) = true)) → V g (k11_tails, 6, 0, 0) 0 0 133 [(4, .int (bI (r11_isTransmitting i I L))), (3, .int (I 297 (256 * i + 22))), (0, .ref (xA g 296)), (1, .int (nI i)), (2, .int x)] [] (uI I 297 (256 * i + 22) ((I 297 (256 * i + 22)) + 1), L, R0, 305) Q := by
              intro h13
              refine V_aload_n (pc1 := 134) 2 d11_tails_133 rfl rfl ?_
              refine V_iload_n (pc1 := 135) 3 d11_tails_134 rfl rfl ?_
              refine V_vv (pc1 := 138) (w11_accepts g  i hi w hw4 q hq4 r hr6 ln hl4 (uI I 297 (256 * i + 22) ((I 297 (256 * i + 22)) + 1)) L ((uI_ne I 297 ((I 297 (256 * i + 22)) + 1) (show (256 * i + 23 : Nat) ≠ 256 * i + 22 by omega)).trans hw) ((uI_ne I 297 ((I 297 (256 * i + 22)) + 1) (show (256 * i + 25 : Nat) ≠ 256 * i + 22 by omega)).trans hq0) ((uI_ne I 297 ((I 297 (256 * i + 22)) + 1) (show (256 * i + 24 : Nat) ≠ 256 * i + 22 by omega)).trans hr) ((slen_congr (fun t ht => (uI_ne I 297 ((I 297 (256 * i + 22)) + 1) (show (256 * i + t + 90 : Nat) ≠ 256 * i + 22 by omega)))).trans hln)) ly296 (lt305 rfl) s11_accepts l11_156 rfl rfl ⟨Nat.le_of_ble_eq_true rfl, Nat.le_of_ble_eq_true rfl, Nat.le_refl _, Nat.le_refl _⟩ (Nat.le_of_ble_eq_true rfl) rfl d11_tails_135 rfl ?_
              exact key27 _ (by first | rfl | (simp only [if_neg h1, if_neg h2, if_neg h3, if_neg h4, if_pos h12, if_neg h13]; done) | (simp only [if_neg h1, if_neg h2, if_neg h3, if_neg h4, if_pos h12, if_neg h13]; rfl)) _ (lvsub_p [0, 1, 2, 3, 4] rfl)
            refine V_icmp_ne (tgt := 138) (pc1 := 128) d11_tails_125 (by decide) rfl (fun h16 => ?_) (fun h16 => ?_)
            · skip
              exact k14 (Or.inl h16)
            · skip
              refine V_iload (pc1 := 130) 0 d11_tails_128 rfl rfl ?_
              refine V_bne (tgt := 138) (pc1 := 133) d11_tails_130 (by decide) rfl (fun h17 => ?_) (fun h17 => ?_)
              · skip
                exact k14 (Or.inr h17)
              · skip
                exact k15 (fun z => z.elim (fun z => z h16) h17)
          · skip
            refine V_aload_n (pc1 := 114) 2 d11_tails_113 rfl rfl ?_
            refine V_iload_n (pc1 := 115) 3 d11_tails_114 rfl rfl ?_
            refine V_iconst (pc1 := 116) d11_tails_115 vc_3 rfl ?_
            refine V_vv (pc1 := 119) (w11_errs g  i 3 hi (by first | decide | omega | (split <;> decide)) (uI I 297 (256 * i + 22) ((I 297 (256 * i + 22)) + 1)) L ) ly296 (lt305 rfl) s11_errs l11_150 rfl rfl ⟨Nat.le_of_ble_eq_true rfl, Nat.le_of_ble_eq_true rfl, Nat.le_refl _, Nat.le_refl _⟩ (Nat.le_of_ble_eq_true rfl) rfl d11_tails_116 rfl ?_
            refine V_goto (tgt := 138) d11_tails_119 (by decide) ?_
            exact key27 _ (by first | rfl | (simp only [if_neg h1, if_neg h2, if_neg h3, if_neg h4, if_neg h12]; done) | (simp only [if_neg h1, if_neg h2, if_neg h3, if_neg h4, if_neg h12]; rfl)) _ (lvsub_p [0, 1, 2, 3, 4] rfl)
        refine V_icmp_ne (tgt := 122) (pc1 := 100) d11_tails_97 (by decide) rfl (fun h18 => ?_) (fun h18 => ?_)
        · skip
          exact k5 (Or.inl h18)
        · skip
          refine V_iload (pc1 := 102) 0 d11_tails_100 rfl rfl ?_
          refine V_bne (tgt := 122) (pc1 := 105) d11_tails_102 (by decide) rfl (fun h19 => ?_) (fun h19 => ?_)
          · skip
            exact k5 (Or.inr h19)
          · skip
            exact k6 (fun z => z.elim (fun z => z h18) h19)
      · skip
        refine V_aload_n (pc1 := 78) 2 d11_tails_77 rfl rfl ?_
        refine V_iload_n (pc1 := 79) 3 d11_tails_78 rfl rfl ?_
        refine V_iload (pc1 := 81) 0 d11_tails_79 rfl rfl ?_
        have key21 : ∀ (y89_0 : Int32), y89_0 = nI (if (r11_isTransmitting i I L) = true then 1 else 4) → ∀ (lv : List (Nat × Value)), lvsub [(4, .int (bI (r11_isTransmitting i I L))), (3, .int (I 297 (256 * i + 22))), (0, .ref (xA g 296)), (1, .int (nI i)), (2, .int x)] lv → V g (k11_tails, 6, 0, 0) 0 0 89 lv [.int y89_0, .int (nI i), .ref (xA g 296)] (uI I 297 (256 * i + 22) ((I 297 (256 * i + 22)) + 1), L, R0, 305) Q := by
          intro y89_0 ey89_0
          subst ey89_0
          intro lv hlv
          refine V_lv hlv ?_
          refine V_vv (pc1 := 92) (w11_errs g  i (if (r11_isTransmitting i I L) = true then 1 else 4) hi (by first | decide | omega | (split <;> decide)) (uI I 297 (256 * i + 22) ((I 297 (256 * i + 22)) + 1)) L ) ly296 (lt305 rfl) s11_errs l11_150 rfl rfl ⟨Nat.le_of_ble_eq_true rfl, Nat.le_of_ble_eq_true rfl, Nat.le_refl _, Nat.le_refl _⟩ (Nat.le_of_ble_eq_true rfl) rfl d11_tails_89 rfl ?_
          refine V_goto (tgt := 138) d11_tails_92 (by decide) ?_
          exact key27 _ (by first | rfl | (simp only [if_neg h1, if_neg h2, if_pos h3]; done) | (simp only [if_neg h1, if_neg h2, if_pos h3]; rfl)) _ (lvsub_p [0, 1, 2, 3, 4] rfl)
        refine V_beq (tgt := 88) (pc1 := 84) d11_tails_81 (by decide) rfl (fun h20 => ?_) (fun h20 => ?_)
        · skip
          refine V_iconst (pc1 := 89) d11_tails_88 vc_4 rfl ?_
          exact key21 _ (by first | rfl | (simp only [if_neg h20]; done) | (simp only [if_neg h20]; rfl)) _ (lvsub_p [0, 1, 2, 3, 4] rfl)
        · skip
          refine V_iconst (pc1 := 85) d11_tails_84 vc_1 rfl ?_
          refine V_goto (tgt := 89) d11_tails_85 (by decide) ?_
          exact key21 _ (by first | rfl | (simp only [if_pos h20]; done) | (simp only [if_pos h20]; rfl)) _ (lvsub_p [0, 1, 2, 3, 4] rfl)
    · skip
      refine V_aload_n (pc1 := 65) 2 d11_tails_64 rfl rfl ?_
      refine V_iload_n (pc1 := 66) 3 d11_tails_65 rfl rfl ?_
      refine V_iload_n (pc1 := 67) 4 d11_tails_66 rfl rfl ?_
      refine V_vv (pc1 := 70) (w11_ends g  i x hi w hw4 (uI I 297 (256 * i + 22) ((I 297 (256 * i + 22)) + 1)) L ((uI_ne I 297 ((I 297 (256 * i + 22)) + 1) (show (256 * i + 23 : Nat) ≠ 256 * i + 22 by omega)).trans hw) (tfl_22 hf)) ly296 (lt305 rfl) s11_ends l11_153 rfl rfl ⟨Nat.le_of_ble_eq_true rfl, Nat.le_of_ble_eq_true rfl, Nat.le_refl _, Nat.le_refl _⟩ (Nat.le_of_ble_eq_true rfl) rfl d11_tails_67 rfl ?_
      refine V_goto (tgt := 138) d11_tails_70 (by decide) ?_
      exact key27 _ (by first | rfl | (simp only [if_neg h1, if_pos h2]; done) | (simp only [if_neg h1, if_pos h2]; rfl)) _ (lvsub_p [0, 1, 2, 3, 4] rfl)
  · skip
    refine V_iload_n (pc1 := 40) 4 d11_tails_39 rfl rfl ?_
    refine V_iconst (pc1 := 41) d11_tails_40 vc_1 rfl ?_
    have k23 : ((¬ (x = 1)) ∨ (¬ ((r11_isTransmitting i I L) = true))) → V g (k11_tails, 6, 0, 0) 0 0 138 [(4, .int (bI (r11_isTransmitting i I L))), (3, .int (I 297 (256 * i + 22))), (0, .ref (xA g 296)), (1, .int (nI i)), (2, .int x)] [] (uI I 297 (256 * i + 22) ((I 297 (256 * i + 22)) + 1), L, R0, 305) Q := by
      intro h22
      exact key27 _ (by first | rfl | (simp only [if_pos h1, if_pos h22]; done) | (simp only [if_pos h1, if_pos h22]; rfl)) _ (lvsub_p [0, 1, 2, 3, 4] rfl)
    have k24 : ¬ ((¬ (x = 1)) ∨ (¬ ((r11_isTransmitting i I L) = true))) → V g (k11_tails, 6, 0, 0) 0 0 49 [(4, .int (bI (r11_isTransmitting i I L))), (3, .int (I 297 (256 * i + 22))), (0, .ref (xA g 296)), (1, .int (nI i)), (2, .int x)] [] (uI I 297 (256 * i + 22) ((I 297 (256 * i + 22)) + 1), L, R0, 305) Q := by
      intro h22
      refine V_aload_n (pc1 := 50) 2 d11_tails_49 rfl rfl ?_
      refine V_iload_n (pc1 := 51) 3 d11_tails_50 rfl rfl ?_
      refine V_iconst (pc1 := 52) d11_tails_51 vc_5 rfl ?_
      refine V_vv (pc1 := 55) (w11_errs g  i 5 hi (by first | decide | omega | (split <;> decide)) (uI I 297 (256 * i + 22) ((I 297 (256 * i + 22)) + 1)) L ) ly296 (lt305 rfl) s11_errs l11_150 rfl rfl ⟨Nat.le_of_ble_eq_true rfl, Nat.le_of_ble_eq_true rfl, Nat.le_refl _, Nat.le_refl _⟩ (Nat.le_of_ble_eq_true rfl) rfl d11_tails_52 rfl ?_
      refine V_goto (tgt := 138) d11_tails_55 (by decide) ?_
      exact key27 _ (by first | rfl | (simp only [if_pos h1, if_neg h22]; done) | (simp only [if_pos h1, if_neg h22]; rfl)) _ (lvsub_p [0, 1, 2, 3, 4] rfl)
    refine V_icmp_ne (tgt := 138) (pc1 := 44) d11_tails_41 (by decide) rfl (fun h25 => ?_) (fun h25 => ?_)
    · skip
      exact k23 (Or.inl h25)
    · skip
      refine V_iload (pc1 := 46) 0 d11_tails_44 rfl rfl ?_
      refine V_beq (tgt := 138) (pc1 := 49) d11_tails_46 (by decide) rfl (fun h26 => ?_) (fun h26 => ?_)
      · skip
        exact k23 (Or.inr h26)
      · skip
        exact k24 (fun z => z.elim (fun z => z h25) (fun z => z h26))
theorem w11_tails (g : GlT)  (i : Nat) (x : Int32) (hi : i < 4) (w : Nat) (hw4 : w ≤ 4) (q : Nat) (hq4 : q ≤ 4) (r : Nat) (hr6 : r ≤ 6) (ln : Nat) (hl4 : ln ≤ 4) (T : Nat) (hT1 : 15 ≤ T) (hT2 : T ≤ 70) (I : Nat → Nat → Int32) (L : Nat → Nat → Int64) (hw : I 297 (256 * i + 23) = nI w) (hq0 : I 297 (256 * i + 25) = nI q) (hr : I 297 (256 * i + 24) = nI r) (hln : r11_sampledLength i I L = nI ln) (hT : r11_total i I L = nI T) (hf : tfl i w I L) : Call g (k11_tails, 6, 0, 0) [.ref (xA g 296), .int (nI i), .int x] (I, L, R0, 305) (Qv (i11_tails i x I L) L) := Call.of (by decide) (Nat.le_of_ble_eq_true rfl) rfl (v11_tails g  i x hi w hw4 q hq4 r hr6 ln hl4 T hT1 hT2 I L hw hq0 hr hln hT hf _ (And.intro rfl rfl))


/-- what a node's row must be for its bit time -/
def aOK (i : Nat) (I : Nat → Nat → Int32) (L : Nat → Nat → Int64) : Prop :=
  (∃ w, w ≤ 4 ∧ I 297 (256 * i + 23) = nI w ∧ (I 297 (256 * i) = 4 → 0 ≤ I 297 (256 * i + 22) → (∃ T, 15 ≤ T ∧ T ≤ 70 ∧ r11_total i I L = nI T) ∧ tfl i w I L)) ∧ (∃ q, q ≤ 4 ∧ I 297 (256 * i + 25) = nI q) ∧ (∃ r, r ≤ 6 ∧ I 297 (256 * i + 24) = nI r) ∧ (∃ z, z ≤ 4 ∧ I 297 (256 * i + 32) = nI z) ∧
  (I 297 (256 * i) = 4 → (¬ 0 ≤ I 297 (256 * i + 22) → ∃ b, b < 70 ∧ I 297 (256 * i + 19) = nI b) ∧ (0 ≤ I 297 (256 * i + 22) → ∃ ln, ln ≤ 4 ∧ r11_sampledLength i I L = nI ln))

def i11_acts (i : Nat) (x : Int32) (I : Nat → Nat → Int32) (L : Nat → Nat → Int64) : Nat → Nat → Int32 := (if I 297 (256 * i) = 1 then i11_recovers i x I L else (if I 297 (256 * i) = 2 then (if (if x = 1 then (I 297 (256 * i + 2)) + 1 else 0) = 11 then i11_goes i 3 (uI I 297 (256 * i + 2) (if x = 1 then (I 297 (256 * i + 2)) + 1 else 0)) L else uI I 297 (256 * i + 2) (if x = 1 then (I 297 (256 * i + 2)) + 1 else 0)) else (if I 297 (256 * i) = 3 then i11_idles i x I L else (if I 297 (256 * i) = 4 then (if 0 ≤ I 297 (256 * i + 22) then i11_tails i x I L else i11_stuffed i x I L) else (if I 297 (256 * i) = 5 then i11_flags i I L else (if I 297 (256 * i) = 6 then i11_flags i I L else (if I 297 (256 * i) = 7 then i11_delimits i x I L else (if I 297 (256 * i) = 8 then i11_intermits i x I L else (if I 297 (256 * i) = 9 then i11_suspends i x I L else I)))))))))
set_option maxRecDepth 4000 in
theorem v11_acts (g : GlT)  (i : Nat) (x : Int32) (hi : i < 4) (I : Nat → Nat → Int32) (L : Nat → Nat → Int64) (hA : aOK i I L) (Q : Option Value → MemT → Prop) (hq : Q (none) (i11_acts i x I L, L, R0, 305)) : V g (k11_acts, 7, 0, 0) 0 0 0 [(0, .ref (xA g 296)), (1, .int (nI i)), (2, .int x)] [] (I, L, R0, 305) Q := by
  obtain ⟨⟨w, hw4, hw, hG⟩, ⟨q, hq4, hq0⟩, ⟨r, hr6, hr⟩, ⟨z, hz4, hz⟩, hF⟩ := hA
  refine V_aload_n (pc1 := 1) 0 d11_acts_0 rfl rfl ?_
  refine V_getr (pc1 := 4) ly296 (lt305 rfl) f11_7 (fun _ => rfl) rf296_0 d11_acts_1 rfl ?_
  refine V_iload_n (pc1 := 5) 1 d11_acts_4 rfl rfl ?_
  refine V_iconst (pc1 := 6) d11_acts_5 vc_0 rfl ?_
  refine V_si (pc1 := 9) (w11_at2 g  i 0 (256 * i) (by omega) I L ) s11_at l11_35 rfl rfl ⟨Nat.le_of_ble_eq_true rfl, Nat.le_of_ble_eq_true rfl, Nat.le_refl _, Nat.le_refl _⟩ (Nat.le_of_ble_eq_true rfl) rfl d11_acts_6 rfl ?_
  refine V_iald2 (pc1 := 10) (256 * i) ly297 (lt305 rfl) rfl (by omega) rfl d11_acts_9 rfl ?_
  have key14 : ∀ (zI200 : Nat → Nat → Int32), zI200 = (if I 297 (256 * i) = 1 then i11_recovers i x I L else (if I 297 (256 * i) = 2 then (if (if x = 1 then (I 297 (256 * i + 2)) + 1 else 0) = 11 then i11_goes i 3 (uI I 297 (256 * i + 2) (if x = 1 then (I 297 (256 * i + 2)) + 1 else 0)) L else uI I 297 (256 * i + 2) (if x = 1 then (I 297 (256 * i + 2)) + 1 else 0)) else (if I 297 (256 * i) = 3 then i11_idles i x I L else (if I 297 (256 * i) = 4 then (if 0 ≤ I 297 (256 * i + 22) then i11_tails i x I L else i11_stuffed i x I L) else (if I 297 (256 * i) = 5 then i11_flags i I L else (if I 297 (256 * i) = 6 then i11_flags i I L else (if I 297 (256 * i) = 7 then i11_delimits i x I L else (if I 297 (256 * i) = 8 then i11_intermits i x I L else (if I 297 (256 * i) = 9 then i11_suspends i x I L else I))))))))) → ∀ (lv : List (Nat × Value)), lvsub [(0, .ref (xA g 296)), (1, .int (nI i)), (2, .int x)] lv → V g (k11_acts, 7, 0, 0) 0 0 200 lv [] (zI200, L, R0, 305) Q := by
    intro zI200 ezI200
    subst ezI200
    intro lv hlv
    refine V_lv hlv ?_
    refine V_vret rfl d11_acts_200 (Nat.zero_le _) (Nat.zero_le _) ?_
    have hq2 := hq
    simp only [i11_acts] at hq2
    exact hq2
  by_cases h1 : I 297 (256 * i) = 1
  · refine V_tsIn 1 h1 d11_acts_10 (by decide) (by decide) (off := 181) (tgt := 191) (by decide) (by decide) ?_
    refine V_aload_n (pc1 := 192) 0 d11_acts_191 rfl rfl ?_
    refine V_iload_n (pc1 := 193) 1 d11_acts_192 rfl rfl ?_
    refine V_iload_n (pc1 := 194) 2 d11_acts_193 rfl rfl ?_
    refine V_vv (pc1 := 197) (w11_recovers g  i x hi I L ) ly296 (lt305 rfl) s11_recovers l11_143 rfl rfl ⟨Nat.le_of_ble_eq_true rfl, Nat.le_of_ble_eq_true rfl, Nat.le_refl _, Nat.le_refl _⟩ (Nat.le_of_ble_eq_true rfl) rfl d11_acts_194 rfl ?_
    refine V_goto (tgt := 200) d11_acts_197 (by decide) ?_
    exact key14 _ (by first | rfl | (simp only [if_pos h1]; done) | (simp only [if_pos h1]; rfl)) _ (lvsub_p [0, 1, 2] rfl)
  · skip
    by_cases h2 : I 297 (256 * i) = 2
    · refine V_tsIn 2 h2 d11_acts_10 (by decide) (by decide) (off := 126) (tgt := 136) (by decide) (by decide) ?_
      refine V_aload_n (pc1 := 137) 0 d11_acts_136 rfl rfl ?_
      refine V_getr (pc1 := 140) ly296 (lt305 rfl) f11_7 (fun _ => rfl) rf296_0 d11_acts_137 rfl ?_
      refine V_iload_n (pc1 := 141) 1 d11_acts_140 rfl rfl ?_
      refine V_iconst (pc1 := 142) d11_acts_141 vc_2 rfl ?_
      refine V_si (pc1 := 145) (w11_at2 g  i 2 (256 * i + 2) (by omega) I L ) s11_at l11_35 rfl rfl ⟨Nat.le_of_ble_eq_true rfl, Nat.le_of_ble_eq_true rfl, Nat.le_refl _, Nat.le_refl _⟩ (Nat.le_of_ble_eq_true rfl) rfl d11_acts_142 rfl ?_
      refine V_iload_n (pc1 := 146) 2 d11_acts_145 rfl rfl ?_
      refine V_iconst (pc1 := 147) d11_acts_146 vc_1 rfl ?_
      have key4 : ∀ (y166_0 : Int32), y166_0 = (if x = 1 then (I 297 (256 * i + 2)) + 1 else 0) → ∀ (lv : List (Nat × Value)), lvsub [(0, .ref (xA g 296)), (1, .int (nI i)), (2, .int x)] lv → V g (k11_acts, 7, 0, 0) 0 0 166 lv [.int y166_0, .int (nI (256 * i + 2)), .ref (xA g 297)] (I, L, R0, 305) Q := by
        intro y166_0 ey166_0
        subst ey166_0
        intro lv hlv
        refine V_lv hlv ?_
        refine V_iast (pc1 := 167) (256 * i + 2) ly297 (lt305 rfl) rfl (by omega) d11_acts_166 rfl ?_
        refine V_aload_n (pc1 := 168) 0 d11_acts_167 rfl rfl ?_
        refine V_getr (pc1 := 171) ly296 (lt305 rfl) f11_7 (fun _ => rfl) rf296_0 d11_acts_168 rfl ?_
        refine V_iload_n (pc1 := 172) 1 d11_acts_171 rfl rfl ?_
        refine V_iconst (pc1 := 173) d11_acts_172 vc_2 rfl ?_
        refine V_si (pc1 := 176) (w11_at2 g  i 2 (256 * i + 2) (by omega) (uI I 297 (256 * i + 2) (if x = 1 then (I 297 (256 * i + 2)) + 1 else 0)) L ) s11_at l11_35 rfl rfl ⟨Nat.le_of_ble_eq_true rfl, Nat.le_of_ble_eq_true rfl, Nat.le_refl _, Nat.le_refl _⟩ (Nat.le_of_ble_eq_true rfl) rfl d11_acts_173 rfl ?_
        refine V_iald2 (pc1 := 177) (256 * i + 2) ly297 (lt305 rfl) rfl (by omega) (uI_self I 297 (256 * i + 2) (if x = 1 then (I 297 (256 * i + 2)) + 1 else 0)) d11_acts_176 rfl ?_
        refine V_bipush (pc1 := 179) d11_acts_177 vb_11 rfl ?_
        refine V_icmp_ne (tgt := 200) (pc1 := 182) d11_acts_179 (by decide) rfl (fun h5 => ?_) (fun h5 => ?_)
        · skip
          exact key14 _ (by first | rfl | (simp only [if_neg h1, if_pos h2, if_neg h5]; done) | (simp only [if_neg h1, if_pos h2, if_neg h5]; rfl)) _ (lvsub_p [0, 1, 2] rfl)
        · skip
          refine V_aload_n (pc1 := 183) 0 d11_acts_182 rfl rfl ?_
          refine V_iload_n (pc1 := 184) 1 d11_acts_183 rfl rfl ?_
          refine V_iconst (pc1 := 185) d11_acts_184 vc_3 rfl ?_
          refine V_vv (pc1 := 188) (w11_goes g  i 3 hi (uI I 297 (256 * i + 2) (if x = 1 then (I 297 (256 * i + 2)) + 1 else 0)) L ) ly296 (lt305 rfl) s11_goes l11_84 rfl rfl ⟨Nat.le_of_ble_eq_true rfl, Nat.le_of_ble_eq_true rfl, Nat.le_refl _, Nat.le_refl _⟩ (Nat.le_of_ble_eq_true rfl) rfl d11_acts_185 rfl ?_
          refine V_goto (tgt := 200) d11_acts_188 (by decide) ?_
          exact key14 _ (by first | rfl | (simp only [if_neg h1, if_pos h2, if_pos h5]; done) | (simp only [if_neg h1, if_pos h2, if_pos h5]; rfl)) _ (lvsub_p [0, 1, 2] rfl)
      refine V_icmp_ne (tgt := 165) (pc1 := 150) d11_acts_147 (by decide) rfl (fun h3 => ?_) (fun h3 => ?_)
      · skip
        refine V_iconst (pc1 := 166) d11_acts_165 vc_0 rfl ?_
        exact key4 _ (by first | rfl | (simp only [if_neg h3]; done) | (simp only [if_neg h3]; rfl)) _ (lvsub_p [0, 1, 2] rfl)
      · skip
        refine V_aload_n (pc1 := 151) 0 d11_acts_150 rfl rfl ?_
        refine V_getr (pc1 := 154) ly296 (lt305 rfl) f11_7 (fun _ => rfl) rf296_0 d11_acts_151 rfl ?_
        refine V_iload_n (pc1 := 155) 1 d11_acts_154 rfl rfl ?_
        refine V_iconst (pc1 := 156) d11_acts_155 vc_2 rfl ?_
        refine V_si (pc1 := 159) (w11_at2 g  i 2 (256 * i + 2) (by omega) I L ) s11_at l11_35 rfl rfl ⟨Nat.le_of_ble_eq_true rfl, Nat.le_of_ble_eq_true rfl, Nat.le_refl _, Nat.le_refl _⟩ (Nat.le_of_ble_eq_true rfl) rfl d11_acts_156 rfl ?_
        refine V_iald2 (pc1 := 160) (256 * i + 2) ly297 (lt305 rfl) rfl (by omega) rfl d11_acts_159 rfl ?_
        refine V_iconst (pc1 := 161) d11_acts_160 vc_1 rfl ?_
        refine V_iadd (pc1 := 162) d11_acts_161 rfl ?_
        refine V_goto (tgt := 166) d11_acts_162 (by decide) ?_
        exact key4 _ (by first | rfl | (simp only [if_pos h3]; done) | (simp only [if_pos h3]; rfl)) _ (lvsub_p [0, 1, 2] rfl)
    · skip
      by_cases h6 : I 297 (256 * i) = 3
      · refine V_tsIn 3 h6 d11_acts_10 (by decide) (by decide) (off := 50) (tgt := 60) (by decide) (by decide) ?_
        refine V_aload_n (pc1 := 61) 0 d11_acts_60 rfl rfl ?_
        refine V_iload_n (pc1 := 62) 1 d11_acts_61 rfl rfl ?_
        refine V_iload_n (pc1 := 63) 2 d11_acts_62 rfl rfl ?_
        refine V_vv (pc1 := 66) (w11_idles g  i x hi z hz4 I L hz) ly296 (lt305 rfl) s11_idles l11_122 rfl rfl ⟨Nat.le_of_ble_eq_true rfl, Nat.le_of_ble_eq_true rfl, Nat.le_refl _, Nat.le_refl _⟩ (Nat.le_of_ble_eq_true rfl) rfl d11_acts_63 rfl ?_
        refine V_goto (tgt := 200) d11_acts_66 (by decide) ?_
        exact key14 _ (by first | rfl | (simp only [if_neg h1, if_neg h2, if_pos h6]; done) | (simp only [if_neg h1, if_neg h2, if_pos h6]; rfl)) _ (lvsub_p [0, 1, 2] rfl)
      · skip
        by_cases h7 : I 297 (256 * i) = 4
        · refine V_tsIn 4 h7 d11_acts_10 (by decide) (by decide) (off := 59) (tgt := 69) (by decide) (by decide) ?_
          refine V_aload_n (pc1 := 70) 0 d11_acts_69 rfl rfl ?_
          refine V_getr (pc1 := 73) ly296 (lt305 rfl) f11_7 (fun _ => rfl) rf296_0 d11_acts_70 rfl ?_
          refine V_iload_n (pc1 := 74) 1 d11_acts_73 rfl rfl ?_
          refine V_bipush (pc1 := 76) d11_acts_74 vb_22 rfl ?_
          refine V_si (pc1 := 79) (w11_at2 g  i 22 (256 * i + 22) (by omega) I L ) s11_at l11_35 rfl rfl ⟨Nat.le_of_ble_eq_true rfl, Nat.le_of_ble_eq_true rfl, Nat.le_refl _, Nat.le_refl _⟩ (Nat.le_of_ble_eq_true rfl) rfl d11_acts_76 rfl ?_
          refine V_iald2 (pc1 := 80) (256 * i + 22) ly297 (lt305 rfl) rfl (by omega) rfl d11_acts_79 rfl ?_
          refine V_if_ge (tgt := 92) (pc1 := 83) d11_acts_80 (by decide) rfl (fun h8 => ?_) (fun h8 => ?_)
          · skip
            obtain ⟨ln, hl4, hln⟩ := (hF h7).2 h8
            obtain ⟨⟨T, hT1, hT2, hT⟩, hf⟩ := hG h7 h8
            refine V_aload_n (pc1 := 93) 0 d11_acts_92 rfl rfl ?_
            refine V_iload_n (pc1 := 94) 1 d11_acts_93 rfl rfl ?_
            refine V_iload_n (pc1 := 95) 2 d11_acts_94 rfl rfl ?_
            refine V_vv (pc1 := 98) (w11_tails g  i x hi w hw4 q hq4 r hr6 ln hl4 T hT1 hT2 I L hw hq0 hr hln hT hf) ly296 (lt305 rfl) s11_tails l11_128 rfl rfl ⟨Nat.le_of_ble_eq_true rfl, Nat.le_of_ble_eq_true rfl, Nat.le_refl _, Nat.le_refl _⟩ (Nat.le_of_ble_eq_true rfl) rfl d11_acts_95 rfl ?_
            refine V_goto (tgt := 200) d11_acts_98 (by decide) ?_
            exact key14 _ (by first | rfl | (simp only [if_neg h1, if_neg h2, if_neg h6, if_pos h7, if_pos h8]; done) | (simp only [if_neg h1, if_neg h2, if_neg h6, if_pos h7, if_pos h8]; rfl)) _ (lvsub_p [0, 1, 2] rfl)
          · skip
            obtain ⟨b, hb2, hb⟩ := (hF h7).1 h8
            refine V_aload_n (pc1 := 84) 0 d11_acts_83 rfl rfl ?_
            refine V_iload_n (pc1 := 85) 1 d11_acts_84 rfl rfl ?_
            refine V_iload_n (pc1 := 86) 2 d11_acts_85 rfl rfl ?_
            refine V_vv (pc1 := 89) (w11_stuffed g  i x hi b hb2 I L hb) ly296 (lt305 rfl) s11_stuffed l11_125 rfl rfl ⟨Nat.le_of_ble_eq_true rfl, Nat.le_of_ble_eq_true rfl, Nat.le_refl _, Nat.le_refl _⟩ (Nat.le_of_ble_eq_true rfl) rfl d11_acts_86 rfl ?_
            refine V_goto (tgt := 200) d11_acts_89 (by decide) ?_
            exact key14 _ (by first | rfl | (simp only [if_neg h1, if_neg h2, if_neg h6, if_pos h7, if_neg h8]; done) | (simp only [if_neg h1, if_neg h2, if_neg h6, if_pos h7, if_neg h8]; rfl)) _ (lvsub_p [0, 1, 2] rfl)
        · skip
          by_cases h9 : I 297 (256 * i) = 5
          · refine V_tsIn 5 h9 d11_acts_10 (by decide) (by decide) (off := 91) (tgt := 101) (by decide) (by decide) ?_
            refine V_aload_n (pc1 := 102) 0 d11_acts_101 rfl rfl ?_
            refine V_iload_n (pc1 := 103) 1 d11_acts_102 rfl rfl ?_
            refine V_vv (pc1 := 106) (w11_flags g  i hi I L ) ly296 (lt305 rfl) s11_flags l11_131 rfl rfl ⟨Nat.le_of_ble_eq_true rfl, Nat.le_of_ble_eq_true rfl, Nat.le_refl _, Nat.le_refl _⟩ (Nat.le_of_ble_eq_true rfl) rfl d11_acts_103 rfl ?_
            refine V_goto (tgt := 200) d11_acts_106 (by decide) ?_
            exact key14 _ (by first | rfl | (simp only [if_neg h1, if_neg h2, if_neg h6, if_neg h7, if_pos h9]; done) | (simp only [if_neg h1, if_neg h2, if_neg h6, if_neg h7, if_pos h9]; rfl)) _ (lvsub_p [0, 1, 2] rfl)
          · skip
            by_cases h10 : I 297 (256 * i) = 6
            · refine V_tsIn 6 h10 d11_acts_10 (by decide) (by decide) (off := 91) (tgt := 101) (by decide) (by decide) ?_
              refine V_aload_n (pc1 := 102) 0 d11_acts_101 rfl rfl ?_
              refine V_iload_n (pc1 := 103) 1 d11_acts_102 rfl rfl ?_
              refine V_vv (pc1 := 106) (w11_flags g  i hi I L ) ly296 (lt305 rfl) s11_flags l11_131 rfl rfl ⟨Nat.le_of_ble_eq_true rfl, Nat.le_of_ble_eq_true rfl, Nat.le_refl _, Nat.le_refl _⟩ (Nat.le_of_ble_eq_true rfl) rfl d11_acts_103 rfl ?_
              refine V_goto (tgt := 200) d11_acts_106 (by decide) ?_
              exact key14 _ (by first | rfl | (simp only [if_neg h1, if_neg h2, if_neg h6, if_neg h7, if_neg h9, if_pos h10]; done) | (simp only [if_neg h1, if_neg h2, if_neg h6, if_neg h7, if_neg h9, if_pos h10]; rfl)) _ (lvsub_p [0, 1, 2] rfl)
            · skip
              by_cases h11 : I 297 (256 * i) = 7
              · refine V_tsIn 7 h11 d11_acts_10 (by decide) (by decide) (off := 99) (tgt := 109) (by decide) (by decide) ?_
                refine V_aload_n (pc1 := 110) 0 d11_acts_109 rfl rfl ?_
                refine V_iload_n (pc1 := 111) 1 d11_acts_110 rfl rfl ?_
                refine V_iload_n (pc1 := 112) 2 d11_acts_111 rfl rfl ?_
                refine V_vv (pc1 := 115) (w11_delimits g  i x hi I L ) ly296 (lt305 rfl) s11_delimits l11_134 rfl rfl ⟨Nat.le_of_ble_eq_true rfl, Nat.le_of_ble_eq_true rfl, Nat.le_refl _, Nat.le_refl _⟩ (Nat.le_of_ble_eq_true rfl) rfl d11_acts_112 rfl ?_
                refine V_goto (tgt := 200) d11_acts_115 (by decide) ?_
                exact key14 _ (by first | rfl | (simp only [if_neg h1, if_neg h2, if_neg h6, if_neg h7, if_neg h9, if_neg h10, if_pos h11]; done) | (simp only [if_neg h1, if_neg h2, if_neg h6, if_neg h7, if_neg h9, if_neg h10, if_pos h11]; rfl)) _ (lvsub_p [0, 1, 2] rfl)
              · skip
                by_cases h12 : I 297 (256 * i) = 8
                · refine V_tsIn 8 h12 d11_acts_10 (by decide) (by decide) (off := 108) (tgt := 118) (by decide) (by decide) ?_
                  refine V_aload_n (pc1 := 119) 0 d11_acts_118 rfl rfl ?_
                  refine V_iload_n (pc1 := 120) 1 d11_acts_119 rfl rfl ?_
                  refine V_iload_n (pc1 := 121) 2 d11_acts_120 rfl rfl ?_
                  refine V_vv (pc1 := 124) (w11_intermits g  i x hi z hz4 I L hz) ly296 (lt305 rfl) s11_intermits l11_137 rfl rfl ⟨Nat.le_of_ble_eq_true rfl, Nat.le_of_ble_eq_true rfl, Nat.le_refl _, Nat.le_refl _⟩ (Nat.le_of_ble_eq_true rfl) rfl d11_acts_121 rfl ?_
                  refine V_goto (tgt := 200) d11_acts_124 (by decide) ?_
                  exact key14 _ (by first | rfl | (simp only [if_neg h1, if_neg h2, if_neg h6, if_neg h7, if_neg h9, if_neg h10, if_neg h11, if_pos h12]; done) | (simp only [if_neg h1, if_neg h2, if_neg h6, if_neg h7, if_neg h9, if_neg h10, if_neg h11, if_pos h12]; rfl)) _ (lvsub_p [0, 1, 2] rfl)
                · skip
                  by_cases h13 : I 297 (256 * i) = 9
                  · refine V_tsIn 9 h13 d11_acts_10 (by decide) (by decide) (off := 117) (tgt := 127) (by decide) (by decide) ?_
                    refine V_aload_n (pc1 := 128) 0 d11_acts_127 rfl rfl ?_
                    refine V_iload_n (pc1 := 129) 1 d11_acts_128 rfl rfl ?_
                    refine V_iload_n (pc1 := 130) 2 d11_acts_129 rfl rfl ?_
                    refine V_vv (pc1 := 133) (w11_suspends g  i x hi z hz4 I L hz) ly296 (lt305 rfl) s11_suspends l11_140 rfl rfl ⟨Nat.le_of_ble_eq_true rfl, Nat.le_of_ble_eq_true rfl, Nat.le_refl _, Nat.le_refl _⟩ (Nat.le_of_ble_eq_true rfl) rfl d11_acts_130 rfl ?_
                    refine V_goto (tgt := 200) d11_acts_133 (by decide) ?_
                    exact key14 _ (by first | rfl | (simp only [if_neg h1, if_neg h2, if_neg h6, if_neg h7, if_neg h9, if_neg h10, if_neg h11, if_neg h12, if_pos h13]; done) | (simp only [if_neg h1, if_neg h2, if_neg h6, if_neg h7, if_neg h9, if_neg h10, if_neg h11, if_neg h12, if_pos h13]; rfl)) _ (lvsub_p [0, 1, 2] rfl)
                  · skip
                    refine V_tsOut (tgt := 200) d11_acts_10 (fun i a b => by
                        have hh : i = 1 ∨ i = 2 ∨ i = 3 ∨ i = 4 ∨ i = 5 ∨ i = 6 ∨ i = 7 ∨ i = 8 ∨ i = 9 := by omega
                        rcases hh with rfl | rfl | rfl | rfl | rfl | rfl | rfl | rfl | rfl
                        · exact ts_ne (by decide) h1
                        · exact ts_ne (by decide) h2
                        · exact ts_ne (by decide) h6
                        · exact ts_ne (by decide) h7
                        · exact ts_ne (by decide) h9
                        · exact ts_ne (by decide) h10
                        · exact ts_ne (by decide) h11
                        · exact ts_ne (by decide) h12
                        · exact ts_ne (by decide) h13
                        ) (by decide) ?_
                    exact key14 _ (by first | rfl | (simp only [if_neg h1, if_neg h2, if_neg h6, if_neg h7, if_neg h9, if_neg h10, if_neg h11, if_neg h12, if_neg h13]; done) | (simp only [if_neg h1, if_neg h2, if_neg h6, if_neg h7, if_neg h9, if_neg h10, if_neg h11, if_neg h12, if_neg h13]; rfl)) _ (lvsub_p [0, 1, 2] rfl)
theorem w11_acts (g : GlT)  (i : Nat) (x : Int32) (hi : i < 4) (I : Nat → Nat → Int32) (L : Nat → Nat → Int64) (hA : aOK i I L) : Call g (k11_acts, 7, 0, 0) [.ref (xA g 296), .int (nI i), .int x] (I, L, R0, 305) (Qv (i11_acts i x I L) L) := Call.of (by decide) (Nat.le_of_ble_eq_true rfl) rfl (v11_acts g  i x hi I L hA _ (And.intro rfl rfl))

