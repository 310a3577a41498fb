theorem BR.row {t B : Nat} {C J J' : Nat → Nat → Int32} {D : Nat → Nat → Int64} (e : J' 297 = J 297) (h : BR t B C D J) : BR t B C D J' := by
  obtain ⟨h4, h1, hL, hN, hD, hV⟩ := h
  refine ⟨h4, by rw [e]; exact h1, hL.congr rfl (fun x _ _ => by rw [e]), fun i hi => (hN i hi).congr (fun _ _ _ _ _ => rfl) rfl rfl (fun s x _ _ _ => by rw [e]), hD.congr rfl (fun _ _ => rfl) (fun _ _ => rfl) (fun x _ _ => by rw [e]), fun j hj => by rw [e]; exact hV j hj⟩
/-- the row is beside some bus of the class, not later than b -/
def rB (b : Nat) (I : Nat → Nat → Int32) : Prop := ∃ t C D, t ≤ b ∧ BR t 1 C D I
theorem rB.K {b : Nat} {I : Nat → Nat → Int32} {L : Nat → Nat → Int64} (h : rB b I) : ∀ j, j < 4 → dK j I L ∧ aOK j I L := by
  obtain ⟨t, C, D, -, h⟩ := h
  exact fun j hj => ⟨(h.2.2.2.1 j hj).dK, (h.2.2.2.1 j hj).aOK⟩
theorem rB.D {b : Nat} {I : Nat → Nat → Int32} (h : rB b I) : ∃ d, d ≤ 8 ∧ I 297 1028 = nI d := by
  obtain ⟨t, C, D, -, h⟩ := h
  obtain ⟨d, d1, -, d3, -⟩ := h.2.2.2.2.1
  exact ⟨d, d1, d3⟩
theorem rB.T {b : Nat} {I : Nat → Nat → Int32} (h : rB b I) (hb : b < 2 ^ 30) : ∃ tt, tt < 2 ^ 30 ∧ I 297 1024 = nI tt := by
  obtain ⟨t, C, D, ht, h⟩ := h
  exact ⟨t, by omega, h.2.1⟩
theorem rB.bit {b : Nat} {I : Nat → Nat → Int32} {L : Nat → Nat → Int64} (h : rB b I) (hb : b < 2 ^ 27) : rB (b + 1) (i11_bit I L) := by
  obtain ⟨t, C, D, ht, h⟩ := h
  exact ⟨t + 1, _, _, by omega, BR.bit (by omega) h⟩
theorem rB.row {b : Nat} {I K : Nat → Nat → Int32} (h : rB b I) (e : K 297 = I 297) : rB b K := by
  obtain ⟨t, C, D, ht, h⟩ := h
  exact ⟨t, C, D, ht, h.row e⟩
theorem rB.V {b : Nat} {I : Nat → Nat → Int32} (h : rB b I) : rV I := by
  obtain ⟨t, C, D, -, h⟩ := h
  intro i hi
  obtain ⟨w, w1, -, w3, -⟩ := (h.2.2.2.1 i hi).1.2.2.2.2.2.2.1
  obtain ⟨r, r1, -, r3, -⟩ := (h.2.2.2.1 i hi).1.2.2.2.2.2.2.2.1
  obtain ⟨a, a1, -, a3, -⟩ := (h.2.2.2.1 i hi).1.2.2.2.2.2.2.2.2
  exact ⟨⟨w, w1, w3⟩, ⟨r, r1, r3⟩, a, a1, a3⟩

def r11_run_21 (x : Int32) : Nat → Nat → Nat → Int32 → (Nat → Nat → Int32) → (Nat → Nat → Int64) → Int32
  | 0, i, bn, z, I, L => (r11_sentByAll I L) - z
  | n + 1, i, bn, z, I, L => r11_run_21 x n (i + 1) bn z (i11_bit I L) L
def i11_run_21 (x : Int32) : Nat → Nat → Nat → Int32 → (Nat → Nat → Int32) → (Nat → Nat → Int64) → (Nat → Nat → Int32)
  | 0, i, bn, z, I, L => I
  | n + 1, i, bn, z, I, L => i11_run_21 x n (i + 1) bn z (i11_bit I L) L
set_option maxRecDepth 4000 in
theorem t11_run_21 (g : GlT)  (x : Int32) (b : Nat) (hb9 : b < 2 ^ 26) : ∀ (n i bn : Nat) (z : Int32) (I : Nat → Nat → Int32) (L : Nat → Nat → Int64), (hR : rB (b + i) I) → (hn : i + n = bn) → (hbn : bn ≤ 200) → ∀ (Q : Option Value → MemT → Prop), Q (some (.int (r11_run_21 x n i bn z I L))) (i11_run_21 x n i bn z I L, L, R0, 305) → V g (k11_run, 9, 0, 0) 0 0 21 [(0, .ref (xA g 296)), (1, .int (nI bn)), (2, .int z), (3, .int (nI i))] [] (I, L, R0, 305) Q := by
  intro n
  induction n with
  | zero =>
    intro i bn z I L hR hn hbn Q hq
    refine V_iload_n (pc1 := 22) 3 d11_run_21 rfl rfl ?_
    refine V_iload_n (pc1 := 23) 1 d11_run_22 rfl rfl ?_
    refine V_icmp_ge (tgt := 36) (pc1 := 26) d11_run_23 (by decide) rfl (fun _ => ?_) (fun h1 => absurd (nI_le (by omega) (by omega)) h1)
    refine V_aload_n (pc1 := 37) 0 d11_run_36 rfl rfl ?_
    refine V_vi (pc1 := 40) (w11_sentByAll g    I L ) ly296 (lt305 rfl) s11_sentByAll l11_175 rfl rfl ⟨Nat.le_of_ble_eq_true rfl, Nat.le_of_ble_eq_true rfl, Nat.le_refl _, Nat.le_refl _⟩ (Nat.le_of_ble_eq_true rfl) rfl d11_run_37 rfl ?_
    refine V_iload_n (pc1 := 41) 2 d11_run_40 rfl rfl ?_
    refine V_isub (pc1 := 42) d11_run_41 rfl ?_
    refine V_iret rfl d11_run_42 (Nat.zero_le _) (Nat.zero_le _) ?_
    have hq2 := hq
    simp only [r11_run_21, i11_run_21] at hq2
    exact hq2
  | succ n ih =>
    intro i bn z I L hR hn hbn Q hq
    refine V_iload_n (pc1 := 22) 3 d11_run_21 rfl rfl ?_
    refine V_iload_n (pc1 := 23) 1 d11_run_22 rfl rfl ?_
    refine V_icmp_ge (tgt := 36) (pc1 := 26) d11_run_23 (by decide) rfl (fun h1 => absurd h1 (nI_ge (by omega) (by omega))) (fun _ => ?_)
    refine V_aload_n (pc1 := 27) 0 d11_run_26 rfl rfl ?_
    refine V_vv (pc1 := 30) (w11_bit g    I L hR.K hR.D (hR.T (by omega))) ly296 (lt305 rfl) s11_bit l11_178 rfl rfl ⟨Nat.le_of_ble_eq_true rfl, Nat.le_of_ble_eq_true rfl, Nat.le_refl _, Nat.le_refl _⟩ (Nat.le_of_ble_eq_true rfl) rfl d11_run_27 rfl ?_
    refine V_iinc (pc1 := 33) 3 (v := nI (i + 1)) d11_run_30 rfl (nI_1 _) (Nat.le_of_ble_eq_true rfl) rfl rfl ?_
    refine V_goto (tgt := 21) d11_run_33 (by decide) ?_
    refine V_lv (lv1 := [(0, .ref (xA g 296)), (1, .int (nI bn)), (2, .int z), (3, .int (nI (i + 1)))]) (lvsub_p [1, 2, 3, 0] rfl) ?_
    have hq2 := hq
    simp only [r11_run_21, i11_run_21] at hq2
    exact ih (i + 1) bn z (i11_bit I L) L (hR.bit (by omega)) (by omega) hbn Q hq2
def r11_run (x : Int32) (I : Nat → Nat → Int32) (L : Nat → Nat → Int64) : Int32 := (if (r11_in x 1 200) = true then r11_run_21 x (x.toNatClampNeg) 0 (x.toNatClampNeg) (r11_sentByAll I L) I L else (-2))
def i11_run (x : Int32) (I : Nat → Nat → Int32) (L : Nat → Nat → Int64) : Nat → Nat → Int32 := (if (r11_in x 1 200) = true then i11_run_21 x (x.toNatClampNeg) 0 (x.toNatClampNeg) (r11_sentByAll I L) I L else I)
set_option maxRecDepth 4000 in
theorem v11_run (g : GlT)  (x : Int32) (b : Nat) (hb9 : b < 2 ^ 26) (I : Nat → Nat → Int32) (L : Nat → Nat → Int64) (hR : rB b I) (Q : Option Value → MemT → Prop) (hq : Q (some (.int (r11_run x I L))) (i11_run x I L, L, R0, 305)) : V g (k11_run, 9, 0, 0) 0 0 0 [(0, .ref (xA g 296)), (1, .int x)] [] (I, L, R0, 305) Q := by
  refine V_iload_n (pc1 := 1) 1 d11_run_0 rfl rfl ?_
  refine V_iconst (pc1 := 2) d11_run_1 vc_1 rfl ?_
  refine V_sipush (pc1 := 5) d11_run_2 vs_200 rfl ?_
  refine V_si (pc1 := 8) (w11_in g  x 1 200  I L ) s11_in l11_39 rfl rfl ⟨Nat.le_of_ble_eq_true rfl, Nat.le_of_ble_eq_true rfl, Nat.le_refl _, Nat.le_refl _⟩ (Nat.le_of_ble_eq_true rfl) rfl d11_run_5 rfl ?_
  refine V_bne (tgt := 14) (pc1 := 11) d11_run_8 (by decide) rfl (fun h1 => ?_) (fun h1 => ?_)
  · skip
    obtain ⟨bn, hbn, hbna, rfl⟩ := within_nat (a := 1) (b := 200) (by omega) (by omega) h1
    have hbn3 : (nI bn).toNatClampNeg = bn := nI_clamp (by omega)
    refine V_aload_n (pc1 := 15) 0 d11_run_14 rfl rfl ?_
    refine V_vi (pc1 := 18) (w11_sentByAll g    I L ) ly296 (lt305 rfl) s11_sentByAll l11_175 rfl rfl ⟨Nat.le_of_ble_eq_true rfl, Nat.le_of_ble_eq_true rfl, Nat.le_refl _, Nat.le_refl _⟩ (Nat.le_of_ble_eq_true rfl) rfl d11_run_15 rfl ?_
    refine V_istore_n (pc1 := 19) d11_run_18 (Nat.le_of_ble_eq_true rfl) rfl rfl ?_
    refine V_iconst (pc1 := 20) d11_run_19 vc_0 rfl ?_
    refine V_istore_n (pc1 := 21) d11_run_20 (Nat.le_of_ble_eq_true rfl) rfl rfl ?_
    refine V_lv (lv1 := [(0, .ref (xA g 296)), (1, .int (nI bn)), (2, .int (r11_sentByAll I L)), (3, .int (nI 0))]) (lvsub_p [2, 3, 1, 0] rfl) ?_
    have hq2 := hq
    simp only [r11_run, i11_run, if_pos h1, hbn3] at hq2
    exact t11_run_21 g  _ _ hb9 bn 0 bn (r11_sentByAll I L) I L hR (by omega) hbn Q hq2
  · skip
    refine V_bipush (pc1 := 13) d11_run_11 vb_m2 rfl ?_
    refine V_iret rfl d11_run_13 (Nat.zero_le _) (Nat.zero_le _) ?_
    have hq2 := hq
    simp only [r11_run, i11_run, if_neg h1] at hq2
    exact hq2
theorem w11_run (g : GlT)  (x : Int32) (b : Nat) (hb9 : b < 2 ^ 26) (I : Nat → Nat → Int32) (L : Nat → Nat → Int64) (hR : rB b I) : Call g (k11_run, 9, 0, 0) [.ref (xA g 296), .int x] (I, L, R0, 305) (Qi (r11_run x I L) (i11_run x I L) L) := Call.of (by decide) (Nat.le_of_ble_eq_true rfl) rfl (v11_run g  x b hb9 I L hR _ (And.intro rfl rfl))


def r11_settle_2 : Nat → Nat → (Nat → Nat → Int32) → (Nat → Nat → Int64) → Int32
  | 0, i, I, L => (if (r11_isSettled I L) = true then nI i else (-5))
  | n + 1, i, I, L => (if (r11_isSettled I L) = true then nI i else r11_settle_2  n (i + 1) (i11_bit I L) L)
def i11_settle_2 : Nat → Nat → (Nat → Nat → Int32) → (Nat → Nat → Int64) → (Nat → Nat → Int32)
  | 0, i, I, L => I
  | n + 1, i, I, L => (if (r11_isSettled I L) = true then I else i11_settle_2  n (i + 1) (i11_bit I L) L)
set_option maxRecDepth 4000 in
theorem t11_settle_2 (g : GlT)  (b : Nat) (hb9 : b < 2 ^ 26) : ∀ (n i : Nat) (I : Nat → Nat → Int32) (L : Nat → Nat → Int64), (hR : rB (b + i) I) → (hn : i + n = 1000) → ∀ (Q : Option Value → MemT → Prop), Q (some (.int (r11_settle_2 n i I L))) (i11_settle_2 n i I L, L, R0, 305) → V g (k11_settle, 9, 0, 0) 0 0 2 [(0, .ref (xA g 296)), (1, .int (nI i))] [] (I, L, R0, 305) Q := by
  intro n
  induction n with
  | zero =>
    intro i I L hR hn Q hq
    refine V_iload_n (pc1 := 3) 1 d11_settle_2 rfl rfl ?_
    refine V_sipush (pc1 := 6) d11_settle_3 vs_1000 rfl ?_
    refine V_icmp_ge (tgt := 26) (pc1 := 9) d11_settle_6 (by decide) rfl (fun _ => ?_) (fun h1 => absurd (by rw [show i = 1000 by omega]; decide) h1)
    refine V_aload_n (pc1 := 27) 0 d11_settle_26 rfl rfl ?_
    refine V_vi (pc1 := 30) (w11_isSettled g    I L ) ly296 (lt305 rfl) s11_isSettled l11_181 rfl rfl ⟨Nat.le_of_ble_eq_true rfl, Nat.le_of_ble_eq_true rfl, Nat.le_refl _, Nat.le_refl _⟩ (Nat.le_of_ble_eq_true rfl) rfl d11_settle_27 rfl ?_
    have key3 : ∀ (y39_0 : Int32), y39_0 = (if (r11_isSettled I L) = true then nI i else (-5)) → ∀ (lv : List (Nat × Value)), lvsub [(0, .ref (xA g 296)), (1, .int (nI i))] lv → V g (k11_settle, 9, 0, 0) 0 0 39 lv [.int y39_0] (I, L, R0, 305) Q := by
      intro y39_0 ey39_0
      subst ey39_0
      intro lv hlv
      refine V_lv hlv ?_
      refine V_iret rfl d11_settle_39 (Nat.zero_le _) (Nat.zero_le _) ?_
      have hq2 := hq
      simp only [r11_settle_2, i11_settle_2] at hq2
      exact hq2
    refine V_beq (tgt := 37) (pc1 := 33) d11_settle_30 (by decide) rfl (fun h2 => ?_) (fun h2 => ?_)
    · skip
      refine V_bipush (pc1 := 39) d11_settle_37 vb_m5 rfl ?_
      exact key3 _ (by first | rfl | (simp only [if_neg h2]; done) | (simp only [if_neg h2]; rfl)) _ (lvsub_p [0, 1] rfl)
    · skip
      refine V_iload_n (pc1 := 34) 1 d11_settle_33 rfl rfl ?_
      refine V_goto (tgt := 39) d11_settle_34 (by decide) ?_
      exact key3 _ (by first | rfl | (simp only [if_pos h2]; done) | (simp only [if_pos h2]; rfl)) _ (lvsub_p [0, 1] rfl)
  | succ n ih =>
    intro i I L hR hn Q hq
    refine V_iload_n (pc1 := 3) 1 d11_settle_2 rfl rfl ?_
    refine V_sipush (pc1 := 6) d11_settle_3 vs_1000 rfl ?_
    refine V_icmp_ge (tgt := 26) (pc1 := 9) d11_settle_6 (by decide) rfl (fun h1 => absurd h1 (nI_ge (b := 1000) (by omega) (by omega))) (fun _ => ?_)
    refine V_aload_n (pc1 := 10) 0 d11_settle_9 rfl rfl ?_
    refine V_vi (pc1 := 13) (w11_isSettled g    I L ) ly296 (lt305 rfl) s11_isSettled l11_181 rfl rfl ⟨Nat.le_of_ble_eq_true rfl, Nat.le_of_ble_eq_true rfl, Nat.le_refl _, Nat.le_refl _⟩ (Nat.le_of_ble_eq_true rfl) rfl d11_settle_10 rfl ?_
    refine V_bne (tgt := 26) (pc1 := 16) d11_settle_13 (by decide) rfl (fun h2 => ?_) (fun h2 => ?_)
    · skip
      refine V_aload_n (pc1 := 27) 0 d11_settle_26 rfl rfl ?_
      refine V_vi (pc1 := 30) (w11_isSettled g    I L ) ly296 (lt305 rfl) s11_isSettled l11_181 rfl rfl ⟨Nat.le_of_ble_eq_true rfl, Nat.le_of_ble_eq_true rfl, Nat.le_refl _, Nat.le_refl _⟩ (Nat.le_of_ble_eq_true rfl) rfl d11_settle_27 rfl ?_
      refine V_beq (tgt := 37) (pc1 := 33) d11_settle_30 (by decide) rfl (fun h3 => absurd h2 h3) (fun _ => ?_)
      refine V_iload_n (pc1 := 34) 1 d11_settle_33 rfl rfl ?_
      refine V_goto (tgt := 39) d11_settle_34 (by decide) ?_
      refine V_iret rfl d11_settle_39 (Nat.zero_le _) (Nat.zero_le _) ?_
      have hq2 := hq
      simp only [r11_settle_2, i11_settle_2, if_pos h2] at hq2
      exact hq2
    · skip
      refine V_aload_n (pc1 := 17) 0 d11_settle_16 rfl rfl ?_
      refine V_vv (pc1 := 20) (w11_bit g    I L hR.K hR.D (hR.T (by omega))) ly296 (lt305 rfl) s11_bit l11_178 rfl rfl ⟨Nat.le_of_ble_eq_true rfl, Nat.le_of_ble_eq_true rfl, Nat.le_refl _, Nat.le_refl _⟩ (Nat.le_of_ble_eq_true rfl) rfl d11_settle_17 rfl ?_
      refine V_iinc (pc1 := 23) 1 (v := nI (i + 1)) d11_settle_20 rfl (nI_1 _) (Nat.le_of_ble_eq_true rfl) rfl rfl ?_
      refine V_goto (tgt := 2) d11_settle_23 (by decide) ?_
      refine V_lv (lv1 := [(0, .ref (xA g 296)), (1, .int (nI (i + 1)))]) (lvsub_p [1, 0] rfl) ?_
      have hq2 := hq
      simp only [r11_settle_2, i11_settle_2, if_neg h2] at hq2
      exact ih (i + 1) (i11_bit I L) L (hR.bit (by omega)) (by omega) Q hq2
def r11_settle (I : Nat → Nat → Int32) (L : Nat → Nat → Int64) : Int32 := r11_settle_2  1000 0 I L
def i11_settle (I : Nat → Nat → Int32) (L : Nat → Nat → Int64) : Nat → Nat → Int32 := i11_settle_2  1000 0 I L
set_option maxRecDepth 4000 in
theorem v11_settle (g : GlT)  (b : Nat) (hb9 : b < 2 ^ 26) (I : Nat → Nat → Int32) (L : Nat → Nat → Int64) (hR : rB b I) (Q : Option Value → MemT → Prop) (hq : Q (some (.int (r11_settle I L))) (i11_settle I L, L, R0, 305)) : V g (k11_settle, 9, 0, 0) 0 0 0 [(0, .ref (xA g 296))] [] (I, L, R0, 305) Q := by
  refine V_iconst (pc1 := 1) d11_settle_0 vc_0 rfl ?_
  refine V_istore_n (pc1 := 2) d11_settle_1 (Nat.le_of_ble_eq_true rfl) rfl rfl ?_
  refine V_lv (lv1 := [(0, .ref (xA g 296)), (1, .int (nI 0))]) (lvsub_p [1, 0] rfl) ?_
  have hq2 := hq
  simp only [r11_settle, i11_settle] at hq2
  exact t11_settle_2 g   _ hb9 1000 0 I L hR rfl Q hq2
theorem w11_settle (g : GlT)  (b : Nat) (hb9 : b < 2 ^ 26) (I : Nat → Nat → Int32) (L : Nat → Nat → Int64) (hR : rB b I) : Call g (k11_settle, 9, 0, 0) [.ref (xA g 296)] (I, L, R0, 305) (Qi (r11_settle I L) (i11_settle I L) L) := Call.of (by decide) (Nat.le_of_ble_eq_true rfl) rfl (v11_settle g   b hb9 I L hR _ (And.intro rfl rfl))


def r11_bitsUntilSent_107 (nd : Int32) : Nat → Nat → Nat → Bool → (Nat → Nat → Int32) → (Nat → Nat → Int64) → Int32
  | 0, j, c, z, I, L => (if z = true then nI c else (-5))
  | n + 1, j, c, z, I, L => r11_bitsUntilSent_107 nd n (j + 1) c z (uI I 297 j (I 298 j)) L
def i11_bitsUntilSent_107 (nd : Int32) : Nat → Nat → Nat → Bool → (Nat → Nat → Int32) → (Nat → Nat → Int64) → (Nat → Nat → Int32)
  | 0, j, c, z, I, L => I
  | n + 1, j, c, z, I, L => i11_bitsUntilSent_107 nd n (j + 1) c z (uI I 297 j (I 298 j)) L
set_option maxRecDepth 4000 in
theorem t11_bitsUntilSent_107 (g : GlT)  (nd : Int32) (b : Nat) (hb9 : b < 2 ^ 26) : ∀ (n j c : Nat) (z : Bool) (I : Nat → Nat → Int32) (L : Nat → Nat → Int64), (hn : j + n = 1310) → ∀ (Q : Option Value → MemT → Prop), Q (some (.int (r11_bitsUntilSent_107 nd n j c z I L))) (i11_bitsUntilSent_107 nd n j c z I L, L, R0, 305) → V g (k11_bitsUntilSent, 9, 0, 0) 0 0 107 [(0, .ref (xA g 296)), (3, .int (nI c)), (4, .int (bI z)), (5, .int (nI j))] [] (I, L, R0, 305) Q := by
  intro n
  induction n with
  | zero =>
    intro j c z I L hn Q hq
    refine V_iload (pc1 := 109) 3 d11_bitsUntilSent_107 rfl rfl ?_
    refine V_sipush (pc1 := 112) d11_bitsUntilSent_109 vs_1310 rfl ?_
    refine V_icmp_ge (tgt := 135) (pc1 := 115) d11_bitsUntilSent_112 (by decide) rfl (fun _ => ?_) (fun h1 => absurd (nI_le (a := 1310) (by omega) (by omega)) h1)
    refine V_iload (pc1 := 137) 2 d11_bitsUntilSent_135 rfl rfl ?_
    have key3 : ∀ (y146_0 : Int32), y146_0 = (if z = true then nI c else (-5)) → ∀ (lv : List (Nat × Value)), lvsub [(0, .ref (xA g 296)), (3, .int (nI c)), (4, .int (bI z)), (5, .int (nI j))] lv → V g (k11_bitsUntilSent, 9, 0, 0) 0 0 146 lv [.int y146_0] (I, L, R0, 305) Q := by
      intro y146_0 ey146_0
      subst ey146_0
      intro lv hlv
      refine V_lv hlv ?_
      refine V_iret rfl d11_bitsUntilSent_146 (Nat.zero_le _) (Nat.zero_le _) ?_
      have hq2 := hq
      simp only [r11_bitsUntilSent_107, i11_bitsUntilSent_107] at hq2
      exact hq2
    refine V_beq (tgt := 144) (pc1 := 140) d11_bitsUntilSent_137 (by decide) rfl (fun h2 => ?_) (fun h2 => ?_)
    · skip
      refine V_bipush (pc1 := 146) d11_bitsUntilSent_144 vb_m5 rfl ?_
      exact key3 _ (by first | rfl | (simp only [if_neg h2]; done) | (simp only [if_neg h2]; rfl)) _ (lvsub_p [0, 1, 2, 3] rfl)
    · skip
      refine V_iload_n (pc1 := 141) 1 d11_bitsUntilSent_140 rfl rfl ?_
      refine V_goto (tgt := 146) d11_bitsUntilSent_141 (by decide) ?_
      exact key3 _ (by first | rfl | (simp only [if_pos h2]; done) | (simp only [if_pos h2]; rfl)) _ (lvsub_p [0, 1, 2, 3] rfl)
  | succ n ih =>
    intro j c z I L hn Q hq
    refine V_iload (pc1 := 109) 3 d11_bitsUntilSent_107 rfl rfl ?_
    refine V_sipush (pc1 := 112) d11_bitsUntilSent_109 vs_1310 rfl ?_
    refine V_icmp_ge (tgt := 135) (pc1 := 115) d11_bitsUntilSent_112 (by decide) rfl (fun h1 => absurd h1 (nI_ge (b := 1310) (by omega) (by omega))) (fun _ => ?_)
    refine V_aload_n (pc1 := 116) 0 d11_bitsUntilSent_115 rfl rfl ?_
    refine V_getr (pc1 := 119) ly296 (lt305 rfl) f11_7 (fun _ => rfl) rf296_0 d11_bitsUntilSent_116 rfl ?_
    refine V_iload (pc1 := 121) 3 d11_bitsUntilSent_119 rfl rfl ?_
    refine V_aload_n (pc1 := 122) 0 d11_bitsUntilSent_121 rfl rfl ?_
    refine V_getr (pc1 := 125) ly296 (lt305 rfl) f11_13 (fun _ => rfl) rf296_1 d11_bitsUntilSent_122 rfl ?_
    refine V_iload (pc1 := 127) 3 d11_bitsUntilSent_125 rfl rfl ?_
    refine V_iald2 (pc1 := 128) j ly298 (lt305 rfl) rfl (by omega) rfl d11_bitsUntilSent_127 rfl ?_
    refine V_iast (pc1 := 129) j ly297 (lt305 rfl) rfl (by omega) d11_bitsUntilSent_128 rfl ?_
    refine V_iinc (pc1 := 132) 3 (v := nI (j + 1)) d11_bitsUntilSent_129 rfl (nI_1 _) (Nat.le_of_ble_eq_true rfl) rfl rfl ?_
    refine V_goto (tgt := 107) d11_bitsUntilSent_132 (by decide) ?_
    refine V_lv (lv1 := [(0, .ref (xA g 296)), (3, .int (nI c)), (4, .int (bI z)), (5, .int (nI (j + 1)))]) (lvsub_p [1, 2, 3, 0] rfl) ?_
    have hq2 := hq
    simp only [r11_bitsUntilSent_107, i11_bitsUntilSent_107] at hq2
    exact ih (j + 1) c z (uI I 297 j (I 298 j)) L (by omega) Q hq2
def r11_bitsUntilSent_50 (nd : Int32) : Nat → Nat → Nat → Int32 → (Nat → Nat → Int32) → (Nat → Nat → Int64) → Int32
  | 0, c, ni, y, I, L => r11_bitsUntilSent_107 nd 1310 0 c (if I 297 (256 * ni + 14) ≤ y then false else true) I L
  | n + 1, c, ni, y, I, L => (if I 297 (256 * ni + 14) = y then r11_bitsUntilSent_50 nd n (c + 1) ni y (i11_bit I L) L else r11_bitsUntilSent_107 nd 1310 0 c (if I 297 (256 * ni + 14) ≤ y then false else true) I L)
def i11_bitsUntilSent_50 (nd : Int32) : Nat → Nat → Nat → Int32 → (Nat → Nat → Int32) → (Nat → Nat → Int64) → (Nat → Nat → Int32)
  | 0, c, ni, y, I, L => i11_bitsUntilSent_107 nd 1310 0 c (if I 297 (256 * ni + 14) ≤ y then false else true) I L
  | n + 1, c, ni, y, I, L => (if I 297 (256 * ni + 14) = y then i11_bitsUntilSent_50 nd n (c + 1) ni y (i11_bit I L) L else i11_bitsUntilSent_107 nd 1310 0 c (if I 297 (256 * ni + 14) ≤ y then false else true) I L)
set_option maxRecDepth 4000 in
theorem t11_bitsUntilSent_50 (g : GlT)  (nd : Int32) (b : Nat) (hb9 : b < 2 ^ 26) : ∀ (n c ni : Nat) (y : Int32) (I : Nat → Nat → Int32) (L : Nat → Nat → Int64), (hni : ni < 4) → (hR : rB (b + c) I) → (hn : c + n = 1000) → ∀ (Q : Option Value → MemT → Prop), Q (some (.int (r11_bitsUntilSent_50 nd n c ni y I L))) (i11_bitsUntilSent_50 nd n c ni y I L, L, R0, 305) → V g (k11_bitsUntilSent, 9, 0, 0) 0 0 50 [(0, .ref (xA g 296)), (1, .int (nI ni)), (2, .int y), (3, .int (nI c))] [] (I, L, R0, 305) Q := by
  intro n
  induction n with
  | zero =>
    intro c ni y I L hni hR hn Q hq
    refine V_iload_n (pc1 := 51) 3 d11_bitsUntilSent_50 rfl rfl ?_
    refine V_sipush (pc1 := 54) d11_bitsUntilSent_51 vs_1000 rfl ?_
    refine V_icmp_ge (tgt := 82) (pc1 := 57) d11_bitsUntilSent_54 (by decide) rfl (fun _ => ?_) (fun h1 => absurd (by rw [show c = 1000 by omega]; decide) h1)
    refine V_aload_n (pc1 := 83) 0 d11_bitsUntilSent_82 rfl rfl ?_
    refine V_getr (pc1 := 86) ly296 (lt305 rfl) f11_7 (fun _ => rfl) rf296_0 d11_bitsUntilSent_83 rfl ?_
    refine V_iload_n (pc1 := 87) 1 d11_bitsUntilSent_86 rfl rfl ?_
    refine V_bipush (pc1 := 89) d11_bitsUntilSent_87 vb_14 rfl ?_
    refine V_si (pc1 := 92) (w11_at2 g  ni 14 (256 * ni + 14) (by omega) I L ) s11_at l11_35 rfl rfl ⟨Nat.le_of_ble_eq_true rfl, Nat.le_of_ble_eq_true rfl, Nat.le_refl _, Nat.le_refl _⟩ (Nat.le_of_ble_eq_true rfl) rfl d11_bitsUntilSent_89 rfl ?_
    refine V_iald2 (pc1 := 93) (256 * ni + 14) ly297 (lt305 rfl) rfl (by omega) rfl d11_bitsUntilSent_92 rfl ?_
    refine V_iload_n (pc1 := 94) 2 d11_bitsUntilSent_93 rfl rfl ?_
    have key3 : ∀ (y102_0 : Int32), y102_0 = bI (if I 297 (256 * ni + 14) ≤ y then false else true) → ∀ (lv : List (Nat × Value)), lvsub [(0, .ref (xA g 296)), (1, .int (nI ni)), (2, .int y), (3, .int (nI c))] lv → V g (k11_bitsUntilSent, 9, 0, 0) 0 0 102 lv [.int y102_0] (I, L, R0, 305) Q := by
      intro y102_0 ey102_0
      subst ey102_0
      intro lv hlv
      refine V_lv hlv ?_
      refine V_istore (pc1 := 104) d11_bitsUntilSent_102 (Nat.le_of_ble_eq_true rfl) rfl rfl ?_
      refine V_iconst (pc1 := 105) d11_bitsUntilSent_104 vc_0 rfl ?_
      refine V_istore (pc1 := 107) d11_bitsUntilSent_105 (Nat.le_of_ble_eq_true rfl) rfl rfl ?_
      refine V_lv (lv1 := [(0, .ref (xA g 296)), (3, .int (nI c)), (4, .int (bI (if I 297 (256 * ni + 14) ≤ y then false else true))), (5, .int (nI 0))]) (lvsub_p [2, 5, 1, 0] rfl) ?_
      have hq2 := hq
      simp only [r11_bitsUntilSent_50, i11_bitsUntilSent_50] at hq2
      exact t11_bitsUntilSent_107 g  _ _ hb9 1310 0 c (if I 297 (256 * ni + 14) ≤ y then false else true) I L rfl Q hq2
    refine V_icmp_le (tgt := 101) (pc1 := 97) d11_bitsUntilSent_94 (by decide) rfl (fun h2 => ?_) (fun h2 => ?_)
    · skip
      refine V_iconst (pc1 := 102) d11_bitsUntilSent_101 vc_0 rfl ?_
      exact key3 _ (by first | rfl | (simp only [if_pos h2]; done) | (simp only [if_pos h2]; rfl)) _ (lvsub_p [0, 1, 2, 3] rfl)
    · skip
      refine V_iconst (pc1 := 98) d11_bitsUntilSent_97 vc_1 rfl ?_
      refine V_goto (tgt := 102) d11_bitsUntilSent_98 (by decide) ?_
      exact key3 _ (by first | rfl | (simp only [if_neg h2]; done) | (simp only [if_neg h2]; rfl)) _ (lvsub_p [0, 1, 2, 3] rfl)
  | succ n ih =>
    intro c ni y I L hni hR hn Q hq
    refine V_iload_n (pc1 := 51) 3 d11_bitsUntilSent_50 rfl rfl ?_
    refine V_sipush (pc1 := 54) d11_bitsUntilSent_51 vs_1000 rfl ?_
    refine V_icmp_ge (tgt := 82) (pc1 := 57) d11_bitsUntilSent_54 (by decide) rfl (fun h1 => absurd h1 (nI_ge (b := 1000) (by omega) (by omega))) (fun _ => ?_)
    refine V_aload_n (pc1 := 58) 0 d11_bitsUntilSent_57 rfl rfl ?_
    refine V_getr (pc1 := 61) ly296 (lt305 rfl) f11_7 (fun _ => rfl) rf296_0 d11_bitsUntilSent_58 rfl ?_
    refine V_iload_n (pc1 := 62) 1 d11_bitsUntilSent_61 rfl rfl ?_
    refine V_bipush (pc1 := 64) d11_bitsUntilSent_62 vb_14 rfl ?_
    refine V_si (pc1 := 67) (w11_at2 g  ni 14 (256 * ni + 14) (by omega) I L ) s11_at l11_35 rfl rfl ⟨Nat.le_of_ble_eq_true rfl, Nat.le_of_ble_eq_true rfl, Nat.le_refl _, Nat.le_refl _⟩ (Nat.le_of_ble_eq_true rfl) rfl d11_bitsUntilSent_64 rfl ?_
    refine V_iald2 (pc1 := 68) (256 * ni + 14) ly297 (lt305 rfl) rfl (by omega) rfl d11_bitsUntilSent_67 rfl ?_
    refine V_iload_n (pc1 := 69) 2 d11_bitsUntilSent_68 rfl rfl ?_
    refine V_icmp_ne (tgt := 82) (pc1 := 72) d11_bitsUntilSent_69 (by decide) rfl (fun h2 => ?_) (fun h2 => ?_)
    · skip
      refine V_aload_n (pc1 := 83) 0 d11_bitsUntilSent_82 rfl rfl ?_
      refine V_getr (pc1 := 86) ly296 (lt305 rfl) f11_7 (fun _ => rfl) rf296_0 d11_bitsUntilSent_83 rfl ?_
      refine V_iload_n (pc1 := 87) 1 d11_bitsUntilSent_86 rfl rfl ?_
      refine V_bipush (pc1 := 89) d11_bitsUntilSent_87 vb_14 rfl ?_
      refine V_si (pc1 := 92) (w11_at2 g  ni 14 (256 * ni + 14) (by omega) I L ) s11_at l11_35 rfl rfl ⟨Nat.le_of_ble_eq_true rfl, Nat.le_of_ble_eq_true rfl, Nat.le_refl _, Nat.le_refl _⟩ (Nat.le_of_ble_eq_true rfl) rfl d11_bitsUntilSent_89 rfl ?_
      refine V_iald2 (pc1 := 93) (256 * ni + 14) ly297 (lt305 rfl) rfl (by omega) rfl d11_bitsUntilSent_92 rfl ?_
      refine V_iload_n (pc1 := 94) 2 d11_bitsUntilSent_93 rfl rfl ?_
      have key4 : ∀ (y102_0 : Int32), y102_0 = bI (if I 297 (256 * ni + 14) ≤ y then false else true) → ∀ (lv : List (Nat × Value)), lvsub [(0, .ref (xA g 296)), (1, .int (nI ni)), (2, .int y), (3, .int (nI c))] lv → V g (k11_bitsUntilSent, 9, 0, 0) 0 0 102 lv [.int y102_0] (I, L, R0, 305) Q := by
        intro y102_0 ey102_0
        subst ey102_0
        intro lv hlv
        refine V_lv hlv ?_
        refine V_istore (pc1 := 104) d11_bitsUntilSent_102 (Nat.le_of_ble_eq_true rfl) rfl rfl ?_
        refine V_iconst (pc1 := 105) d11_bitsUntilSent_104 vc_0 rfl ?_
        refine V_istore (pc1 := 107) d11_bitsUntilSent_105 (Nat.le_of_ble_eq_true rfl) rfl rfl ?_
        refine V_lv (lv1 := [(0, .ref (xA g 296)), (3, .int (nI c)), (4, .int (bI (if I 297 (256 * ni + 14) ≤ y then false else true))), (5, .int (nI 0))]) (lvsub_p [2, 5, 1, 0] rfl) ?_
        have hq2 := hq
        simp only [r11_bitsUntilSent_50, i11_bitsUntilSent_50, if_neg h2] at hq2
        exact t11_bitsUntilSent_107 g  _ _ hb9 1310 0 c (if I 297 (256 * ni + 14) ≤ y then false else true) I L rfl Q hq2
      refine V_icmp_le (tgt := 101) (pc1 := 97) d11_bitsUntilSent_94 (by decide) rfl (fun h3 => ?_) (fun h3 => ?_)
      · skip
        refine V_iconst (pc1 := 102) d11_bitsUntilSent_101 vc_0 rfl ?_
        exact key4 _ (by first | rfl | (simp only [if_pos h3]; done) | (simp only [if_pos h3]; rfl)) _ (lvsub_p [0, 1, 2, 3] rfl)
      · skip
        refine V_iconst (pc1 := 98) d11_bitsUntilSent_97 vc_1 rfl ?_
        refine V_goto (tgt := 102) d11_bitsUntilSent_98 (by decide) ?_
        exact key4 _ (by first | rfl | (simp only [if_neg h3]; done) | (simp only [if_neg h3]; rfl)) _ (lvsub_p [0, 1, 2, 3] rfl)
    · skip
      refine V_aload_n (pc1 := 73) 0 d11_bitsUntilSent_72 rfl rfl ?_
      refine V_vv (pc1 := 76) (w11_bit g    I L hR.K hR.D (hR.T (by omega))) ly296 (lt305 rfl) s11_bit l11_178 rfl rfl ⟨Nat.le_of_ble_eq_true rfl, Nat.le_of_ble_eq_true rfl, Nat.le_refl _, Nat.le_refl _⟩ (Nat.le_of_ble_eq_true rfl) rfl d11_bitsUntilSent_73 rfl ?_
      refine V_iinc (pc1 := 79) 3 (v := nI (c + 1)) d11_bitsUntilSent_76 rfl (nI_1 _) (Nat.le_of_ble_eq_true rfl) rfl rfl ?_
      refine V_goto (tgt := 50) d11_bitsUntilSent_79 (by decide) ?_
      refine V_lv (lv1 := [(0, .ref (xA g 296)), (1, .int (nI ni)), (2, .int y), (3, .int (nI (c + 1)))]) (lvsub_p [1, 2, 3, 0] rfl) ?_
      have hq2 := hq
      simp only [r11_bitsUntilSent_50, i11_bitsUntilSent_50, if_pos h2] at hq2
      exact ih (c + 1) ni y (i11_bit I L) L hni (hR.bit (by omega)) (by omega) Q hq2
def r11_bitsUntilSent_11 (nd : Int32) : Nat → Nat → Nat → (Nat → Nat → Int32) → (Nat → Nat → Int64) → Int32
  | 0, j, ni, I, L => r11_bitsUntilSent_50 nd 1000 0 ni (I 297 (256 * ni + 14)) I L
  | n + 1, j, ni, I, L => r11_bitsUntilSent_11 nd n (j + 1) ni (uI I 298 j (I 297 j)) L
def i11_bitsUntilSent_11 (nd : Int32) : Nat → Nat → Nat → (Nat → Nat → Int32) → (Nat → Nat → Int64) → (Nat → Nat → Int32)
  | 0, j, ni, I, L => i11_bitsUntilSent_50 nd 1000 0 ni (I 297 (256 * ni + 14)) I L
  | n + 1, j, ni, I, L => i11_bitsUntilSent_11 nd n (j + 1) ni (uI I 298 j (I 297 j)) L
set_option maxRecDepth 4000 in
theorem t11_bitsUntilSent_11 (g : GlT)  (nd : Int32) (b : Nat) (hb9 : b < 2 ^ 26) : ∀ (n j ni : Nat) (I : Nat → Nat → Int32) (L : Nat → Nat → Int64), (hni : ni < 4) → (hR : rB b I) → (hn : j + n = 1310) → ∀ (Q : Option Value → MemT → Prop), Q (some (.int (r11_bitsUntilSent_11 nd n j ni I L))) (i11_bitsUntilSent_11 nd n j ni I L, L, R0, 305) → V g (k11_bitsUntilSent, 9, 0, 0) 0 0 11 [(0, .ref (xA g 296)), (1, .int (nI ni)), (2, .int (nI j))] [] (I, L, R0, 305) Q := by
  intro n
  induction n with
  | zero =>
    intro j ni I L hni hR hn Q hq
    refine V_iload_n (pc1 := 12) 2 d11_bitsUntilSent_11 rfl rfl ?_
    refine V_sipush (pc1 := 15) d11_bitsUntilSent_12 vs_1310 rfl ?_
    refine V_icmp_ge (tgt := 36) (pc1 := 18) d11_bitsUntilSent_15 (by decide) rfl (fun _ => ?_) (fun h1 => absurd (nI_le (a := 1310) (by omega) (by omega)) h1)
    refine V_aload_n (pc1 := 37) 0 d11_bitsUntilSent_36 rfl rfl ?_
    refine V_getr (pc1 := 40) ly296 (lt305 rfl) f11_7 (fun _ => rfl) rf296_0 d11_bitsUntilSent_37 rfl ?_
    refine V_iload_n (pc1 := 41) 1 d11_bitsUntilSent_40 rfl rfl ?_
    refine V_bipush (pc1 := 43) d11_bitsUntilSent_41 vb_14 rfl ?_
    refine V_si (pc1 := 46) (w11_at2 g  ni 14 (256 * ni + 14) (by omega) I L ) s11_at l11_35 rfl rfl ⟨Nat.le_of_ble_eq_true rfl, Nat.le_of_ble_eq_true rfl, Nat.le_refl _, Nat.le_refl _⟩ (Nat.le_of_ble_eq_true rfl) rfl d11_bitsUntilSent_43 rfl ?_
    refine V_iald2 (pc1 := 47) (256 * ni + 14) ly297 (lt305 rfl) rfl (by omega) rfl d11_bitsUntilSent_46 rfl ?_
    refine V_istore_n (pc1 := 48) d11_bitsUntilSent_47 (Nat.le_of_ble_eq_true rfl) rfl rfl ?_
    refine V_iconst (pc1 := 49) d11_bitsUntilSent_48 vc_0 rfl ?_
    refine V_istore_n (pc1 := 50) d11_bitsUntilSent_49 (Nat.le_of_ble_eq_true rfl) rfl rfl ?_
    refine V_lv (lv1 := [(0, .ref (xA g 296)), (1, .int (nI ni)), (2, .int (I 297 (256 * ni + 14))), (3, .int (nI 0))]) (lvsub_p [2, 3, 1, 0] rfl) ?_
    have hq2 := hq
    simp only [r11_bitsUntilSent_11, i11_bitsUntilSent_11] at hq2
    exact t11_bitsUntilSent_50 g  _ _ hb9 1000 0 ni (I 297 (256 * ni + 14)) I L hni hR rfl Q hq2
  | succ n ih =>
    intro j ni I L hni hR hn Q hq
    refine V_iload_n (pc1 := 12) 2 d11_bitsUntilSent_11 rfl rfl ?_
    refine V_sipush (pc1 := 15) d11_bitsUntilSent_12 vs_1310 rfl ?_
    refine V_icmp_ge (tgt := 36) (pc1 := 18) d11_bitsUntilSent_15 (by decide) rfl (fun h1 => absurd h1 (nI_ge (b := 1310) (by omega) (by omega))) (fun _ => ?_)
    refine V_aload_n (pc1 := 19) 0 d11_bitsUntilSent_18 rfl rfl ?_
    refine V_getr (pc1 := 22) ly296 (lt305 rfl) f11_13 (fun _ => rfl) rf296_1 d11_bitsUntilSent_19 rfl ?_
    refine V_iload_n (pc1 := 23) 2 d11_bitsUntilSent_22 rfl rfl ?_
    refine V_aload_n (pc1 := 24) 0 d11_bitsUntilSent_23 rfl rfl ?_
    refine V_getr (pc1 := 27) ly296 (lt305 rfl) f11_7 (fun _ => rfl) rf296_0 d11_bitsUntilSent_24 rfl ?_
    refine V_iload_n (pc1 := 28) 2 d11_bitsUntilSent_27 rfl rfl ?_
    refine V_iald2 (pc1 := 29) j ly297 (lt305 rfl) rfl (by omega) rfl d11_bitsUntilSent_28 rfl ?_
    refine V_iast (pc1 := 30) j ly298 (lt305 rfl) rfl (by omega) d11_bitsUntilSent_29 rfl ?_
    refine V_iinc (pc1 := 33) 2 (v := nI (j + 1)) d11_bitsUntilSent_30 rfl (nI_1 _) (Nat.le_of_ble_eq_true rfl) rfl rfl ?_
    refine V_goto (tgt := 11) d11_bitsUntilSent_33 (by decide) ?_
    refine V_lv (lv1 := [(0, .ref (xA g 296)), (1, .int (nI ni)), (2, .int (nI (j + 1)))]) (lvsub_p [1, 2, 0] rfl) ?_
    have hq2 := hq
    simp only [r11_bitsUntilSent_11, i11_bitsUntilSent_11] at hq2
    exact ih (j + 1) ni (uI I 298 j (I 297 j)) L hni (hR.row (uI_off _ _ _ (by decide))) (by omega) Q hq2
def r11_bitsUntilSent (nd : Int32) (I : Nat → Nat → Int32) (L : Nat → Nat → Int64) : Int32 := (if (r11_isNode nd) = true then r11_bitsUntilSent_11 nd 1310 0 (nd.toNatClampNeg) I L else (-1))
def i11_bitsUntilSent (nd : Int32) (I : Nat → Nat → Int32) (L : Nat → Nat → Int64) : Nat → Nat → Int32 := (if (r11_isNode nd) = true then i11_bitsUntilSent_11 nd 1310 0 (nd.toNatClampNeg) I L else I)
set_option maxRecDepth 4000 in
theorem v11_bitsUntilSent (g : GlT)  (nd : Int32) (b : Nat) (hb9 : b < 2 ^ 26) (I : Nat → Nat → Int32) (L : Nat → Nat → Int64) (hR : rB b I) (Q : Option Value → MemT → Prop) (hq : Q (some (.int (r11_bitsUntilSent nd I L))) (i11_bitsUntilSent nd I L, L, R0, 305)) : V g (k11_bitsUntilSent, 9, 0, 0) 0 0 0 [(0, .ref (xA g 296)), (1, .int nd)] [] (I, L, R0, 305) Q := by
  refine V_iload_n (pc1 := 1) 1 d11_bitsUntilSent_0 rfl rfl ?_
  refine V_si (pc1 := 4) (w11_isNode g  nd  I L ) s11_isNode l11_66 rfl rfl ⟨Nat.le_of_ble_eq_true rfl, Nat.le_of_ble_eq_true rfl, Nat.le_refl _, Nat.le_refl _⟩ (Nat.le_of_ble_eq_true rfl) rfl d11_bitsUntilSent_1 rfl ?_
  refine V_bne (tgt := 9) (pc1 := 7) d11_bitsUntilSent_4 (by decide) rfl (fun h1 => ?_) (fun h1 => ?_)
  · skip
    obtain ⟨ni, hni, rfl⟩ := isNode11 h1
    have hn3 : (nI ni).toNatClampNeg = ni := nI_clamp (by omega)
    refine V_iconst (pc1 := 10) d11_bitsUntilSent_9 vc_0 rfl ?_
    refine V_istore_n (pc1 := 11) d11_bitsUntilSent_10 (Nat.le_of_ble_eq_true rfl) rfl rfl ?_
    refine V_lv (lv1 := [(0, .ref (xA g 296)), (1, .int (nI ni)), (2, .int (nI 0))]) (lvsub_p [1, 2, 0] rfl) ?_
    have hq2 := hq
    simp only [r11_bitsUntilSent, i11_bitsUntilSent, if_pos h1, hn3] at hq2
    exact t11_bitsUntilSent_11 g  _ _ hb9 1310 0 ni I L hni hR rfl Q hq2
  · skip
    refine V_iconst (pc1 := 8) d11_bitsUntilSent_7 vc_m1 rfl ?_
    refine V_iret rfl d11_bitsUntilSent_8 (Nat.zero_le _) (Nat.zero_le _) ?_
    have hq2 := hq
    simp only [r11_bitsUntilSent, i11_bitsUntilSent, if_neg h1] at hq2
    exact hq2
theorem w11_bitsUntilSent (g : GlT)  (nd : Int32) (b : Nat) (hb9 : b < 2 ^ 26) (I : Nat → Nat → Int32) (L : Nat → Nat → Int64) (hR : rB b I) : Call g (k11_bitsUntilSent, 9, 0, 0) [.ref (xA g 296), .int nd] (I, L, R0, 305) (Qi (r11_bitsUntilSent nd I L) (i11_bitsUntilSent nd I L) L) := Call.of (by decide) (Nat.le_of_ble_eq_true rfl) rfl (v11_bitsUntilSent g  nd b hb9 I L hR _ (And.intro rfl rfl))

