theorem ix_of {z : Int32} {n : Nat} (hn : n < 2 ^ 31) (h0 : ¬ z < 0) (h1 : ¬ nI n ≤ z) : z = nI z.toNatClampNeg ∧ z.toNatClampNeg < n := by
  obtain ⟨j, hj, rfl⟩ := nI_of h0
  rw [nI_clamp hj]
  refine ⟨rfl, ?_⟩
  rcases Nat.lt_or_ge j n with h | h
  · exact h
  · exact absurd (nI_le h hj) h1
theorem nlt_of_lt {x y : Int32} (h : x < y) : ¬ y ≤ x := by
  rw [Int32.le_iff_toInt_le]
  rw [Int32.lt_iff_toInt_lt] at h
  omega

def i0_copyFrom_13 (k : Nat) (k2 : Nat) : Nat → Nat → (Nat → Nat → Int32) → (Nat → Nat → Int64) → (Nat → Nat → Int32)
  | 0, i, I, L => uI (va_up (i1_copyFrom (k + 67) (k2 + 67) I L) (k + 70) (va_cpy ((i1_copyFrom (k + 67) (k2 + 67) I L) (k2 + 70)) ((i1_copyFrom (k + 67) (k2 + 67) I L) (k + 70)) 0 0 256)) k 4 (I k2 4)
  | n + 1, i, I, L => i0_copyFrom_13 k k2 n (i + 1) (i6_copyFrom (k + 3 + 16 * i) (k + 1) (k2 + 3 + 16 * i) (k2 + 1) I L) (m6_copyFrom (k + 3 + 16 * i) (k + 1) (k2 + 3 + 16 * i) (k2 + 1) I L)
def m0_copyFrom_13 (k : Nat) (k2 : Nat) : Nat → Nat → (Nat → Nat → Int32) → (Nat → Nat → Int64) → (Nat → Nat → Int64)
  | 0, i, I, L => L
  | n + 1, i, I, L => m0_copyFrom_13 k k2 n (i + 1) (i6_copyFrom (k + 3 + 16 * i) (k + 1) (k2 + 3 + 16 * i) (k2 + 1) I L) (m6_copyFrom (k + 3 + 16 * i) (k + 1) (k2 + 3 + 16 * i) (k2 + 1) I L)
set_option maxRecDepth 4000 in
theorem t0_copyFrom_13 (g : GlT) {k : Nat} {k2 : Nat} (hk : okB k) (hk2 : okB k2) (hap : k + 71 ≤ k2 ∨ k2 + 71 ≤ k) : ∀ (n i : Nat) (I : Nat → Nat → Int32) (L : Nat → Nat → Int64), (hn : i + n = 4) → (hv : ∀ j, i ≤ j → j < 4 → nV (k2 + 3 + 16 * j) I ∧ nB (k2 + 3 + 16 * j) I) → ∀ (Q : Option Value → MemT → Prop), Q (none) (i0_copyFrom_13 k k2 n i I L, m0_copyFrom_13 k k2 n i I L, R0, 305) → V g (k0_copyFrom, 3, 0, 0) 0 0 13 [(0, .ref (xA g k)), (1, .ref (xA g k2)), (2, .int (nI i))] [] (I, L, R0, 305) Q := by
  intro n
  induction n with
  | zero =>
    intro i I L hn hv Q hq
    refine V_iload_n (pc1 := 14) 2 d0_copyFrom_13 rfl rfl ?_
    refine V_iconst (pc1 := 15) d0_copyFrom_14 vc_4 rfl ?_
    refine V_icmp_ge (tgt := 39) (pc1 := 18) d0_copyFrom_15 (by decide) rfl (fun _ => ?_) (fun h1 => absurd (by rw [show i = 4 by omega]; decide) h1)
    refine V_aload_n (pc1 := 40) 0 d0_copyFrom_39 rfl rfl ?_
    refine V_getr (pc1 := 43) (bs_l0 hk) (bs_b0 hk) f0_30 (fun _ => rfl) (bs_r0_2 hk) d0_copyFrom_40 rfl ?_
    refine V_aload_n (pc1 := 44) 1 d0_copyFrom_43 rfl rfl ?_
    refine V_getr (pc1 := 47) (bs_l0 hk2) (bs_b0 hk2) f0_30 (fun _ => rfl) (bs_r0_2 hk2) d0_copyFrom_44 rfl ?_
    refine V_vv (pc1 := 50) (w1_copyFrom g (bs_D67 hk) (bs_D67 hk2)  (by omega) I L ) (bs_l67 hk) (bs_b67 hk) s1_copyFrom l0_44 rfl rfl ⟨Nat.le_of_ble_eq_true rfl, Nat.le_of_ble_eq_true rfl, Nat.le_refl _, Nat.le_refl _⟩ (Nat.le_of_ble_eq_true rfl) rfl d0_copyFrom_47 rfl ?_
    refine V_aload_n (pc1 := 51) 1 d0_copyFrom_50 rfl rfl ?_
    refine V_getr (pc1 := 54) (bs_l0 hk2) (bs_b0 hk2) f0_34 (fun _ => rfl) (bs_r0_3 hk2) d0_copyFrom_51 rfl ?_
    refine V_iconst (pc1 := 55) d0_copyFrom_54 vc_0 rfl ?_
    refine V_aload_n (pc1 := 56) 0 d0_copyFrom_55 rfl rfl ?_
    refine V_getr (pc1 := 59) (bs_l0 hk) (bs_b0 hk) f0_34 (fun _ => rfl) (bs_r0_3 hk) d0_copyFrom_56 rfl ?_
    refine V_iconst (pc1 := 60) d0_copyFrom_59 vc_0 rfl ?_
    refine V_sipush (pc1 := 63) d0_copyFrom_60 vs_256 rfl ?_
    refine V_copy (pc1 := 66) 0 0 256 l0_47 jcpyN jcpyS jsysI (bs_l70 hk2) (bs_l70 hk) (bs_b70 hk2) (bs_b70 hk) rfl rfl rfl rfl (Nat.le_of_ble_eq_true rfl) (Nat.le_of_ble_eq_true rfl) (Nat.le_of_ble_eq_true rfl) (Nat.le_of_ble_eq_true rfl) d0_copyFrom_63 rfl ?_
    refine V_aload_n (pc1 := 67) 0 d0_copyFrom_66 rfl rfl ?_
    refine V_aload_n (pc1 := 68) 1 d0_copyFrom_67 rfl rfl ?_
    refine V_geti (pc1 := 71) (bs_l0 hk2) (bs_b0 hk2) f0_53 (fun _ => rfl) ((congrFun (va_up_ne _ _ (show (k2 : Nat) ≠ k + 70 by omega)) _).trans (congrFun (x1_copyFrom (I := I) (L := L) (show (k2 : Nat) ≠ k + 67 by omega) (show (k2 : Nat) ≠ k + 68 by omega) (show (k2 : Nat) ≠ k + 69 by omega)) _)) d0_copyFrom_68 rfl ?_
    refine V_puti (pc1 := 74) (bs_l0 hk) (bs_b0 hk) f0_53 rfl rfl d0_copyFrom_71 rfl ?_
    refine V_vret rfl d0_copyFrom_74 (Nat.zero_le _) (Nat.zero_le _) ?_
    have hq2 := hq
    simp only [i0_copyFrom_13, m0_copyFrom_13] at hq2
    exact hq2
  | succ n ih =>
    intro i I L hn hv Q hq
    refine V_iload_n (pc1 := 14) 2 d0_copyFrom_13 rfl rfl ?_
    refine V_iconst (pc1 := 15) d0_copyFrom_14 vc_4 rfl ?_
    refine V_icmp_ge (tgt := 39) (pc1 := 18) d0_copyFrom_15 (by decide) rfl (fun h1 => absurd h1 (nI_ge (b := 4) (by omega) (by omega))) (fun _ => ?_)
    refine V_aload_n (pc1 := 19) 0 d0_copyFrom_18 rfl rfl ?_
    refine V_getr (pc1 := 22) (bs_l0 hk) (bs_b0 hk) f0_20 (fun _ => rfl) (bs_r0_1 hk) d0_copyFrom_19 rfl ?_
    refine V_iload_n (pc1 := 23) 2 d0_copyFrom_22 rfl rfl ?_
    refine V_aald (pc1 := 24) i ((k + 3 + 16 * i)) (bs_l2 hk) (Or.inr rfl) (bs_b2 hk) rfl (by omega) (bs_ri hk (by omega)) d0_copyFrom_23 rfl ?_
    refine V_aload_n (pc1 := 25) 1 d0_copyFrom_24 rfl rfl ?_
    refine V_getr (pc1 := 28) (bs_l0 hk2) (bs_b0 hk2) f0_20 (fun _ => rfl) (bs_r0_1 hk2) d0_copyFrom_25 rfl ?_
    refine V_iload_n (pc1 := 29) 2 d0_copyFrom_28 rfl rfl ?_
    refine V_aald (pc1 := 30) i ((k2 + 3 + 16 * i)) (bs_l2 hk2) (Or.inr rfl) (bs_b2 hk2) rfl (by omega) (bs_ri hk2 (by omega)) d0_copyFrom_29 rfl ?_
    refine V_vv (pc1 := 33) (w6_copyFrom g (bs_Ni hk (by omega)) (bs_Ni hk2 (by omega))  (by omega) I L (hv i (Nat.le_refl _) (by omega)).1 (hv i (Nat.le_refl _) (by omega)).2) (nd_l0 (bs_Ni hk (by omega))) (nd_b0 (bs_Ni hk (by omega))) s6_copyFrom l0_41 rfl rfl ⟨Nat.le_of_ble_eq_true rfl, Nat.le_of_ble_eq_true rfl, Nat.le_refl _, Nat.le_refl _⟩ (Nat.le_of_ble_eq_true rfl) rfl d0_copyFrom_30 rfl ?_
    refine V_iinc (pc1 := 36) 2 (v := nI (i + 1)) d0_copyFrom_33 rfl (nI_1 _) (Nat.le_of_ble_eq_true rfl) rfl rfl ?_
    refine V_goto (tgt := 13) d0_copyFrom_36 (by decide) ?_
    refine V_lv (lv1 := [(0, .ref (xA g k)), (1, .ref (xA g k2)), (2, .int (nI (i + 1)))]) (lvsub_p [1, 2, 0] rfl) ?_
    have hq2 := hq
    simp only [i0_copyFrom_13, m0_copyFrom_13] at hq2
    exact ih (i + 1) (i6_copyFrom (k + 3 + 16 * i) (k + 1) (k2 + 3 + 16 * i) (k2 + 1) I L) (m6_copyFrom (k + 3 + 16 * i) (k + 1) (k2 + 3 + 16 * i) (k2 + 1) I L) (by omega) (fun j h1 h2 => ⟨nV.of1 (x6_copyFrom (by omega) (by omega) (by omega) (by omega) (by omega) (by omega) (by omega) (by omega) (by omega) (by omega) (by omega) (by omega) (by omega) (by omega) (by omega) (by omega)) (x6_copyFrom (by omega) (by omega) (by omega) (by omega) (by omega) (by omega) (by omega) (by omega) (by omega) (by omega) (by omega) (by omega) (by omega) (by omega) (by omega) (by omega)) (x6_copyFrom (by omega) (by omega) (by omega) (by omega) (by omega) (by omega) (by omega) (by omega) (by omega) (by omega) (by omega) (by omega) (by omega) (by omega) (by omega) (by omega)) (hv j (by omega) h2).1, nB.of (x6_copyFrom (by omega) (by omega) (by omega) (by omega) (by omega) (by omega) (by omega) (by omega) (by omega) (by omega) (by omega) (by omega) (by omega) (by omega) (by omega) (by omega)) (hv j (by omega) h2).2⟩) Q hq2
def i0_copyFrom (k : Nat) (k2 : Nat) (I : Nat → Nat → Int32) (L : Nat → Nat → Int64) : Nat → Nat → Int32 := i0_copyFrom_13 k k2 4 0 (i4_copyFrom (k + 1) (k2 + 1) I L) L
def m0_copyFrom (k : Nat) (k2 : Nat) (I : Nat → Nat → Int32) (L : Nat → Nat → Int64) : Nat → Nat → Int64 := m0_copyFrom_13 k k2 4 0 (i4_copyFrom (k + 1) (k2 + 1) I L) L
set_option maxRecDepth 4000 in
theorem v0_copyFrom (g : GlT) {k : Nat} {k2 : Nat} (hk : okB k) (hk2 : okB k2) (hap : k + 71 ≤ k2 ∨ k2 + 71 ≤ k) (I : Nat → Nat → Int32) (L : Nat → Nat → Int64) (hv : bV k2 I) (hb : ∀ i, i < 4 → nB (k2 + 3 + 16 * i) I) (Q : Option Value → MemT → Prop) (hq : Q (none) (i0_copyFrom k k2 I L, m0_copyFrom k k2 I L, R0, 305)) : V g (k0_copyFrom, 3, 0, 0) 0 0 0 [(0, .ref (xA g k)), (1, .ref (xA g k2))] [] (I, L, R0, 305) Q := by
  refine V_aload_n (pc1 := 1) 0 d0_copyFrom_0 rfl rfl ?_
  refine V_getr (pc1 := 4) (bs_l0 hk) (bs_b0 hk) f0_12 (fun _ => rfl) (bs_r0_0 hk) d0_copyFrom_1 rfl ?_
  refine V_aload_n (pc1 := 5) 1 d0_copyFrom_4 rfl rfl ?_
  refine V_getr (pc1 := 8) (bs_l0 hk2) (bs_b0 hk2) f0_12 (fun _ => rfl) (bs_r0_0 hk2) d0_copyFrom_5 rfl ?_
  refine V_vv (pc1 := 11) (w4_copyFrom g (bs_L1 hk) (bs_L1 hk2)  (by omega) I L ) (bs_l1 hk) (bs_b1 hk) s4_copyFrom l0_38 rfl rfl ⟨Nat.le_of_ble_eq_true rfl, Nat.le_of_ble_eq_true rfl, Nat.le_refl _, Nat.le_refl _⟩ (Nat.le_of_ble_eq_true rfl) rfl d0_copyFrom_8 rfl ?_
  refine V_iconst (pc1 := 12) d0_copyFrom_11 vc_0 rfl ?_
  refine V_istore_n (pc1 := 13) d0_copyFrom_12 (Nat.le_of_ble_eq_true rfl) rfl rfl ?_
  refine V_lv (lv1 := [(0, .ref (xA g k)), (1, .ref (xA g k2)), (2, .int (nI 0))]) (lvsub_p [1, 2, 0] rfl) ?_
  have hq2 := hq
  simp only [i0_copyFrom, m0_copyFrom] at hq2
  exact t0_copyFrom_13 g hk hk2  hap 4 0 (i4_copyFrom (k + 1) (k2 + 1) I L) L rfl (fun j _ hj => ⟨nV.of1 (x4_copyFrom (by omega)) (x4_copyFrom (by omega)) (x4_copyFrom (by omega)) (hv.1 j hj), nB.of (x4_copyFrom (by omega)) (hb j hj)⟩) Q hq2
theorem w0_copyFrom (g : GlT) {k : Nat} {k2 : Nat} (hk : okB k) (hk2 : okB k2) (hap : k + 71 ≤ k2 ∨ k2 + 71 ≤ k) (I : Nat → Nat → Int32) (L : Nat → Nat → Int64) (hv : bV k2 I) (hb : ∀ i, i < 4 → nB (k2 + 3 + 16 * i) I) : Call g (k0_copyFrom, 3, 0, 0) [.ref (xA g k), .ref (xA g k2)] (I, L, R0, 305) (Qv (i0_copyFrom k k2 I L) (m0_copyFrom k k2 I L)) := Call.of (by decide) (Nat.le_of_ble_eq_true rfl) rfl (v0_copyFrom g hk hk2  hap I L hv hb _ (And.intro rfl rfl))
theorem x0_copyFrom_13 {k k2 aa : Nat} (h : aa < k ∨ k + 71 ≤ aa) : ∀ (n i : Nat) (I : Nat → Nat → Int32) (L : Nat → Nat → Int64), i + n ≤ 4 → i0_copyFrom_13 k k2 n i I L aa = I aa := by
  intro n
  induction n with
  | zero =>
    intro i I L hi
    simp only [i0_copyFrom_13]
    rw [uI_off _ _ _ (by omega), va_up_ne _ _ (by omega), x1_copyFrom (by omega) (by omega) (by omega)]
  | succ n ih =>
    intro i I L hi
    simp only [i0_copyFrom_13]
    rw [ih _ _ _ (by omega), x6_copyFrom (by omega) (by omega) (by omega) (by omega) (by omega) (by omega) (by omega) (by omega) (by omega) (by omega) (by omega) (by omega) (by omega) (by omega) (by omega) (by omega)]
theorem x0_copyFrom {k k2 : Nat} {I : Nat → Nat → Int32} {L : Nat → Nat → Int64} {aa : Nat} (h : aa < k ∨ k + 71 ≤ aa) : i0_copyFrom k k2 I L aa = I aa := by
  unfold i0_copyFrom
  rw [x0_copyFrom_13 h _ _ _ _ (by omega), x4_copyFrom (by omega)]
theorem y0_copyFrom_13 {k k2 aa : Nat} (h : aa < k ∨ k + 71 ≤ aa) : ∀ (n i : Nat) (I : Nat → Nat → Int32) (L : Nat → Nat → Int64), i + n ≤ 4 → m0_copyFrom_13 k k2 n i I L aa = L aa := by
  intro n
  induction n with
  | zero => intro i I L hi; rfl
  | succ n ih =>
    intro i I L hi
    simp only [m0_copyFrom_13]
    rw [ih _ _ _ (by omega), y6_copyFrom (by omega) (by omega)]
theorem y0_copyFrom {k k2 : Nat} {I : Nat → Nat → Int32} {L : Nat → Nat → Int64} {aa : Nat} (h : aa < k ∨ k + 71 ≤ aa) : m0_copyFrom k k2 I L aa = L aa := by
  unfold m0_copyFrom
  rw [y0_copyFrom_13 h _ _ _ _ (by omega)]


def r7_hexValue (x : Int32) : Int32 := (if (r10_isWithin x 48 57) = true then x - 48 else (if (r10_isWithin x 97 102) = true then (x - 97) + 10 else (-1)))
set_option maxRecDepth 4000 in
theorem v7_hexValue (g : GlT)  (x : Int32) (I : Nat → Nat → Int32) (L : Nat → Nat → Int64) (Q : Option Value → MemT → Prop) (hq : Q (some (.int (r7_hexValue x))) (I, L, R0, 305)) : V g (k7_hexValue, 2, 0, 0) 0 0 0 [(0, .int x)] [] (I, L, R0, 305) Q := by
  refine V_iload_n (pc1 := 1) 0 d7_hexValue_0 rfl rfl ?_
  refine V_bipush (pc1 := 3) d7_hexValue_1 vb_48 rfl ?_
  refine V_bipush (pc1 := 5) d7_hexValue_3 vb_57 rfl ?_
  refine V_ni (pc1 := 8) (w10_isWithin g  x 48 57  I L ) s10_isWithin l7_21 rfl rfl ⟨Nat.le_of_ble_eq_true rfl, Nat.le_of_ble_eq_true rfl, Nat.le_refl _, Nat.le_refl _⟩ (Nat.le_of_ble_eq_true rfl) rfl d7_hexValue_5 rfl ?_
  refine V_beq (tgt := 16) (pc1 := 11) d7_hexValue_8 (by decide) rfl (fun h1 => ?_) (fun h1 => ?_)
  · skip
    refine V_iload_n (pc1 := 17) 0 d7_hexValue_16 rfl rfl ?_
    refine V_bipush (pc1 := 19) d7_hexValue_17 vb_97 rfl ?_
    refine V_bipush (pc1 := 21) d7_hexValue_19 vb_102 rfl ?_
    refine V_ni (pc1 := 24) (w10_isWithin g  x 97 102  I L ) s10_isWithin l7_21 rfl rfl ⟨Nat.le_of_ble_eq_true rfl, Nat.le_of_ble_eq_true rfl, Nat.le_refl _, Nat.le_refl _⟩ (Nat.le_of_ble_eq_true rfl) rfl d7_hexValue_21 rfl ?_
    have key3 : ∀ (y38_0 : Int32), y38_0 = (if (r10_isWithin x 97 102) = true then (x - 97) + 10 else (-1)) → ∀ (lv : List (Nat × Value)), lvsub [(0, .int x)] lv → V g (k7_hexValue, 2, 0, 0) 0 0 38 lv [.int y38_0] (I, L, R0, 305) Q := by
      intro y38_0 ey38_0
      subst ey38_0
      intro lv hlv
      refine V_lv hlv ?_
      refine V_iret rfl d7_hexValue_38 (Nat.zero_le _) (Nat.zero_le _) ?_
      have hq2 := hq
      simp only [r7_hexValue, if_neg h1] at hq2
      exact hq2
    refine V_beq (tgt := 37) (pc1 := 27) d7_hexValue_24 (by decide) rfl (fun h2 => ?_) (fun h2 => ?_)
    · skip
      refine V_iconst (pc1 := 38) d7_hexValue_37 vc_m1 rfl ?_
      exact key3 _ (by first | rfl | (simp only [if_neg h2]; done) | (simp only [if_neg h2]; rfl)) _ (lvsub_p [0] rfl)
    · skip
      refine V_iload_n (pc1 := 28) 0 d7_hexValue_27 rfl rfl ?_
      refine V_bipush (pc1 := 30) d7_hexValue_28 vb_97 rfl ?_
      refine V_isub (pc1 := 31) d7_hexValue_30 rfl ?_
      refine V_bipush (pc1 := 33) d7_hexValue_31 vb_10 rfl ?_
      refine V_iadd (pc1 := 34) d7_hexValue_33 rfl ?_
      refine V_goto (tgt := 38) d7_hexValue_34 (by decide) ?_
      exact key3 _ (by first | rfl | (simp only [if_pos h2]; done) | (simp only [if_pos h2]; rfl)) _ (lvsub_p [0] rfl)
  · skip
    refine V_iload_n (pc1 := 12) 0 d7_hexValue_11 rfl rfl ?_
    refine V_bipush (pc1 := 14) d7_hexValue_12 vb_48 rfl ?_
    refine V_isub (pc1 := 15) d7_hexValue_14 rfl ?_
    refine V_iret rfl d7_hexValue_15 (Nat.zero_le _) (Nat.zero_le _) ?_
    have hq2 := hq
    simp only [r7_hexValue, if_pos h1] at hq2
    exact hq2
theorem w7_hexValue (g : GlT)  (x : Int32) (I : Nat → Nat → Int32) (L : Nat → Nat → Int64) : Call g (k7_hexValue, 2, 0, 0) [.int x] (I, L, R0, 305) (Qi (r7_hexValue x) (I) L) := Call.of (by decide) (Nat.le_of_ble_eq_true rfl) rfl (v7_hexValue g  x  I L  _ (And.intro rfl rfl))

def i7_restart (I : Nat → Nat → Int32) (L : Nat → Nat → Int64) : Nat → Nat → Int32 := uI I 294 0 0
set_option maxRecDepth 4000 in
theorem v7_restart (g : GlT)  (I : Nat → Nat → Int32) (L : Nat → Nat → Int64) (Q : Option Value → MemT → Prop) (hq : Q (none) (i7_restart I L, L, R0, 305)) : V g (k7_restart, 1, 0, 0) 0 0 0 [(0, .ref (xA g 294))] [] (I, L, R0, 305) Q := by
  refine V_aload_n (pc1 := 1) 0 d7_restart_0 rfl rfl ?_
  refine V_iconst (pc1 := 2) d7_restart_1 vc_0 rfl ?_
  refine V_puti (pc1 := 5) ly294 (lt305 rfl) f7_9 rfl rfl d7_restart_2 rfl ?_
  refine V_vret rfl d7_restart_5 (Nat.zero_le _) (Nat.zero_le _) ?_
  have hq2 := hq
  simp only [i7_restart] at hq2
  exact hq2
theorem w7_restart (g : GlT)  (I : Nat → Nat → Int32) (L : Nat → Nat → Int64) : Call g (k7_restart, 1, 0, 0) [.ref (xA g 294)] (I, L, R0, 305) (Qv (i7_restart I L) L) := Call.of (by decide) (Nat.le_of_ble_eq_true rfl) rfl (v7_restart g    I L  _ (And.intro rfl rfl))
theorem x7_restart {I : Nat → Nat → Int32} {L : Nat → Nat → Int64} {aa : Nat} (h0 : aa ≠ 294) : i7_restart I L aa = I aa := by
  first | (simp only [i7_restart]; done) | (simp only [i7_restart]; (try (repeat' split)) <;> first | rfl | (simp [uI_off, h0]; done))

def r7_isBetweenRequests (I : Nat → Nat → Int32) (L : Nat → Nat → Int64) : Bool := (if I 294 0 = 0 then true else false)
set_option maxRecDepth 4000 in
theorem v7_isBetweenRequests (g : GlT)  (I : Nat → Nat → Int32) (L : Nat → Nat → Int64) (Q : Option Value → MemT → Prop) (hq : Q (some (.int (bI (r7_isBetweenRequests I L)))) (I, L, R0, 305)) : V g (k7_isBetweenRequests, 1, 0, 0) 0 0 0 [(0, .ref (xA g 294))] [] (I, L, R0, 305) Q := by
  refine V_aload_n (pc1 := 1) 0 d7_isBetweenRequests_0 rfl rfl ?_
  refine V_geti (pc1 := 4) ly294 (lt305 rfl) f7_9 (fun _ => rfl) rfl d7_isBetweenRequests_1 rfl ?_
  have key2 : ∀ (y12_0 : Int32), y12_0 = bI (if I 294 0 = 0 then true else false) → ∀ (lv : List (Nat × Value)), lvsub [(0, .ref (xA g 294))] lv → V g (k7_isBetweenRequests, 1, 0, 0) 0 0 12 lv [.int y12_0] (I, L, R0, 305) Q := by
    intro y12_0 ey12_0
    subst ey12_0
    intro lv hlv
    refine V_lv hlv ?_
    refine V_zret rfl (bI_or _) d7_isBetweenRequests_12 (Nat.zero_le _) (Nat.zero_le _) ?_
    have hq2 := hq
    simp only [r7_isBetweenRequests] at hq2
    exact hq2
  refine V_if_ne (tgt := 11) (pc1 := 7) d7_isBetweenRequests_4 (by decide) rfl (fun h1 => ?_) (fun h1 => ?_)
  · skip
    refine V_iconst (pc1 := 12) d7_isBetweenRequests_11 vc_0 rfl ?_
    exact key2 _ (by first | rfl | (simp only [if_neg h1]; done) | (simp only [if_neg h1]; rfl)) _ (lvsub_p [0] rfl)
  · skip
    refine V_iconst (pc1 := 8) d7_isBetweenRequests_7 vc_1 rfl ?_
    refine V_goto (tgt := 12) d7_isBetweenRequests_8 (by decide) ?_
    exact key2 _ (by first | rfl | (simp only [if_pos h1]; done) | (simp only [if_pos h1]; rfl)) _ (lvsub_p [0] rfl)
theorem w7_isBetweenRequests (g : GlT)  (I : Nat → Nat → Int32) (L : Nat → Nat → Int64) : Call g (k7_isBetweenRequests, 1, 0, 0) [.ref (xA g 294)] (I, L, R0, 305) (Qi (bI (r7_isBetweenRequests I L)) (I) L) := Call.of (by decide) (Nat.le_of_ble_eq_true rfl) rfl (v7_isBetweenRequests g    I L  _ (And.intro rfl rfl))

def r7_stateAfterData (x : Int32) (I : Nat → Nat → Int32) (L : Nat → Nat → Int64) : Int32 := (if x = 59 then (if ((I 294 0) - 6) - ((I 294 0) - 6) / 2 * 2 = 0 then 0 else (-1)) else (if x = 82 then (if I 294 0 = 6 then 15 else (-1)) else (if (r7_hexValue x < 0) ∨ (14 ≤ I 294 0) then (-1) else (I 294 0) + 1)))
set_option maxRecDepth 4000 in
theorem v7_stateAfterData (g : GlT)  (x : Int32) (I : Nat → Nat → Int32) (L : Nat → Nat → Int64) (Q : Option Value → MemT → Prop) (hq : Q (some (.int (r7_stateAfterData x I L))) (I, L, R0, 305)) : V g (k7_stateAfterData, 3, 0, 0) 0 0 0 [(0, .ref (xA g 294)), (1, .int x)] [] (I, L, R0, 305) Q := by
  refine V_iload_n (pc1 := 1) 1 d7_stateAfterData_0 rfl rfl ?_
  refine V_bipush (pc1 := 3) d7_stateAfterData_1 vb_59 rfl ?_
  refine V_icmp_ne (tgt := 24) (pc1 := 6) d7_stateAfterData_3 (by decide) rfl (fun h1 => ?_) (fun h1 => ?_)
  · skip
    refine V_iload_n (pc1 := 25) 1 d7_stateAfterData_24 rfl rfl ?_
    refine V_bipush (pc1 := 27) d7_stateAfterData_25 vb_82 rfl ?_
    refine V_icmp_ne (tgt := 46) (pc1 := 30) d7_stateAfterData_27 (by decide) rfl (fun h2 => ?_) (fun h2 => ?_)
    · skip
      refine V_iload_n (pc1 := 47) 1 d7_stateAfterData_46 rfl rfl ?_
      refine V_si (pc1 := 50) (w7_hexValue g  x  I L ) s7_hexValue l7_27 rfl rfl ⟨Nat.le_of_ble_eq_true rfl, Nat.le_of_ble_eq_true rfl, Nat.le_refl _, Nat.le_refl _⟩ (Nat.le_of_ble_eq_true rfl) rfl d7_stateAfterData_47 rfl ?_
      have key8 : ∀ (y72_0 : Int32), y72_0 = (if (r7_hexValue x < 0) ∨ (14 ≤ I 294 0) then (-1) else (I 294 0) + 1) → ∀ (lv : List (Nat × Value)), lvsub [(0, .ref (xA g 294)), (1, .int x)] lv → V g (k7_stateAfterData, 3, 0, 0) 0 0 72 lv [.int y72_0] (I, L, R0, 305) Q := by
        intro y72_0 ey72_0
        subst ey72_0
        intro lv hlv
        refine V_lv hlv ?_
        refine V_iret rfl d7_stateAfterData_72 (Nat.zero_le _) (Nat.zero_le _) ?_
        have hq2 := hq
        simp only [r7_stateAfterData, if_neg h1, if_neg h2] at hq2
        exact hq2
      have k4 : ((r7_hexValue x < 0) ∨ (14 ≤ I 294 0)) → V g (k7_stateAfterData, 3, 0, 0) 0 0 71 [(0, .ref (xA g 294)), (1, .int x)] [] (I, L, R0, 305) Q := by
        intro h3
        refine V_iconst (pc1 := 72) d7_stateAfterData_71 vc_m1 rfl ?_
        exact key8 _ (by first | rfl | (simp only [if_pos h3]; done) | (simp only [if_pos h3]; rfl)) _ (lvsub_p [0, 1] rfl)
      have k5 : ¬ ((r7_hexValue x < 0) ∨ (14 ≤ I 294 0)) → V g (k7_stateAfterData, 3, 0, 0) 0 0 62 [(0, .ref (xA g 294)), (1, .int x)] [] (I, L, R0, 305) Q := by
        intro h3
        refine V_aload_n (pc1 := 63) 0 d7_stateAfterData_62 rfl rfl ?_
        refine V_geti (pc1 := 66) ly294 (lt305 rfl) f7_9 (fun _ => rfl) rfl d7_stateAfterData_63 rfl ?_
        refine V_iconst (pc1 := 67) d7_stateAfterData_66 vc_1 rfl ?_
        refine V_iadd (pc1 := 68) d7_stateAfterData_67 rfl ?_
        refine V_goto (tgt := 72) d7_stateAfterData_68 (by decide) ?_
        exact key8 _ (by first | rfl | (simp only [if_neg h3]; done) | (simp only [if_neg h3]; rfl)) _ (lvsub_p [0, 1] rfl)
      refine V_if_lt (tgt := 71) (pc1 := 53) d7_stateAfterData_50 (by decide) rfl (fun h6 => ?_) (fun h6 => ?_)
      · skip
        exact k4 (Or.inl h6)
      · skip
        refine V_aload_n (pc1 := 54) 0 d7_stateAfterData_53 rfl rfl ?_
        refine V_geti (pc1 := 57) ly294 (lt305 rfl) f7_9 (fun _ => rfl) rfl d7_stateAfterData_54 rfl ?_
        refine V_bipush (pc1 := 59) d7_stateAfterData_57 vb_14 rfl ?_
        refine V_icmp_ge (tgt := 71) (pc1 := 62) d7_stateAfterData_59 (by decide) rfl (fun h7 => ?_) (fun h7 => ?_)
        · skip
          exact k4 (Or.inr h7)
        · skip
          exact k5 (fun z => z.elim h6 h7)
    · skip
      refine V_aload_n (pc1 := 31) 0 d7_stateAfterData_30 rfl rfl ?_
      refine V_geti (pc1 := 34) ly294 (lt305 rfl) f7_9 (fun _ => rfl) rfl d7_stateAfterData_31 rfl ?_
      refine V_bipush (pc1 := 36) d7_stateAfterData_34 vb_6 rfl ?_
      have key10 : ∀ (y45_0 : Int32), y45_0 = (if I 294 0 = 6 then 15 else (-1)) → ∀ (lv : List (Nat × Value)), lvsub [(0, .ref (xA g 294)), (1, .int x)] lv → V g (k7_stateAfterData, 3, 0, 0) 0 0 45 lv [.int y45_0] (I, L, R0, 305) Q := by
        intro y45_0 ey45_0
        subst ey45_0
        intro lv hlv
        refine V_lv hlv ?_
        refine V_iret rfl d7_stateAfterData_45 (Nat.zero_le _) (Nat.zero_le _) ?_
        have hq2 := hq
        simp only [r7_stateAfterData, if_neg h1, if_pos h2] at hq2
        exact hq2
      refine V_icmp_ne (tgt := 44) (pc1 := 39) d7_stateAfterData_36 (by decide) rfl (fun h9 => ?_) (fun h9 => ?_)
      · skip
        refine V_iconst (pc1 := 45) d7_stateAfterData_44 vc_m1 rfl ?_
        exact key10 _ (by first | rfl | (simp only [if_neg h9]; done) | (simp only [if_neg h9]; rfl)) _ (lvsub_p [0, 1] rfl)
      · skip
        refine V_bipush (pc1 := 41) d7_stateAfterData_39 vb_15 rfl ?_
        refine V_goto (tgt := 45) d7_stateAfterData_41 (by decide) ?_
        exact key10 _ (by first | rfl | (simp only [if_pos h9]; done) | (simp only [if_pos h9]; rfl)) _ (lvsub_p [0, 1] rfl)
  · skip
    refine V_aload_n (pc1 := 7) 0 d7_stateAfterData_6 rfl rfl ?_
    refine V_geti (pc1 := 10) ly294 (lt305 rfl) f7_9 (fun _ => rfl) rfl d7_stateAfterData_7 rfl ?_
    refine V_bipush (pc1 := 12) d7_stateAfterData_10 vb_6 rfl ?_
    refine V_isub (pc1 := 13) d7_stateAfterData_12 rfl ?_
    refine V_iconst (pc1 := 14) d7_stateAfterData_13 vc_2 rfl ?_
    refine V_irem (pc1 := 15) d7_stateAfterData_14 (by decide) rfl ?_
    have key12 : ∀ (y23_0 : Int32), y23_0 = (if ((I 294 0) - 6) - ((I 294 0) - 6) / 2 * 2 = 0 then 0 else (-1)) → ∀ (lv : List (Nat × Value)), lvsub [(0, .ref (xA g 294)), (1, .int x)] lv → V g (k7_stateAfterData, 3, 0, 0) 0 0 23 lv [.int y23_0] (I, L, R0, 305) Q := by
      intro y23_0 ey23_0
      subst ey23_0
      intro lv hlv
      refine V_lv hlv ?_
      refine V_iret rfl d7_stateAfterData_23 (Nat.zero_le _) (Nat.zero_le _) ?_
      have hq2 := hq
      simp only [r7_stateAfterData, if_pos h1] at hq2
      exact hq2
    refine V_if_ne (tgt := 22) (pc1 := 18) d7_stateAfterData_15 (by decide) rfl (fun h11 => ?_) (fun h11 => ?_)
    · skip
      refine V_iconst (pc1 := 23) d7_stateAfterData_22 vc_m1 rfl ?_
      exact key12 _ (by first | rfl | (simp only [if_neg h11]; done) | (simp only [if_neg h11]; rfl)) _ (lvsub_p [0, 1] rfl)
    · skip
      refine V_iconst (pc1 := 19) d7_stateAfterData_18 vc_0 rfl ?_
      refine V_goto (tgt := 23) d7_stateAfterData_19 (by decide) ?_
      exact key12 _ (by first | rfl | (simp only [if_pos h11]; done) | (simp only [if_pos h11]; rfl)) _ (lvsub_p [0, 1] rfl)
theorem w7_stateAfterData (g : GlT)  (x : Int32) (I : Nat → Nat → Int32) (L : Nat → Nat → Int64) : Call g (k7_stateAfterData, 3, 0, 0) [.ref (xA g 294), .int x] (I, L, R0, 305) (Qi (r7_stateAfterData x I L) (I) L) := Call.of (by decide) (Nat.le_of_ble_eq_true rfl) rfl (v7_stateAfterData g  x  I L  _ (And.intro rfl rfl))

def r7_stateAfter (x : Int32) (I : Nat → Nat → Int32) (L : Nat → Nat → Int64) : Int32 := (if I 294 0 = 0 then (if (r10_isWithin x 48 51) = true then 1 else (-1)) else (if I 294 0 = 1 then (if x = 58 then 2 else (-1)) else (if I 294 0 = 2 then (if (r10_isWithin x 48 55) = true then (I 294 0) + 1 else (-1)) else (if I 294 0 = 3 then (if r7_hexValue x < 0 then (-1) else (I 294 0) + 1) else (if I 294 0 = 4 then (if r7_hexValue x < 0 then (-1) else (I 294 0) + 1) else (if I 294 0 = 5 then (if x = 35 then 6 else (-1)) else (if I 294 0 = 6 then r7_stateAfterData x I L else (if I 294 0 = 7 then r7_stateAfterData x I L else (if I 294 0 = 8 then r7_stateAfterData x I L else (if I 294 0 = 9 then r7_stateAfterData x I L else (if I 294 0 = 10 then r7_stateAfterData x I L else (if I 294 0 = 11 then r7_stateAfterData x I L else (if I 294 0 = 12 then r7_stateAfterData x I L else (if I 294 0 = 13 then r7_stateAfterData x I L else (if I 294 0 = 14 then r7_stateAfterData x I L else (if I 294 0 = 15 then (if (r10_isWithin x 48 52) = true then 16 else (-1)) else (if I 294 0 = 16 then (if x = 59 then 0 else (-1)) else r7_stateAfterData x I L)))))))))))))))))
set_option maxRecDepth 4000 in
theorem v7_stateAfter (g : GlT)  (x : Int32) (I : Nat → Nat → Int32) (L : Nat → Nat → Int64) (Q : Option Value → MemT → Prop) (hq : Q (some (.int (r7_stateAfter x I L))) (I, L, R0, 305)) : V g (k7_stateAfter, 4, 0, 0) 0 0 0 [(0, .ref (xA g 294)), (1, .int x)] [] (I, L, R0, 305) Q := by
  refine V_aload_n (pc1 := 1) 0 d7_stateAfter_0 rfl rfl ?_
  refine V_geti (pc1 := 4) ly294 (lt305 rfl) f7_9 (fun _ => rfl) rfl d7_stateAfter_1 rfl ?_
  by_cases h1 : I 294 0 = 0
  · refine V_tsIn 0 h1 d7_stateAfter_4 (by decide) (by decide) (off := 84) (tgt := 88) (by decide) (by decide) ?_
    refine V_iload_n (pc1 := 89) 1 d7_stateAfter_88 rfl rfl ?_
    refine V_bipush (pc1 := 91) d7_stateAfter_89 vb_48 rfl ?_
    refine V_bipush (pc1 := 93) d7_stateAfter_91 vb_51 rfl ?_
    refine V_ni (pc1 := 96) (w10_isWithin g  x 48 51  I L ) s10_isWithin l7_21 rfl rfl ⟨Nat.le_of_ble_eq_true rfl, Nat.le_of_ble_eq_true rfl, Nat.le_refl _, Nat.le_refl _⟩ (Nat.le_of_ble_eq_true rfl) rfl d7_stateAfter_93 rfl ?_
    have key3 : ∀ (y104_0 : Int32), y104_0 = (if (r10_isWithin x 48 51) = true then 1 else (-1)) → ∀ (lv : List (Nat × Value)), lvsub [(0, .ref (xA g 294)), (1, .int x)] lv → V g (k7_stateAfter, 4, 0, 0) 0 0 104 lv [.int y104_0] (I, L, R0, 305) Q := by
      intro y104_0 ey104_0
      subst ey104_0
      intro lv hlv
      refine V_lv hlv ?_
      refine V_iret rfl d7_stateAfter_104 (Nat.zero_le _) (Nat.zero_le _) ?_
      have hq2 := hq
      simp only [r7_stateAfter, if_pos h1] at hq2
      exact hq2
    refine V_beq (tgt := 103) (pc1 := 99) d7_stateAfter_96 (by decide) rfl (fun h2 => ?_) (fun h2 => ?_)
    · skip
      refine V_iconst (pc1 := 104) d7_stateAfter_103 vc_m1 rfl ?_
      exact key3 _ (by first | rfl | (simp only [if_neg h2]; done) | (simp only [if_neg h2]; rfl)) _ (lvsub_p [0, 1] rfl)
    · skip
      refine V_iconst (pc1 := 100) d7_stateAfter_99 vc_1 rfl ?_
      refine V_goto (tgt := 104) d7_stateAfter_100 (by decide) ?_
      exact key3 _ (by first | rfl | (simp only [if_pos h2]; done) | (simp only [if_pos h2]; rfl)) _ (lvsub_p [0, 1] rfl)
  · skip
    by_cases h4 : I 294 0 = 1
    · refine V_tsIn 1 h4 d7_stateAfter_4 (by decide) (by decide) (off := 101) (tgt := 105) (by decide) (by decide) ?_
      refine V_iload_n (pc1 := 106) 1 d7_stateAfter_105 rfl rfl ?_
      refine V_bipush (pc1 := 108) d7_stateAfter_106 vb_58 rfl ?_
      have key6 : ∀ (y116_0 : Int32), y116_0 = (if x = 58 then 2 else (-1)) → ∀ (lv : List (Nat × Value)), lvsub [(0, .ref (xA g 294)), (1, .int x)] lv → V g (k7_stateAfter, 4, 0, 0) 0 0 116 lv [.int y116_0] (I, L, R0, 305) Q := by
        intro y116_0 ey116_0
        subst ey116_0
        intro lv hlv
        refine V_lv hlv ?_
        refine V_iret rfl d7_stateAfter_116 (Nat.zero_le _) (Nat.zero_le _) ?_
        have hq2 := hq
        simp only [r7_stateAfter, if_neg h1, if_pos h4] at hq2
        exact hq2
      refine V_icmp_ne (tgt := 115) (pc1 := 111) d7_stateAfter_108 (by decide) rfl (fun h5 => ?_) (fun h5 => ?_)
      · skip
        refine V_iconst (pc1 := 116) d7_stateAfter_115 vc_m1 rfl ?_
        exact key6 _ (by first | rfl | (simp only [if_neg h5]; done) | (simp only [if_neg h5]; rfl)) _ (lvsub_p [0, 1] rfl)
      · skip
        refine V_iconst (pc1 := 112) d7_stateAfter_111 vc_2 rfl ?_
        refine V_goto (tgt := 116) d7_stateAfter_112 (by decide) ?_
        exact key6 _ (by first | rfl | (simp only [if_pos h5]; done) | (simp only [if_pos h5]; rfl)) _ (lvsub_p [0, 1] rfl)
    · skip
      by_cases h7 : I 294 0 = 2
      · refine V_tsIn 2 h7 d7_stateAfter_4 (by decide) (by decide) (off := 113) (tgt := 117) (by decide) (by decide) ?_
        refine V_iload_n (pc1 := 118) 1 d7_stateAfter_117 rfl rfl ?_
        refine V_bipush (pc1 := 120) d7_stateAfter_118 vb_48 rfl ?_
        refine V_bipush (pc1 := 122) d7_stateAfter_120 vb_55 rfl ?_
        refine V_ni (pc1 := 125) (w10_isWithin g  x 48 55  I L ) s10_isWithin l7_21 rfl rfl ⟨Nat.le_of_ble_eq_true rfl, Nat.le_of_ble_eq_true rfl, Nat.le_refl _, Nat.le_refl _⟩ (Nat.le_of_ble_eq_true rfl) rfl d7_stateAfter_122 rfl ?_
        have key9 : ∀ (y138_0 : Int32), y138_0 = (if (r10_isWithin x 48 55) = true then (I 294 0) + 1 else (-1)) → ∀ (lv : List (Nat × Value)), lvsub [(0, .ref (xA g 294)), (1, .int x)] lv → V g (k7_stateAfter, 4, 0, 0) 0 0 138 lv [.int y138_0] (I, L, R0, 305) Q := by
          intro y138_0 ey138_0
          subst ey138_0
          intro lv hlv
          refine V_lv hlv ?_
          refine V_iret rfl d7_stateAfter_138 (Nat.zero_le _) (Nat.zero_le _) ?_
          have hq2 := hq
          simp only [r7_stateAfter, if_neg h1, if_neg h4, if_pos h7] at hq2
          exact hq2
        refine V_beq (tgt := 137) (pc1 := 128) d7_stateAfter_125 (by decide) rfl (fun h8 => ?_) (fun h8 => ?_)
        · skip
          refine V_iconst (pc1 := 138) d7_stateAfter_137 vc_m1 rfl ?_
          exact key9 _ (by first | rfl | (simp only [if_neg h8]; done) | (simp only [if_neg h8]; rfl)) _ (lvsub_p [0, 1] rfl)
        · skip
          refine V_aload_n (pc1 := 129) 0 d7_stateAfter_128 rfl rfl ?_
          refine V_geti (pc1 := 132) ly294 (lt305 rfl) f7_9 (fun _ => rfl) rfl d7_stateAfter_129 rfl ?_
          refine V_iconst (pc1 := 133) d7_stateAfter_132 vc_1 rfl ?_
          refine V_iadd (pc1 := 134) d7_stateAfter_133 rfl ?_
          refine V_goto (tgt := 138) d7_stateAfter_134 (by decide) ?_
          exact key9 _ (by first | rfl | (simp only [if_pos h8]; done) | (simp only [if_pos h8]; rfl)) _ (lvsub_p [0, 1] rfl)
      · skip
        by_cases h10 : I 294 0 = 3
        · refine V_tsIn 3 h10 d7_stateAfter_4 (by decide) (by decide) (off := 135) (tgt := 139) (by decide) (by decide) ?_
          refine V_iload_n (pc1 := 140) 1 d7_stateAfter_139 rfl rfl ?_
          refine V_si (pc1 := 143) (w7_hexValue g  x  I L ) s7_hexValue l7_27 rfl rfl ⟨Nat.le_of_ble_eq_true rfl, Nat.le_of_ble_eq_true rfl, Nat.le_refl _, Nat.le_refl _⟩ (Nat.le_of_ble_eq_true rfl) rfl d7_stateAfter_140 rfl ?_
          have key12 : ∀ (y156_0 : Int32), y156_0 = (if r7_hexValue x < 0 then (-1) else (I 294 0) + 1) → ∀ (lv : List (Nat × Value)), lvsub [(0, .ref (xA g 294)), (1, .int x)] lv → V g (k7_stateAfter, 4, 0, 0) 0 0 156 lv [.int y156_0] (I, L, R0, 305) Q := by
            intro y156_0 ey156_0
            subst ey156_0
            intro lv hlv
            refine V_lv hlv ?_
            refine V_iret rfl d7_stateAfter_156 (Nat.zero_le _) (Nat.zero_le _) ?_
            have hq2 := hq
            simp only [r7_stateAfter, if_neg h1, if_neg h4, if_neg h7, if_pos h10] at hq2
            exact hq2
          refine V_if_lt (tgt := 155) (pc1 := 146) d7_stateAfter_143 (by decide) rfl (fun h11 => ?_) (fun h11 => ?_)
          · skip
            refine V_iconst (pc1 := 156) d7_stateAfter_155 vc_m1 rfl ?_
            exact key12 _ (by first | rfl | (simp only [if_pos h11]; done) | (simp only [if_pos h11]; rfl)) _ (lvsub_p [0, 1] rfl)
          · skip
            refine V_aload_n (pc1 := 147) 0 d7_stateAfter_146 rfl rfl ?_
            refine V_geti (pc1 := 150) ly294 (lt305 rfl) f7_9 (fun _ => rfl) rfl d7_stateAfter_147 rfl ?_
            refine V_iconst (pc1 := 151) d7_stateAfter_150 vc_1 rfl ?_
            refine V_iadd (pc1 := 152) d7_stateAfter_151 rfl ?_
            refine V_goto (tgt := 156) d7_stateAfter_152 (by decide) ?_
            exact key12 _ (by first | rfl | (simp only [if_neg h11]; done) | (simp only [if_neg h11]; rfl)) _ (lvsub_p [0, 1] rfl)
        · skip
          by_cases h13 : I 294 0 = 4
          · refine V_tsIn 4 h13 d7_stateAfter_4 (by decide) (by decide) (off := 135) (tgt := 139) (by decide) (by decide) ?_
            refine V_iload_n (pc1 := 140) 1 d7_stateAfter_139 rfl rfl ?_
            refine V_si (pc1 := 143) (w7_hexValue g  x  I L ) s7_hexValue l7_27 rfl rfl ⟨Nat.le_of_ble_eq_true rfl, Nat.le_of_ble_eq_true rfl, Nat.le_refl _, Nat.le_refl _⟩ (Nat.le_of_ble_eq_true rfl) rfl d7_stateAfter_140 rfl ?_
            have key15 : ∀ (y156_0 : Int32), y156_0 = (if r7_hexValue x < 0 then (-1) else (I 294 0) + 1) → ∀ (lv : List (Nat × Value)), lvsub [(0, .ref (xA g 294)), (1, .int x)] lv → V g (k7_stateAfter, 4, 0, 0) 0 0 156 lv [.int y156_0] (I, L, R0, 305) Q := by
              intro y156_0 ey156_0
              subst ey156_0
              intro lv hlv
              refine V_lv hlv ?_
              refine V_iret rfl d7_stateAfter_156 (Nat.zero_le _) (Nat.zero_le _) ?_
              have hq2 := hq
              simp only [r7_stateAfter, if_neg h1, if_neg h4, if_neg h7, if_neg h10, if_pos h13] at hq2
              exact hq2
            refine V_if_lt (tgt := 155) (pc1 := 146) d7_stateAfter_143 (by decide) rfl (fun h14 => ?_) (fun h14 => ?_)
            · skip
              refine V_iconst (pc1 := 156) d7_stateAfter_155 vc_m1 rfl ?_
              exact key15 _ (by first | rfl | (simp only [if_pos h14]; done) | (simp only [if_pos h14]; rfl)) _ (lvsub_p [0, 1] rfl)
            · skip
              refine V_aload_n (pc1 := 147) 0 d7_stateAfter_146 rfl rfl ?_
              refine V_geti (pc1 := 150) ly294 (lt305 rfl) f7_9 (fun _ => rfl) rfl d7_stateAfter_147 rfl ?_
              refine V_iconst (pc1 := 151) d7_stateAfter_150 vc_1 rfl ?_
              refine V_iadd (pc1 := 152) d7_stateAfter_151 rfl ?_
              refine V_goto (tgt := 156) d7_stateAfter_152 (by decide) ?_
              exact key15 _ (by first | rfl | (simp only [if_neg h14]; done) | (simp only [if_neg h14]; rfl)) _ (lvsub_p [0, 1] rfl)
          · skip
            by_cases h16 : I 294 0 = 5
            · refine V_tsIn 5 h16 d7_stateAfter_4 (by decide) (by decide) (off := 153) (tgt := 157) (by decide) (by decide) ?_
              refine V_iload_n (pc1 := 158) 1 d7_stateAfter_157 rfl rfl ?_
              refine V_bipush (pc1 := 160) d7_stateAfter_158 vb_35 rfl ?_
              have key18 : ∀ (y169_0 : Int32), y169_0 = (if x = 35 then 6 else (-1)) → ∀ (lv : List (Nat × Value)), lvsub [(0, .ref (xA g 294)), (1, .int x)] lv → V g (k7_stateAfter, 4, 0, 0) 0 0 169 lv [.int y169_0] (I, L, R0, 305) Q := by
                intro y169_0 ey169_0
                subst ey169_0
                intro lv hlv
                refine V_lv hlv ?_
                refine V_iret rfl d7_stateAfter_169 (Nat.zero_le _) (Nat.zero_le _) ?_
                have hq2 := hq
                simp only [r7_stateAfter, if_neg h1, if_neg h4, if_neg h7, if_neg h10, if_neg h13, if_pos h16] at hq2
                exact hq2
              refine V_icmp_ne (tgt := 168) (pc1 := 163) d7_stateAfter_160 (by decide) rfl (fun h17 => ?_) (fun h17 => ?_)
              · skip
                refine V_iconst (pc1 := 169) d7_stateAfter_168 vc_m1 rfl ?_
                exact key18 _ (by first | rfl | (simp only [if_neg h17]; done) | (simp only [if_neg h17]; rfl)) _ (lvsub_p [0, 1] rfl)
              · skip
                refine V_bipush (pc1 := 165) d7_stateAfter_163 vb_6 rfl ?_
                refine V_goto (tgt := 169) d7_stateAfter_165 (by decide) ?_
                exact key18 _ (by first | rfl | (simp only [if_pos h17]; done) | (simp only [if_pos h17]; rfl)) _ (lvsub_p [0, 1] rfl)
            · skip
              by_cases h19 : I 294 0 = 6
              · refine V_tsIn 6 h19 d7_stateAfter_4 (by decide) (by decide) (off := 196) (tgt := 200) (by decide) (by decide) ?_
                refine V_aload_n (pc1 := 201) 0 d7_stateAfter_200 rfl rfl ?_
                refine V_iload_n (pc1 := 202) 1 d7_stateAfter_201 rfl rfl ?_
                refine V_vi (pc1 := 205) (w7_stateAfterData g  x  I L ) ly294 (lt305 rfl) s7_stateAfterData l7_30 rfl rfl ⟨Nat.le_of_ble_eq_true rfl, Nat.le_of_ble_eq_true rfl, Nat.le_refl _, Nat.le_refl _⟩ (Nat.le_of_ble_eq_true rfl) rfl d7_stateAfter_202 rfl ?_
                refine V_iret rfl d7_stateAfter_205 (Nat.zero_le _) (Nat.zero_le _) ?_
                have hq2 := hq
                simp only [r7_stateAfter, if_neg h1, if_neg h4, if_neg h7, if_neg h10, if_neg h13, if_neg h16, if_pos h19] at hq2
                exact hq2
              · skip
                by_cases h20 : I 294 0 = 7
                · refine V_tsIn 7 h20 d7_stateAfter_4 (by decide) (by decide) (off := 196) (tgt := 200) (by decide) (by decide) ?_
                  refine V_aload_n (pc1 := 201) 0 d7_stateAfter_200 rfl rfl ?_
                  refine V_iload_n (pc1 := 202) 1 d7_stateAfter_201 rfl rfl ?_
                  refine V_vi (pc1 := 205) (w7_stateAfterData g  x  I L ) ly294 (lt305 rfl) s7_stateAfterData l7_30 rfl rfl ⟨Nat.le_of_ble_eq_true rfl, Nat.le_of_ble_eq_true rfl, Nat.le_refl _, Nat.le_refl _⟩ (Nat.le_of_ble_eq_true rfl) rfl d7_stateAfter_202 rfl ?_
                  refine V_iret rfl d7_stateAfter_205 (Nat.zero_le _) (Nat.zero_le _) ?_
                  have hq2 := hq
                  simp only [r7_stateAfter, if_neg h1, if_neg h4, if_neg h7, if_neg h10, if_neg h13, if_neg h16, if_neg h19, if_pos h20] at hq2
                  exact hq2
                · skip
                  by_cases h21 : I 294 0 = 8
                  · refine V_tsIn 8 h21 d7_stateAfter_4 (by decide) (by decide) (off := 196) (tgt := 200) (by decide) (by decide) ?_
                    refine V_aload_n (pc1 := 201) 0 d7_stateAfter_200 rfl rfl ?_
                    refine V_iload_n (pc1 := 202) 1 d7_stateAfter_201 rfl rfl ?_
                    refine V_vi (pc1 := 205) (w7_stateAfterData g  x  I L ) ly294 (lt305 rfl) s7_stateAfterData l7_30 rfl rfl ⟨Nat.le_of_ble_eq_true rfl, Nat.le_of_ble_eq_true rfl, Nat.le_refl _, Nat.le_refl _⟩ (Nat.le_of_ble_eq_true rfl) rfl d7_stateAfter_202 rfl ?_
                    refine V_iret rfl d7_stateAfter_205 (Nat.zero_le _) (Nat.zero_le _) ?_
                    have hq2 := hq
                    simp only [r7_stateAfter, if_neg h1, if_neg h4, if_neg h7, if_neg h10, if_neg h13, if_neg h16, if_neg h19, if_neg h20, if_pos h21] at hq2
                    exact hq2
                  · skip
                    by_cases h22 : I 294 0 = 9
                    · refine V_tsIn 9 h22 d7_stateAfter_4 (by decide) (by decide) (off := 196) (tgt := 200) (by decide) (by decide) ?_
                      refine V_aload_n (pc1 := 201) 0 d7_stateAfter_200 rfl rfl ?_
                      refine V_iload_n (pc1 := 202) 1 d7_stateAfter_201 rfl rfl ?_
                      refine V_vi (pc1 := 205) (w7_stateAfterData g  x  I L ) ly294 (lt305 rfl) s7_stateAfterData l7_30 rfl rfl ⟨Nat.le_of_ble_eq_true rfl, Nat.le_of_ble_eq_true rfl, Nat.le_refl _, Nat.le_refl _⟩ (Nat.le_of_ble_eq_true rfl) rfl d7_stateAfter_202 rfl ?_
                      refine V_iret rfl d7_stateAfter_205 (Nat.zero_le _) (Nat.zero_le _) ?_
                      have hq2 := hq
                      simp only [r7_stateAfter, if_neg h1, if_neg h4, if_neg h7, if_neg h10, if_neg h13, if_neg h16, if_neg h19, if_neg h20, if_neg h21, if_pos h22] at hq2
                      exact hq2
                    · skip
                      by_cases h23 : I 294 0 = 10
                      · refine V_tsIn 10 h23 d7_stateAfter_4 (by decide) (by decide) (off := 196) (tgt := 200) (by decide) (by decide) ?_
                        refine V_aload_n (pc1 := 201) 0 d7_stateAfter_200 rfl rfl ?_
                        refine V_iload_n (pc1 := 202) 1 d7_stateAfter_201 rfl rfl ?_
                        refine V_vi (pc1 := 205) (w7_stateAfterData g  x  I L ) ly294 (lt305 rfl) s7_stateAfterData l7_30 rfl rfl ⟨Nat.le_of_ble_eq_true rfl, Nat.le_of_ble_eq_true rfl, Nat.le_refl _, Nat.le_refl _⟩ (Nat.le_of_ble_eq_true rfl) rfl d7_stateAfter_202 rfl ?_
                        refine V_iret rfl d7_stateAfter_205 (Nat.zero_le _) (Nat.zero_le _) ?_
                        have hq2 := hq
                        simp only [r7_stateAfter, if_neg h1, if_neg h4, if_neg h7, if_neg h10, if_neg h13, if_neg h16, if_neg h19, if_neg h20, if_neg h21, if_neg h22, if_pos h23] at hq2
                        exact hq2
                      · skip
                        by_cases h24 : I 294 0 = 11
                        · refine V_tsIn 11 h24 d7_stateAfter_4 (by decide) (by decide) (off := 196) (tgt := 200) (by decide) (by decide) ?_
                          refine V_aload_n (pc1 := 201) 0 d7_stateAfter_200 rfl rfl ?_
                          refine V_iload_n (pc1 := 202) 1 d7_stateAfter_201 rfl rfl ?_
                          refine V_vi (pc1 := 205) (w7_stateAfterData g  x  I L ) ly294 (lt305 rfl) s7_stateAfterData l7_30 rfl rfl ⟨Nat.le_of_ble_eq_true rfl, Nat.le_of_ble_eq_true rfl, Nat.le_refl _, Nat.le_refl _⟩ (Nat.le_of_ble_eq_true rfl) rfl d7_stateAfter_202 rfl ?_
                          refine V_iret rfl d7_stateAfter_205 (Nat.zero_le _) (Nat.zero_le _) ?_
                          have hq2 := hq
                          simp only [r7_stateAfter, if_neg h1, if_neg h4, if_neg h7, if_neg h10, if_neg h13, if_neg h16, if_neg h19, if_neg h20, if_neg h21, if_neg h22, if_neg h23, if_pos h24] at hq2
                          exact hq2
                        · skip
                          by_cases h25 : I 294 0 = 12
                          · refine V_tsIn 12 h25 d7_stateAfter_4 (by decide) (by decide) (off := 196) (tgt := 200) (by decide) (by decide) ?_
                            refine V_aload_n (pc1 := 201) 0 d7_stateAfter_200 rfl rfl ?_
                            refine V_iload_n (pc1 := 202) 1 d7_stateAfter_201 rfl rfl ?_
                            refine V_vi (pc1 := 205) (w7_stateAfterData g  x  I L ) ly294 (lt305 rfl) s7_stateAfterData l7_30 rfl rfl ⟨Nat.le_of_ble_eq_true rfl, Nat.le_of_ble_eq_true rfl, Nat.le_refl _, Nat.le_refl _⟩ (Nat.le_of_ble_eq_true rfl) rfl d7_stateAfter_202 rfl ?_
                            refine V_iret rfl d7_stateAfter_205 (Nat.zero_le _) (Nat.zero_le _) ?_
                            have hq2 := hq
                            simp only [r7_stateAfter, if_neg h1, if_neg h4, if_neg h7, if_neg h10, if_neg h13, if_neg h16, if_neg h19, if_neg h20, if_neg h21, if_neg h22, if_neg h23, if_neg h24, if_pos h25] at hq2
                            exact hq2
                          · skip
                            by_cases h26 : I 294 0 = 13
                            · refine V_tsIn 13 h26 d7_stateAfter_4 (by decide) (by decide) (off := 196) (tgt := 200) (by decide) (by decide) ?_
                              refine V_aload_n (pc1 := 201) 0 d7_stateAfter_200 rfl rfl ?_
                              refine V_iload_n (pc1 := 202) 1 d7_stateAfter_201 rfl rfl ?_
                              refine V_vi (pc1 := 205) (w7_stateAfterData g  x  I L ) ly294 (lt305 rfl) s7_stateAfterData l7_30 rfl rfl ⟨Nat.le_of_ble_eq_true rfl, Nat.le_of_ble_eq_true rfl, Nat.le_refl _, Nat.le_refl _⟩ (Nat.le_of_ble_eq_true rfl) rfl d7_stateAfter_202 rfl ?_
                              refine V_iret rfl d7_stateAfter_205 (Nat.zero_le _) (Nat.zero_le _) ?_
                              have hq2 := hq
                              simp only [r7_stateAfter, if_neg h1, if_neg h4, if_neg h7, if_neg h10, if_neg h13, if_neg h16, if_neg h19, if_neg h20, if_neg h21, if_neg h22, if_neg h23, if_neg h24, if_neg h25, if_pos h26] at hq2
                              exact hq2
                            · skip
                              by_cases h27 : I 294 0 = 14
                              · refine V_tsIn 14 h27 d7_stateAfter_4 (by decide) (by decide) (off := 196) (tgt := 200) (by decide) (by decide) ?_
                                refine V_aload_n (pc1 := 201) 0 d7_stateAfter_200 rfl rfl ?_
                                refine V_iload_n (pc1 := 202) 1 d7_stateAfter_201 rfl rfl ?_
                                refine V_vi (pc1 := 205) (w7_stateAfterData g  x  I L ) ly294 (lt305 rfl) s7_stateAfterData l7_30 rfl rfl ⟨Nat.le_of_ble_eq_true rfl, Nat.le_of_ble_eq_true rfl, Nat.le_refl _, Nat.le_refl _⟩ (Nat.le_of_ble_eq_true rfl) rfl d7_stateAfter_202 rfl ?_
                                refine V_iret rfl d7_stateAfter_205 (Nat.zero_le _) (Nat.zero_le _) ?_
                                have hq2 := hq
                                simp only [r7_stateAfter, if_neg h1, if_neg h4, if_neg h7, if_neg h10, if_neg h13, if_neg h16, if_neg h19, if_neg h20, if_neg h21, if_neg h22, if_neg h23, if_neg h24, if_neg h25, if_neg h26, if_pos h27] at hq2
                                exact hq2
                              · skip
                                by_cases h28 : I 294 0 = 15
                                · refine V_tsIn 15 h28 d7_stateAfter_4 (by decide) (by decide) (off := 166) (tgt := 170) (by decide) (by decide) ?_
                                  refine V_iload_n (pc1 := 171) 1 d7_stateAfter_170 rfl rfl ?_
                                  refine V_bipush (pc1 := 173) d7_stateAfter_171 vb_48 rfl ?_
                                  refine V_bipush (pc1 := 175) d7_stateAfter_173 vb_52 rfl ?_
                                  refine V_ni (pc1 := 178) (w10_isWithin g  x 48 52  I L ) s10_isWithin l7_21 rfl rfl ⟨Nat.le_of_ble_eq_true rfl, Nat.le_of_ble_eq_true rfl, Nat.le_refl _, Nat.le_refl _⟩ (Nat.le_of_ble_eq_true rfl) rfl d7_stateAfter_175 rfl ?_
                                  have key30 : ∀ (y187_0 : Int32), y187_0 = (if (r10_isWithin x 48 52) = true then 16 else (-1)) → ∀ (lv : List (Nat × Value)), lvsub [(0, .ref (xA g 294)), (1, .int x)] lv → V g (k7_stateAfter, 4, 0, 0) 0 0 187 lv [.int y187_0] (I, L, R0, 305) Q := by
                                    intro y187_0 ey187_0
                                    subst ey187_0
                                    intro lv hlv
                                    refine V_lv hlv ?_
                                    refine V_iret rfl d7_stateAfter_187 (Nat.zero_le _) (Nat.zero_le _) ?_
                                    have hq2 := hq
                                    simp only [r7_stateAfter, if_neg h1, if_neg h4, if_neg h7, if_neg h10, if_neg h13, if_neg h16, if_neg h19, if_neg h20, if_neg h21, if_neg h22, if_neg h23, if_neg h24, if_neg h25, if_neg h26, if_neg h27, if_pos h28] at hq2
                                    exact hq2
                                  refine V_beq (tgt := 186) (pc1 := 181) d7_stateAfter_178 (by decide) rfl (fun h29 => ?_) (fun h29 => ?_)
                                  · skip
                                    refine V_iconst (pc1 := 187) d7_stateAfter_186 vc_m1 rfl ?_
                                    exact key30 _ (by first | rfl | (simp only [if_neg h29]; done) | (simp only [if_neg h29]; rfl)) _ (lvsub_p [0, 1] rfl)
                                  · skip
                                    refine V_bipush (pc1 := 183) d7_stateAfter_181 vb_16 rfl ?_
                                    refine V_goto (tgt := 187) d7_stateAfter_183 (by decide) ?_
                                    exact key30 _ (by first | rfl | (simp only [if_pos h29]; done) | (simp only [if_pos h29]; rfl)) _ (lvsub_p [0, 1] rfl)
                                · skip
                                  by_cases h31 : I 294 0 = 16
                                  · refine V_tsIn 16 h31 d7_stateAfter_4 (by decide) (by decide) (off := 184) (tgt := 188) (by decide) (by decide) ?_
                                    refine V_iload_n (pc1 := 189) 1 d7_stateAfter_188 rfl rfl ?_
                                    refine V_bipush (pc1 := 191) d7_stateAfter_189 vb_59 rfl ?_
                                    have key33 : ∀ (y199_0 : Int32), y199_0 = (if x = 59 then 0 else (-1)) → ∀ (lv : List (Nat × Value)), lvsub [(0, .ref (xA g 294)), (1, .int x)] lv → V g (k7_stateAfter, 4, 0, 0) 0 0 199 lv [.int y199_0] (I, L, R0, 305) Q := by
                                      intro y199_0 ey199_0
                                      subst ey199_0
                                      intro lv hlv
                                      refine V_lv hlv ?_
                                      refine V_iret rfl d7_stateAfter_199 (Nat.zero_le _) (Nat.zero_le _) ?_
                                      have hq2 := hq
                                      simp only [r7_stateAfter, if_neg h1, if_neg h4, if_neg h7, if_neg h10, if_neg h13, if_neg h16, if_neg h19, if_neg h20, if_neg h21, if_neg h22, if_neg h23, if_neg h24, if_neg h25, if_neg h26, if_neg h27, if_neg h28, if_pos h31] at hq2
                                      exact hq2
                                    refine V_icmp_ne (tgt := 198) (pc1 := 194) d7_stateAfter_191 (by decide) rfl (fun h32 => ?_) (fun h32 => ?_)
                                    · skip
                                      refine V_iconst (pc1 := 199) d7_stateAfter_198 vc_m1 rfl ?_
                                      exact key33 _ (by first | rfl | (simp only [if_neg h32]; done) | (simp only [if_neg h32]; rfl)) _ (lvsub_p [0, 1] rfl)
                                    · skip
                                      refine V_iconst (pc1 := 195) d7_stateAfter_194 vc_0 rfl ?_
                                      refine V_goto (tgt := 199) d7_stateAfter_195 (by decide) ?_
                                      exact key33 _ (by first | rfl | (simp only [if_pos h32]; done) | (simp only [if_pos h32]; rfl)) _ (lvsub_p [0, 1] rfl)
                                  · skip
                                    refine V_tsOut (tgt := 200) d7_stateAfter_4 (fun i a b => by
                                        have hh : i = 0 ∨ i = 1 ∨ i = 2 ∨ i = 3 ∨ i = 4 ∨ i = 5 ∨ i = 6 ∨ i = 7 ∨ i = 8 ∨ i = 9 ∨ i = 10 ∨ i = 11 ∨ i = 12 ∨ i = 13 ∨ i = 14 ∨ i = 15 ∨ i = 16 := by omega
                                        rcases hh with rfl | rfl | rfl | rfl | rfl | rfl | rfl | rfl | rfl | rfl | rfl | rfl | rfl | rfl | rfl | rfl | rfl
                                        · exact ts_ne (by decide) h1
                                        · exact ts_ne (by decide) h4
                                        · exact ts_ne (by decide) h7
                                        · exact ts_ne (by decide) h10
                                        · exact ts_ne (by decide) h13
                                        · exact ts_ne (by decide) h16
                                        · exact ts_ne (by decide) h19
                                        · exact ts_ne (by decide) h20
                                        · exact ts_ne (by decide) h21
                                        · exact ts_ne (by decide) h22
                                        · exact ts_ne (by decide) h23
                                        · exact ts_ne (by decide) h24
                                        · exact ts_ne (by decide) h25
                                        · exact ts_ne (by decide) h26
                                        · exact ts_ne (by decide) h27
                                        · exact ts_ne (by decide) h28
                                        · exact ts_ne (by decide) h31
                                        ) (by decide) ?_
                                    refine V_aload_n (pc1 := 201) 0 d7_stateAfter_200 rfl rfl ?_
                                    refine V_iload_n (pc1 := 202) 1 d7_stateAfter_201 rfl rfl ?_
                                    refine V_vi (pc1 := 205) (w7_stateAfterData g  x  I L ) ly294 (lt305 rfl) s7_stateAfterData l7_30 rfl rfl ⟨Nat.le_of_ble_eq_true rfl, Nat.le_of_ble_eq_true rfl, Nat.le_refl _, Nat.le_refl _⟩ (Nat.le_of_ble_eq_true rfl) rfl d7_stateAfter_202 rfl ?_
                                    refine V_iret rfl d7_stateAfter_205 (Nat.zero_le _) (Nat.zero_le _) ?_
                                    have hq2 := hq
                                    simp only [r7_stateAfter, if_neg h1, if_neg h4, if_neg h7, if_neg h10, if_neg h13, if_neg h16, if_neg h19, if_neg h20, if_neg h21, if_neg h22, if_neg h23, if_neg h24, if_neg h25, if_neg h26, if_neg h27, if_neg h28, if_neg h31] at hq2
                                    exact hq2
theorem w7_stateAfter (g : GlT)  (x : Int32) (I : Nat → Nat → Int32) (L : Nat → Nat → Int64) : Call g (k7_stateAfter, 4, 0, 0) [.ref (xA g 294), .int x] (I, L, R0, 305) (Qi (r7_stateAfter x I L) (I) L) := Call.of (by decide) (Nat.le_of_ble_eq_true rfl) rfl (v7_stateAfter g  x  I L  _ (And.intro rfl rfl))

def i7_keepValue (x : Int32) (I : Nat → Nat → Int32) (L : Nat → Nat → Int64) : Nat → Nat → Int32 := (if I 294 0 = 0 then uI (uI (uI (uI (uI I 294 1 (x - 48)) 294 2 0) 294 3 0) 294 4 0) 294 5 0 else (if (r10_isWithin (I 294 0) 2 4) = true then uI I 294 2 (((I 294 2) <<< (4 &&& 31)) ||| (r7_hexValue x)) else (if I 294 0 = 15 then uI (uI I 294 3 1) 294 4 (x - 48) else (if (¬ ((r10_isWithin (I 294 0) 6 13) = true)) ∨ (r7_hexValue x < 0) then I else uI (uI I 294 5 (((I 294 5) <<< (4 &&& 31)) ||| (r7_hexValue x))) 294 4 ((((I 294 0) - 6) + 1) / 2)))))
set_option maxRecDepth 4000 in
theorem v7_keepValue (g : GlT)  (x : Int32) (I : Nat → Nat → Int32) (L : Nat → Nat → Int64) (Q : Option Value → MemT → Prop) (hq : Q (none) (i7_keepValue x I L, L, R0, 305)) : V g (k7_keepValue, 3, 0, 0) 0 0 0 [(0, .ref (xA g 294)), (1, .int x)] [] (I, L, R0, 305) Q := by
  refine V_aload_n (pc1 := 1) 0 d7_keepValue_0 rfl rfl ?_
  refine V_geti (pc1 := 4) ly294 (lt305 rfl) f7_9 (fun _ => rfl) rfl d7_keepValue_1 rfl ?_
  have key9 : ∀ (zI144 : Nat → Nat → Int32), zI144 = (if I 294 0 = 0 then uI (uI (uI (uI (uI I 294 1 (x - 48)) 294 2 0) 294 3 0) 294 4 0) 294 5 0 else (if (r10_isWithin (I 294 0) 2 4) = true then uI I 294 2 (((I 294 2) <<< (4 &&& 31)) ||| (r7_hexValue x)) else (if I 294 0 = 15 then uI (uI I 294 3 1) 294 4 (x - 48) else (if (¬ ((r10_isWithin (I 294 0) 6 13) = true)) ∨ (r7_hexValue x < 0) then I else uI (uI I 294 5 (((I 294 5) <<< (4 &&& 31)) ||| (r7_hexValue x))) 294 4 ((((I 294 0) - 6) + 1) / 2))))) → ∀ (lv : List (Nat × Value)), lvsub [(0, .ref (xA g 294)), (1, .int x)] lv → V g (k7_keepValue, 3, 0, 0) 0 0 144 lv [] (zI144, L, R0, 305) Q := by
    intro zI144 ezI144
    subst ezI144
    intro lv hlv
    refine V_lv hlv ?_
    refine V_vret rfl d7_keepValue_144 (Nat.zero_le _) (Nat.zero_le _) ?_
    have hq2 := hq
    simp only [i7_keepValue] at hq2
    exact hq2
  refine V_if_ne (tgt := 38) (pc1 := 7) d7_keepValue_4 (by decide) rfl (fun h1 => ?_) (fun h1 => ?_)
  · skip
    refine V_aload_n (pc1 := 39) 0 d7_keepValue_38 rfl rfl ?_
    refine V_geti (pc1 := 42) ly294 (lt305 rfl) f7_9 (fun _ => rfl) rfl d7_keepValue_39 rfl ?_
    refine V_iconst (pc1 := 43) d7_keepValue_42 vc_2 rfl ?_
    refine V_iconst (pc1 := 44) d7_keepValue_43 vc_4 rfl ?_
    refine V_ni (pc1 := 47) (w10_isWithin g  (I 294 0) 2 4  I L ) s10_isWithin l7_21 rfl rfl ⟨Nat.le_of_ble_eq_true rfl, Nat.le_of_ble_eq_true rfl, Nat.le_refl _, Nat.le_refl _⟩ (Nat.le_of_ble_eq_true rfl) rfl d7_keepValue_44 rfl ?_
    refine V_beq (tgt := 68) (pc1 := 50) d7_keepValue_47 (by decide) rfl (fun h2 => ?_) (fun h2 => ?_)
    · skip
      refine V_aload_n (pc1 := 69) 0 d7_keepValue_68 rfl rfl ?_
      refine V_geti (pc1 := 72) ly294 (lt305 rfl) f7_9 (fun _ => rfl) rfl d7_keepValue_69 rfl ?_
      refine V_bipush (pc1 := 74) d7_keepValue_72 vb_15 rfl ?_
      refine V_icmp_ne (tgt := 93) (pc1 := 77) d7_keepValue_74 (by decide) rfl (fun h3 => ?_) (fun h3 => ?_)
      · skip
        refine V_aload_n (pc1 := 94) 0 d7_keepValue_93 rfl rfl ?_
        refine V_geti (pc1 := 97) ly294 (lt305 rfl) f7_9 (fun _ => rfl) rfl d7_keepValue_94 rfl ?_
        refine V_bipush (pc1 := 99) d7_keepValue_97 vb_6 rfl ?_
        refine V_bipush (pc1 := 101) d7_keepValue_99 vb_13 rfl ?_
        refine V_ni (pc1 := 104) (w10_isWithin g  (I 294 0) 6 13  I L ) s10_isWithin l7_21 rfl rfl ⟨Nat.le_of_ble_eq_true rfl, Nat.le_of_ble_eq_true rfl, Nat.le_refl _, Nat.le_refl _⟩ (Nat.le_of_ble_eq_true rfl) rfl d7_keepValue_101 rfl ?_
        have k5 : ((¬ ((r10_isWithin (I 294 0) 6 13) = true)) ∨ (r7_hexValue x < 0)) → V g (k7_keepValue, 3, 0, 0) 0 0 144 [(0, .ref (xA g 294)), (1, .int x)] [] (I, L, R0, 305) Q := by
          intro h4
          exact key9 _ (by first | rfl | (simp only [if_neg h1, if_neg h2, if_neg h3, if_pos h4]; done) | (simp only [if_neg h1, if_neg h2, if_neg h3, if_pos h4]; rfl)) _ (lvsub_p [0, 1] rfl)
        have k6 : ¬ ((¬ ((r10_isWithin (I 294 0) 6 13) = true)) ∨ (r7_hexValue x < 0)) → V g (k7_keepValue, 3, 0, 0) 0 0 114 [(0, .ref (xA g 294)), (1, .int x)] [] (I, L, R0, 305) Q := by
          intro h4
          refine V_aload_n (pc1 := 115) 0 d7_keepValue_114 rfl rfl ?_
          refine V_aload_n (pc1 := 116) 0 d7_keepValue_115 rfl rfl ?_
          refine V_geti (pc1 := 119) ly294 (lt305 rfl) f7_46 (fun _ => rfl) rfl d7_keepValue_116 rfl ?_
          refine V_iconst (pc1 := 120) d7_keepValue_119 vc_4 rfl ?_
          refine V_ishl (pc1 := 121) d7_keepValue_120 rfl ?_
          refine V_iload_n (pc1 := 122) 1 d7_keepValue_121 rfl rfl ?_
          refine V_si (pc1 := 125) (w7_hexValue g  x  I L ) s7_hexValue l7_27 rfl rfl ⟨Nat.le_of_ble_eq_true rfl, Nat.le_of_ble_eq_true rfl, Nat.le_refl _, Nat.le_refl _⟩ (Nat.le_of_ble_eq_true rfl) rfl d7_keepValue_122 rfl ?_
          refine V_ior (pc1 := 126) d7_keepValue_125 rfl ?_
          refine V_puti (pc1 := 129) ly294 (lt305 rfl) f7_46 rfl rfl d7_keepValue_126 rfl ?_
          refine V_aload_n (pc1 := 130) 0 d7_keepValue_129 rfl rfl ?_
          refine V_aload_n (pc1 := 131) 0 d7_keepValue_130 rfl rfl ?_
          refine V_geti (pc1 := 134) ly294 (lt305 rfl) f7_9 (fun _ => rfl) (uI_ne I 294 (((I 294 5) <<< (4 &&& 31)) ||| (r7_hexValue x)) (show (0 : Nat) ≠ 5 by decide)) d7_keepValue_131 rfl ?_
          refine V_bipush (pc1 := 136) d7_keepValue_134 vb_6 rfl ?_
          refine V_isub (pc1 := 137) d7_keepValue_136 rfl ?_
          refine V_iconst (pc1 := 138) d7_keepValue_137 vc_1 rfl ?_
          refine V_iadd (pc1 := 139) d7_keepValue_138 rfl ?_
          refine V_iconst (pc1 := 140) d7_keepValue_139 vc_2 rfl ?_
          refine V_idiv (pc1 := 141) d7_keepValue_140 (by decide) rfl ?_
          refine V_puti (pc1 := 144) ly294 (lt305 rfl) f7_43 rfl rfl d7_keepValue_141 rfl ?_
          exact key9 _ (by first | rfl | (simp only [if_neg h1, if_neg h2, if_neg h3, if_neg h4]; done) | (simp only [if_neg h1, if_neg h2, if_neg h3, if_neg h4]; rfl)) _ (lvsub_p [0, 1] rfl)
        refine V_beq (tgt := 144) (pc1 := 107) d7_keepValue_104 (by decide) rfl (fun h7 => ?_) (fun h7 => ?_)
        · skip
          exact k5 (Or.inl h7)
        · skip
          refine V_iload_n (pc1 := 108) 1 d7_keepValue_107 rfl rfl ?_
          refine V_si (pc1 := 111) (w7_hexValue g  x  I L ) s7_hexValue l7_27 rfl rfl ⟨Nat.le_of_ble_eq_true rfl, Nat.le_of_ble_eq_true rfl, Nat.le_refl _, Nat.le_refl _⟩ (Nat.le_of_ble_eq_true rfl) rfl d7_keepValue_108 rfl ?_
          refine V_if_lt (tgt := 144) (pc1 := 114) d7_keepValue_111 (by decide) rfl (fun h8 => ?_) (fun h8 => ?_)
          · skip
            exact k5 (Or.inr h8)
          · skip
            exact k6 (fun z => z.elim (fun z => z h7) h8)
      · skip
        refine V_aload_n (pc1 := 78) 0 d7_keepValue_77 rfl rfl ?_
        refine V_iconst (pc1 := 79) d7_keepValue_78 vc_1 rfl ?_
        refine V_putz (pc1 := 82) ly294 (lt305 rfl) f7_39 rfl rfl (Or.inr rfl) d7_keepValue_79 rfl ?_
        refine V_aload_n (pc1 := 83) 0 d7_keepValue_82 rfl rfl ?_
        refine V_iload_n (pc1 := 84) 1 d7_keepValue_83 rfl rfl ?_
        refine V_bipush (pc1 := 86) d7_keepValue_84 vb_48 rfl ?_
        refine V_isub (pc1 := 87) d7_keepValue_86 rfl ?_
        refine V_puti (pc1 := 90) ly294 (lt305 rfl) f7_43 rfl rfl d7_keepValue_87 rfl ?_
        refine V_goto (tgt := 144) d7_keepValue_90 (by decide) ?_
        exact key9 _ (by first | rfl | (simp only [if_neg h1, if_neg h2, if_pos h3]; done) | (simp only [if_neg h1, if_neg h2, if_pos h3]; rfl)) _ (lvsub_p [0, 1] rfl)
    · skip
      refine V_aload_n (pc1 := 51) 0 d7_keepValue_50 rfl rfl ?_
      refine V_aload_n (pc1 := 52) 0 d7_keepValue_51 rfl rfl ?_
      refine V_geti (pc1 := 55) ly294 (lt305 rfl) f7_36 (fun _ => rfl) rfl d7_keepValue_52 rfl ?_
      refine V_iconst (pc1 := 56) d7_keepValue_55 vc_4 rfl ?_
      refine V_ishl (pc1 := 57) d7_keepValue_56 rfl ?_
      refine V_iload_n (pc1 := 58) 1 d7_keepValue_57 rfl rfl ?_
      refine V_si (pc1 := 61) (w7_hexValue g  x  I L ) s7_hexValue l7_27 rfl rfl ⟨Nat.le_of_ble_eq_true rfl, Nat.le_of_ble_eq_true rfl, Nat.le_refl _, Nat.le_refl _⟩ (Nat.le_of_ble_eq_true rfl) rfl d7_keepValue_58 rfl ?_
      refine V_ior (pc1 := 62) d7_keepValue_61 rfl ?_
      refine V_puti (pc1 := 65) ly294 (lt305 rfl) f7_36 rfl rfl d7_keepValue_62 rfl ?_
      refine V_goto (tgt := 144) d7_keepValue_65 (by decide) ?_
      exact key9 _ (by first | rfl | (simp only [if_neg h1, if_pos h2]; done) | (simp only [if_neg h1, if_pos h2]; rfl)) _ (lvsub_p [0, 1] rfl)
  · skip
    refine V_aload_n (pc1 := 8) 0 d7_keepValue_7 rfl rfl ?_
    refine V_iload_n (pc1 := 9) 1 d7_keepValue_8 rfl rfl ?_
    refine V_bipush (pc1 := 11) d7_keepValue_9 vb_48 rfl ?_
    refine V_isub (pc1 := 12) d7_keepValue_11 rfl ?_
    refine V_puti (pc1 := 15) ly294 (lt305 rfl) f7_33 rfl rfl d7_keepValue_12 rfl ?_
    refine V_aload_n (pc1 := 16) 0 d7_keepValue_15 rfl rfl ?_
    refine V_iconst (pc1 := 17) d7_keepValue_16 vc_0 rfl ?_
    refine V_puti (pc1 := 20) ly294 (lt305 rfl) f7_36 rfl rfl d7_keepValue_17 rfl ?_
    refine V_aload_n (pc1 := 21) 0 d7_keepValue_20 rfl rfl ?_
    refine V_iconst (pc1 := 22) d7_keepValue_21 vc_0 rfl ?_
    refine V_putz (pc1 := 25) ly294 (lt305 rfl) f7_39 rfl rfl (Or.inl rfl) d7_keepValue_22 rfl ?_
    refine V_aload_n (pc1 := 26) 0 d7_keepValue_25 rfl rfl ?_
    refine V_iconst (pc1 := 27) d7_keepValue_26 vc_0 rfl ?_
    refine V_puti (pc1 := 30) ly294 (lt305 rfl) f7_43 rfl rfl d7_keepValue_27 rfl ?_
    refine V_aload_n (pc1 := 31) 0 d7_keepValue_30 rfl rfl ?_
    refine V_iconst (pc1 := 32) d7_keepValue_31 vc_0 rfl ?_
    refine V_puti (pc1 := 35) ly294 (lt305 rfl) f7_46 rfl rfl d7_keepValue_32 rfl ?_
    refine V_goto (tgt := 144) d7_keepValue_35 (by decide) ?_
    exact key9 _ (by first | rfl | (simp only [if_pos h1]; done) | (simp only [if_pos h1]; rfl)) _ (lvsub_p [0, 1] rfl)
theorem w7_keepValue (g : GlT)  (x : Int32) (I : Nat → Nat → Int32) (L : Nat → Nat → Int64) : Call g (k7_keepValue, 3, 0, 0) [.ref (xA g 294), .int x] (I, L, R0, 305) (Qv (i7_keepValue x I L) L) := Call.of (by decide) (Nat.le_of_ble_eq_true rfl) rfl (v7_keepValue g  x  I L  _ (And.intro rfl rfl))
theorem x7_keepValue {x : Int32} {I : Nat → Nat → Int32} {L : Nat → Nat → Int64} {aa : Nat} (h0 : aa ≠ 294) : i7_keepValue x I L aa = I aa := by
  first | (simp only [i7_keepValue]; done) | (simp only [i7_keepValue]; (try (repeat' split)) <;> first | rfl | (simp [uI_off, h0]; done))

def r7_take (x : Int32) (I : Nat → Nat → Int32) (L : Nat → Nat → Int64) : Bool := (if r7_stateAfter x I L = (-1) then false else true)
def i7_take (x : Int32) (I : Nat → Nat → Int32) (L : Nat → Nat → Int64) : Nat → Nat → Int32 := (if r7_stateAfter x I L = (-1) then I else uI (i7_keepValue x I L) 294 0 (r7_stateAfter x I L))
set_option maxRecDepth 4000 in
theorem v7_take (g : GlT)  (x : Int32) (I : Nat → Nat → Int32) (L : Nat → Nat → Int64) (Q : Option Value → MemT → Prop) (hq : Q (some (.int (bI (r7_take x I L)))) (i7_take x I L, L, R0, 305)) : V g (k7_take, 5, 0, 0) 0 0 0 [(0, .ref (xA g 294)), (1, .int x)] [] (I, L, R0, 305) Q := by
  refine V_aload_n (pc1 := 1) 0 d7_take_0 rfl rfl ?_
  refine V_iload_n (pc1 := 2) 1 d7_take_1 rfl rfl ?_
  refine V_vi (pc1 := 5) (w7_stateAfter g  x  I L ) ly294 (lt305 rfl) s7_stateAfter l7_13 rfl rfl ⟨Nat.le_of_ble_eq_true rfl, Nat.le_of_ble_eq_true rfl, Nat.le_refl _, Nat.le_refl _⟩ (Nat.le_of_ble_eq_true rfl) rfl d7_take_2 rfl ?_
  refine V_istore_n (pc1 := 6) d7_take_5 (Nat.le_of_ble_eq_true rfl) rfl rfl ?_
  refine V_iload_n (pc1 := 7) 0 d7_take_6 rfl rfl ?_
  refine V_iconst (pc1 := 8) d7_take_7 vc_m1 rfl ?_
  refine V_icmp_ne (tgt := 13) (pc1 := 11) d7_take_8 (by decide) rfl (fun h1 => ?_) (fun h1 => ?_)
  · skip
    refine V_aload_n (pc1 := 14) 1 d7_take_13 rfl rfl ?_
    refine V_iload_n (pc1 := 15) 2 d7_take_14 rfl rfl ?_
    refine V_vv (pc1 := 18) (w7_keepValue g  x  I L ) ly294 (lt305 rfl) s7_keepValue l7_17 rfl rfl ⟨Nat.le_of_ble_eq_true rfl, Nat.le_of_ble_eq_true rfl, Nat.le_refl _, Nat.le_refl _⟩ (Nat.le_of_ble_eq_true rfl) rfl d7_take_15 rfl ?_
    refine V_aload_n (pc1 := 19) 1 d7_take_18 rfl rfl ?_
    refine V_iload_n (pc1 := 20) 0 d7_take_19 rfl rfl ?_
    refine V_puti (pc1 := 23) ly294 (lt305 rfl) f7_9 rfl rfl d7_take_20 rfl ?_
    refine V_iconst (pc1 := 24) d7_take_23 vc_1 rfl ?_
    refine V_zret rfl (Or.inr rfl) d7_take_24 (Nat.zero_le _) (Nat.zero_le _) ?_
    have hq2 := hq
    simp only [r7_take, i7_take, if_neg h1] at hq2
    exact hq2
  · skip
    refine V_iconst (pc1 := 12) d7_take_11 vc_0 rfl ?_
    refine V_zret rfl (Or.inl rfl) d7_take_12 (Nat.zero_le _) (Nat.zero_le _) ?_
    have hq2 := hq
    simp only [r7_take, i7_take, if_pos h1] at hq2
    exact hq2
theorem w7_take (g : GlT)  (x : Int32) (I : Nat → Nat → Int32) (L : Nat → Nat → Int64) : Call g (k7_take, 5, 0, 0) [.ref (xA g 294), .int x] (I, L, R0, 305) (Qi (bI (r7_take x I L)) (i7_take x I L) L) := Call.of (by decide) (Nat.le_of_ble_eq_true rfl) rfl (v7_take g  x  I L  _ (And.intro rfl rfl))
theorem x7_take {x : Int32} {I : Nat → Nat → Int32} {L : Nat → Nat → Int64} {aa : Nat} (h0 : aa ≠ 294) : i7_take x I L aa = I aa := by
  first | (simp only [i7_take]; done) | (simp only [i7_take]; (try (repeat' split)) <;> first | rfl | (simp [uI_off, h0, x7_keepValue]; done))

def r9_add (x : Int32) (I : Nat → Nat → Int32) (L : Nat → Nat → Int64) : Bool := (if I 293 2 < 120 then true else false)
def i9_add (x : Int32) (I : Nat → Nat → Int32) (L : Nat → Nat → Int64) : Nat → Nat → Int32 := (if I 293 2 < 120 then uI (uI I 295 ((I 293 2).toNatClampNeg) x) 293 2 ((I 293 2) + 1) else I)
set_option maxRecDepth 4000 in
theorem v9_add (g : GlT)  (x : Int32) (t : Nat) (ht8 : t ≤ 120) (I : Nat → Nat → Int32) (L : Nat → Nat → Int64) (ht : I 293 2 = nI t) (Q : Option Value → MemT → Prop) (hq : Q (some (.int (bI (r9_add x I L)))) (i9_add x I L, L, R0, 305)) : V g (k9_add, 1, 0, 0) 0 0 0 [(0, .ref (xA g 293)), (1, .int x)] [] (I, L, R0, 305) Q := by
  have ht3 : (I 293 2).toNatClampNeg = t := by rw [ht]; exact nI_clamp (by omega)
  refine V_aload_n (pc1 := 1) 0 d9_add_0 rfl rfl ?_
  refine V_geti (pc1 := 4) ly293 (lt305 rfl) f9_22 (fun _ => rfl) rfl d9_add_1 rfl ?_
  refine V_bipush (pc1 := 6) d9_add_4 vb_120 rfl ?_
  refine V_icmp_lt (tgt := 11) (pc1 := 9) d9_add_6 (by decide) rfl (fun h1 => ?_) (fun h1 => ?_)
  · skip
    refine V_aload_n (pc1 := 12) 0 d9_add_11 rfl rfl ?_
    refine V_getr (pc1 := 15) ly293 (lt305 rfl) f9_18 (fun _ => rfl) rf293_1 d9_add_12 rfl ?_
    refine V_aload_n (pc1 := 16) 0 d9_add_15 rfl rfl ?_
    refine V_geti (pc1 := 19) ly293 (lt305 rfl) f9_22 (fun _ => rfl) rfl d9_add_16 rfl ?_
    refine V_iload_n (pc1 := 20) 1 d9_add_19 rfl rfl ?_
    refine V_iast (pc1 := 21) t ly295 (lt305 rfl) ht (nI_lt_of2 ht (by omega) (by omega) h1) d9_add_20 rfl ?_
    refine V_aload_n (pc1 := 22) 0 d9_add_21 rfl rfl ?_
    refine V_dup (pc1 := 23) d9_add_22 rfl rfl ?_
    refine V_geti (pc1 := 26) ly293 (lt305 rfl) f9_22 (fun _ => rfl) (congrFun (uI_off I t x (show (293 : Nat) ≠ 295 by decide)) _) d9_add_23 rfl ?_
    refine V_iconst (pc1 := 27) d9_add_26 vc_1 rfl ?_
    refine V_iadd (pc1 := 28) d9_add_27 rfl ?_
    refine V_puti (pc1 := 31) ly293 (lt305 rfl) f9_22 rfl rfl d9_add_28 rfl ?_
    refine V_iconst (pc1 := 32) d9_add_31 vc_1 rfl ?_
    refine V_zret rfl (Or.inr rfl) d9_add_32 (Nat.zero_le _) (Nat.zero_le _) ?_
    have hq2 := hq
    simp only [r9_add, i9_add, ht3, if_pos h1] at hq2
    exact hq2
  · skip
    refine V_iconst (pc1 := 10) d9_add_9 vc_0 rfl ?_
    refine V_zret rfl (Or.inl rfl) d9_add_10 (Nat.zero_le _) (Nat.zero_le _) ?_
    have hq2 := hq
    simp only [r9_add, i9_add, ht3, if_neg h1] at hq2
    exact hq2
theorem w9_add (g : GlT)  (x : Int32) (t : Nat) (ht8 : t ≤ 120) (I : Nat → Nat → Int32) (L : Nat → Nat → Int64) (ht : I 293 2 = nI t) : Call g (k9_add, 1, 0, 0) [.ref (xA g 293), .int x] (I, L, R0, 305) (Qi (bI (r9_add x I L)) (i9_add x I L) L) := Call.of (by decide) (Nat.le_of_ble_eq_true rfl) rfl (v9_add g  x t ht8 I L ht _ (And.intro rfl rfl))
theorem x9_add {x : Int32} {I : Nat → Nat → Int32} {L : Nat → Nat → Int64} {aa : Nat} (h0 : aa ≠ 293) (h1 : aa ≠ 295) : i9_add x I L aa = I aa := by
  first | (simp only [i9_add]; done) | (simp only [i9_add]; (try (repeat' split)) <;> first | rfl | (simp [uI_off, h0, h1]; done))

def r9_letterAt (p : Nat) (I : Nat → Nat → Int32) (L : Nat → Nat → Int64) : Int32 := I 295 p
set_option maxRecDepth 4000 in
theorem v9_letterAt (g : GlT)  (p : Nat) (t : Nat) (ht8 : t ≤ 120) (hp : p < t) (I : Nat → Nat → Int32) (L : Nat → Nat → Int64) (ht : I 293 2 = nI t) (Q : Option Value → MemT → Prop) (hq : Q (some (.int (r9_letterAt p I L))) (I, L, R0, 305)) : V g (k9_letterAt, 1, 0, 0) 0 0 0 [(0, .ref (xA g 293)), (1, .int (nI p))] [] (I, L, R0, 305) Q := by
  refine V_iload_n (pc1 := 1) 1 d9_letterAt_0 rfl rfl ?_
  refine V_if_lt (tgt := 21) (pc1 := 4) d9_letterAt_1 (by decide) rfl (fun h1 => absurd h1 (nI_pos (by omega))) (fun _ => ?_)
  refine V_iload_n (pc1 := 5) 1 d9_letterAt_4 rfl rfl ?_
  refine V_aload_n (pc1 := 6) 0 d9_letterAt_5 rfl rfl ?_
  refine V_geti (pc1 := 9) ly293 (lt305 rfl) f9_22 (fun _ => rfl) ht d9_letterAt_6 rfl ?_
  refine V_icmp_ge (tgt := 21) (pc1 := 12) d9_letterAt_9 (by decide) rfl (fun h2 => absurd h2 (nI_ge (by omega) (by omega))) (fun _ => ?_)
  refine V_aload_n (pc1 := 13) 0 d9_letterAt_12 rfl rfl ?_
  refine V_getr (pc1 := 16) ly293 (lt305 rfl) f9_18 (fun _ => rfl) rf293_1 d9_letterAt_13 rfl ?_
  refine V_iload_n (pc1 := 17) 1 d9_letterAt_16 rfl rfl ?_
  refine V_iald2 (pc1 := 18) p ly295 (lt305 rfl) rfl (by omega) rfl d9_letterAt_17 rfl ?_
  refine V_goto (tgt := 22) d9_letterAt_18 (by decide) ?_
  refine V_iret rfl d9_letterAt_22 (Nat.zero_le _) (Nat.zero_le _) ?_
  have hq2 := hq
  simp only [r9_letterAt] at hq2
  exact hq2
theorem w9_letterAt (g : GlT)  (p : Nat) (t : Nat) (ht8 : t ≤ 120) (hp : p < t) (I : Nat → Nat → Int32) (L : Nat → Nat → Int64) (ht : I 293 2 = nI t) : Call g (k9_letterAt, 1, 0, 0) [.ref (xA g 293), .int (nI p)] (I, L, R0, 305) (Qi (r9_letterAt p I L) (I) L) := Call.of (by decide) (Nat.le_of_ble_eq_true rfl) rfl (v9_letterAt g  p t ht8 hp I L ht _ (And.intro rfl rfl))

def r9_findFault_9 : Nat → Nat → (Nat → Nat → Int32) → (Nat → Nat → Int64) → Int32
  | 0, i, I, L => (if (r7_isBetweenRequests I L) = true then (-5) else I 293 2)
  | n + 1, i, I, L => (if (r7_take (I 295 i) I L) = true then r9_findFault_9  n (i + 1) (i7_take (I 295 i) I L) L else nI i)
def i9_findFault_9 : Nat → Nat → (Nat → Nat → Int32) → (Nat → Nat → Int64) → (Nat → Nat → Int32)
  | 0, i, I, L => I
  | n + 1, i, I, L => (if (r7_take (I 295 i) I L) = true then i9_findFault_9  n (i + 1) (i7_take (I 295 i) I L) L else i7_take (I 295 i) I L)
set_option maxRecDepth 4000 in
theorem t9_findFault_9 (g : GlT)  (t : Nat) (ht8 : t ≤ 120) : ∀ (n i : Nat) (I : Nat → Nat → Int32) (L : Nat → Nat → Int64), (ht : I 293 2 = nI t) → (hn : i + n = t) → ∀ (Q : Option Value → MemT → Prop), Q (some (.int (r9_findFault_9 n i I L))) (i9_findFault_9 n i I L, L, R0, 305) → V g (k9_findFault, 6, 0, 0) 0 0 9 [(0, .ref (xA g 293)), (1, .int (nI i))] [] (I, L, R0, 305) Q := by
  intro n
  induction n with
  | zero =>
    intro i I L ht hn Q hq
    refine V_iload_n (pc1 := 10) 1 d9_findFault_9 rfl rfl ?_
    refine V_aload_n (pc1 := 11) 0 d9_findFault_10 rfl rfl ?_
    refine V_geti (pc1 := 14) ly293 (lt305 rfl) f9_22 (fun _ => rfl) ht d9_findFault_11 rfl ?_
    refine V_icmp_ge (tgt := 41) (pc1 := 17) d9_findFault_14 (by decide) rfl (fun _ => ?_) (fun h1 => absurd (nI_le (by omega) (by omega)) h1)
    refine V_aload_n (pc1 := 42) 0 d9_findFault_41 rfl rfl ?_
    refine V_getr (pc1 := 45) ly293 (lt305 rfl) f9_12 (fun _ => rfl) rf293_0 d9_findFault_42 rfl ?_
    refine V_vi (pc1 := 48) (w7_isBetweenRequests g    I L ) ly294 (lt305 rfl) s7_isBetweenRequests l9_33 rfl rfl ⟨Nat.le_of_ble_eq_true rfl, Nat.le_of_ble_eq_true rfl, Nat.le_refl _, Nat.le_refl _⟩ (Nat.le_of_ble_eq_true rfl) rfl d9_findFault_45 rfl ?_
    have key3 : ∀ (y60_0 : Int32), y60_0 = (if (r7_isBetweenRequests I L) = true then (-5) else I 293 2) → ∀ (lv : List (Nat × Value)), lvsub [(0, .ref (xA g 293)), (1, .int (nI i))] lv → V g (k9_findFault, 6, 0, 0) 0 0 60 lv [.int y60_0] (I, L, R0, 305) Q := by
      intro y60_0 ey60_0
      subst ey60_0
      intro lv hlv
      refine V_lv hlv ?_
      refine V_iret rfl d9_findFault_60 (Nat.zero_le _) (Nat.zero_le _) ?_
      have hq2 := hq
      simp only [r9_findFault_9, i9_findFault_9] at hq2
      exact hq2
    refine V_beq (tgt := 56) (pc1 := 51) d9_findFault_48 (by decide) rfl (fun h2 => ?_) (fun h2 => ?_)
    · skip
      refine V_aload_n (pc1 := 57) 0 d9_findFault_56 rfl rfl ?_
      refine V_geti (pc1 := 60) ly293 (lt305 rfl) f9_22 (fun _ => rfl) rfl d9_findFault_57 rfl ?_
      exact key3 _ (by first | rfl | (simp only [if_neg h2]; done) | (simp only [if_neg h2]; rfl)) _ (lvsub_p [0, 1] rfl)
    · skip
      refine V_bipush (pc1 := 53) d9_findFault_51 vb_m5 rfl ?_
      refine V_goto (tgt := 60) d9_findFault_53 (by decide) ?_
      exact key3 _ (by first | rfl | (simp only [if_pos h2]; done) | (simp only [if_pos h2]; rfl)) _ (lvsub_p [0, 1] rfl)
  | succ n ih =>
    intro i I L ht hn Q hq
    refine V_iload_n (pc1 := 10) 1 d9_findFault_9 rfl rfl ?_
    refine V_aload_n (pc1 := 11) 0 d9_findFault_10 rfl rfl ?_
    refine V_geti (pc1 := 14) ly293 (lt305 rfl) f9_22 (fun _ => rfl) ht d9_findFault_11 rfl ?_
    refine V_icmp_ge (tgt := 41) (pc1 := 17) d9_findFault_14 (by decide) rfl (fun h1 => absurd h1 (nI_ge (by omega) (by omega))) (fun _ => ?_)
    refine V_aload_n (pc1 := 18) 0 d9_findFault_17 rfl rfl ?_
    refine V_getr (pc1 := 21) ly293 (lt305 rfl) f9_12 (fun _ => rfl) rf293_0 d9_findFault_18 rfl ?_
    refine V_aload_n (pc1 := 22) 0 d9_findFault_21 rfl rfl ?_
    refine V_getr (pc1 := 25) ly293 (lt305 rfl) f9_18 (fun _ => rfl) rf293_1 d9_findFault_22 rfl ?_
    refine V_iload_n (pc1 := 26) 1 d9_findFault_25 rfl rfl ?_
    refine V_iald2 (pc1 := 27) i ly295 (lt305 rfl) rfl (by omega) rfl d9_findFault_26 rfl ?_
    refine V_vi (pc1 := 30) (w7_take g  (I 295 i)  I L ) ly294 (lt305 rfl) s7_take l9_29 rfl rfl ⟨Nat.le_of_ble_eq_true rfl, Nat.le_of_ble_eq_true rfl, Nat.le_refl _, Nat.le_refl _⟩ (Nat.le_of_ble_eq_true rfl) rfl d9_findFault_27 rfl ?_
    refine V_bne (tgt := 35) (pc1 := 33) d9_findFault_30 (by decide) rfl (fun h2 => ?_) (fun h2 => ?_)
    · skip
      refine V_iinc (pc1 := 38) 1 (v := nI (i + 1)) d9_findFault_35 rfl (nI_1 _) (Nat.le_of_ble_eq_true rfl) rfl rfl ?_
      refine V_goto (tgt := 9) d9_findFault_38 (by decide) ?_
      refine V_lv (lv1 := [(0, .ref (xA g 293)), (1, .int (nI (i + 1)))]) (lvsub_p [1, 0] rfl) ?_
      have hq2 := hq
      simp only [r9_findFault_9, i9_findFault_9, if_pos h2] at hq2
      exact ih (i + 1) (i7_take (I 295 i) I L) L ((congrFun (x7_take (I := I) (L := L) (show (293 : Nat) ≠ 294 by decide)) _).trans ht) (by omega) Q hq2
    · skip
      refine V_iload_n (pc1 := 34) 1 d9_findFault_33 rfl rfl ?_
      refine V_iret rfl d9_findFault_34 (Nat.zero_le _) (Nat.zero_le _) ?_
      have hq2 := hq
      simp only [r9_findFault_9, i9_findFault_9, if_neg h2] at hq2
      exact hq2
def r9_findFault (I : Nat → Nat → Int32) (L : Nat → Nat → Int64) : Int32 := r9_findFault_9  ((I 293 2).toNatClampNeg) 0 (i7_restart I L) L
def i9_findFault (I : Nat → Nat → Int32) (L : Nat → Nat → Int64) : Nat → Nat → Int32 := i9_findFault_9  ((I 293 2).toNatClampNeg) 0 (i7_restart I L) L
set_option maxRecDepth 4000 in
theorem v9_findFault (g : GlT)  (t : Nat) (ht8 : t ≤ 120) (I : Nat → Nat → Int32) (L : Nat → Nat → Int64) (ht : I 293 2 = nI t) (Q : Option Value → MemT → Prop) (hq : Q (some (.int (r9_findFault I L))) (i9_findFault I L, L, R0, 305)) : V g (k9_findFault, 6, 0, 0) 0 0 0 [(0, .ref (xA g 293))] [] (I, L, R0, 305) Q := by
  have ht3 : (I 293 2).toNatClampNeg = t := by rw [ht]; exact nI_clamp (by omega)
  refine V_aload_n (pc1 := 1) 0 d9_findFault_0 rfl rfl ?_
  refine V_getr (pc1 := 4) ly293 (lt305 rfl) f9_12 (fun _ => rfl) rf293_0 d9_findFault_1 rfl ?_
  refine V_vv (pc1 := 7) (w7_restart g    I L ) ly294 (lt305 rfl) s7_restart l9_26 rfl rfl ⟨Nat.le_of_ble_eq_true rfl, Nat.le_of_ble_eq_true rfl, Nat.le_refl _, Nat.le_refl _⟩ (Nat.le_of_ble_eq_true rfl) rfl d9_findFault_4 rfl ?_
  refine V_iconst (pc1 := 8) d9_findFault_7 vc_0 rfl ?_
  refine V_istore_n (pc1 := 9) d9_findFault_8 (Nat.le_of_ble_eq_true rfl) rfl rfl ?_
  refine V_lv (lv1 := [(0, .ref (xA g 293)), (1, .int (nI 0))]) (lvsub_p [1, 0] rfl) ?_
  have hq2 := hq
  simp only [r9_findFault, i9_findFault, ht3] at hq2
  exact t9_findFault_9 g   _ ht8 t 0 (i7_restart I L) L ((congrFun (x7_restart (I := I) (L := L) (show (293 : Nat) ≠ 294 by decide)) _).trans ht) (by omega) Q hq2
theorem w9_findFault (g : GlT)  (t : Nat) (ht8 : t ≤ 120) (I : Nat → Nat → Int32) (L : Nat → Nat → Int64) (ht : I 293 2 = nI t) : Call g (k9_findFault, 6, 0, 0) [.ref (xA g 293)] (I, L, R0, 305) (Qi (r9_findFault I L) (i9_findFault I L) L) := Call.of (by decide) (Nat.le_of_ble_eq_true rfl) rfl (v9_findFault g   t ht8 I L ht _ (And.intro rfl rfl))
theorem x9_findFault_9 {aa : Nat} (h0 : aa ≠ 294) : ∀ (n i : Nat) (I : Nat → Nat → Int32) (L : Nat → Nat → Int64), i9_findFault_9 n i I L aa = I aa := by
  intro n
  induction n with
  | zero => intros; first | (simp only [i9_findFault_9]; done) | (simp only [i9_findFault_9]; (try (repeat' split)) <;> first | rfl | (simp [uI_off, h0, x7_restart, x7_take]; done))
  | succ n ih => intros; first | (simp only [i9_findFault_9]; done) | (simp only [i9_findFault_9]; (try (repeat' split)) <;> first | rfl | (simp [ih, uI_off, h0, x7_restart, x7_take]; done))
theorem x9_findFault {I : Nat → Nat → Int32} {L : Nat → Nat → Int64} {aa : Nat} (h0 : aa ≠ 294) : i9_findFault I L aa = I aa := by
  first | (simp only [i9_findFault]; done) | (simp only [i9_findFault]; (try (repeat' split)) <;> first | rfl | (simp [uI_off, h0, x7_restart, x7_take, x9_findFault_9 h0]; done))

def r5_indexOf_2 (idn : Int32) : Nat → Nat → (Nat → Nat → Int32) → (Nat → Nat → Int64) → Int32
  | 0, i, I, L => (-1)
  | n + 1, i, I, L => (if I 289 i = idn then nI i else r5_indexOf_2 idn n (i + 1) I L)
set_option maxRecDepth 4000 in
theorem t5_indexOf_2 (g : GlT)  (idn : Int32) (m : Nat) (hm8 : m ≤ 8) : ∀ (n i : Nat) (I : Nat → Nat → Int32) (L : Nat → Nat → Int64), (hm : I 288 4 = nI m) → (hn : i + n = m) → ∀ (Q : Option Value → MemT → Prop), Q (some (.int (r5_indexOf_2 idn n i I L))) (I, L, R0, 305) → V g (k5_indexOf, 1, 0, 0) 0 0 2 [(0, .ref (xA g 288)), (1, .int idn), (2, .int (nI i))] [] (I, L, R0, 305) Q := by
  intro n
  induction n with
  | zero =>
    intro i I L hm hn Q hq
    refine V_iload_n (pc1 := 3) 2 d5_indexOf_2 rfl rfl ?_
    refine V_aload_n (pc1 := 4) 0 d5_indexOf_3 rfl rfl ?_
    refine V_geti (pc1 := 7) ly288 (lt305 rfl) f5_24 (fun _ => rfl) hm d5_indexOf_4 rfl ?_
    refine V_icmp_ge (tgt := 28) (pc1 := 10) d5_indexOf_7 (by decide) rfl (fun _ => ?_) (fun h1 => absurd (nI_le (by omega) (by omega)) h1)
    refine V_iconst (pc1 := 29) d5_indexOf_28 vc_m1 rfl ?_
    refine V_iret rfl d5_indexOf_29 (Nat.zero_le _) (Nat.zero_le _) ?_
    have hq2 := hq
    simp only [r5_indexOf_2] at hq2
    exact hq2
  | succ n ih =>
    intro i I L hm hn Q hq
    refine V_iload_n (pc1 := 3) 2 d5_indexOf_2 rfl rfl ?_
    refine V_aload_n (pc1 := 4) 0 d5_indexOf_3 rfl rfl ?_
    refine V_geti (pc1 := 7) ly288 (lt305 rfl) f5_24 (fun _ => rfl) hm d5_indexOf_4 rfl ?_
    refine V_icmp_ge (tgt := 28) (pc1 := 10) d5_indexOf_7 (by decide) rfl (fun h1 => absurd h1 (nI_ge (by omega) (by omega))) (fun _ => ?_)
    refine V_aload_n (pc1 := 11) 0 d5_indexOf_10 rfl rfl ?_
    refine V_getr (pc1 := 14) ly288 (lt305 rfl) f5_11 (fun _ => rfl) rf288_0 d5_indexOf_11 rfl ?_
    refine V_iload_n (pc1 := 15) 2 d5_indexOf_14 rfl rfl ?_
    refine V_iald2 (pc1 := 16) i ly289 (lt305 rfl) rfl (by omega) rfl d5_indexOf_15 rfl ?_
    refine V_iload_n (pc1 := 17) 1 d5_indexOf_16 rfl rfl ?_
    refine V_icmp_ne (tgt := 22) (pc1 := 20) d5_indexOf_17 (by decide) rfl (fun h2 => ?_) (fun h2 => ?_)
    · skip
      refine V_iinc (pc1 := 25) 2 (v := nI (i + 1)) d5_indexOf_22 rfl (nI_1 _) (Nat.le_of_ble_eq_true rfl) rfl rfl ?_
      refine V_goto (tgt := 2) d5_indexOf_25 (by decide) ?_
      refine V_lv (lv1 := [(0, .ref (xA g 288)), (1, .int idn), (2, .int (nI (i + 1)))]) (lvsub_p [1, 2, 0] rfl) ?_
      have hq2 := hq
      simp only [r5_indexOf_2, if_neg h2] at hq2
      exact ih (i + 1) I L hm (by omega) Q hq2
    · skip
      refine V_iload_n (pc1 := 21) 2 d5_indexOf_20 rfl rfl ?_
      refine V_iret rfl d5_indexOf_21 (Nat.zero_le _) (Nat.zero_le _) ?_
      have hq2 := hq
      simp only [r5_indexOf_2, if_pos h2] at hq2
      exact hq2
def r5_indexOf (idn : Int32) (I : Nat → Nat → Int32) (L : Nat → Nat → Int64) : Int32 := r5_indexOf_2 idn ((I 288 4).toNatClampNeg) 0 I L
set_option maxRecDepth 4000 in
theorem v5_indexOf (g : GlT)  (idn : Int32) (m : Nat) (hm8 : m ≤ 8) (I : Nat → Nat → Int32) (L : Nat → Nat → Int64) (hm : I 288 4 = nI m) (Q : Option Value → MemT → Prop) (hq : Q (some (.int (r5_indexOf idn I L))) (I, L, R0, 305)) : V g (k5_indexOf, 1, 0, 0) 0 0 0 [(0, .ref (xA g 288)), (1, .int idn)] [] (I, L, R0, 305) Q := by
  have hm3 : (I 288 4).toNatClampNeg = m := by rw [hm]; exact nI_clamp (by omega)
  refine V_iconst (pc1 := 1) d5_indexOf_0 vc_0 rfl ?_
  refine V_istore_n (pc1 := 2) d5_indexOf_1 (Nat.le_of_ble_eq_true rfl) rfl rfl ?_
  refine V_lv (lv1 := [(0, .ref (xA g 288)), (1, .int idn), (2, .int (nI 0))]) (lvsub_p [1, 2, 0] rfl) ?_
  have hq2 := hq
  simp only [r5_indexOf, hm3] at hq2
  exact t5_indexOf_2 g  _ _ hm8 m 0 I L hm (by omega) Q hq2
theorem w5_indexOf (g : GlT)  (idn : Int32) (m : Nat) (hm8 : m ≤ 8) (I : Nat → Nat → Int32) (L : Nat → Nat → Int64) (hm : I 288 4 = nI m) : Call g (k5_indexOf, 1, 0, 0) [.ref (xA g 288), .int idn] (I, L, R0, 305) (Qi (r5_indexOf idn I L) (I) L) := Call.of (by decide) (Nat.le_of_ble_eq_true rfl) rfl (v5_indexOf g  idn m hm8 I L hm _ (And.intro rfl rfl))

def r5_put (idn : Int32) (ln : Int32) (pd : Int32) (jt : Int32) (I : Nat → Nat → Int32) (L : Nat → Nat → Int64) : Bool := (if (if r5_indexOf idn I L < 0 then I 288 4 else r5_indexOf idn I L) < 8 then true else false)
def i5_put (idn : Int32) (ln : Int32) (pd : Int32) (jt : Int32) (I : Nat → Nat → Int32) (L : Nat → Nat → Int64) : Nat → Nat → Int32 := (if (if r5_indexOf idn I L < 0 then I 288 4 else r5_indexOf idn I L) < 8 then uI (uI (uI (uI (uI I 289 (((if r5_indexOf idn I L < 0 then I 288 4 else r5_indexOf idn I L)).toNatClampNeg) idn) 290 (((if r5_indexOf idn I L < 0 then I 288 4 else r5_indexOf idn I L)).toNatClampNeg) (r10_longestFrame ln)) 291 (((if r5_indexOf idn I L < 0 then I 288 4 else r5_indexOf idn I L)).toNatClampNeg) pd) 292 (((if r5_indexOf idn I L < 0 then I 288 4 else r5_indexOf idn I L)).toNatClampNeg) jt) 288 4 (if I 288 4 < (if r5_indexOf idn I L < 0 then I 288 4 else r5_indexOf idn I L) + 1 then (if r5_indexOf idn I L < 0 then I 288 4 else r5_indexOf idn I L) + 1 else I 288 4) else I)
set_option maxRecDepth 4000 in
theorem v5_put (g : GlT)  (idn : Int32) (ln : Int32) (pd : Int32) (jt : Int32) (m : Nat) (hm8 : m ≤ 8) (I : Nat → Nat → Int32) (L : Nat → Nat → Int64) (hm : I 288 4 = nI m) (Q : Option Value → MemT → Prop) (hq : Q (some (.int (bI (r5_put idn ln pd jt I L)))) (i5_put idn ln pd jt I L, L, R0, 305)) : V g (k5_put, 2, 0, 0) 0 0 0 [(0, .ref (xA g 288)), (1, .int idn), (2, .int ln), (3, .int pd), (4, .int jt)] [] (I, L, R0, 305) Q := by
  refine V_aload_n (pc1 := 1) 0 d5_put_0 rfl rfl ?_
  refine V_iload_n (pc1 := 2) 1 d5_put_1 rfl rfl ?_
  refine V_vi (pc1 := 5) (w5_indexOf g  idn m hm8 I L hm) ly288 (lt305 rfl) s5_indexOf l5_28 rfl rfl ⟨Nat.le_of_ble_eq_true rfl, Nat.le_of_ble_eq_true rfl, Nat.le_refl _, Nat.le_refl _⟩ (Nat.le_of_ble_eq_true rfl) rfl d5_put_2 rfl ?_
  refine V_istore (pc1 := 7) d5_put_5 (Nat.le_of_ble_eq_true rfl) rfl rfl ?_
  refine V_iload (pc1 := 9) 0 d5_put_7 rfl rfl ?_
  have key2 : ∀ (y21_0 : Int32), y21_0 = (if r5_indexOf idn I L < 0 then I 288 4 else r5_indexOf idn I L) → ∀ (lv : List (Nat × Value)), lvsub [(5, .int (r5_indexOf idn I L)), (0, .ref (xA g 288)), (1, .int idn), (2, .int ln), (3, .int pd), (4, .int jt)] lv → V g (k5_put, 2, 0, 0) 0 0 21 lv [.int y21_0] (I, L, R0, 305) Q := by
    intro y21_0 ey21_0
    subst ey21_0
    intro lv hlv
    refine V_lv hlv ?_
    refine V_istore (pc1 := 23) d5_put_21 (Nat.le_of_ble_eq_true rfl) rfl rfl ?_
    refine V_iload (pc1 := 25) 0 d5_put_23 rfl rfl ?_
    refine V_bipush (pc1 := 27) d5_put_25 vb_8 rfl ?_
    refine V_icmp_lt (tgt := 32) (pc1 := 30) d5_put_27 (by decide) rfl (fun h3 => ?_) (fun h3 => ?_)
    · skip
      have hpx : (if r5_indexOf idn I L < 0 then I 288 4 else r5_indexOf idn I L) = nI (((if r5_indexOf idn I L < 0 then I 288 4 else r5_indexOf idn I L)).toNatClampNeg) ∧ ((if r5_indexOf idn I L < 0 then I 288 4 else r5_indexOf idn I L)).toNatClampNeg < 8 := ix_of (by omega) (by split <;> first | (rw [hm]; exact nI_pos (by omega)) | assumption) (nlt_of_lt h3)
      refine V_aload_n (pc1 := 33) 2 d5_put_32 rfl rfl ?_
      refine V_getr (pc1 := 36) ly288 (lt305 rfl) f5_11 (fun _ => rfl) rf288_0 d5_put_33 rfl ?_
      refine V_iload (pc1 := 38) 0 d5_put_36 rfl rfl ?_
      refine V_iload_n (pc1 := 39) 3 d5_put_38 rfl rfl ?_
      refine V_iast (pc1 := 40) (((if r5_indexOf idn I L < 0 then I 288 4 else r5_indexOf idn I L)).toNatClampNeg) ly289 (lt305 rfl) hpx.1 hpx.2 d5_put_39 rfl ?_
      refine V_aload_n (pc1 := 41) 2 d5_put_40 rfl rfl ?_
      refine V_getr (pc1 := 44) ly288 (lt305 rfl) f5_15 (fun _ => rfl) rf288_1 d5_put_41 rfl ?_
      refine V_iload (pc1 := 46) 0 d5_put_44 rfl rfl ?_
      refine V_iload_n (pc1 := 47) 4 d5_put_46 rfl rfl ?_
      refine V_ni (pc1 := 50) (w10_longestFrame g  ln  (uI I 289 (((if r5_indexOf idn I L < 0 then I 288 4 else r5_indexOf idn I L)).toNatClampNeg) idn) L ) s10_longestFrame l5_32 rfl rfl ⟨Nat.le_of_ble_eq_true rfl, Nat.le_of_ble_eq_true rfl, Nat.le_refl _, Nat.le_refl _⟩ (Nat.le_of_ble_eq_true rfl) rfl d5_put_47 rfl ?_
      refine V_iast (pc1 := 51) (((if r5_indexOf idn I L < 0 then I 288 4 else r5_indexOf idn I L)).toNatClampNeg) ly290 (lt305 rfl) hpx.1 hpx.2 d5_put_50 rfl ?_
      refine V_aload_n (pc1 := 52) 2 d5_put_51 rfl rfl ?_
      refine V_getr (pc1 := 55) ly288 (lt305 rfl) f5_18 (fun _ => rfl) rf288_2 d5_put_52 rfl ?_
      refine V_iload (pc1 := 57) 0 d5_put_55 rfl rfl ?_
      refine V_iload_n (pc1 := 58) 5 d5_put_57 rfl rfl ?_
      refine V_iast (pc1 := 59) (((if r5_indexOf idn I L < 0 then I 288 4 else r5_indexOf idn I L)).toNatClampNeg) ly291 (lt305 rfl) hpx.1 hpx.2 d5_put_58 rfl ?_
      refine V_aload_n (pc1 := 60) 2 d5_put_59 rfl rfl ?_
      refine V_getr (pc1 := 63) ly288 (lt305 rfl) f5_21 (fun _ => rfl) rf288_3 d5_put_60 rfl ?_
      refine V_iload (pc1 := 65) 0 d5_put_63 rfl rfl ?_
      refine V_iload (pc1 := 67) 6 d5_put_65 rfl rfl ?_
      refine V_iast (pc1 := 68) (((if r5_indexOf idn I L < 0 then I 288 4 else r5_indexOf idn I L)).toNatClampNeg) ly292 (lt305 rfl) hpx.1 hpx.2 d5_put_67 rfl ?_
      refine V_aload_n (pc1 := 69) 2 d5_put_68 rfl rfl ?_
      refine V_aload_n (pc1 := 70) 2 d5_put_69 rfl rfl ?_
      refine V_geti (pc1 := 73) ly288 (lt305 rfl) f5_24 (fun _ => rfl) ((congrFun (uI_off (uI (uI (uI I 289 (((if r5_indexOf idn I L < 0 then I 288 4 else r5_indexOf idn I L)).toNatClampNeg) idn) 290 (((if r5_indexOf idn I L < 0 then I 288 4 else r5_indexOf idn I L)).toNatClampNeg) (r10_longestFrame ln)) 291 (((if r5_indexOf idn I L < 0 then I 288 4 else r5_indexOf idn I L)).toNatClampNeg) pd) (((if r5_indexOf idn I L < 0 then I 288 4 else r5_indexOf idn I L)).toNatClampNeg) jt (show (288 : Nat) ≠ 292 by decide)) _).trans ((congrFun (uI_off (uI (uI I 289 (((if r5_indexOf idn I L < 0 then I 288 4 else r5_indexOf idn I L)).toNatClampNeg) idn) 290 (((if r5_indexOf idn I L < 0 then I 288 4 else r5_indexOf idn I L)).toNatClampNeg) (r10_longestFrame ln)) (((if r5_indexOf idn I L < 0 then I 288 4 else r5_indexOf idn I L)).toNatClampNeg) pd (show (288 : Nat) ≠ 291 by decide)) _).trans ((congrFun (uI_off (uI I 289 (((if r5_indexOf idn I L < 0 then I 288 4 else r5_indexOf idn I L)).toNatClampNeg) idn) (((if r5_indexOf idn I L < 0 then I 288 4 else r5_indexOf idn I L)).toNatClampNeg) (r10_longestFrame ln) (show (288 : Nat) ≠ 290 by decide)) _).trans (congrFun (uI_off I (((if r5_indexOf idn I L < 0 then I 288 4 else r5_indexOf idn I L)).toNatClampNeg) idn (show (288 : Nat) ≠ 289 by decide)) _)))) d5_put_70 rfl ?_
      refine V_iload (pc1 := 75) 0 d5_put_73 rfl rfl ?_
      refine V_iconst (pc1 := 76) d5_put_75 vc_1 rfl ?_
      refine V_iadd (pc1 := 77) d5_put_76 rfl ?_
      refine V_max (pc1 := 80) l5_35 jmaxS jmthI jmaxC (Nat.le_of_ble_eq_true rfl) (Nat.zero_le _) (Nat.zero_le _) (Nat.le_of_ble_eq_true rfl) d5_put_77 rfl ?_
      refine V_puti (pc1 := 83) ly288 (lt305 rfl) f5_24 rfl rfl d5_put_80 rfl ?_
      refine V_iconst (pc1 := 84) d5_put_83 vc_1 rfl ?_
      refine V_zret rfl (Or.inr rfl) d5_put_84 (Nat.zero_le _) (Nat.zero_le _) ?_
      have hq2 := hq
      simp only [r5_put, i5_put, if_pos h3] at hq2
      exact hq2
    · skip
      refine V_iconst (pc1 := 31) d5_put_30 vc_0 rfl ?_
      refine V_zret rfl (Or.inl rfl) d5_put_31 (Nat.zero_le _) (Nat.zero_le _) ?_
      have hq2 := hq
      simp only [r5_put, i5_put, if_neg h3] at hq2
      exact hq2
  refine V_if_lt (tgt := 17) (pc1 := 12) d5_put_9 (by decide) rfl (fun h1 => ?_) (fun h1 => ?_)
  · skip
    refine V_aload_n (pc1 := 18) 1 d5_put_17 rfl rfl ?_
    refine V_geti (pc1 := 21) ly288 (lt305 rfl) f5_24 (fun _ => rfl) rfl d5_put_18 rfl ?_
    exact key2 _ (by first | rfl | (simp only [if_pos h1]; done) | (simp only [if_pos h1]; rfl)) _ (lvsub_p [0, 1, 2, 3, 4, 5] rfl)
  · skip
    refine V_iload (pc1 := 14) 0 d5_put_12 rfl rfl ?_
    refine V_goto (tgt := 21) d5_put_14 (by decide) ?_
    exact key2 _ (by first | rfl | (simp only [if_neg h1]; done) | (simp only [if_neg h1]; rfl)) _ (lvsub_p [0, 1, 2, 3, 4, 5] rfl)
theorem w5_put (g : GlT)  (idn : Int32) (ln : Int32) (pd : Int32) (jt : Int32) (m : Nat) (hm8 : m ≤ 8) (I : Nat → Nat → Int32) (L : Nat → Nat → Int64) (hm : I 288 4 = nI m) : Call g (k5_put, 2, 0, 0) [.ref (xA g 288), .int idn, .int ln, .int pd, .int jt] (I, L, R0, 305) (Qi (bI (r5_put idn ln pd jt I L)) (i5_put idn ln pd jt I L) L) := Call.of (by decide) (Nat.le_of_ble_eq_true rfl) rfl (v5_put g  idn ln pd jt m hm8 I L hm _ (And.intro rfl rfl))
theorem x5_put {idn : Int32} {ln : Int32} {pd : Int32} {jt : Int32} {I : Nat → Nat → Int32} {L : Nat → Nat → Int64} {aa : Nat} (h0 : aa ≠ 288) (h1 : aa ≠ 289) (h2 : aa ≠ 290) (h3 : aa ≠ 291) (h4 : aa ≠ 292) : i5_put idn ln pd jt I L aa = I aa := by
  first | (simp only [i5_put]; done) | (simp only [i5_put]; (try (repeat' split)) <;> first | rfl | (simp [uI_off, h0, h1, h2, h3, h4]; done))

def i5_removeAt_25 (p : Nat) : Nat → Nat → Nat → (Nat → Nat → Int32) → (Nat → Nat → Int64) → (Nat → Nat → Int32)
  | 0, i, t, I, L => I
  | n + 1, i, t, I, L => i5_removeAt_25 p n (i + 1) t (uI (uI (uI (uI I 289 i (I 289 (i + 1))) 290 i (I 290 (i + 1))) 291 i (I 291 (i + 1))) 292 i (I 292 (i + 1))) L
set_option maxRecDepth 4000 in
theorem t5_removeAt_25 (g : GlT)  (p : Nat) (m : Nat) (hm8 : m ≤ 8) (hp : p < m) : ∀ (n i : Nat) (t : Nat) (I : Nat → Nat → Int32) (L : Nat → Nat → Int64), (hm : I 288 4 = nI t) → (hn : i + n = t) → (ht : t < 8) → ∀ (Q : Option Value → MemT → Prop), Q (none) (i5_removeAt_25 p n i t I L, L, R0, 305) → V g (k5_removeAt, 1, 0, 0) 0 0 25 [(0, .ref (xA g 288)), (2, .int (nI i))] [] (I, L, R0, 305) Q := by
  intro n
  induction n with
  | zero =>
    intro i t I L hm hn ht Q hq
    refine V_iload_n (pc1 := 26) 1 d5_removeAt_25 rfl rfl ?_
    refine V_aload_n (pc1 := 27) 0 d5_removeAt_26 rfl rfl ?_
    refine V_geti (pc1 := 30) ly288 (lt305 rfl) f5_24 (fun _ => rfl) hm d5_removeAt_27 rfl ?_
    refine V_icmp_ge (tgt := 95) (pc1 := 33) d5_removeAt_30 (by decide) rfl (fun _ => ?_) (fun h1 => absurd (nI_le (by omega) (by omega)) h1)
    refine V_vret rfl d5_removeAt_95 (Nat.zero_le _) (Nat.zero_le _) ?_
    have hq2 := hq
    simp only [i5_removeAt_25] at hq2
    exact hq2
  | succ n ih =>
    intro i t I L hm hn ht Q hq
    refine V_iload_n (pc1 := 26) 1 d5_removeAt_25 rfl rfl ?_
    refine V_aload_n (pc1 := 27) 0 d5_removeAt_26 rfl rfl ?_
    refine V_geti (pc1 := 30) ly288 (lt305 rfl) f5_24 (fun _ => rfl) hm d5_removeAt_27 rfl ?_
    refine V_icmp_ge (tgt := 95) (pc1 := 33) d5_removeAt_30 (by decide) rfl (fun h1 => absurd h1 (nI_ge (by omega) (by omega))) (fun _ => ?_)
    refine V_aload_n (pc1 := 34) 0 d5_removeAt_33 rfl rfl ?_
    refine V_getr (pc1 := 37) ly288 (lt305 rfl) f5_11 (fun _ => rfl) rf288_0 d5_removeAt_34 rfl ?_
    refine V_iload_n (pc1 := 38) 1 d5_removeAt_37 rfl rfl ?_
    refine V_aload_n (pc1 := 39) 0 d5_removeAt_38 rfl rfl ?_
    refine V_getr (pc1 := 42) ly288 (lt305 rfl) f5_11 (fun _ => rfl) rf288_0 d5_removeAt_39 rfl ?_
    refine V_iload_n (pc1 := 43) 1 d5_removeAt_42 rfl rfl ?_
    refine V_iconst (pc1 := 44) d5_removeAt_43 vc_1 rfl ?_
    refine V_iadd (pc1 := 45) d5_removeAt_44 rfl ?_
    refine V_iald2 (pc1 := 46) (i + 1) ly289 (lt305 rfl) (nI_1 _) (by omega) rfl d5_removeAt_45 rfl ?_
    refine V_iast (pc1 := 47) i ly289 (lt305 rfl) rfl (by omega) d5_removeAt_46 rfl ?_
    refine V_aload_n (pc1 := 48) 0 d5_removeAt_47 rfl rfl ?_
    refine V_getr (pc1 := 51) ly288 (lt305 rfl) f5_15 (fun _ => rfl) rf288_1 d5_removeAt_48 rfl ?_
    refine V_iload_n (pc1 := 52) 1 d5_removeAt_51 rfl rfl ?_
    refine V_aload_n (pc1 := 53) 0 d5_removeAt_52 rfl rfl ?_
    refine V_getr (pc1 := 56) ly288 (lt305 rfl) f5_15 (fun _ => rfl) rf288_1 d5_removeAt_53 rfl ?_
    refine V_iload_n (pc1 := 57) 1 d5_removeAt_56 rfl rfl ?_
    refine V_iconst (pc1 := 58) d5_removeAt_57 vc_1 rfl ?_
    refine V_iadd (pc1 := 59) d5_removeAt_58 rfl ?_
    refine V_iald2 (pc1 := 60) (i + 1) ly290 (lt305 rfl) (nI_1 _) (by omega) (congrFun (uI_off I i (I 289 (i + 1)) (show (290 : Nat) ≠ 289 by decide)) _) d5_removeAt_59 rfl ?_
    refine V_iast (pc1 := 61) i ly290 (lt305 rfl) rfl (by omega) d5_removeAt_60 rfl ?_
    refine V_aload_n (pc1 := 62) 0 d5_removeAt_61 rfl rfl ?_
    refine V_getr (pc1 := 65) ly288 (lt305 rfl) f5_18 (fun _ => rfl) rf288_2 d5_removeAt_62 rfl ?_
    refine V_iload_n (pc1 := 66) 1 d5_removeAt_65 rfl rfl ?_
    refine V_aload_n (pc1 := 67) 0 d5_removeAt_66 rfl rfl ?_
    refine V_getr (pc1 := 70) ly288 (lt305 rfl) f5_18 (fun _ => rfl) rf288_2 d5_removeAt_67 rfl ?_
    refine V_iload_n (pc1 := 71) 1 d5_removeAt_70 rfl rfl ?_
    refine V_iconst (pc1 := 72) d5_removeAt_71 vc_1 rfl ?_
    refine V_iadd (pc1 := 73) d5_removeAt_72 rfl ?_
    refine V_iald2 (pc1 := 74) (i + 1) ly291 (lt305 rfl) (nI_1 _) (by omega) ((congrFun (uI_off (uI I 289 i (I 289 (i + 1))) i (I 290 (i + 1)) (show (291 : Nat) ≠ 290 by decide)) _).trans (congrFun (uI_off I i (I 289 (i + 1)) (show (291 : Nat) ≠ 289 by decide)) _)) d5_removeAt_73 rfl ?_
    refine V_iast (pc1 := 75) i ly291 (lt305 rfl) rfl (by omega) d5_removeAt_74 rfl ?_
    refine V_aload_n (pc1 := 76) 0 d5_removeAt_75 rfl rfl ?_
    refine V_getr (pc1 := 79) ly288 (lt305 rfl) f5_21 (fun _ => rfl) rf288_3 d5_removeAt_76 rfl ?_
    refine V_iload_n (pc1 := 80) 1 d5_removeAt_79 rfl rfl ?_
    refine V_aload_n (pc1 := 81) 0 d5_removeAt_80 rfl rfl ?_
    refine V_getr (pc1 := 84) ly288 (lt305 rfl) f5_21 (fun _ => rfl) rf288_3 d5_removeAt_81 rfl ?_
    refine V_iload_n (pc1 := 85) 1 d5_removeAt_84 rfl rfl ?_
    refine V_iconst (pc1 := 86) d5_removeAt_85 vc_1 rfl ?_
    refine V_iadd (pc1 := 87) d5_removeAt_86 rfl ?_
    refine V_iald2 (pc1 := 88) (i + 1) ly292 (lt305 rfl) (nI_1 _) (by omega) ((congrFun (uI_off (uI (uI I 289 i (I 289 (i + 1))) 290 i (I 290 (i + 1))) i (I 291 (i + 1)) (show (292 : Nat) ≠ 291 by decide)) _).trans ((congrFun (uI_off (uI I 289 i (I 289 (i + 1))) i (I 290 (i + 1)) (show (292 : Nat) ≠ 290 by decide)) _).trans (congrFun (uI_off I i (I 289 (i + 1)) (show (292 : Nat) ≠ 289 by decide)) _))) d5_removeAt_87 rfl ?_
    refine V_iast (pc1 := 89) i ly292 (lt305 rfl) rfl (by omega) d5_removeAt_88 rfl ?_
    refine V_iinc (pc1 := 92) 1 (v := nI (i + 1)) d5_removeAt_89 rfl (nI_1 _) (Nat.le_of_ble_eq_true rfl) rfl rfl ?_
    refine V_goto (tgt := 25) d5_removeAt_92 (by decide) ?_
    refine V_lv (lv1 := [(0, .ref (xA g 288)), (2, .int (nI (i + 1)))]) (lvsub_p [1, 0] rfl) ?_
    have hq2 := hq
    simp only [i5_removeAt_25] at hq2
    exact ih (i + 1) t (uI (uI (uI (uI I 289 i (I 289 (i + 1))) 290 i (I 290 (i + 1))) 291 i (I 291 (i + 1))) 292 i (I 292 (i + 1))) L (((congrFun (uI_off (uI (uI (uI I 289 i (I 289 (i + 1))) 290 i (I 290 (i + 1))) 291 i (I 291 (i + 1))) i (I 292 (i + 1)) (show (288 : Nat) ≠ 292 by decide)) _).trans ((congrFun (uI_off (uI (uI I 289 i (I 289 (i + 1))) 290 i (I 290 (i + 1))) i (I 291 (i + 1)) (show (288 : Nat) ≠ 291 by decide)) _).trans ((congrFun (uI_off (uI I 289 i (I 289 (i + 1))) i (I 290 (i + 1)) (show (288 : Nat) ≠ 290 by decide)) _).trans (congrFun (uI_off I i (I 289 (i + 1)) (show (288 : Nat) ≠ 289 by decide)) _)))).trans hm) (by omega) (by omega) Q hq2
def i5_removeAt (p : Nat) (I : Nat → Nat → Int32) (L : Nat → Nat → Int64) : Nat → Nat → Int32 := i5_removeAt_25 p (((I 288 4).toNatClampNeg) - 1 - p) p (((I 288 4).toNatClampNeg) - 1) (uI I 288 4 ((nI ((I 288 4).toNatClampNeg)) - 1)) L
set_option maxRecDepth 4000 in
theorem v5_removeAt (g : GlT)  (p : Nat) (m : Nat) (hm8 : m ≤ 8) (hp : p < m) (I : Nat → Nat → Int32) (L : Nat → Nat → Int64) (hm : I 288 4 = nI m) (Q : Option Value → MemT → Prop) (hq : Q (none) (i5_removeAt p I L, L, R0, 305)) : V g (k5_removeAt, 1, 0, 0) 0 0 0 [(0, .ref (xA g 288)), (1, .int (nI p))] [] (I, L, R0, 305) Q := by
  have hm3 : (I 288 4).toNatClampNeg = m := by rw [hm]; exact nI_clamp (by omega)
  refine V_iload_n (pc1 := 1) 1 d5_removeAt_0 rfl rfl ?_
  refine V_if_lt (tgt := 12) (pc1 := 4) d5_removeAt_1 (by decide) rfl (fun h1 => absurd h1 (nI_pos (by omega))) (fun _ => ?_)
  refine V_iload_n (pc1 := 5) 1 d5_removeAt_4 rfl rfl ?_
  refine V_aload_n (pc1 := 6) 0 d5_removeAt_5 rfl rfl ?_
  refine V_geti (pc1 := 9) ly288 (lt305 rfl) f5_24 (fun _ => rfl) hm d5_removeAt_6 rfl ?_
  refine V_icmp_lt (tgt := 13) (pc1 := 12) d5_removeAt_9 (by decide) rfl (fun _ => ?_) (fun h2 => absurd (nI_lt (by omega) (by omega)) h2)
  refine V_aload_n (pc1 := 14) 0 d5_removeAt_13 rfl rfl ?_
  refine V_dup (pc1 := 15) d5_removeAt_14 rfl rfl ?_
  refine V_geti (pc1 := 18) ly288 (lt305 rfl) f5_24 (fun _ => rfl) hm d5_removeAt_15 rfl ?_
  refine V_iconst (pc1 := 19) d5_removeAt_18 vc_1 rfl ?_
  refine V_isub (pc1 := 20) d5_removeAt_19 rfl ?_
  refine V_puti (pc1 := 23) ly288 (lt305 rfl) f5_24 rfl rfl d5_removeAt_20 rfl ?_
  refine V_iload_n (pc1 := 24) 1 d5_removeAt_23 rfl rfl ?_
  refine V_istore_n (pc1 := 25) d5_removeAt_24 (Nat.le_of_ble_eq_true rfl) rfl rfl ?_
  refine V_lv (lv1 := [(0, .ref (xA g 288)), (2, .int (nI p))]) (lvsub_p [1, 0] rfl) ?_
  have hq2 := hq
  simp only [i5_removeAt, hm3] at hq2
  exact t5_removeAt_25 g  _ _ hm8 hp (m - 1 - p) p (m - 1) (uI I 288 4 ((nI m) - 1)) L ((uI_self I 288 4 ((nI m) - 1)).trans (nI_dec (by omega))) (by omega) (by omega) Q hq2
theorem w5_removeAt (g : GlT)  (p : Nat) (m : Nat) (hm8 : m ≤ 8) (hp : p < m) (I : Nat → Nat → Int32) (L : Nat → Nat → Int64) (hm : I 288 4 = nI m) : Call g (k5_removeAt, 1, 0, 0) [.ref (xA g 288), .int (nI p)] (I, L, R0, 305) (Qv (i5_removeAt p I L) L) := Call.of (by decide) (Nat.le_of_ble_eq_true rfl) rfl (v5_removeAt g  p m hm8 hp I L hm _ (And.intro rfl rfl))
theorem x5_removeAt_25 {p : Nat} {aa : Nat} (h0 : aa ≠ 288) (h1 : aa ≠ 289) (h2 : aa ≠ 290) (h3 : aa ≠ 291) (h4 : aa ≠ 292) : ∀ (n i : Nat) (t : Nat) (I : Nat → Nat → Int32) (L : Nat → Nat → Int64), i5_removeAt_25 p n i t I L aa = I aa := by
  intro n
  induction n with
  | zero => intros; first | (simp only [i5_removeAt_25]; done) | (simp only [i5_removeAt_25]; (try (repeat' split)) <;> first | rfl | (simp [uI_off, h0, h1, h2, h3, h4]; done))
  | succ n ih => intros; first | (simp only [i5_removeAt_25]; done) | (simp only [i5_removeAt_25]; (try (repeat' split)) <;> first | rfl | (simp [ih, uI_off, h0, h1, h2, h3, h4]; done))
theorem x5_removeAt {p : Nat} {I : Nat → Nat → Int32} {L : Nat → Nat → Int64} {aa : Nat} (h0 : aa ≠ 288) (h1 : aa ≠ 289) (h2 : aa ≠ 290) (h3 : aa ≠ 291) (h4 : aa ≠ 292) : i5_removeAt p I L aa = I aa := by
  first | (simp only [i5_removeAt]; done) | (simp only [i5_removeAt]; (try (repeat' split)) <;> first | rfl | (simp [uI_off, h0, h1, h2, h3, h4, x5_removeAt_25 h0 h1 h2 h3 h4]; done))

def r5_blockingOf_4 (p : Nat) : Nat → Nat → Int32 → (Nat → Nat → Int32) → (Nat → Nat → Int64) → Int32
  | 0, i, z, I, L => z
  | n + 1, i, z, I, L => r5_blockingOf_4 p n (i + 1) (if I 289 i ≤ I 289 p then z else (if z < I 290 i then I 290 i else z)) I L
set_option maxRecDepth 4000 in
theorem t5_blockingOf_4 (g : GlT)  (p : Nat) (m : Nat) (hm8 : m ≤ 8) (hp : p < m) : ∀ (n i : Nat) (z : Int32) (I : Nat → Nat → Int32) (L : Nat → Nat → Int64), (hm : I 288 4 = nI m) → (hn : i + n = m) → ∀ (Q : Option Value → MemT → Prop), Q (some (.int (r5_blockingOf_4 p n i z I L))) (I, L, R0, 305) → V g (k5_blockingOf, 1, 0, 0) 0 0 4 [(0, .ref (xA g 288)), (1, .int (nI p)), (2, .int z), (3, .int (nI i))] [] (I, L, R0, 305) Q := by
  intro n
  induction n with
  | zero =>
    intro i z I L hm hn Q hq
    refine V_iload_n (pc1 := 5) 3 d5_blockingOf_4 rfl rfl ?_
    refine V_aload_n (pc1 := 6) 0 d5_blockingOf_5 rfl rfl ?_
    refine V_geti (pc1 := 9) ly288 (lt305 rfl) f5_24 (fun _ => rfl) hm d5_blockingOf_6 rfl ?_
    refine V_icmp_ge (tgt := 44) (pc1 := 12) d5_blockingOf_9 (by decide) rfl (fun _ => ?_) (fun h1 => absurd (nI_le (by omega) (by omega)) h1)
    refine V_iload_n (pc1 := 45) 2 d5_blockingOf_44 rfl rfl ?_
    refine V_iret rfl d5_blockingOf_45 (Nat.zero_le _) (Nat.zero_le _) ?_
    have hq2 := hq
    simp only [r5_blockingOf_4] at hq2
    exact hq2
  | succ n ih =>
    intro i z I L hm hn Q hq
    refine V_iload_n (pc1 := 5) 3 d5_blockingOf_4 rfl rfl ?_
    refine V_aload_n (pc1 := 6) 0 d5_blockingOf_5 rfl rfl ?_
    refine V_geti (pc1 := 9) ly288 (lt305 rfl) f5_24 (fun _ => rfl) hm d5_blockingOf_6 rfl ?_
    refine V_icmp_ge (tgt := 44) (pc1 := 12) d5_blockingOf_9 (by decide) rfl (fun h1 => absurd h1 (nI_ge (by omega) (by omega))) (fun _ => ?_)
    refine V_aload_n (pc1 := 13) 0 d5_blockingOf_12 rfl rfl ?_
    refine V_getr (pc1 := 16) ly288 (lt305 rfl) f5_11 (fun _ => rfl) rf288_0 d5_blockingOf_13 rfl ?_
    refine V_iload_n (pc1 := 17) 3 d5_blockingOf_16 rfl rfl ?_
    refine V_iald2 (pc1 := 18) i ly289 (lt305 rfl) rfl (by omega) rfl d5_blockingOf_17 rfl ?_
    refine V_aload_n (pc1 := 19) 0 d5_blockingOf_18 rfl rfl ?_
    refine V_getr (pc1 := 22) ly288 (lt305 rfl) f5_11 (fun _ => rfl) rf288_0 d5_blockingOf_19 rfl ?_
    refine V_iload_n (pc1 := 23) 1 d5_blockingOf_22 rfl rfl ?_
    refine V_iald2 (pc1 := 24) p ly289 (lt305 rfl) rfl (by omega) rfl d5_blockingOf_23 rfl ?_
    have key3 : ∀ (z38_2 : Int32), z38_2 = (if I 289 i ≤ I 289 p then z else (if z < I 290 i then I 290 i else z)) → ∀ (lv : List (Nat × Value)), lvsub [(0, .ref (xA g 288)), (1, .int (nI p)), (2, .int z38_2), (3, .int (nI i))] lv → V g (k5_blockingOf, 1, 0, 0) 0 0 38 lv [] (I, L, R0, 305) Q := by
      intro z38_2 ez38_2
      subst ez38_2
      intro lv hlv
      refine V_lv hlv ?_
      refine V_iinc (pc1 := 41) 3 (v := nI (i + 1)) d5_blockingOf_38 rfl (nI_1 _) (Nat.le_of_ble_eq_true rfl) rfl rfl ?_
      refine V_goto (tgt := 4) d5_blockingOf_41 (by decide) ?_
      refine V_lv (lv1 := [(0, .ref (xA g 288)), (1, .int (nI p)), (2, .int (if I 289 i ≤ I 289 p then z else (if z < I 290 i then I 290 i else z))), (3, .int (nI (i + 1)))]) (lvsub_p [1, 2, 3, 0] rfl) ?_
      have hq2 := hq
      simp only [r5_blockingOf_4] at hq2
      exact ih (i + 1) (if I 289 i ≤ I 289 p then z else (if z < I 290 i then I 290 i else z)) I L hm (by omega) Q hq2
    refine V_icmp_le (tgt := 38) (pc1 := 27) d5_blockingOf_24 (by decide) rfl (fun h2 => ?_) (fun h2 => ?_)
    · skip
      exact key3 _ (by first | rfl | (simp only [if_pos h2]; done) | (simp only [if_pos h2]; rfl)) _ (lvsub_p [0, 1, 2, 3] rfl)
    · skip
      refine V_iload_n (pc1 := 28) 2 d5_blockingOf_27 rfl rfl ?_
      refine V_aload_n (pc1 := 29) 0 d5_blockingOf_28 rfl rfl ?_
      refine V_getr (pc1 := 32) ly288 (lt305 rfl) f5_15 (fun _ => rfl) rf288_1 d5_blockingOf_29 rfl ?_
      refine V_iload_n (pc1 := 33) 3 d5_blockingOf_32 rfl rfl ?_
      refine V_iald2 (pc1 := 34) i ly290 (lt305 rfl) rfl (by omega) rfl d5_blockingOf_33 rfl ?_
      refine V_max (pc1 := 37) l5_35 jmaxS jmthI jmaxC (Nat.le_of_ble_eq_true rfl) (Nat.zero_le _) (Nat.zero_le _) (Nat.le_of_ble_eq_true rfl) d5_blockingOf_34 rfl ?_
      refine V_istore_n (pc1 := 38) d5_blockingOf_37 (Nat.le_of_ble_eq_true rfl) rfl rfl ?_
      exact key3 _ (by first | rfl | (simp only [if_neg h2]; done) | (simp only [if_neg h2]; rfl)) _ (lvsub_p [1, 2, 0, 3] rfl)
def r5_blockingOf (p : Nat) (I : Nat → Nat → Int32) (L : Nat → Nat → Int64) : Int32 := r5_blockingOf_4 p ((I 288 4).toNatClampNeg) 0 0 I L
set_option maxRecDepth 4000 in
theorem v5_blockingOf (g : GlT)  (p : Nat) (m : Nat) (hm8 : m ≤ 8) (hp : p < m) (I : Nat → Nat → Int32) (L : Nat → Nat → Int64) (hm : I 288 4 = nI m) (Q : Option Value → MemT → Prop) (hq : Q (some (.int (r5_blockingOf p I L))) (I, L, R0, 305)) : V g (k5_blockingOf, 1, 0, 0) 0 0 0 [(0, .ref (xA g 288)), (1, .int (nI p))] [] (I, L, R0, 305) Q := by
  have hm3 : (I 288 4).toNatClampNeg = m := by rw [hm]; exact nI_clamp (by omega)
  refine V_iconst (pc1 := 1) d5_blockingOf_0 vc_0 rfl ?_
  refine V_istore_n (pc1 := 2) d5_blockingOf_1 (Nat.le_of_ble_eq_true rfl) rfl rfl ?_
  refine V_iconst (pc1 := 3) d5_blockingOf_2 vc_0 rfl ?_
  refine V_istore_n (pc1 := 4) d5_blockingOf_3 (Nat.le_of_ble_eq_true rfl) rfl rfl ?_
  refine V_lv (lv1 := [(0, .ref (xA g 288)), (1, .int (nI p)), (2, .int 0), (3, .int (nI 0))]) (lvsub_p [2, 3, 1, 0] rfl) ?_
  have hq2 := hq
  simp only [r5_blockingOf, hm3] at hq2
  exact t5_blockingOf_4 g  _ _ hm8 hp m 0 0 I L hm (by omega) Q hq2
theorem w5_blockingOf (g : GlT)  (p : Nat) (m : Nat) (hm8 : m ≤ 8) (hp : p < m) (I : Nat → Nat → Int32) (L : Nat → Nat → Int64) (hm : I 288 4 = nI m) : Call g (k5_blockingOf, 1, 0, 0) [.ref (xA g 288), .int (nI p)] (I, L, R0, 305) (Qi (r5_blockingOf p I L) (I) L) := Call.of (by decide) (Nat.le_of_ble_eq_true rfl) rfl (v5_blockingOf g  p m hm8 hp I L hm _ (And.intro rfl rfl))

def r5_interference_5 (idn : Int32) (by0 : Int32) : Nat → Nat → Int32 → (Nat → Nat → Int32) → (Nat → Nat → Int64) → Int32
  | 0, i, z, I, L => z
  | n + 1, i, z, I, L => r5_interference_5 idn by0 n (i + 1) (if (idn ≤ I 289 i) ∨ (I 291 i ≤ 0) then z else z + ((I 290 i) * (((by0 + (I 292 i)) + (I 291 i)) / (I 291 i)))) I L
set_option maxRecDepth 4000 in
theorem t5_interference_5 (g : GlT)  (idn : Int32) (by0 : Int32) (m : Nat) (hm8 : m ≤ 8) : ∀ (n i : Nat) (z : Int32) (I : Nat → Nat → Int32) (L : Nat → Nat → Int64), (hm : I 288 4 = nI m) → (hn : i + n = m) → ∀ (Q : Option Value → MemT → Prop), Q (some (.int (r5_interference_5 idn by0 n i z I L))) (I, L, R0, 305) → V g (k5_interference, 1, 0, 0) 0 0 5 [(0, .ref (xA g 288)), (1, .int idn), (2, .int by0), (3, .int z), (4, .int (nI i))] [] (I, L, R0, 305) Q := by
  intro n
  induction n with
  | zero =>
    intro i z I L hm hn Q hq
    refine V_iload (pc1 := 7) 4 d5_interference_5 rfl rfl ?_
    refine V_aload_n (pc1 := 8) 0 d5_interference_7 rfl rfl ?_
    refine V_geti (pc1 := 11) ly288 (lt305 rfl) f5_24 (fun _ => rfl) hm d5_interference_8 rfl ?_
    refine V_icmp_ge (tgt := 77) (pc1 := 14) d5_interference_11 (by decide) rfl (fun _ => ?_) (fun h1 => absurd (nI_le (by omega) (by omega)) h1)
    refine V_iload_n (pc1 := 78) 3 d5_interference_77 rfl rfl ?_
    refine V_iret rfl d5_interference_78 (Nat.zero_le _) (Nat.zero_le _) ?_
    have hq2 := hq
    simp only [r5_interference_5] at hq2
    exact hq2
  | succ n ih =>
    intro i z I L hm hn Q hq
    refine V_iload (pc1 := 7) 4 d5_interference_5 rfl rfl ?_
    refine V_aload_n (pc1 := 8) 0 d5_interference_7 rfl rfl ?_
    refine V_geti (pc1 := 11) ly288 (lt305 rfl) f5_24 (fun _ => rfl) hm d5_interference_8 rfl ?_
    refine V_icmp_ge (tgt := 77) (pc1 := 14) d5_interference_11 (by decide) rfl (fun h1 => absurd h1 (nI_ge (by omega) (by omega))) (fun _ => ?_)
    refine V_aload_n (pc1 := 15) 0 d5_interference_14 rfl rfl ?_
    refine V_getr (pc1 := 18) ly288 (lt305 rfl) f5_11 (fun _ => rfl) rf288_0 d5_interference_15 rfl ?_
    refine V_iload (pc1 := 20) 4 d5_interference_18 rfl rfl ?_
    refine V_iald2 (pc1 := 21) i ly289 (lt305 rfl) rfl (by omega) rfl d5_interference_20 rfl ?_
    refine V_iload_n (pc1 := 22) 1 d5_interference_21 rfl rfl ?_
    have key7 : ∀ (z71_3 : Int32), z71_3 = (if (idn ≤ I 289 i) ∨ (I 291 i ≤ 0) then z else z + ((I 290 i) * (((by0 + (I 292 i)) + (I 291 i)) / (I 291 i)))) → ∀ (lv : List (Nat × Value)), lvsub [(0, .ref (xA g 288)), (1, .int idn), (2, .int by0), (3, .int z71_3), (4, .int (nI i))] lv → V g (k5_interference, 1, 0, 0) 0 0 71 lv [] (I, L, R0, 305) Q := by
      intro z71_3 ez71_3
      subst ez71_3
      intro lv hlv
      refine V_lv hlv ?_
      refine V_iinc (pc1 := 74) 4 (v := nI (i + 1)) d5_interference_71 rfl (nI_1 _) (Nat.le_of_ble_eq_true rfl) rfl rfl ?_
      refine V_goto (tgt := 5) d5_interference_74 (by decide) ?_
      refine V_lv (lv1 := [(0, .ref (xA g 288)), (1, .int idn), (2, .int by0), (3, .int (if (idn ≤ I 289 i) ∨ (I 291 i ≤ 0) then z else z + ((I 290 i) * (((by0 + (I 292 i)) + (I 291 i)) / (I 291 i))))), (4, .int (nI (i + 1)))]) (lvsub_p [1, 2, 3, 4, 0] rfl) ?_
      have hq2 := hq
      simp only [r5_interference_5] at hq2
      exact ih (i + 1) (if (idn ≤ I 289 i) ∨ (I 291 i ≤ 0) then z else z + ((I 290 i) * (((by0 + (I 292 i)) + (I 291 i)) / (I 291 i)))) I L hm (by omega) Q hq2
    have k3 : ((idn ≤ I 289 i) ∨ (I 291 i ≤ 0)) → V g (k5_interference, 1, 0, 0) 0 0 71 [(0, .ref (xA g 288)), (1, .int idn), (2, .int by0), (3, .int z), (4, .int (nI i))] [] (I, L, R0, 305) Q := by
      intro h2
      exact key7 _ (by first | rfl | (simp only [if_pos h2]; done) | (simp only [if_pos h2]; rfl)) _ (lvsub_p [0, 1, 2, 3, 4] rfl)
    have k4 : ¬ ((idn ≤ I 289 i) ∨ (I 291 i ≤ 0)) → V g (k5_interference, 1, 0, 0) 0 0 35 [(0, .ref (xA g 288)), (1, .int idn), (2, .int by0), (3, .int z), (4, .int (nI i))] [] (I, L, R0, 305) Q := by
      intro h2
      refine V_iload_n (pc1 := 36) 3 d5_interference_35 rfl rfl ?_
      refine V_aload_n (pc1 := 37) 0 d5_interference_36 rfl rfl ?_
      refine V_getr (pc1 := 40) ly288 (lt305 rfl) f5_15 (fun _ => rfl) rf288_1 d5_interference_37 rfl ?_
      refine V_iload (pc1 := 42) 4 d5_interference_40 rfl rfl ?_
      refine V_iald2 (pc1 := 43) i ly290 (lt305 rfl) rfl (by omega) rfl d5_interference_42 rfl ?_
      refine V_iload_n (pc1 := 44) 2 d5_interference_43 rfl rfl ?_
      refine V_aload_n (pc1 := 45) 0 d5_interference_44 rfl rfl ?_
      refine V_getr (pc1 := 48) ly288 (lt305 rfl) f5_21 (fun _ => rfl) rf288_3 d5_interference_45 rfl ?_
      refine V_iload (pc1 := 50) 4 d5_interference_48 rfl rfl ?_
      refine V_iald2 (pc1 := 51) i ly292 (lt305 rfl) rfl (by omega) rfl d5_interference_50 rfl ?_
      refine V_iadd (pc1 := 52) d5_interference_51 rfl ?_
      refine V_aload_n (pc1 := 53) 0 d5_interference_52 rfl rfl ?_
      refine V_getr (pc1 := 56) ly288 (lt305 rfl) f5_18 (fun _ => rfl) rf288_2 d5_interference_53 rfl ?_
      refine V_iload (pc1 := 58) 4 d5_interference_56 rfl rfl ?_
      refine V_iald2 (pc1 := 59) i ly291 (lt305 rfl) rfl (by omega) rfl d5_interference_58 rfl ?_
      refine V_iadd (pc1 := 60) d5_interference_59 rfl ?_
      refine V_aload_n (pc1 := 61) 0 d5_interference_60 rfl rfl ?_
      refine V_getr (pc1 := 64) ly288 (lt305 rfl) f5_18 (fun _ => rfl) rf288_2 d5_interference_61 rfl ?_
      refine V_iload (pc1 := 66) 4 d5_interference_64 rfl rfl ?_
      refine V_iald2 (pc1 := 67) i ly291 (lt305 rfl) rfl (by omega) rfl d5_interference_66 rfl ?_
      refine V_idiv (pc1 := 68) d5_interference_67 (fun e => h2 (Or.inr (show I 291 i ≤ 0 from by have e2 : I 291 i = 0 := e; rw [e2]; decide))) rfl ?_
      refine V_imul (pc1 := 69) d5_interference_68 rfl ?_
      refine V_iadd (pc1 := 70) d5_interference_69 rfl ?_
      refine V_istore_n (pc1 := 71) d5_interference_70 (Nat.le_of_ble_eq_true rfl) rfl rfl ?_
      exact key7 _ (by first | rfl | (simp only [if_neg h2]; done) | (simp only [if_neg h2]; rfl)) _ (lvsub_p [1, 2, 3, 0, 4] rfl)
    refine V_icmp_ge (tgt := 71) (pc1 := 25) d5_interference_22 (by decide) rfl (fun h5 => ?_) (fun h5 => ?_)
    · skip
      exact k3 (Or.inl h5)
    · skip
      refine V_aload_n (pc1 := 26) 0 d5_interference_25 rfl rfl ?_
      refine V_getr (pc1 := 29) ly288 (lt305 rfl) f5_18 (fun _ => rfl) rf288_2 d5_interference_26 rfl ?_
      refine V_iload (pc1 := 31) 4 d5_interference_29 rfl rfl ?_
      refine V_iald2 (pc1 := 32) i ly291 (lt305 rfl) rfl (by omega) rfl d5_interference_31 rfl ?_
      refine V_if_le (tgt := 71) (pc1 := 35) d5_interference_32 (by decide) rfl (fun h6 => ?_) (fun h6 => ?_)
      · skip
        exact k3 (Or.inr h6)
      · skip
        exact k4 (fun z => z.elim h5 h6)
def r5_interference (idn : Int32) (by0 : Int32) (I : Nat → Nat → Int32) (L : Nat → Nat → Int64) : Int32 := r5_interference_5 idn by0 ((I 288 4).toNatClampNeg) 0 0 I L
set_option maxRecDepth 4000 in
theorem v5_interference (g : GlT)  (idn : Int32) (by0 : Int32) (m : Nat) (hm8 : m ≤ 8) (I : Nat → Nat → Int32) (L : Nat → Nat → Int64) (hm : I 288 4 = nI m) (Q : Option Value → MemT → Prop) (hq : Q (some (.int (r5_interference idn by0 I L))) (I, L, R0, 305)) : V g (k5_interference, 1, 0, 0) 0 0 0 [(0, .ref (xA g 288)), (1, .int idn), (2, .int by0)] [] (I, L, R0, 305) Q := by
  have hm3 : (I 288 4).toNatClampNeg = m := by rw [hm]; exact nI_clamp (by omega)
  refine V_iconst (pc1 := 1) d5_interference_0 vc_0 rfl ?_
  refine V_istore_n (pc1 := 2) d5_interference_1 (Nat.le_of_ble_eq_true rfl) rfl rfl ?_
  refine V_iconst (pc1 := 3) d5_interference_2 vc_0 rfl ?_
  refine V_istore (pc1 := 5) d5_interference_3 (Nat.le_of_ble_eq_true rfl) rfl rfl ?_
  refine V_lv (lv1 := [(0, .ref (xA g 288)), (1, .int idn), (2, .int by0), (3, .int 0), (4, .int (nI 0))]) (lvsub_p [2, 3, 4, 1, 0] rfl) ?_
  have hq2 := hq
  simp only [r5_interference, hm3] at hq2
  exact t5_interference_5 g  _ _ _ hm8 m 0 0 I L hm (by omega) Q hq2
theorem w5_interference (g : GlT)  (idn : Int32) (by0 : Int32) (m : Nat) (hm8 : m ≤ 8) (I : Nat → Nat → Int32) (L : Nat → Nat → Int64) (hm : I 288 4 = nI m) : Call g (k5_interference, 1, 0, 0) [.ref (xA g 288), .int idn, .int by0] (I, L, R0, 305) (Qi (r5_interference idn by0 I L) (I) L) := Call.of (by decide) (Nat.le_of_ble_eq_true rfl) rfl (v5_interference g  idn by0 m hm8 I L hm _ (And.intro rfl rfl))

def r5_worstResponse_26 (p : Nat) : Nat → Nat → Int32 → Int32 → (Nat → Nat → Int32) → (Nat → Nat → Int64) → Int32
  | 0, i, z, y, I, L => (-5)
  | n + 1, i, z, y, I, L => (if ((I 292 p) + y) + (I 290 p) ≤ I 291 p then (if z + (r5_interference (I 289 p) y I L) = y then ((I 292 p) + y) + (I 290 p) else r5_worstResponse_26 p n (i + 1) z (z + (r5_interference (I 289 p) y I L)) I L) else (-5))
set_option maxRecDepth 4000 in
theorem t5_worstResponse_26 (g : GlT)  (p : Nat) (m : Nat) (hm8 : m ≤ 8) (hp : p < m) : ∀ (n i : Nat) (z : Int32) (y : Int32) (I : Nat → Nat → Int32) (L : Nat → Nat → Int64), (hm : I 288 4 = nI m) → (hn : i + n = 10000) → ∀ (Q : Option Value → MemT → Prop), Q (some (.int (r5_worstResponse_26 p n i z y I L))) (I, L, R0, 305) → V g (k5_worstResponse, 2, 0, 0) 0 0 26 [(0, .ref (xA g 288)), (1, .int (nI p)), (2, .int z), (3, .int y), (4, .int (nI i))] [] (I, L, R0, 305) Q := by
  intro n
  induction n with
  | zero =>
    intro i z y I L hm hn Q hq
    refine V_iload (pc1 := 28) 4 d5_worstResponse_26 rfl rfl ?_
    refine V_sipush (pc1 := 31) d5_worstResponse_28 vs_10000 rfl ?_
    refine V_icmp_ge (tgt := 98) (pc1 := 34) d5_worstResponse_31 (by decide) rfl (fun _ => ?_) (fun h1 => absurd (by rw [show i = 10000 by omega]; decide) h1)
    refine V_bipush (pc1 := 100) d5_worstResponse_98 vb_m5 rfl ?_
    refine V_iret rfl d5_worstResponse_100 (Nat.zero_le _) (Nat.zero_le _) ?_
    have hq2 := hq
    simp only [r5_worstResponse_26] at hq2
    exact hq2
  | succ n ih =>
    intro i z y I L hm hn Q hq
    refine V_iload (pc1 := 28) 4 d5_worstResponse_26 rfl rfl ?_
    refine V_sipush (pc1 := 31) d5_worstResponse_28 vs_10000 rfl ?_
    refine V_icmp_ge (tgt := 98) (pc1 := 34) d5_worstResponse_31 (by decide) rfl (fun h1 => absurd h1 (nI_ge (b := 10000) (by omega) (by omega))) (fun _ => ?_)
    refine V_aload_n (pc1 := 35) 0 d5_worstResponse_34 rfl rfl ?_
    refine V_getr (pc1 := 38) ly288 (lt305 rfl) f5_21 (fun _ => rfl) rf288_3 d5_worstResponse_35 rfl ?_
    refine V_iload_n (pc1 := 39) 1 d5_worstResponse_38 rfl rfl ?_
    refine V_iald2 (pc1 := 40) p ly292 (lt305 rfl) rfl (by omega) rfl d5_worstResponse_39 rfl ?_
    refine V_iload_n (pc1 := 41) 3 d5_worstResponse_40 rfl rfl ?_
    refine V_iadd (pc1 := 42) d5_worstResponse_41 rfl ?_
    refine V_aload_n (pc1 := 43) 0 d5_worstResponse_42 rfl rfl ?_
    refine V_getr (pc1 := 46) ly288 (lt305 rfl) f5_15 (fun _ => rfl) rf288_1 d5_worstResponse_43 rfl ?_
    refine V_iload_n (pc1 := 47) 1 d5_worstResponse_46 rfl rfl ?_
    refine V_iald2 (pc1 := 48) p ly290 (lt305 rfl) rfl (by omega) rfl d5_worstResponse_47 rfl ?_
    refine V_iadd (pc1 := 49) d5_worstResponse_48 rfl ?_
    refine V_istore (pc1 := 51) d5_worstResponse_49 (Nat.le_of_ble_eq_true rfl) rfl rfl ?_
    refine V_iload (pc1 := 53) 0 d5_worstResponse_51 rfl rfl ?_
    refine V_aload_n (pc1 := 54) 1 d5_worstResponse_53 rfl rfl ?_
    refine V_getr (pc1 := 57) ly288 (lt305 rfl) f5_18 (fun _ => rfl) rf288_2 d5_worstResponse_54 rfl ?_
    refine V_iload_n (pc1 := 58) 2 d5_worstResponse_57 rfl rfl ?_
    refine V_iald2 (pc1 := 59) p ly291 (lt305 rfl) rfl (by omega) rfl d5_worstResponse_58 rfl ?_
    refine V_icmp_le (tgt := 65) (pc1 := 62) d5_worstResponse_59 (by decide) rfl (fun h2 => ?_) (fun h2 => ?_)
    · skip
      refine V_iload_n (pc1 := 66) 3 d5_worstResponse_65 rfl rfl ?_
      refine V_aload_n (pc1 := 67) 1 d5_worstResponse_66 rfl rfl ?_
      refine V_aload_n (pc1 := 68) 1 d5_worstResponse_67 rfl rfl ?_
      refine V_getr (pc1 := 71) ly288 (lt305 rfl) f5_11 (fun _ => rfl) rf288_0 d5_worstResponse_68 rfl ?_
      refine V_iload_n (pc1 := 72) 2 d5_worstResponse_71 rfl rfl ?_
      refine V_iald2 (pc1 := 73) p ly289 (lt305 rfl) rfl (by omega) rfl d5_worstResponse_72 rfl ?_
      refine V_iload_n (pc1 := 74) 4 d5_worstResponse_73 rfl rfl ?_
      refine V_vi (pc1 := 77) (w5_interference g  (I 289 p) y m hm8 I L hm) ly288 (lt305 rfl) s5_interference l5_44 rfl rfl ⟨Nat.le_of_ble_eq_true rfl, Nat.le_of_ble_eq_true rfl, Nat.le_refl _, Nat.le_refl _⟩ (Nat.le_of_ble_eq_true rfl) rfl d5_worstResponse_74 rfl ?_
      refine V_iadd (pc1 := 78) d5_worstResponse_77 rfl ?_
      refine V_istore (pc1 := 80) d5_worstResponse_78 (Nat.le_of_ble_eq_true rfl) rfl rfl ?_
      refine V_iload (pc1 := 82) 0 d5_worstResponse_80 rfl rfl ?_
      refine V_iload_n (pc1 := 83) 5 d5_worstResponse_82 rfl rfl ?_
      refine V_icmp_ne (tgt := 89) (pc1 := 86) d5_worstResponse_83 (by decide) rfl (fun h3 => ?_) (fun h3 => ?_)
      · skip
        refine V_iload (pc1 := 91) 0 d5_worstResponse_89 rfl rfl ?_
        refine V_istore_n (pc1 := 92) d5_worstResponse_91 (Nat.le_of_ble_eq_true rfl) rfl rfl ?_
        refine V_iinc (pc1 := 95) 6 (v := nI (i + 1)) d5_worstResponse_92 rfl (nI_1 _) (Nat.le_of_ble_eq_true rfl) rfl rfl ?_
        refine V_goto (tgt := 26) d5_worstResponse_95 (by decide) ?_
        refine V_lv (lv1 := [(0, .ref (xA g 288)), (1, .int (nI p)), (2, .int z), (3, .int (z + (r5_interference (I 289 p) y I L))), (4, .int (nI (i + 1)))]) (lvsub_p [4, 5, 6, 1, 0] rfl) ?_
        have hq2 := hq
        simp only [r5_worstResponse_26, if_pos h2, if_neg h3] at hq2
        exact ih (i + 1) z (z + (r5_interference (I 289 p) y I L)) I L hm (by omega) Q hq2
      · skip
        refine V_iload (pc1 := 88) 1 d5_worstResponse_86 rfl rfl ?_
        refine V_iret rfl d5_worstResponse_88 (Nat.zero_le _) (Nat.zero_le _) ?_
        have hq2 := hq
        simp only [r5_worstResponse_26, if_pos h2, if_pos h3] at hq2
        exact hq2
    · skip
      refine V_bipush (pc1 := 64) d5_worstResponse_62 vb_m5 rfl ?_
      refine V_iret rfl d5_worstResponse_64 (Nat.zero_le _) (Nat.zero_le _) ?_
      have hq2 := hq
      simp only [r5_worstResponse_26, if_neg h2] at hq2
      exact hq2
def r5_worstResponse (p : Nat) (I : Nat → Nat → Int32) (L : Nat → Nat → Int64) : Int32 := r5_worstResponse_26 p 10000 0 (r5_blockingOf p I L) (r5_blockingOf p I L) I L
set_option maxRecDepth 4000 in
theorem v5_worstResponse (g : GlT)  (p : Nat) (m : Nat) (hm8 : m ≤ 8) (hp : p < m) (I : Nat → Nat → Int32) (L : Nat → Nat → Int64) (hm : I 288 4 = nI m) (Q : Option Value → MemT → Prop) (hq : Q (some (.int (r5_worstResponse p I L))) (I, L, R0, 305)) : V g (k5_worstResponse, 2, 0, 0) 0 0 0 [(0, .ref (xA g 288)), (1, .int (nI p))] [] (I, L, R0, 305) Q := by
  refine V_iload_n (pc1 := 1) 1 d5_worstResponse_0 rfl rfl ?_
  refine V_if_lt (tgt := 12) (pc1 := 4) d5_worstResponse_1 (by decide) rfl (fun h1 => absurd h1 (nI_pos (by omega))) (fun _ => ?_)
  refine V_iload_n (pc1 := 5) 1 d5_worstResponse_4 rfl rfl ?_
  refine V_aload_n (pc1 := 6) 0 d5_worstResponse_5 rfl rfl ?_
  refine V_geti (pc1 := 9) ly288 (lt305 rfl) f5_24 (fun _ => rfl) hm d5_worstResponse_6 rfl ?_
  refine V_icmp_lt (tgt := 15) (pc1 := 12) d5_worstResponse_9 (by decide) rfl (fun _ => ?_) (fun h2 => absurd (nI_lt (by omega) (by omega)) h2)
  refine V_aload_n (pc1 := 16) 0 d5_worstResponse_15 rfl rfl ?_
  refine V_iload_n (pc1 := 17) 1 d5_worstResponse_16 rfl rfl ?_
  refine V_vi (pc1 := 20) (w5_blockingOf g  p m hm8 hp I L hm) ly288 (lt305 rfl) s5_blockingOf l5_41 rfl rfl ⟨Nat.le_of_ble_eq_true rfl, Nat.le_of_ble_eq_true rfl, Nat.le_refl _, Nat.le_refl _⟩ (Nat.le_of_ble_eq_true rfl) rfl d5_worstResponse_17 rfl ?_
  refine V_istore_n (pc1 := 21) d5_worstResponse_20 (Nat.le_of_ble_eq_true rfl) rfl rfl ?_
  refine V_iload_n (pc1 := 22) 0 d5_worstResponse_21 rfl rfl ?_
  refine V_istore_n (pc1 := 23) d5_worstResponse_22 (Nat.le_of_ble_eq_true rfl) rfl rfl ?_
  refine V_iconst (pc1 := 24) d5_worstResponse_23 vc_0 rfl ?_
  refine V_istore (pc1 := 26) d5_worstResponse_24 (Nat.le_of_ble_eq_true rfl) rfl rfl ?_
  refine V_lv (lv1 := [(0, .ref (xA g 288)), (1, .int (nI p)), (2, .int (r5_blockingOf p I L)), (3, .int (r5_blockingOf p I L)), (4, .int (nI 0))]) (lvsub_p [3, 4, 2, 1, 0] rfl) ?_
  have hq2 := hq
  simp only [r5_worstResponse] at hq2
  exact t5_worstResponse_26 g  _ _ hm8 hp 10000 0 (r5_blockingOf p I L) (r5_blockingOf p I L) I L hm rfl Q hq2
theorem w5_worstResponse (g : GlT)  (p : Nat) (m : Nat) (hm8 : m ≤ 8) (hp : p < m) (I : Nat → Nat → Int32) (L : Nat → Nat → Int64) (hm : I 288 4 = nI m) : Call g (k5_worstResponse, 2, 0, 0) [.ref (xA g 288), .int (nI p)] (I, L, R0, 305) (Qi (r5_worstResponse p I L) (I) L) := Call.of (by decide) (Nat.le_of_ble_eq_true rfl) rfl (v5_worstResponse g  p m hm8 hp I L hm _ (And.intro rfl rfl))
