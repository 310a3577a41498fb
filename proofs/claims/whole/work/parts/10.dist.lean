theorem nI_lt_of {x : Int32} {d n : Nat} (hd : x = nI d) (hn : n < 2 ^ 31) (hd2 : d < 2 ^ 31) (h : ¬ nI n ≤ x) : d < n := by
  subst hd
  rcases Nat.lt_or_ge d n with q | q
  · exact q
  · exact absurd (nI_le q hd2) h
theorem nI_lt_of2 {x : Int32} {d n : Nat} (hd : x = nI d) (hn : n < 2 ^ 31) (hd2 : d < 2 ^ 31) (h : x < nI n) : d < n := by
  subst hd
  exact (nI_ltI hd2 hn).mp h

def i8_countError (k : Nat) (kd : Nat) (I : Nat → Nat → Int32) (L : Nat → Nat → Int64) : Nat → Nat → Int32 := uI (uI I (k + 1) kd ((I (k + 1) kd) + 1)) k 1 (nI kd)
set_option maxRecDepth 4000 in
theorem v8_countError (g : GlT) {k : Nat} (hk : okY k) (kd : Nat) (hkd : kd < 6) (I : Nat → Nat → Int32) (L : Nat → Nat → Int64) (Q : Option Value → MemT → Prop) (hq : Q (none) (i8_countError k kd I L, L, R0, 305)) : V g (k8_countError, 1, 0, 0) 0 0 0 [(0, .ref (xA g k)), (1, .int (nI kd))] [] (I, L, R0, 305) Q := by
  refine V_iload_n (pc1 := 1) 1 d8_countError_0 rfl rfl ?_
  refine V_if_lt (tgt := 25) (pc1 := 4) d8_countError_1 (by decide) rfl (fun h1 => absurd h1 (nI_pos (by omega))) (fun _ => ?_)
  refine V_iload_n (pc1 := 5) 1 d8_countError_4 rfl rfl ?_
  refine V_bipush (pc1 := 7) d8_countError_5 vb_6 rfl ?_
  refine V_icmp_ge (tgt := 25) (pc1 := 10) d8_countError_7 (by decide) rfl (fun h2 => absurd h2 (nI_ge (b := 6) (by omega) (by omega))) (fun _ => ?_)
  refine V_aload_n (pc1 := 11) 0 d8_countError_10 rfl rfl ?_
  refine V_getr (pc1 := 14) (ty_l0 hk) (ty_b0 hk) f8_11 (fun _ => rfl) (ty_r0_0 hk) d8_countError_11 rfl ?_
  refine V_iload_n (pc1 := 15) 1 d8_countError_14 rfl rfl ?_
  refine V_dup2 (pc1 := 16) d8_countError_15 rfl rfl rfl ?_
  refine V_iald2 (pc1 := 17) kd (ty_l1 hk) (ty_b1 hk) rfl (by omega) rfl d8_countError_16 rfl ?_
  refine V_iconst (pc1 := 18) d8_countError_17 vc_1 rfl ?_
  refine V_iadd (pc1 := 19) d8_countError_18 rfl ?_
  refine V_iast (pc1 := 20) kd (ty_l1 hk) (ty_b1 hk) rfl (by omega) d8_countError_19 rfl ?_
  refine V_aload_n (pc1 := 21) 0 d8_countError_20 rfl rfl ?_
  refine V_iload_n (pc1 := 22) 1 d8_countError_21 rfl rfl ?_
  refine V_puti (pc1 := 25) (ty_l0 hk) (ty_b0 hk) f8_15 rfl rfl d8_countError_22 rfl ?_
  refine V_vret rfl d8_countError_25 (Nat.zero_le _) (Nat.zero_le _) ?_
  have hq2 := hq
  simp only [i8_countError] at hq2
  exact hq2
theorem w8_countError (g : GlT) {k : Nat} (hk : okY k) (kd : Nat) (hkd : kd < 6) (I : Nat → Nat → Int32) (L : Nat → Nat → Int64) : Call g (k8_countError, 1, 0, 0) [.ref (xA g k), .int (nI kd)] (I, L, R0, 305) (Qv (i8_countError k kd I L) L) := Call.of (by decide) (Nat.le_of_ble_eq_true rfl) rfl (v8_countError g hk kd hkd I L  _ (And.intro rfl rfl))
theorem x8_countError {k : Nat} {kd : Nat} {I : Nat → Nat → Int32} {L : Nat → Nat → Int64} {aa : Nat} (h0 : aa ≠ k) (h1 : aa ≠ k + 1) : i8_countError k kd I L aa = I aa := by
  first | (simp only [i8_countError]; done) | (simp only [i8_countError]; (try (repeat' split)) <;> first | rfl | (simp [uI_off, h0, h1]; done))

def i8_copyFrom (k : Nat) (k2 : Nat) (I : Nat → Nat → Int32) (L : Nat → Nat → Int64) : Nat → Nat → Int32 := uI (uI (uI (uI (uI (va_up I (k + 1) (va_cpy (I (k2 + 1)) (I (k + 1)) 0 0 6)) k 1 (I k2 1)) k 2 (I k2 2)) k 3 (I k2 3)) k 4 (I k2 4)) k 5 (I k2 5)
set_option maxRecDepth 4000 in
theorem v8_copyFrom (g : GlT) {k : Nat} {k2 : Nat} (hk : okY k) (hk2 : okY k2) (hap : k + 2 ≤ k2 ∨ k2 + 2 ≤ k) (I : Nat → Nat → Int32) (L : Nat → Nat → Int64) (Q : Option Value → MemT → Prop) (hq : Q (none) (i8_copyFrom k k2 I L, L, R0, 305)) : V g (k8_copyFrom, 1, 0, 0) 0 0 0 [(0, .ref (xA g k)), (1, .ref (xA g k2))] [] (I, L, R0, 305) Q := by
  refine V_aload_n (pc1 := 1) 1 d8_copyFrom_0 rfl rfl ?_
  refine V_getr (pc1 := 4) (ty_l0 hk2) (ty_b0 hk2) f8_11 (fun _ => rfl) (ty_r0_0 hk2) d8_copyFrom_1 rfl ?_
  refine V_iconst (pc1 := 5) d8_copyFrom_4 vc_0 rfl ?_
  refine V_aload_n (pc1 := 6) 0 d8_copyFrom_5 rfl rfl ?_
  refine V_getr (pc1 := 9) (ty_l0 hk) (ty_b0 hk) f8_11 (fun _ => rfl) (ty_r0_0 hk) d8_copyFrom_6 rfl ?_
  refine V_iconst (pc1 := 10) d8_copyFrom_9 vc_0 rfl ?_
  refine V_bipush (pc1 := 12) d8_copyFrom_10 vb_6 rfl ?_
  refine V_copy (pc1 := 15) 0 0 6 l8_19 jcpyN jcpyS jsysI (ty_l1 hk2) (ty_l1 hk) (ty_b1 hk2) (ty_b1 hk) rfl rfl rfl rfl (Nat.le_of_ble_eq_true rfl) (Nat.le_of_ble_eq_true rfl) (Nat.le_of_ble_eq_true rfl) (Nat.le_of_ble_eq_true rfl) d8_copyFrom_12 rfl ?_
  refine V_aload_n (pc1 := 16) 0 d8_copyFrom_15 rfl rfl ?_
  refine V_aload_n (pc1 := 17) 1 d8_copyFrom_16 rfl rfl ?_
  refine V_geti (pc1 := 20) (ty_l0 hk2) (ty_b0 hk2) f8_15 (fun _ => rfl) (congrFun (va_up_ne _ _ (show (k2 : Nat) ≠ k + 1 by omega)) _) d8_copyFrom_17 rfl ?_
  refine V_puti (pc1 := 23) (ty_l0 hk) (ty_b0 hk) f8_15 rfl rfl d8_copyFrom_20 rfl ?_
  refine V_aload_n (pc1 := 24) 0 d8_copyFrom_23 rfl rfl ?_
  refine V_aload_n (pc1 := 25) 1 d8_copyFrom_24 rfl rfl ?_
  refine V_geti (pc1 := 28) (ty_l0 hk2) (ty_b0 hk2) f8_25 (fun _ => rfl) ((congrFun (uI_off _ _ _ (show (k2 : Nat) ≠ k by omega)) _).trans (congrFun (va_up_ne _ _ (show (k2 : Nat) ≠ k + 1 by omega)) _)) d8_copyFrom_25 rfl ?_
  refine V_puti (pc1 := 31) (ty_l0 hk) (ty_b0 hk) f8_25 rfl rfl d8_copyFrom_28 rfl ?_
  refine V_aload_n (pc1 := 32) 0 d8_copyFrom_31 rfl rfl ?_
  refine V_aload_n (pc1 := 33) 1 d8_copyFrom_32 rfl rfl ?_
  refine V_geti (pc1 := 36) (ty_l0 hk2) (ty_b0 hk2) f8_28 (fun _ => rfl) ((congrFun (uI_off _ _ _ (show (k2 : Nat) ≠ k by omega)) _).trans ((congrFun (uI_off _ _ _ (show (k2 : Nat) ≠ k by omega)) _).trans (congrFun (va_up_ne _ _ (show (k2 : Nat) ≠ k + 1 by omega)) _))) d8_copyFrom_33 rfl ?_
  refine V_puti (pc1 := 39) (ty_l0 hk) (ty_b0 hk) f8_28 rfl rfl d8_copyFrom_36 rfl ?_
  refine V_aload_n (pc1 := 40) 0 d8_copyFrom_39 rfl rfl ?_
  refine V_aload_n (pc1 := 41) 1 d8_copyFrom_40 rfl rfl ?_
  refine V_geti (pc1 := 44) (ty_l0 hk2) (ty_b0 hk2) f8_31 (fun _ => rfl) ((congrFun (uI_off _ _ _ (show (k2 : Nat) ≠ k by omega)) _).trans ((congrFun (uI_off _ _ _ (show (k2 : Nat) ≠ k by omega)) _).trans ((congrFun (uI_off _ _ _ (show (k2 : Nat) ≠ k by omega)) _).trans (congrFun (va_up_ne _ _ (show (k2 : Nat) ≠ k + 1 by omega)) _)))) d8_copyFrom_41 rfl ?_
  refine V_puti (pc1 := 47) (ty_l0 hk) (ty_b0 hk) f8_31 rfl rfl d8_copyFrom_44 rfl ?_
  refine V_aload_n (pc1 := 48) 0 d8_copyFrom_47 rfl rfl ?_
  refine V_aload_n (pc1 := 49) 1 d8_copyFrom_48 rfl rfl ?_
  refine V_geti (pc1 := 52) (ty_l0 hk2) (ty_b0 hk2) f8_34 (fun _ => rfl) ((congrFun (uI_off _ _ _ (show (k2 : Nat) ≠ k by omega)) _).trans ((congrFun (uI_off _ _ _ (show (k2 : Nat) ≠ k by omega)) _).trans ((congrFun (uI_off _ _ _ (show (k2 : Nat) ≠ k by omega)) _).trans ((congrFun (uI_off _ _ _ (show (k2 : Nat) ≠ k by omega)) _).trans (congrFun (va_up_ne _ _ (show (k2 : Nat) ≠ k + 1 by omega)) _))))) d8_copyFrom_49 rfl ?_
  refine V_puti (pc1 := 55) (ty_l0 hk) (ty_b0 hk) f8_34 rfl rfl d8_copyFrom_52 rfl ?_
  refine V_vret rfl d8_copyFrom_55 (Nat.zero_le _) (Nat.zero_le _) ?_
  have hq2 := hq
  simp only [i8_copyFrom] at hq2
  exact hq2
theorem w8_copyFrom (g : GlT) {k : Nat} {k2 : Nat} (hk : okY k) (hk2 : okY k2) (hap : k + 2 ≤ k2 ∨ k2 + 2 ≤ k) (I : Nat → Nat → Int32) (L : Nat → Nat → Int64) : Call g (k8_copyFrom, 1, 0, 0) [.ref (xA g k), .ref (xA g k2)] (I, L, R0, 305) (Qv (i8_copyFrom k k2 I L) L) := Call.of (by decide) (Nat.le_of_ble_eq_true rfl) rfl (v8_copyFrom g hk hk2  hap I L  _ (And.intro rfl rfl))
theorem x8_copyFrom {k : Nat} {k2 : Nat} {I : Nat → Nat → Int32} {L : Nat → Nat → Int64} {aa : Nat} (h0 : aa ≠ k) (h1 : aa ≠ k + 1) : i8_copyFrom k k2 I L aa = I aa := by
  first | (simp only [i8_copyFrom]; done) | (simp only [i8_copyFrom]; (try (repeat' split)) <;> first | rfl | (simp [uI_off, h0, h1, va_up]; done))

def r1_add (k : Nat) (a : Int32) (t : Int32) (I : Nat → Nat → Int32) (L : Nat → Nat → Int64) : Bool := (if I k 2 < 8 then true else false)
def i1_add (k : Nat) (a : Int32) (t : Int32) (I : Nat → Nat → Int32) (L : Nat → Nat → Int64) : Nat → Nat → Int32 := (if I k 2 < 8 then uI (uI (uI I (k + 1) ((I k 2).toNatClampNeg) a) (k + 2) ((I k 2).toNatClampNeg) t) k 2 ((I k 2) + 1) else I)
set_option maxRecDepth 4000 in
theorem v1_add (g : GlT) {k : Nat} (hk : okD k) (a : Int32) (t : Int32) (d : Nat) (hd8 : d ≤ 8) (I : Nat → Nat → Int32) (L : Nat → Nat → Int64) (hd : I k 2 = nI d) (Q : Option Value → MemT → Prop) (hq : Q (some (.int (bI (r1_add k a t I L)))) (i1_add k a t I L, L, R0, 305)) : V g (k1_add, 1, 0, 0) 0 0 0 [(0, .ref (xA g k)), (1, .int a), (2, .int t)] [] (I, L, R0, 305) Q := by
  have hd3 : (I k 2).toNatClampNeg = d := by rw [hd]; exact nI_clamp (by omega)
  refine V_aload_n (pc1 := 1) 0 d1_add_0 rfl rfl ?_
  refine V_geti (pc1 := 4) (ds_l0 hk) (ds_b0 hk) f1_22 (fun _ => rfl) rfl d1_add_1 rfl ?_
  refine V_bipush (pc1 := 6) d1_add_4 vb_8 rfl ?_
  refine V_icmp_lt (tgt := 11) (pc1 := 9) d1_add_6 (by decide) rfl (fun h1 => ?_) (fun h1 => ?_)
  · skip
    refine V_aload_n (pc1 := 12) 0 d1_add_11 rfl rfl ?_
    refine V_getr (pc1 := 15) (ds_l0 hk) (ds_b0 hk) f1_9 (fun _ => rfl) (ds_r0_0 hk) d1_add_12 rfl ?_
    refine V_aload_n (pc1 := 16) 0 d1_add_15 rfl rfl ?_
    refine V_geti (pc1 := 19) (ds_l0 hk) (ds_b0 hk) f1_22 (fun _ => rfl) rfl d1_add_16 rfl ?_
    refine V_iload_n (pc1 := 20) 1 d1_add_19 rfl rfl ?_
    refine V_iast (pc1 := 21) d (ds_l1 hk) (ds_b1 hk) hd (nI_lt_of2 hd (by omega) (by omega) h1) d1_add_20 rfl ?_
    refine V_aload_n (pc1 := 22) 0 d1_add_21 rfl rfl ?_
    refine V_getr (pc1 := 25) (ds_l0 hk) (ds_b0 hk) f1_13 (fun _ => rfl) (ds_r0_1 hk) d1_add_22 rfl ?_
    refine V_aload_n (pc1 := 26) 0 d1_add_25 rfl rfl ?_
    refine V_geti (pc1 := 29) (ds_l0 hk) (ds_b0 hk) f1_22 (fun _ => rfl) (congrFun (uI_off _ _ _ (show (k : Nat) ≠ k + 1 by omega)) _) d1_add_26 rfl ?_
    refine V_iload_n (pc1 := 30) 2 d1_add_29 rfl rfl ?_
    refine V_iast (pc1 := 31) d (ds_l2 hk) (ds_b2 hk) hd (nI_lt_of2 hd (by omega) (by omega) h1) d1_add_30 rfl ?_
    refine V_aload_n (pc1 := 32) 0 d1_add_31 rfl rfl ?_
    refine V_dup (pc1 := 33) d1_add_32 rfl rfl ?_
    refine V_geti (pc1 := 36) (ds_l0 hk) (ds_b0 hk) f1_22 (fun _ => rfl) ((congrFun (uI_off _ _ _ (show (k : Nat) ≠ k + 2 by omega)) _).trans (congrFun (uI_off _ _ _ (show (k : Nat) ≠ k + 1 by omega)) _)) d1_add_33 rfl ?_
    refine V_iconst (pc1 := 37) d1_add_36 vc_1 rfl ?_
    refine V_iadd (pc1 := 38) d1_add_37 rfl ?_
    refine V_puti (pc1 := 41) (ds_l0 hk) (ds_b0 hk) f1_22 rfl rfl d1_add_38 rfl ?_
    refine V_iconst (pc1 := 42) d1_add_41 vc_1 rfl ?_
    refine V_zret rfl (Or.inr rfl) d1_add_42 (Nat.zero_le _) (Nat.zero_le _) ?_
    have hq2 := hq
    simp only [r1_add, i1_add, hd3, if_pos h1] at hq2
    exact hq2
  · skip
    refine V_iconst (pc1 := 10) d1_add_9 vc_0 rfl ?_
    refine V_zret rfl (Or.inl rfl) d1_add_10 (Nat.zero_le _) (Nat.zero_le _) ?_
    have hq2 := hq
    simp only [r1_add, i1_add, hd3, if_neg h1] at hq2
    exact hq2
theorem w1_add (g : GlT) {k : Nat} (hk : okD k) (a : Int32) (t : Int32) (d : Nat) (hd8 : d ≤ 8) (I : Nat → Nat → Int32) (L : Nat → Nat → Int64) (hd : I k 2 = nI d) : Call g (k1_add, 1, 0, 0) [.ref (xA g k), .int a, .int t] (I, L, R0, 305) (Qi (bI (r1_add k a t I L)) (i1_add k a t I L) L) := Call.of (by decide) (Nat.le_of_ble_eq_true rfl) rfl (v1_add g hk a t d hd8 I L hd _ (And.intro rfl rfl))
theorem x1_add {k : Nat} {a : Int32} {t : Int32} {I : Nat → Nat → Int32} {L : Nat → Nat → Int64} {aa : Nat} (h0 : aa ≠ k) (h1 : aa ≠ k + 1) (h2 : aa ≠ k + 2) : i1_add k a t I L aa = I aa := by
  first | (simp only [i1_add]; done) | (simp only [i1_add]; (try (repeat' split)) <;> first | rfl | (simp [uI_off, h0, h1, h2]; done))

def r1_nodesAt_4 (k : Nat) (t : Int32) : Nat → Nat → Int32 → (Nat → Nat → Int32) → (Nat → Nat → Int64) → Int32
  | 0, i, z, I, L => z
  | n + 1, i, z, I, L => r1_nodesAt_4 k t n (i + 1) (if I (k + 2) i = t then z ||| (I (k + 1) i) else z) I L
set_option maxRecDepth 4000 in
theorem t1_nodesAt_4 (g : GlT) {k : Nat} (hk : okD k) (t : Int32) (d : Nat) (hd8 : d ≤ 8) : ∀ (n i : Nat) (z : Int32) (I : Nat → Nat → Int32) (L : Nat → Nat → Int64), (hd : I k 2 = nI d) → (hn : i + n = d) → ∀ (Q : Option Value → MemT → Prop), Q (some (.int (r1_nodesAt_4 k t n i z I L))) (I, L, R0, 305) → V g (k1_nodesAt, 1, 0, 0) 0 0 4 [(0, .ref (xA g k)), (1, .int t), (2, .int z), (3, .int (nI i))] [] (I, L, R0, 305) Q := by
  intro n
  induction n with
  | zero =>
    intro i z I L hd hn Q hq
    refine V_iload_n (pc1 := 5) 3 d1_nodesAt_4 rfl rfl ?_
    refine V_aload_n (pc1 := 6) 0 d1_nodesAt_5 rfl rfl ?_
    refine V_geti (pc1 := 9) (ds_l0 hk) (ds_b0 hk) f1_22 (fun _ => rfl) hd d1_nodesAt_6 rfl ?_
    refine V_icmp_ge (tgt := 37) (pc1 := 12) d1_nodesAt_9 (by decide) rfl (fun _ => ?_) (fun h1 => absurd (nI_le (by omega) (by omega)) h1)
    refine V_iload_n (pc1 := 38) 2 d1_nodesAt_37 rfl rfl ?_
    refine V_iret rfl d1_nodesAt_38 (Nat.zero_le _) (Nat.zero_le _) ?_
    have hq2 := hq
    simp only [r1_nodesAt_4] at hq2
    exact hq2
  | succ n ih =>
    intro i z I L hd hn Q hq
    refine V_iload_n (pc1 := 5) 3 d1_nodesAt_4 rfl rfl ?_
    refine V_aload_n (pc1 := 6) 0 d1_nodesAt_5 rfl rfl ?_
    refine V_geti (pc1 := 9) (ds_l0 hk) (ds_b0 hk) f1_22 (fun _ => rfl) hd d1_nodesAt_6 rfl ?_
    refine V_icmp_ge (tgt := 37) (pc1 := 12) d1_nodesAt_9 (by decide) rfl (fun h1 => absurd h1 (nI_ge (by omega) (by omega))) (fun _ => ?_)
    refine V_aload_n (pc1 := 13) 0 d1_nodesAt_12 rfl rfl ?_
    refine V_getr (pc1 := 16) (ds_l0 hk) (ds_b0 hk) f1_13 (fun _ => rfl) (ds_r0_1 hk) d1_nodesAt_13 rfl ?_
    refine V_iload_n (pc1 := 17) 3 d1_nodesAt_16 rfl rfl ?_
    refine V_iald2 (pc1 := 18) i (ds_l2 hk) (ds_b2 hk) rfl (by omega) rfl d1_nodesAt_17 rfl ?_
    refine V_iload_n (pc1 := 19) 1 d1_nodesAt_18 rfl rfl ?_
    have key3 : ∀ (z31_2 : Int32), z31_2 = (if I (k + 2) i = t then z ||| (I (k + 1) i) else z) → ∀ (lv : List (Nat × Value)), lvsub [(2, .int z31_2), (0, .ref (xA g k)), (1, .int t), (3, .int (nI i))] lv → V g (k1_nodesAt, 1, 0, 0) 0 0 31 lv [] (I, L, R0, 305) Q := by
      intro z31_2 ez31_2
      subst ez31_2
      intro lv hlv
      refine V_lv hlv ?_
      refine V_iinc (pc1 := 34) 3 (v := nI (i + 1)) d1_nodesAt_31 rfl (nI_1 _) (Nat.le_of_ble_eq_true rfl) rfl rfl ?_
      refine V_goto (tgt := 4) d1_nodesAt_34 (by decide) ?_
      refine V_lv (lv1 := [(0, .ref (xA g k)), (1, .int t), (2, .int (if I (k + 2) i = t then z ||| (I (k + 1) i) else z)), (3, .int (nI (i + 1)))]) (lvsub_p [2, 3, 1, 0] rfl) ?_
      have hq2 := hq
      simp only [r1_nodesAt_4] at hq2
      exact ih (i + 1) (if I (k + 2) i = t then z ||| (I (k + 1) i) else z) I L (rfl.trans hd) (by omega) Q hq2
    refine V_icmp_ne (tgt := 31) (pc1 := 22) d1_nodesAt_19 (by decide) rfl (fun h2 => ?_) (fun h2 => ?_)
    · skip
      exact key3 _ (by first | rfl | (simp only [if_neg h2]; done) | (simp only [if_neg h2]; rfl)) _ (lvsub_p [2, 0, 1, 3] rfl)
    · skip
      refine V_iload_n (pc1 := 23) 2 d1_nodesAt_22 rfl rfl ?_
      refine V_aload_n (pc1 := 24) 0 d1_nodesAt_23 rfl rfl ?_
      refine V_getr (pc1 := 27) (ds_l0 hk) (ds_b0 hk) f1_9 (fun _ => rfl) (ds_r0_0 hk) d1_nodesAt_24 rfl ?_
      refine V_iload_n (pc1 := 28) 3 d1_nodesAt_27 rfl rfl ?_
      refine V_iald2 (pc1 := 29) i (ds_l1 hk) (ds_b1 hk) rfl (by omega) rfl d1_nodesAt_28 rfl ?_
      refine V_ior (pc1 := 30) d1_nodesAt_29 rfl ?_
      refine V_istore_n (pc1 := 31) d1_nodesAt_30 (Nat.le_of_ble_eq_true rfl) rfl rfl ?_
      exact key3 _ (by first | rfl | (simp only [if_pos h2]; done) | (simp only [if_pos h2]; rfl)) _ (lvsub_p [0, 1, 2, 3] rfl)
def r1_nodesAt (k : Nat) (t : Int32) (I : Nat → Nat → Int32) (L : Nat → Nat → Int64) : Int32 := r1_nodesAt_4 k t ((I k 2).toNatClampNeg) 0 0 I L
set_option maxRecDepth 4000 in
theorem v1_nodesAt (g : GlT) {k : Nat} (hk : okD k) (t : Int32) (d : Nat) (hd8 : d ≤ 8) (I : Nat → Nat → Int32) (L : Nat → Nat → Int64) (hd : I k 2 = nI d) (Q : Option Value → MemT → Prop) (hq : Q (some (.int (r1_nodesAt k t I L))) (I, L, R0, 305)) : V g (k1_nodesAt, 1, 0, 0) 0 0 0 [(0, .ref (xA g k)), (1, .int t)] [] (I, L, R0, 305) Q := by
  have hd3 : (I k 2).toNatClampNeg = d := by rw [hd]; exact nI_clamp (by omega)
  refine V_iconst (pc1 := 1) d1_nodesAt_0 vc_0 rfl ?_
  refine V_istore_n (pc1 := 2) d1_nodesAt_1 (Nat.le_of_ble_eq_true rfl) rfl rfl ?_
  refine V_iconst (pc1 := 3) d1_nodesAt_2 vc_0 rfl ?_
  refine V_istore_n (pc1 := 4) d1_nodesAt_3 (Nat.le_of_ble_eq_true rfl) rfl rfl ?_
  refine V_lv (lv1 := [(0, .ref (xA g k)), (1, .int t), (2, .int 0), (3, .int (nI 0))]) (lvsub_p [2, 3, 1, 0] rfl) ?_
  have hq2 := hq
  simp only [r1_nodesAt, hd3] at hq2
  exact t1_nodesAt_4 g hk _ _ hd8 d 0 0 I L hd (by omega) Q hq2
theorem w1_nodesAt (g : GlT) {k : Nat} (hk : okD k) (t : Int32) (d : Nat) (hd8 : d ≤ 8) (I : Nat → Nat → Int32) (L : Nat → Nat → Int64) (hd : I k 2 = nI d) : Call g (k1_nodesAt, 1, 0, 0) [.ref (xA g k), .int t] (I, L, R0, 305) (Qi (r1_nodesAt k t I L) (I) L) := Call.of (by decide) (Nat.le_of_ble_eq_true rfl) rfl (v1_nodesAt g hk t d hd8 I L hd _ (And.intro rfl rfl))

def i1_dropBefore_4 (k : Nat) (t : Int32) : Nat → Nat → Nat → (Nat → Nat → Int32) → (Nat → Nat → Int64) → (Nat → Nat → Int32)
  | 0, i, q, I, L => uI I k 2 (nI q)
  | n + 1, i, q, I, L => i1_dropBefore_4 k t n (i + 1) (if I (k + 2) i < t then q else q + 1) (if I (k + 2) i < t then I else uI (uI I (k + 1) q (I (k + 1) i)) (k + 2) q (I (k + 2) i)) L
set_option maxRecDepth 4000 in
theorem t1_dropBefore_4 (g : GlT) {k : Nat} (hk : okD k) (t : Int32) (d : Nat) (hd8 : d ≤ 8) : ∀ (n i q : Nat) (I : Nat → Nat → Int32) (L : Nat → Nat → Int64), (hd : I k 2 = nI d) → (hn : i + n = d) → (hq0 : q ≤ i) → ∀ (Q : Option Value → MemT → Prop), Q (none) (i1_dropBefore_4 k t n i q I L, L, R0, 305) → V g (k1_dropBefore, 1, 0, 0) 0 0 4 [(0, .ref (xA g k)), (1, .int t), (2, .int (nI q)), (3, .int (nI i))] [] (I, L, R0, 305) Q := by
  intro n
  induction n with
  | zero =>
    intro i q I L hd hn hq0 Q hq
    refine V_iload_n (pc1 := 5) 3 d1_dropBefore_4 rfl rfl ?_
    refine V_aload_n (pc1 := 6) 0 d1_dropBefore_5 rfl rfl ?_
    refine V_geti (pc1 := 9) (ds_l0 hk) (ds_b0 hk) f1_22 (fun _ => rfl) hd d1_dropBefore_6 rfl ?_
    refine V_icmp_ge (tgt := 55) (pc1 := 12) d1_dropBefore_9 (by decide) rfl (fun _ => ?_) (fun h1 => absurd (nI_le (by omega) (by omega)) h1)
    refine V_aload_n (pc1 := 56) 0 d1_dropBefore_55 rfl rfl ?_
    refine V_iload_n (pc1 := 57) 2 d1_dropBefore_56 rfl rfl ?_
    refine V_puti (pc1 := 60) (ds_l0 hk) (ds_b0 hk) f1_22 rfl rfl d1_dropBefore_57 rfl ?_
    refine V_vret rfl d1_dropBefore_60 (Nat.zero_le _) (Nat.zero_le _) ?_
    have hq2 := hq
    simp only [i1_dropBefore_4] at hq2
    exact hq2
  | succ n ih =>
    intro i q I L hd hn hq0 Q hq
    refine V_iload_n (pc1 := 5) 3 d1_dropBefore_4 rfl rfl ?_
    refine V_aload_n (pc1 := 6) 0 d1_dropBefore_5 rfl rfl ?_
    refine V_geti (pc1 := 9) (ds_l0 hk) (ds_b0 hk) f1_22 (fun _ => rfl) hd d1_dropBefore_6 rfl ?_
    refine V_icmp_ge (tgt := 55) (pc1 := 12) d1_dropBefore_9 (by decide) rfl (fun h1 => absurd h1 (nI_ge (by omega) (by omega))) (fun _ => ?_)
    refine V_aload_n (pc1 := 13) 0 d1_dropBefore_12 rfl rfl ?_
    refine V_getr (pc1 := 16) (ds_l0 hk) (ds_b0 hk) f1_13 (fun _ => rfl) (ds_r0_1 hk) d1_dropBefore_13 rfl ?_
    refine V_iload_n (pc1 := 17) 3 d1_dropBefore_16 rfl rfl ?_
    refine V_iald2 (pc1 := 18) i (ds_l2 hk) (ds_b2 hk) rfl (by omega) rfl d1_dropBefore_17 rfl ?_
    refine V_iload_n (pc1 := 19) 1 d1_dropBefore_18 rfl rfl ?_
    have key3 : ∀ (z49_2 : Int32), z49_2 = nI (if I (k + 2) i < t then q else q + 1) → ∀ (zI49 : Nat → Nat → Int32), zI49 = (if I (k + 2) i < t then I else uI (uI I (k + 1) q (I (k + 1) i)) (k + 2) q (I (k + 2) i)) → ∀ (lv : List (Nat × Value)), lvsub [(0, .ref (xA g k)), (1, .int t), (2, .int z49_2), (3, .int (nI i))] lv → V g (k1_dropBefore, 1, 0, 0) 0 0 49 lv [] (zI49, L, R0, 305) Q := by
      intro z49_2 ez49_2 zI49 ezI49
      subst ez49_2
      subst ezI49
      intro lv hlv
      refine V_lv hlv ?_
      refine V_iinc (pc1 := 52) 3 (v := nI (i + 1)) d1_dropBefore_49 rfl (nI_1 _) (Nat.le_of_ble_eq_true rfl) rfl rfl ?_
      refine V_goto (tgt := 4) d1_dropBefore_52 (by decide) ?_
      refine V_lv (lv1 := [(0, .ref (xA g k)), (1, .int t), (2, .int (nI (if I (k + 2) i < t then q else q + 1))), (3, .int (nI (i + 1)))]) (lvsub_p [1, 2, 3, 0] rfl) ?_
      have hq2 := hq
      simp only [i1_dropBefore_4] at hq2
      exact ih (i + 1) (if I (k + 2) i < t then q else q + 1) (if I (k + 2) i < t then I else uI (uI I (k + 1) q (I (k + 1) i)) (k + 2) q (I (k + 2) i)) L ((show (if I (k + 2) i < t then I else uI (uI I (k + 1) q (I (k + 1) i)) (k + 2) q (I (k + 2) i)) k 2 = (I k 2) from by (repeat' split) <;> first | exact rfl | exact ((congrFun (uI_off _ _ _ (show (k : Nat) ≠ k + 2 by omega)) _).trans (congrFun (uI_off _ _ _ (show (k : Nat) ≠ k + 1 by omega)) _))).trans hd) (by omega) (by split <;> omega) Q hq2
    refine V_icmp_lt (tgt := 49) (pc1 := 22) d1_dropBefore_19 (by decide) rfl (fun h2 => ?_) (fun h2 => ?_)
    · skip
      exact key3 _ (by first | rfl | (simp only [if_pos h2]; done) | (simp only [if_pos h2]; rfl)) _ (by first | rfl | (simp only [if_pos h2]; done) | (simp only [if_pos h2]; rfl)) _ (lvsub_p [0, 1, 2, 3] rfl)
    · skip
      refine V_aload_n (pc1 := 23) 0 d1_dropBefore_22 rfl rfl ?_
      refine V_getr (pc1 := 26) (ds_l0 hk) (ds_b0 hk) f1_9 (fun _ => rfl) (ds_r0_0 hk) d1_dropBefore_23 rfl ?_
      refine V_iload_n (pc1 := 27) 2 d1_dropBefore_26 rfl rfl ?_
      refine V_aload_n (pc1 := 28) 0 d1_dropBefore_27 rfl rfl ?_
      refine V_getr (pc1 := 31) (ds_l0 hk) (ds_b0 hk) f1_9 (fun _ => rfl) (ds_r0_0 hk) d1_dropBefore_28 rfl ?_
      refine V_iload_n (pc1 := 32) 3 d1_dropBefore_31 rfl rfl ?_
      refine V_iald2 (pc1 := 33) i (ds_l1 hk) (ds_b1 hk) rfl (by omega) rfl d1_dropBefore_32 rfl ?_
      refine V_iast (pc1 := 34) q (ds_l1 hk) (ds_b1 hk) rfl (by omega) d1_dropBefore_33 rfl ?_
      refine V_aload_n (pc1 := 35) 0 d1_dropBefore_34 rfl rfl ?_
      refine V_getr (pc1 := 38) (ds_l0 hk) (ds_b0 hk) f1_13 (fun _ => rfl) (ds_r0_1 hk) d1_dropBefore_35 rfl ?_
      refine V_iload_n (pc1 := 39) 2 d1_dropBefore_38 rfl rfl ?_
      refine V_aload_n (pc1 := 40) 0 d1_dropBefore_39 rfl rfl ?_
      refine V_getr (pc1 := 43) (ds_l0 hk) (ds_b0 hk) f1_13 (fun _ => rfl) (ds_r0_1 hk) d1_dropBefore_40 rfl ?_
      refine V_iload_n (pc1 := 44) 3 d1_dropBefore_43 rfl rfl ?_
      refine V_iald2 (pc1 := 45) i (ds_l2 hk) (ds_b2 hk) rfl (by omega) (congrFun (uI_off _ _ _ (show (k + 2 : Nat) ≠ k + 1 by omega)) _) d1_dropBefore_44 rfl ?_
      refine V_iast (pc1 := 46) q (ds_l2 hk) (ds_b2 hk) rfl (by omega) d1_dropBefore_45 rfl ?_
      refine V_iinc (pc1 := 49) 2 (v := nI (q + 1)) d1_dropBefore_46 rfl (nI_1 _) (Nat.le_of_ble_eq_true rfl) rfl rfl ?_
      exact key3 _ (by first | rfl | (simp only [if_neg h2]; done) | (simp only [if_neg h2]; rfl)) _ (by first | rfl | (simp only [if_neg h2]; done) | (simp only [if_neg h2]; rfl)) _ (lvsub_p [1, 2, 0, 3] rfl)
def i1_dropBefore (k : Nat) (t : Int32) (I : Nat → Nat → Int32) (L : Nat → Nat → Int64) : Nat → Nat → Int32 := i1_dropBefore_4 k t ((I k 2).toNatClampNeg) 0 0 I L
set_option maxRecDepth 4000 in
theorem v1_dropBefore (g : GlT) {k : Nat} (hk : okD k) (t : Int32) (d : Nat) (hd8 : d ≤ 8) (I : Nat → Nat → Int32) (L : Nat → Nat → Int64) (hd : I k 2 = nI d) (Q : Option Value → MemT → Prop) (hq : Q (none) (i1_dropBefore k t I L, L, R0, 305)) : V g (k1_dropBefore, 1, 0, 0) 0 0 0 [(0, .ref (xA g k)), (1, .int t)] [] (I, L, R0, 305) Q := by
  have hd3 : (I k 2).toNatClampNeg = d := by rw [hd]; exact nI_clamp (by omega)
  refine V_iconst (pc1 := 1) d1_dropBefore_0 vc_0 rfl ?_
  refine V_istore_n (pc1 := 2) d1_dropBefore_1 (Nat.le_of_ble_eq_true rfl) rfl rfl ?_
  refine V_iconst (pc1 := 3) d1_dropBefore_2 vc_0 rfl ?_
  refine V_istore_n (pc1 := 4) d1_dropBefore_3 (Nat.le_of_ble_eq_true rfl) rfl rfl ?_
  refine V_lv (lv1 := [(0, .ref (xA g k)), (1, .int t), (2, .int (nI 0)), (3, .int (nI 0))]) (lvsub_p [2, 3, 1, 0] rfl) ?_
  have hq2 := hq
  simp only [i1_dropBefore, hd3] at hq2
  exact t1_dropBefore_4 g hk _ _ hd8 d 0 0 I L hd (by omega) (by omega) Q hq2
theorem w1_dropBefore (g : GlT) {k : Nat} (hk : okD k) (t : Int32) (d : Nat) (hd8 : d ≤ 8) (I : Nat → Nat → Int32) (L : Nat → Nat → Int64) (hd : I k 2 = nI d) : Call g (k1_dropBefore, 1, 0, 0) [.ref (xA g k), .int t] (I, L, R0, 305) (Qv (i1_dropBefore k t I L) L) := Call.of (by decide) (Nat.le_of_ble_eq_true rfl) rfl (v1_dropBefore g hk t d hd8 I L hd _ (And.intro rfl rfl))
theorem x1_dropBefore_4 {k : Nat} {t : Int32} {aa : Nat} (h0 : aa ≠ k) (h1 : aa ≠ k + 1) (h2 : aa ≠ k + 2) : ∀ (n i q : Nat) (I : Nat → Nat → Int32) (L : Nat → Nat → Int64), i1_dropBefore_4 k t n i q I L aa = I aa := by
  intro n
  induction n with
  | zero => intros; first | (simp only [i1_dropBefore_4]; done) | (simp only [i1_dropBefore_4]; (try (repeat' split)) <;> first | rfl | (simp [uI_off, h0, h1, h2]; done))
  | succ n ih => intros; first | (simp only [i1_dropBefore_4]; done) | (simp only [i1_dropBefore_4]; (try (repeat' split)) <;> first | rfl | (simp [ih, uI_off, h0, h1, h2]; done))
theorem x1_dropBefore {k : Nat} {t : Int32} {I : Nat → Nat → Int32} {L : Nat → Nat → Int64} {aa : Nat} (h0 : aa ≠ k) (h1 : aa ≠ k + 1) (h2 : aa ≠ k + 2) : i1_dropBefore k t I L aa = I aa := by
  first | (simp only [i1_dropBefore]; done) | (simp only [i1_dropBefore]; (try (repeat' split)) <;> first | rfl | (simp [uI_off, h0, h1, h2, x1_dropBefore_4 h0 h1 h2]; done))

def i1_copyFrom (k : Nat) (k2 : Nat) (I : Nat → Nat → Int32) (L : Nat → Nat → Int64) : Nat → Nat → Int32 := uI (va_up (va_up I (k + 1) (va_cpy (I (k2 + 1)) (I (k + 1)) 0 0 8)) (k + 2) (va_cpy ((va_up I (k + 1) (va_cpy (I (k2 + 1)) (I (k + 1)) 0 0 8)) (k2 + 2)) ((va_up I (k + 1) (va_cpy (I (k2 + 1)) (I (k + 1)) 0 0 8)) (k + 2)) 0 0 8)) k 2 (I k2 2)
set_option maxRecDepth 4000 in
theorem v1_copyFrom (g : GlT) {k : Nat} {k2 : Nat} (hk : okD k) (hk2 : okD k2) (hap : k + 3 ≤ k2 ∨ k2 + 3 ≤ k) (I : Nat → Nat → Int32) (L : Nat → Nat → Int64) (Q : Option Value → MemT → Prop) (hq : Q (none) (i1_copyFrom k k2 I L, L, R0, 305)) : V g (k1_copyFrom, 1, 0, 0) 0 0 0 [(0, .ref (xA g k)), (1, .ref (xA g k2))] [] (I, L, R0, 305) Q := by
  refine V_aload_n (pc1 := 1) 1 d1_copyFrom_0 rfl rfl ?_
  refine V_getr (pc1 := 4) (ds_l0 hk2) (ds_b0 hk2) f1_9 (fun _ => rfl) (ds_r0_0 hk2) d1_copyFrom_1 rfl ?_
  refine V_iconst (pc1 := 5) d1_copyFrom_4 vc_0 rfl ?_
  refine V_aload_n (pc1 := 6) 0 d1_copyFrom_5 rfl rfl ?_
  refine V_getr (pc1 := 9) (ds_l0 hk) (ds_b0 hk) f1_9 (fun _ => rfl) (ds_r0_0 hk) d1_copyFrom_6 rfl ?_
  refine V_iconst (pc1 := 10) d1_copyFrom_9 vc_0 rfl ?_
  refine V_bipush (pc1 := 12) d1_copyFrom_10 vb_8 rfl ?_
  refine V_copy (pc1 := 15) 0 0 8 l1_16 jcpyN jcpyS jsysI (ds_l1 hk2) (ds_l1 hk) (ds_b1 hk2) (ds_b1 hk) rfl rfl rfl rfl (Nat.le_of_ble_eq_true rfl) (Nat.le_of_ble_eq_true rfl) (Nat.le_of_ble_eq_true rfl) (Nat.le_of_ble_eq_true rfl) d1_copyFrom_12 rfl ?_
  refine V_aload_n (pc1 := 16) 1 d1_copyFrom_15 rfl rfl ?_
  refine V_getr (pc1 := 19) (ds_l0 hk2) (ds_b0 hk2) f1_13 (fun _ => rfl) (ds_r0_1 hk2) d1_copyFrom_16 rfl ?_
  refine V_iconst (pc1 := 20) d1_copyFrom_19 vc_0 rfl ?_
  refine V_aload_n (pc1 := 21) 0 d1_copyFrom_20 rfl rfl ?_
  refine V_getr (pc1 := 24) (ds_l0 hk) (ds_b0 hk) f1_13 (fun _ => rfl) (ds_r0_1 hk) d1_copyFrom_21 rfl ?_
  refine V_iconst (pc1 := 25) d1_copyFrom_24 vc_0 rfl ?_
  refine V_bipush (pc1 := 27) d1_copyFrom_25 vb_8 rfl ?_
  refine V_copy (pc1 := 30) 0 0 8 l1_16 jcpyN jcpyS jsysI (ds_l2 hk2) (ds_l2 hk) (ds_b2 hk2) (ds_b2 hk) rfl rfl rfl rfl (Nat.le_of_ble_eq_true rfl) (Nat.le_of_ble_eq_true rfl) (Nat.le_of_ble_eq_true rfl) (Nat.le_of_ble_eq_true rfl) d1_copyFrom_27 rfl ?_
  refine V_aload_n (pc1 := 31) 0 d1_copyFrom_30 rfl rfl ?_
  refine V_aload_n (pc1 := 32) 1 d1_copyFrom_31 rfl rfl ?_
  refine V_geti (pc1 := 35) (ds_l0 hk2) (ds_b0 hk2) f1_22 (fun _ => rfl) ((congrFun (va_up_ne _ _ (show (k2 : Nat) ≠ k + 2 by omega)) _).trans (congrFun (va_up_ne _ _ (show (k2 : Nat) ≠ k + 1 by omega)) _)) d1_copyFrom_32 rfl ?_
  refine V_puti (pc1 := 38) (ds_l0 hk) (ds_b0 hk) f1_22 rfl rfl d1_copyFrom_35 rfl ?_
  refine V_vret rfl d1_copyFrom_38 (Nat.zero_le _) (Nat.zero_le _) ?_
  have hq2 := hq
  simp only [i1_copyFrom] at hq2
  exact hq2
theorem w1_copyFrom (g : GlT) {k : Nat} {k2 : Nat} (hk : okD k) (hk2 : okD k2) (hap : k + 3 ≤ k2 ∨ k2 + 3 ≤ k) (I : Nat → Nat → Int32) (L : Nat → Nat → Int64) : Call g (k1_copyFrom, 1, 0, 0) [.ref (xA g k), .ref (xA g k2)] (I, L, R0, 305) (Qv (i1_copyFrom k k2 I L) L) := Call.of (by decide) (Nat.le_of_ble_eq_true rfl) rfl (v1_copyFrom g hk hk2  hap I L  _ (And.intro rfl rfl))
theorem x1_copyFrom {k : Nat} {k2 : Nat} {I : Nat → Nat → Int32} {L : Nat → Nat → Int64} {aa : Nat} (h0 : aa ≠ k) (h1 : aa ≠ k + 1) (h2 : aa ≠ k + 2) : i1_copyFrom k k2 I L aa = I aa := by
  first | (simp only [i1_copyFrom]; done) | (simp only [i1_copyFrom]; (try (repeat' split)) <;> first | rfl | (simp [uI_off, h0, h1, h2, va_up]; done))
