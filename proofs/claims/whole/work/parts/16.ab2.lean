theorem cp18 {k c k2 c2 : Nat} : ∀ (n i : Nat) (I : Nat → Nat → Int32) (L : Nat → Nat → Int64), i3_copyFrom_18 k c k2 c2 n i I L k = I k := by
  intro n
  induction n with
  | zero => intros; rfl
  | succ n ih =>
    intros
    simp only [i3_copyFrom_18]
    rw [ih, uI_off _ _ _ (by omega), uI_off _ _ _ (by omega), uI_off _ _ _ (by omega)]
theorem cp_size {k c k2 c2 s : Nat} {I : Nat → Nat → Int32} {L : Nat → Nat → Int64} (hs : I k2 3 = nI s) (hc : s ≤ c) (h6 : c ≤ 6) : (i3_copyFrom k c k2 c2 I L) k 3 = nI s := by
  unfold i3_copyFrom
  rw [cp18, uI_self, show (I k2 3).toNatClampNeg = s by rw [hs]; exact nI_clamp (by omega)]
  exact if_neg (nI_nlt hc (by omega))
theorem nV_copy {k l k2 l2 : Nat} {I : Nat → Nat → Int32} {L : Nat → Nat → Int64} (hap : k + 16 ≤ k2 ∨ k2 + 16 ≤ k) (h : nV k2 I) : nV k (i6_copyFrom k l k2 l2 I L) := by
  obtain ⟨⟨w, hw4, hw⟩, ⟨r, hr6, hr⟩, a, ha4, ha⟩ := h
  unfold i6_copyFrom
  refine ⟨⟨w, hw4, ?_⟩, ⟨r, hr6, ?_⟩, a, ha4, ?_⟩
  · rw [uI_off _ _ _ (by omega), uI_off _ _ _ (by omega), uI_off _ _ _ (by omega), uI_off _ _ _ (by omega), uI_off _ _ _ (by omega), uI_off _ _ _ (by omega), uI_off _ _ _ (by omega), uI_off _ _ _ (by omega), uI_off _ _ _ (by omega), uI_off _ _ _ (by omega), uI_off _ _ _ (by omega), uI_off _ _ _ (by omega), x2_copyFrom (by omega), x3_copyFrom (by omega) (by omega) (by omega) (by omega), x3_copyFrom (by omega) (by omega) (by omega) (by omega)]
    refine cp_size ?_ hw4 (by omega)
    rw [x8_copyFrom (by omega) (by omega)]
    exact hw
  · rw [uI_off _ _ _ (by omega), uI_off _ _ _ (by omega), uI_off _ _ _ (by omega), uI_off _ _ _ (by omega), uI_off _ _ _ (by omega), uI_off _ _ _ (by omega), uI_off _ _ _ (by omega), uI_off _ _ _ (by omega), uI_off _ _ _ (by omega), uI_off _ _ _ (by omega), uI_off _ _ _ (by omega), uI_off _ _ _ (by omega), x2_copyFrom (by omega), x3_copyFrom (by omega) (by omega) (by omega) (by omega)]
    refine cp_size ?_ hr6 (by omega)
    rw [x3_copyFrom (by omega) (by omega) (by omega) (by omega), x8_copyFrom (by omega) (by omega)]
    exact hr
  · rw [uI_off _ _ _ (by omega), uI_off _ _ _ (by omega), uI_off _ _ _ (by omega), uI_off _ _ _ (by omega), uI_off _ _ _ (by omega), uI_off _ _ _ (by omega), uI_off _ _ _ (by omega), uI_off _ _ _ (by omega), uI_off _ _ _ (by omega), uI_off _ _ _ (by omega), uI_off _ _ _ (by omega), uI_off _ _ _ (by omega), x2_copyFrom (by omega)]
    refine cp_size ?_ ha4 (by omega)
    rw [x3_copyFrom (by omega) (by omega) (by omega) (by omega), x3_copyFrom (by omega) (by omega) (by omega) (by omega), x8_copyFrom (by omega) (by omega)]
    exact ha
theorem bV_cp13 {k k2 : Nat} (hap : k + 71 ≤ k2 ∨ k2 + 71 ≤ k) : ∀ (n i : Nat) (I : Nat → Nat → Int32) (L : Nat → Nat → Int64), i + n = 4 → (∀ j, j < i → nV (k + 3 + 16 * j) I) → bV k2 I → bV k (i0_copyFrom_13 k k2 n i I L) := by
  intro n
  induction n with
  | zero =>
    intro i I L hi h1 h2
    simp only [i0_copyFrom_13]
    refine ⟨fun j hj => ?_, ?_⟩
    · have h3 := h1 j (by omega)
      refine nV.of1 ?_ ?_ ?_ h3 <;> rw [uI_off _ _ _ (by omega), va_up_ne _ _ (by omega), x1_copyFrom (by omega) (by omega) (by omega)]
    · obtain ⟨d, h8, hd⟩ := h2.2
      refine ⟨d, h8, ?_⟩
      rw [uI_off _ _ _ (by omega), va_up_ne _ _ (by omega)]
      unfold i1_copyFrom
      rw [uI_self]
      exact hd
  | succ n ih =>
    intro i I L hi h1 h2
    simp only [i0_copyFrom_13]
    refine ih _ _ _ (by omega) (fun j hj => ?_) ⟨fun j hj => ?_, ?_⟩
    · by_cases e : j = i
      · subst e
        exact nV_copy (by omega) (h2.1 j (by omega))
      · exact nV.of1 (x6_copyFrom (by omega) (by omega) (by omega) (by omega) (by omega) (by omega) (by omega) (by omega) (by omega) (by omega) (by omega) (by omega) (by omega) (by omega) (by omega) (by omega)) (x6_copyFrom (by omega) (by omega) (by omega) (by omega) (by omega) (by omega) (by omega) (by omega) (by omega) (by omega) (by omega) (by omega) (by omega) (by omega) (by omega) (by omega)) (x6_copyFrom (by omega) (by omega) (by omega) (by omega) (by omega) (by omega) (by omega) (by omega) (by omega) (by omega) (by omega) (by omega) (by omega) (by omega) (by omega) (by omega)) (h1 j (by omega))
    · exact nV.of1 (x6_copyFrom (by omega) (by omega) (by omega) (by omega) (by omega) (by omega) (by omega) (by omega) (by omega) (by omega) (by omega) (by omega) (by omega) (by omega) (by omega) (by omega)) (x6_copyFrom (by omega) (by omega) (by omega) (by omega) (by omega) (by omega) (by omega) (by omega) (by omega) (by omega) (by omega) (by omega) (by omega) (by omega) (by omega) (by omega)) (x6_copyFrom (by omega) (by omega) (by omega) (by omega) (by omega) (by omega) (by omega) (by omega) (by omega) (by omega) (by omega) (by omega) (by omega) (by omega) (by omega) (by omega)) (h2.1 j hj)
    · obtain ⟨d, h8, hd⟩ := h2.2
      exact ⟨d, h8, (congrFun (x6_copyFrom (by omega) (by omega) (by omega) (by omega) (by omega) (by omega) (by omega) (by omega) (by omega) (by omega) (by omega) (by omega) (by omega) (by omega) (by omega) (by omega)) _).trans hd⟩
theorem bV_copy {k k2 : Nat} {I : Nat → Nat → Int32} {L : Nat → Nat → Int64} (hap : k + 71 ≤ k2 ∨ k2 + 71 ≤ k) (h : bV k2 I) : bV k (i0_copyFrom k k2 I L) := by
  unfold i0_copyFrom
  refine bV_cp13 hap _ _ _ _ (by omega) (fun j hj => absurd hj (by omega)) ⟨fun j hj => nV.of1 (x4_copyFrom (by omega)) (x4_copyFrom (by omega)) (x4_copyFrom (by omega)) (h.1 j hj), ?_⟩
  obtain ⟨d, h8, hd⟩ := h.2
  exact ⟨d, h8, (congrFun (x4_copyFrom (by omega)) _).trans hd⟩
theorem idx2 {k c : Nat} {key : Int32} {I : Nat → Nat → Int32} {L : Nat → Nat → Int64} : ∀ n i, r3_indexOf_2 k c key n i I L = (-1) ∨ ∃ p, p < i + n ∧ r3_indexOf_2 k c key n i I L = nI p := by
  intro n
  induction n with
  | zero => intro i; exact Or.inl rfl
  | succ n ih =>
    intro i
    simp only [r3_indexOf_2]
    split
    · exact Or.inr ⟨i, by omega, rfl⟩
    · rcases ih (i + 1) with h | ⟨p, h1, h2⟩
      · exact Or.inl h
      · exact Or.inr ⟨p, by omega, h2⟩
theorem idx_p {k c s : Nat} {key : Int32} {I : Nat → Nat → Int32} {L : Nat → Nat → Int64} (hs : I k 3 = nI s) (h6 : s ≤ 6) (h : 0 ≤ r3_indexOf k c key I L) : ∃ p, p < s ∧ r3_indexOf k c key I L = nI p := by
  have e : (I k 3).toNatClampNeg = s := by rw [hs]; exact nI_clamp (by omega)
  unfold r3_indexOf at h ⊢
  rw [e] at h ⊢
  rcases idx2 (k := k) (c := c) (key := key) (I := I) (L := L) s 0 with q | ⟨p, h1, h2⟩
  · rw [q] at h; exact absurd h (by decide)
  · exact ⟨p, by omega, h2⟩
theorem sa_size {k s : Nat} {key : Int32} {I : Nat → Nat → Int32} {L : Nat → Nat → Int64} (hs : I k 3 = nI s) (h4 : s ≤ 4) (h : (0 ≤ r3_indexOf k 4 key I L) ∨ (¬ ((r3_isFull k 4 I L) = true))) : ∃ t, t < 4 ∧ (i3_removeAt k 4 (r3_indexOf k 4 key I L) I L) k 3 = nI t := by
  rcases h with h | h
  · obtain ⟨p, hp, e⟩ := idx_p hs (by omega) h
    rw [e]
    exact ⟨s - 1, by omega, rm_size hs hp (by omega)⟩
  · have h5 := nfull hs (by omega) (by omega) h
    obtain ⟨t, h1, h2⟩ := rm_size2 (c := 4) (x := r3_indexOf k 4 key I L) (L := L) hs (by omega)
    exact ⟨t, by omega, h2⟩
theorem midx2 {idn : Int32} {I : Nat → Nat → Int32} {L : Nat → Nat → Int64} : ∀ n i, r5_indexOf_2 idn n i I L = (-1) ∨ ∃ p, p < i + n ∧ r5_indexOf_2 idn n i I L = nI p := by
  intro n
  induction n with
  | zero => intro i; exact Or.inl rfl
  | succ n ih =>
    intro i
    simp only [r5_indexOf_2]
    split
    · exact Or.inr ⟨i, by omega, rfl⟩
    · rcases ih (i + 1) with h | ⟨p, h1, h2⟩
      · exact Or.inl h
      · exact Or.inr ⟨p, by omega, h2⟩
theorem midx {m : Nat} {idn : Int32} {I : Nat → Nat → Int32} {L : Nat → Nat → Int64} (hm : I 288 4 = nI m) (h8 : m ≤ 8) (h : 0 ≤ r5_indexOf idn I L) : ∃ p, p < m ∧ r5_indexOf idn I L = nI p := by
  have e : (I 288 4).toNatClampNeg = m := by rw [hm]; exact nI_clamp (by omega)
  unfold r5_indexOf at h ⊢
  rw [e] at h ⊢
  rcases midx2 (idn := idn) (I := I) (L := L) m 0 with q | ⟨p, h1, h2⟩
  · rw [q] at h; exact absurd h (by decide)
  · exact ⟨p, by omega, h2⟩
theorem lt92 {x : Int32} (h : ¬ ((x < 0) ∨ (¬ (x < 92)))) : ∃ j, j < 92 ∧ x = nI j := by
  have h1 : ¬ x < 0 := fun e => h (Or.inl e)
  obtain ⟨j, hj, rfl⟩ := nI_of h1
  refine ⟨j, ?_, rfl⟩
  have h2 : nI j < nI 92 := Classical.byContradiction fun e => h (Or.inr e)
  exact (nI_ltI hj (by omega)).mp h2
theorem okSi {i : Nat} (h : i < 2) : okB (144 + 71 * i) := by
  rcases (show i = 0 ∨ i = 1 by omega) with rfl | rfl
  · exact okB144
  · exact okB215
theorem rfS {i : Nat} (h : i < 2) : R0 143 i = some (144 + 71 * i) := by
  rcases (show i = 0 ∨ i = 1 by omega) with rfl | rfl
  · exact rf143_0
  · exact rf143_1

def r10_setAnswer (nd : Int32) (idn : Int32) (ln : Int32) (dt : Int32) (I : Nat → Nat → Int32) (L : Nat → Nat → Int64) : Int32 := (if (r10_isNode nd) = true then (if (r10_isFrame idn 0 ln dt) = true then (if (0 ≤ r3_indexOf ((4 + 16 * (nd.toNatClampNeg)) + 11) 4 (r10_keyOf idn 0) I L) ∨ (¬ ((r3_isFull ((4 + 16 * (nd.toNatClampNeg)) + 11) 4 I L) = true)) then (i3_insertAt ((4 + 16 * (nd.toNatClampNeg)) + 11) 4 (((i3_removeAt ((4 + 16 * (nd.toNatClampNeg)) + 11) 4 (r3_indexOf ((4 + 16 * (nd.toNatClampNeg)) + 11) 4 (r10_keyOf idn 0) I L) I L) ((4 + 16 * (nd.toNatClampNeg)) + 11) 3).toNatClampNeg) (r10_keyOf idn 0) ln dt (i3_removeAt ((4 + 16 * (nd.toNatClampNeg)) + 11) 4 (r3_indexOf ((4 + 16 * (nd.toNatClampNeg)) + 11) 4 (r10_keyOf idn 0) I L) I L) L) ((4 + 16 * (nd.toNatClampNeg)) + 11) 3 else (-3)) else (-2)) else (-1))
def i10_setAnswer (nd : Int32) (idn : Int32) (ln : Int32) (dt : Int32) (I : Nat → Nat → Int32) (L : Nat → Nat → Int64) : Nat → Nat → Int32 := (if (r10_isNode nd) = true then (if (r10_isFrame idn 0 ln dt) = true then (if (0 ≤ r3_indexOf ((4 + 16 * (nd.toNatClampNeg)) + 11) 4 (r10_keyOf idn 0) I L) ∨ (¬ ((r3_isFull ((4 + 16 * (nd.toNatClampNeg)) + 11) 4 I L) = true)) then i3_insertAt ((4 + 16 * (nd.toNatClampNeg)) + 11) 4 (((i3_removeAt ((4 + 16 * (nd.toNatClampNeg)) + 11) 4 (r3_indexOf ((4 + 16 * (nd.toNatClampNeg)) + 11) 4 (r10_keyOf idn 0) I L) I L) ((4 + 16 * (nd.toNatClampNeg)) + 11) 3).toNatClampNeg) (r10_keyOf idn 0) ln dt (i3_removeAt ((4 + 16 * (nd.toNatClampNeg)) + 11) 4 (r3_indexOf ((4 + 16 * (nd.toNatClampNeg)) + 11) 4 (r10_keyOf idn 0) I L) I L) L else I) else I) else I)
set_option maxRecDepth 4000 in
theorem v10_setAnswer (g : GlT)  (nd : Int32) (idn : Int32) (ln : Int32) (dt : Int32) (I : Nat → Nat → Int32) (L : Nat → Nat → Int64) (hv : bV 1 I) (Q : Option Value → MemT → Prop) (hq : Q (some (.int (r10_setAnswer nd idn ln dt I L))) (i10_setAnswer nd idn ln dt I L, L, R0, 305)) : V g (k10_setAnswer, 4, 0, 0) 0 0 0 [(0, .ref (xA g 0)), (1, .int nd), (2, .int idn), (3, .int ln), (4, .int dt)] [] (I, L, R0, 305) Q := by
  refine V_iload_n (pc1 := 1) 1 d10_setAnswer_0 rfl rfl ?_
  refine V_si (pc1 := 4) (w10_isNode g  nd  I L ) s10_isNode l10_68 rfl rfl ⟨Nat.le_of_ble_eq_true rfl, Nat.le_of_ble_eq_true rfl, Nat.le_refl _, Nat.le_refl _⟩ (Nat.le_of_ble_eq_true rfl) rfl d10_setAnswer_1 rfl ?_
  refine V_bne (tgt := 9) (pc1 := 7) d10_setAnswer_4 (by decide) rfl (fun h1 => ?_) (fun h1 => ?_)
  · skip
    obtain ⟨ni, hni, rfl⟩ := isNode_nat h1
    have hn3 : (nI ni).toNatClampNeg = ni := nI_clamp (by omega)
    obtain ⟨⟨gw, hw4, hw⟩, ⟨gr, hr6, hr⟩, ga, ha4, ha⟩ := hv.1 ni hni
    refine V_iload_n (pc1 := 10) 2 d10_setAnswer_9 rfl rfl ?_
    refine V_iconst (pc1 := 11) d10_setAnswer_10 vc_0 rfl ?_
    refine V_iload_n (pc1 := 12) 3 d10_setAnswer_11 rfl rfl ?_
    refine V_iload (pc1 := 14) 4 d10_setAnswer_12 rfl rfl ?_
    refine V_si (pc1 := 17) (w10_isFrame g  idn 0 ln dt  I L ) s10_isFrame l10_87 rfl rfl ⟨Nat.le_of_ble_eq_true rfl, Nat.le_of_ble_eq_true rfl, Nat.le_refl _, Nat.le_refl _⟩ (Nat.le_of_ble_eq_true rfl) rfl d10_setAnswer_14 rfl ?_
    refine V_bne (tgt := 23) (pc1 := 20) d10_setAnswer_17 (by decide) rfl (fun h2 => ?_) (fun h2 => ?_)
    · skip
      refine V_aload_n (pc1 := 24) 0 d10_setAnswer_23 rfl rfl ?_
      refine V_getr (pc1 := 27) ly0 (lt305 rfl) f10_10 (fun _ => rfl) rf0_0 d10_setAnswer_24 rfl ?_
      refine V_getr (pc1 := 30) ly1 (lt305 rfl) f10_75 (fun _ => rfl) rf1_1 d10_setAnswer_27 rfl ?_
      refine V_iload_n (pc1 := 31) 1 d10_setAnswer_30 rfl rfl ?_
      refine V_aald (pc1 := 32) ni ((4 + 16 * ni)) ly3 (Or.inr rfl) (lt305 rfl) rfl hni (rfi hni) d10_setAnswer_31 rfl ?_
      refine V_getr (pc1 := 35) (nd_l0 (okNi hni)) (nd_b0 (okNi hni)) f10_91 (fun _ => rfl) (nd_r0_4 (okNi hni)) d10_setAnswer_32 rfl ?_
      refine V_astore (pc1 := 37) d10_setAnswer_35 (Nat.le_of_ble_eq_true rfl) rfl rfl ?_
      refine V_iload_n (pc1 := 38) 3 d10_setAnswer_37 rfl rfl ?_
      refine V_iconst (pc1 := 39) d10_setAnswer_38 vc_0 rfl ?_
      refine V_si (pc1 := 42) (w10_keyOf g  idn 0  I L ) s10_keyOf l10_95 rfl rfl ⟨Nat.le_of_ble_eq_true rfl, Nat.le_of_ble_eq_true rfl, Nat.le_refl _, Nat.le_refl _⟩ (Nat.le_of_ble_eq_true rfl) rfl d10_setAnswer_39 rfl ?_
      refine V_istore (pc1 := 44) d10_setAnswer_42 (Nat.le_of_ble_eq_true rfl) rfl rfl ?_
      refine V_aload (pc1 := 46) 1 d10_setAnswer_44 rfl rfl ?_
      refine V_iload (pc1 := 48) 0 d10_setAnswer_46 rfl rfl ?_
      refine V_vi (pc1 := 51) (w3_indexOf g (nd_F11 (okNi hni)) (r10_keyOf idn 0) ga ha4 I L ha) (nd_l11 (okNi hni)) (nd_b11 (okNi hni)) s3_indexOf l10_99 rfl rfl ⟨Nat.le_of_ble_eq_true rfl, Nat.le_of_ble_eq_true rfl, Nat.le_refl _, Nat.le_refl _⟩ (Nat.le_of_ble_eq_true rfl) rfl d10_setAnswer_48 rfl ?_
      refine V_istore (pc1 := 53) d10_setAnswer_51 (Nat.le_of_ble_eq_true rfl) rfl rfl ?_
      refine V_iload (pc1 := 55) 0 d10_setAnswer_53 rfl rfl ?_
      have k4 : ((0 ≤ r3_indexOf ((4 + 16 * ni) + 11) 4 (r10_keyOf idn 0) I L) ∨ (¬ ((r3_isFull ((4 + 16 * ni) + 11) 4 I L) = true))) → V g (k10_setAnswer, 4, 0, 0) 0 0 69 [(7, .int (r3_indexOf ((4 + 16 * ni) + 11) 4 (r10_keyOf idn 0) I L)), (6, .int (r10_keyOf idn 0)), (5, .ref (xA g ((4 + 16 * ni) + 11))), (0, .ref (xA g 0)), (1, .int (nI ni)), (2, .int idn), (3, .int ln), (4, .int dt)] [] (I, L, R0, 305) Q := by
        intro h3
        refine V_aload (pc1 := 71) 2 d10_setAnswer_69 rfl rfl ?_
        refine V_iload (pc1 := 73) 0 d10_setAnswer_71 rfl rfl ?_
        refine V_vv (pc1 := 76) (w3_removeAt g (nd_F11 (okNi hni)) (r3_indexOf ((4 + 16 * ni) + 11) 4 (r10_keyOf idn 0) I L) ga ha4 I L ha) (nd_l11 (okNi hni)) (nd_b11 (okNi hni)) s3_removeAt l10_109 rfl rfl ⟨Nat.le_of_ble_eq_true rfl, Nat.le_of_ble_eq_true rfl, Nat.le_refl _, Nat.le_refl _⟩ (Nat.le_of_ble_eq_true rfl) rfl d10_setAnswer_73 rfl ?_
        obtain ⟨sz, hsz, hsz2⟩ := sa_size ha ha4 h3
        have hsz3 : ((i3_removeAt ((4 + 16 * ni) + 11) 4 (r3_indexOf ((4 + 16 * ni) + 11) 4 (r10_keyOf idn 0) I L) I L) ((4 + 16 * ni) + 11) 3).toNatClampNeg = sz := by rw [hsz2]; exact nI_clamp (by omega)
        refine V_aload (pc1 := 78) 2 d10_setAnswer_76 rfl rfl ?_
        refine V_aload (pc1 := 80) 2 d10_setAnswer_78 rfl rfl ?_
        refine V_geti (pc1 := 83) (nd_l11 (okNi hni)) (nd_b11 (okNi hni)) f10_113 (fun _ => rfl) hsz2 d10_setAnswer_80 rfl ?_
        refine V_iload (pc1 := 85) 1 d10_setAnswer_83 rfl rfl ?_
        refine V_iload_n (pc1 := 86) 6 d10_setAnswer_85 rfl rfl ?_
        refine V_iload (pc1 := 88) 7 d10_setAnswer_86 rfl rfl ?_
        refine V_vv (pc1 := 91) (w3_insertAt g (nd_F11 (okNi hni)) sz (r10_keyOf idn 0) ln dt sz hsz (Nat.le_refl _) (i3_removeAt ((4 + 16 * ni) + 11) 4 (r3_indexOf ((4 + 16 * ni) + 11) 4 (r10_keyOf idn 0) I L) I L) L hsz2) (nd_l11 (okNi hni)) (nd_b11 (okNi hni)) s3_insertAt l10_116 rfl rfl ⟨Nat.le_of_ble_eq_true rfl, Nat.le_of_ble_eq_true rfl, Nat.le_refl _, Nat.le_refl _⟩ (Nat.le_of_ble_eq_true rfl) rfl d10_setAnswer_88 rfl ?_
        refine V_aload (pc1 := 93) 2 d10_setAnswer_91 rfl rfl ?_
        refine V_geti (pc1 := 96) (nd_l11 (okNi hni)) (nd_b11 (okNi hni)) f10_113 (fun _ => rfl) rfl d10_setAnswer_93 rfl ?_
        refine V_iret rfl d10_setAnswer_96 (Nat.zero_le _) (Nat.zero_le _) ?_
        have hq2 := hq
        simp only [r10_setAnswer, i10_setAnswer, if_pos h1, hn3, if_pos h2, if_pos h3, hsz3] at hq2
        exact hq2
      have k5 : ¬ ((0 ≤ r3_indexOf ((4 + 16 * ni) + 11) 4 (r10_keyOf idn 0) I L) ∨ (¬ ((r3_isFull ((4 + 16 * ni) + 11) 4 I L) = true))) → V g (k10_setAnswer, 4, 0, 0) 0 0 66 [(7, .int (r3_indexOf ((4 + 16 * ni) + 11) 4 (r10_keyOf idn 0) I L)), (6, .int (r10_keyOf idn 0)), (5, .ref (xA g ((4 + 16 * ni) + 11))), (0, .ref (xA g 0)), (1, .int (nI ni)), (2, .int idn), (3, .int ln), (4, .int dt)] [] (I, L, R0, 305) Q := by
        intro h3
        refine V_bipush (pc1 := 68) d10_setAnswer_66 vb_m3 rfl ?_
        refine V_iret rfl d10_setAnswer_68 (Nat.zero_le _) (Nat.zero_le _) ?_
        have hq2 := hq
        simp only [r10_setAnswer, i10_setAnswer, if_pos h1, hn3, if_pos h2, if_neg h3] at hq2
        exact hq2
      refine V_if_ge (tgt := 69) (pc1 := 58) d10_setAnswer_55 (by decide) rfl (fun h6 => ?_) (fun h6 => ?_)
      · skip
        exact k4 (Or.inl h6)
      · skip
        refine V_aload (pc1 := 60) 2 d10_setAnswer_58 rfl rfl ?_
        refine V_vi (pc1 := 63) (w3_isFull g (nd_F11 (okNi hni))   I L ) (nd_l11 (okNi hni)) (nd_b11 (okNi hni)) s3_isFull l10_105 rfl rfl ⟨Nat.le_of_ble_eq_true rfl, Nat.le_of_ble_eq_true rfl, Nat.le_refl _, Nat.le_refl _⟩ (Nat.le_of_ble_eq_true rfl) rfl d10_setAnswer_60 rfl ?_
        refine V_beq (tgt := 69) (pc1 := 66) d10_setAnswer_63 (by decide) rfl (fun h7 => ?_) (fun h7 => ?_)
        · skip
          exact k4 (Or.inr h7)
        · skip
          exact k5 (fun z => z.elim h6 (fun z => z h7))
    · skip
      refine V_bipush (pc1 := 22) d10_setAnswer_20 vb_m2 rfl ?_
      refine V_iret rfl d10_setAnswer_22 (Nat.zero_le _) (Nat.zero_le _) ?_
      have hq2 := hq
      simp only [r10_setAnswer, i10_setAnswer, if_pos h1, hn3, if_neg h2] at hq2
      exact hq2
  · skip
    refine V_iconst (pc1 := 8) d10_setAnswer_7 vc_m1 rfl ?_
    refine V_iret rfl d10_setAnswer_8 (Nat.zero_le _) (Nat.zero_le _) ?_
    have hq2 := hq
    simp only [r10_setAnswer, i10_setAnswer, if_neg h1] at hq2
    exact hq2
theorem w10_setAnswer (g : GlT)  (nd : Int32) (idn : Int32) (ln : Int32) (dt : Int32) (I : Nat → Nat → Int32) (L : Nat → Nat → Int64) (hv : bV 1 I) : Call g (k10_setAnswer, 4, 0, 0) [.ref (xA g 0), .int nd, .int idn, .int ln, .int dt] (I, L, R0, 305) (Qi (r10_setAnswer nd idn ln dt I L) (i10_setAnswer nd idn ln dt I L) L) := Call.of (by decide) (Nat.le_of_ble_eq_true rfl) rfl (v10_setAnswer g  nd idn ln dt  I L hv _ (And.intro rfl rfl))


def r10_run_24 (x : Int32) : Nat → Nat → Nat → Int32 → (Nat → Nat → Int32) → (Nat → Nat → Int64) → Int32
  | 0, i, bn, z, I, L => (r0_countSent 1 I L) - z
  | n + 1, i, bn, z, I, L => r10_run_24 x n (i + 1) bn z (i0_passBit 1 I L) (m0_passBit 1 I L)
def i10_run_24 (x : Int32) : Nat → Nat → Nat → Int32 → (Nat → Nat → Int32) → (Nat → Nat → Int64) → (Nat → Nat → Int32)
  | 0, i, bn, z, I, L => I
  | n + 1, i, bn, z, I, L => i10_run_24 x n (i + 1) bn z (i0_passBit 1 I L) (m0_passBit 1 I L)
def m10_run_24 (x : Int32) : Nat → Nat → Nat → Int32 → (Nat → Nat → Int32) → (Nat → Nat → Int64) → (Nat → Nat → Int64)
  | 0, i, bn, z, I, L => L
  | n + 1, i, bn, z, I, L => m10_run_24 x n (i + 1) bn z (i0_passBit 1 I L) (m0_passBit 1 I L)
set_option maxRecDepth 4000 in
theorem t10_run_24 (g : GlT)  (x : Int32)  : ∀ (n i bn : Nat) (z : Int32) (I : Nat → Nat → Int32) (L : Nat → Nat → Int64), (hv : bV 1 I) → (hn : i + n = bn) → (hbn : bn ≤ 200) → ∀ (Q : Option Value → MemT → Prop), Q (some (.int (r10_run_24 x n i bn z I L))) (i10_run_24 x n i bn z I L, m10_run_24 x n i bn z I L, R0, 305) → V g (k10_run, 7, 0, 0) 0 0 24 [(0, .ref (xA g 0)), (1, .int (nI bn)), (2, .int z), (3, .int (nI i))] [] (I, L, R0, 305) Q := by
  intro n
  induction n with
  | zero =>
    intro i bn z I L hv hn hbn Q hq
    refine V_iload_n (pc1 := 25) 3 d10_run_24 rfl rfl ?_
    refine V_iload_n (pc1 := 26) 1 d10_run_25 rfl rfl ?_
    refine V_icmp_ge (tgt := 42) (pc1 := 29) d10_run_26 (by decide) rfl (fun _ => ?_) (fun h1 => absurd (nI_le (by omega) (by omega)) h1)
    refine V_aload_n (pc1 := 43) 0 d10_run_42 rfl rfl ?_
    refine V_getr (pc1 := 46) ly0 (lt305 rfl) f10_10 (fun _ => rfl) rf0_0 d10_run_43 rfl ?_
    refine V_vi (pc1 := 49) (w0_countSent g okB1   I L ) ly1 (lt305 rfl) s0_countSent l10_153 rfl rfl ⟨Nat.le_of_ble_eq_true rfl, Nat.le_of_ble_eq_true rfl, Nat.le_refl _, Nat.le_refl _⟩ (Nat.le_of_ble_eq_true rfl) rfl d10_run_46 rfl ?_
    refine V_iload_n (pc1 := 50) 2 d10_run_49 rfl rfl ?_
    refine V_isub (pc1 := 51) d10_run_50 rfl ?_
    refine V_iret rfl d10_run_51 (Nat.zero_le _) (Nat.zero_le _) ?_
    have hq2 := hq
    simp only [r10_run_24, i10_run_24, m10_run_24] at hq2
    exact hq2
  | succ n ih =>
    intro i bn z I L hv hn hbn Q hq
    refine V_iload_n (pc1 := 25) 3 d10_run_24 rfl rfl ?_
    refine V_iload_n (pc1 := 26) 1 d10_run_25 rfl rfl ?_
    refine V_icmp_ge (tgt := 42) (pc1 := 29) d10_run_26 (by decide) rfl (fun h1 => absurd h1 (nI_ge (by omega) (by omega))) (fun _ => ?_)
    refine V_aload_n (pc1 := 30) 0 d10_run_29 rfl rfl ?_
    refine V_getr (pc1 := 33) ly0 (lt305 rfl) f10_10 (fun _ => rfl) rf0_0 d10_run_30 rfl ?_
    refine V_vv (pc1 := 36) (w0_passBit g okB1   I L hv) ly1 (lt305 rfl) s0_passBit l10_156 rfl rfl ⟨Nat.le_of_ble_eq_true rfl, Nat.le_of_ble_eq_true rfl, Nat.le_refl _, Nat.le_refl _⟩ (Nat.le_of_ble_eq_true rfl) rfl d10_run_33 rfl ?_
    refine V_iinc (pc1 := 39) 3 (v := nI (i + 1)) d10_run_36 rfl (nI_1 _) (Nat.le_of_ble_eq_true rfl) rfl rfl ?_
    refine V_goto (tgt := 24) d10_run_39 (by decide) ?_
    refine V_lv (lv1 := [(0, .ref (xA g 0)), (1, .int (nI bn)), (2, .int z), (3, .int (nI (i + 1)))]) (lvsub_p [1, 2, 3, 0] rfl) ?_
    have hq2 := hq
    simp only [r10_run_24, i10_run_24, m10_run_24] at hq2
    exact ih (i + 1) bn z (i0_passBit 1 I L) (m0_passBit 1 I L) (bV_pass hv) (by omega) hbn Q hq2
def r10_run (x : Int32) (I : Nat → Nat → Int32) (L : Nat → Nat → Int64) : Int32 := (if (r10_isWithin x 1 200) = true then r10_run_24 x (x.toNatClampNeg) 0 (x.toNatClampNeg) (r0_countSent 1 I L) I L else (-2))
def i10_run (x : Int32) (I : Nat → Nat → Int32) (L : Nat → Nat → Int64) : Nat → Nat → Int32 := (if (r10_isWithin x 1 200) = true then i10_run_24 x (x.toNatClampNeg) 0 (x.toNatClampNeg) (r0_countSent 1 I L) I L else I)
def m10_run (x : Int32) (I : Nat → Nat → Int32) (L : Nat → Nat → Int64) : Nat → Nat → Int64 := (if (r10_isWithin x 1 200) = true then m10_run_24 x (x.toNatClampNeg) 0 (x.toNatClampNeg) (r0_countSent 1 I L) I L else L)
set_option maxRecDepth 4000 in
theorem v10_run (g : GlT)  (x : Int32) (I : Nat → Nat → Int32) (L : Nat → Nat → Int64) (hv : bV 1 I) (Q : Option Value → MemT → Prop) (hq : Q (some (.int (r10_run x I L))) (i10_run x I L, m10_run x I L, R0, 305)) : V g (k10_run, 7, 0, 0) 0 0 0 [(0, .ref (xA g 0)), (1, .int x)] [] (I, L, R0, 305) Q := by
  refine V_iload_n (pc1 := 1) 1 d10_run_0 rfl rfl ?_
  refine V_iconst (pc1 := 2) d10_run_1 vc_1 rfl ?_
  refine V_sipush (pc1 := 5) d10_run_2 vs_200 rfl ?_
  refine V_si (pc1 := 8) (w10_isWithin g  x 1 200  I L ) s10_isWithin l10_48 rfl rfl ⟨Nat.le_of_ble_eq_true rfl, Nat.le_of_ble_eq_true rfl, Nat.le_refl _, Nat.le_refl _⟩ (Nat.le_of_ble_eq_true rfl) rfl d10_run_5 rfl ?_
  refine V_bne (tgt := 14) (pc1 := 11) d10_run_8 (by decide) rfl (fun h1 => ?_) (fun h1 => ?_)
  · skip
    obtain ⟨bn, hbn, hbna, rfl⟩ := within_nat (a := 1) (b := 200) (by omega) (by omega) h1
    have hbn3 : (nI bn).toNatClampNeg = bn := nI_clamp (by omega)
    refine V_aload_n (pc1 := 15) 0 d10_run_14 rfl rfl ?_
    refine V_getr (pc1 := 18) ly0 (lt305 rfl) f10_10 (fun _ => rfl) rf0_0 d10_run_15 rfl ?_
    refine V_vi (pc1 := 21) (w0_countSent g okB1   I L ) ly1 (lt305 rfl) s0_countSent l10_153 rfl rfl ⟨Nat.le_of_ble_eq_true rfl, Nat.le_of_ble_eq_true rfl, Nat.le_refl _, Nat.le_refl _⟩ (Nat.le_of_ble_eq_true rfl) rfl d10_run_18 rfl ?_
    refine V_istore_n (pc1 := 22) d10_run_21 (Nat.le_of_ble_eq_true rfl) rfl rfl ?_
    refine V_iconst (pc1 := 23) d10_run_22 vc_0 rfl ?_
    refine V_istore_n (pc1 := 24) d10_run_23 (Nat.le_of_ble_eq_true rfl) rfl rfl ?_
    refine V_lv (lv1 := [(0, .ref (xA g 0)), (1, .int (nI bn)), (2, .int (r0_countSent 1 I L)), (3, .int (nI 0))]) (lvsub_p [2, 3, 1, 0] rfl) ?_
    have hq2 := hq
    simp only [r10_run, i10_run, m10_run, if_pos h1, hbn3] at hq2
    exact t10_run_24 g  _  bn 0 bn (r0_countSent 1 I L) I L hv (by omega) hbn Q hq2
  · skip
    refine V_bipush (pc1 := 13) d10_run_11 vb_m2 rfl ?_
    refine V_iret rfl d10_run_13 (Nat.zero_le _) (Nat.zero_le _) ?_
    have hq2 := hq
    simp only [r10_run, i10_run, m10_run, if_neg h1] at hq2
    exact hq2
theorem w10_run (g : GlT)  (x : Int32) (I : Nat → Nat → Int32) (L : Nat → Nat → Int64) (hv : bV 1 I) : Call g (k10_run, 7, 0, 0) [.ref (xA g 0), .int x] (I, L, R0, 305) (Qi (r10_run x I L) (i10_run x I L) (m10_run x I L)) := Call.of (by decide) (Nat.le_of_ble_eq_true rfl) rfl (v10_run g  x  I L hv _ (And.intro rfl rfl))


def r10_settle_2 : Nat → Nat → (Nat → Nat → Int32) → (Nat → Nat → Int64) → Int32
  | 0, i, I, L => (if (r0_isSettled 1 I L) = true then 1000 else (-5))
  | n + 1, i, I, L => (if (r0_isSettled 1 I L) = true then nI i else r10_settle_2  n (i + 1) (i0_passBit 1 I L) (m0_passBit 1 I L))
def i10_settle_2 : Nat → Nat → (Nat → Nat → Int32) → (Nat → Nat → Int64) → (Nat → Nat → Int32)
  | 0, i, I, L => I
  | n + 1, i, I, L => (if (r0_isSettled 1 I L) = true then I else i10_settle_2  n (i + 1) (i0_passBit 1 I L) (m0_passBit 1 I L))
def m10_settle_2 : Nat → Nat → (Nat → Nat → Int32) → (Nat → Nat → Int64) → (Nat → Nat → Int64)
  | 0, i, I, L => L
  | n + 1, i, I, L => (if (r0_isSettled 1 I L) = true then L else m10_settle_2  n (i + 1) (i0_passBit 1 I L) (m0_passBit 1 I L))
set_option maxRecDepth 4000 in
theorem t10_settle_2 (g : GlT)   : ∀ (n i : Nat) (I : Nat → Nat → Int32) (L : Nat → Nat → Int64), (hv : bV 1 I) → (hn : i + n = 1000) → ∀ (Q : Option Value → MemT → Prop), Q (some (.int (r10_settle_2 n i I L))) (i10_settle_2 n i I L, m10_settle_2 n i I L, R0, 305) → V g (k10_settle, 7, 0, 0) 0 0 2 [(0, .ref (xA g 0)), (1, .int (nI i))] [] (I, L, R0, 305) Q := by
  intro n
  induction n with
  | zero =>
    intro i I L hv hn Q hq
    refine V_iload_n (pc1 := 3) 1 d10_settle_2 rfl rfl ?_
    refine V_sipush (pc1 := 6) d10_settle_3 vs_1000 rfl ?_
    refine V_icmp_ge (tgt := 34) (pc1 := 9) d10_settle_6 (by decide) rfl (fun _ => ?_) (fun h1 => absurd (by rw [show i = 1000 by omega]; decide) h1)
    refine V_aload_n (pc1 := 35) 0 d10_settle_34 rfl rfl ?_
    refine V_getr (pc1 := 38) ly0 (lt305 rfl) f10_10 (fun _ => rfl) rf0_0 d10_settle_35 rfl ?_
    refine V_vi (pc1 := 41) (w0_isSettled g okB1   I L ) ly1 (lt305 rfl) s0_isSettled l10_159 rfl rfl ⟨Nat.le_of_ble_eq_true rfl, Nat.le_of_ble_eq_true rfl, Nat.le_refl _, Nat.le_refl _⟩ (Nat.le_of_ble_eq_true rfl) rfl d10_settle_38 rfl ?_
    have key3 : ∀ (y52_0 : Int32), y52_0 = (if (r0_isSettled 1 I L) = true then 1000 else (-5)) → ∀ (lv : List (Nat × Value)), lvsub [(0, .ref (xA g 0)), (1, .int (nI i))] lv → V g (k10_settle, 7, 0, 0) 0 0 52 lv [.int y52_0] (I, L, R0, 305) Q := by
      intro y52_0 ey52_0
      subst ey52_0
      intro lv hlv
      refine V_lv hlv ?_
      refine V_iret rfl d10_settle_52 (Nat.zero_le _) (Nat.zero_le _) ?_
      have hq2 := hq
      simp only [r10_settle_2, i10_settle_2, m10_settle_2] at hq2
      exact hq2
    refine V_beq (tgt := 50) (pc1 := 44) d10_settle_41 (by decide) rfl (fun h2 => ?_) (fun h2 => ?_)
    · skip
      refine V_bipush (pc1 := 52) d10_settle_50 vb_m5 rfl ?_
      exact key3 _ (by first | rfl | (simp only [if_neg h2]; done) | (simp only [if_neg h2]; rfl)) _ (lvsub_p [0, 1] rfl)
    · skip
      refine V_sipush (pc1 := 47) d10_settle_44 vs_1000 rfl ?_
      refine V_goto (tgt := 52) d10_settle_47 (by decide) ?_
      exact key3 _ (by first | rfl | (simp only [if_pos h2]; done) | (simp only [if_pos h2]; rfl)) _ (lvsub_p [0, 1] rfl)
  | succ n ih =>
    intro i I L hv hn Q hq
    refine V_iload_n (pc1 := 3) 1 d10_settle_2 rfl rfl ?_
    refine V_sipush (pc1 := 6) d10_settle_3 vs_1000 rfl ?_
    refine V_icmp_ge (tgt := 34) (pc1 := 9) d10_settle_6 (by decide) rfl (fun h1 => absurd h1 (nI_ge (b := 1000) (by omega) (by omega))) (fun _ => ?_)
    refine V_aload_n (pc1 := 10) 0 d10_settle_9 rfl rfl ?_
    refine V_getr (pc1 := 13) ly0 (lt305 rfl) f10_10 (fun _ => rfl) rf0_0 d10_settle_10 rfl ?_
    refine V_vi (pc1 := 16) (w0_isSettled g okB1   I L ) ly1 (lt305 rfl) s0_isSettled l10_159 rfl rfl ⟨Nat.le_of_ble_eq_true rfl, Nat.le_of_ble_eq_true rfl, Nat.le_refl _, Nat.le_refl _⟩ (Nat.le_of_ble_eq_true rfl) rfl d10_settle_13 rfl ?_
    refine V_beq (tgt := 21) (pc1 := 19) d10_settle_16 (by decide) rfl (fun h2 => ?_) (fun h2 => ?_)
    · skip
      refine V_aload_n (pc1 := 22) 0 d10_settle_21 rfl rfl ?_
      refine V_getr (pc1 := 25) ly0 (lt305 rfl) f10_10 (fun _ => rfl) rf0_0 d10_settle_22 rfl ?_
      refine V_vv (pc1 := 28) (w0_passBit g okB1   I L hv) ly1 (lt305 rfl) s0_passBit l10_156 rfl rfl ⟨Nat.le_of_ble_eq_true rfl, Nat.le_of_ble_eq_true rfl, Nat.le_refl _, Nat.le_refl _⟩ (Nat.le_of_ble_eq_true rfl) rfl d10_settle_25 rfl ?_
      refine V_iinc (pc1 := 31) 1 (v := nI (i + 1)) d10_settle_28 rfl (nI_1 _) (Nat.le_of_ble_eq_true rfl) rfl rfl ?_
      refine V_goto (tgt := 2) d10_settle_31 (by decide) ?_
      refine V_lv (lv1 := [(0, .ref (xA g 0)), (1, .int (nI (i + 1)))]) (lvsub_p [1, 0] rfl) ?_
      have hq2 := hq
      simp only [r10_settle_2, i10_settle_2, m10_settle_2, if_neg h2] at hq2
      exact ih (i + 1) (i0_passBit 1 I L) (m0_passBit 1 I L) (bV_pass hv) (by omega) Q hq2
    · skip
      refine V_iload_n (pc1 := 20) 1 d10_settle_19 rfl rfl ?_
      refine V_iret rfl d10_settle_20 (Nat.zero_le _) (Nat.zero_le _) ?_
      have hq2 := hq
      simp only [r10_settle_2, i10_settle_2, m10_settle_2, if_pos h2] at hq2
      exact hq2
def r10_settle (I : Nat → Nat → Int32) (L : Nat → Nat → Int64) : Int32 := r10_settle_2  1000 0 I L
def i10_settle (I : Nat → Nat → Int32) (L : Nat → Nat → Int64) : Nat → Nat → Int32 := i10_settle_2  1000 0 I L
def m10_settle (I : Nat → Nat → Int32) (L : Nat → Nat → Int64) : Nat → Nat → Int64 := m10_settle_2  1000 0 I L
set_option maxRecDepth 4000 in
theorem v10_settle (g : GlT)  (I : Nat → Nat → Int32) (L : Nat → Nat → Int64) (hv : bV 1 I) (Q : Option Value → MemT → Prop) (hq : Q (some (.int (r10_settle I L))) (i10_settle I L, m10_settle I L, R0, 305)) : V g (k10_settle, 7, 0, 0) 0 0 0 [(0, .ref (xA g 0))] [] (I, L, R0, 305) Q := by
  refine V_iconst (pc1 := 1) d10_settle_0 vc_0 rfl ?_
  refine V_istore_n (pc1 := 2) d10_settle_1 (Nat.le_of_ble_eq_true rfl) rfl rfl ?_
  refine V_lv (lv1 := [(0, .ref (xA g 0)), (1, .int (nI 0))]) (lvsub_p [1, 0] rfl) ?_
  have hq2 := hq
  simp only [r10_settle, i10_settle, m10_settle] at hq2
  exact t10_settle_2 g    1000 0 I L hv rfl Q hq2
theorem w10_settle (g : GlT)  (I : Nat → Nat → Int32) (L : Nat → Nat → Int64) (hv : bV 1 I) : Call g (k10_settle, 7, 0, 0) [.ref (xA g 0)] (I, L, R0, 305) (Qi (r10_settle I L) (i10_settle I L) (m10_settle I L)) := Call.of (by decide) (Nat.le_of_ble_eq_true rfl) rfl (v10_settle g    I L hv _ (And.intro rfl rfl))


def r10_bitsUntilSent_41 (nd : Int32) : Nat → Nat → Nat → Int32 → (Nat → Nat → Int32) → (Nat → Nat → Int64) → Int32
  | 0, i, ni, z, I, L => (-5)
  | n + 1, i, ni, z, I, L => (if (i0_passBit 72 I L) ((75 + 16 * ni) + 1) 4 = z then r10_bitsUntilSent_41 nd n (i + 1) ni z (i0_passBit 72 I L) (m0_passBit 72 I L) else nI i)
def i10_bitsUntilSent_41 (nd : Int32) : Nat → Nat → Nat → Int32 → (Nat → Nat → Int32) → (Nat → Nat → Int64) → (Nat → Nat → Int32)
  | 0, i, ni, z, I, L => I
  | n + 1, i, ni, z, I, L => (if (i0_passBit 72 I L) ((75 + 16 * ni) + 1) 4 = z then i10_bitsUntilSent_41 nd n (i + 1) ni z (i0_passBit 72 I L) (m0_passBit 72 I L) else i0_passBit 72 I L)
def m10_bitsUntilSent_41 (nd : Int32) : Nat → Nat → Nat → Int32 → (Nat → Nat → Int32) → (Nat → Nat → Int64) → (Nat → Nat → Int64)
  | 0, i, ni, z, I, L => L
  | n + 1, i, ni, z, I, L => (if (i0_passBit 72 I L) ((75 + 16 * ni) + 1) 4 = z then m10_bitsUntilSent_41 nd n (i + 1) ni z (i0_passBit 72 I L) (m0_passBit 72 I L) else m0_passBit 72 I L)
set_option maxRecDepth 4000 in
theorem t10_bitsUntilSent_41 (g : GlT)  (nd : Int32)  : ∀ (n i ni : Nat) (z : Int32) (I : Nat → Nat → Int32) (L : Nat → Nat → Int64), (hni : ni < 4) → (hv : bV 72 I) → (hn : i + n = 1001) → ∀ (Q : Option Value → MemT → Prop), Q (some (.int (r10_bitsUntilSent_41 nd n i ni z I L))) (i10_bitsUntilSent_41 nd n i ni z I L, m10_bitsUntilSent_41 nd n i ni z I L, R0, 305) → V g (k10_bitsUntilSent, 7, 0, 0) 0 0 41 [(0, .ref (xA g 0)), (2, .ref (xA g ((75 + 16 * ni) + 1))), (3, .int z), (4, .int (nI i))] [] (I, L, R0, 305) Q := by
  intro n
  induction n with
  | zero =>
    intro i ni z I L hni hv hn Q hq
    refine V_iload (pc1 := 43) 3 d10_bitsUntilSent_41 rfl rfl ?_
    refine V_sipush (pc1 := 46) d10_bitsUntilSent_43 vs_1000 rfl ?_
    refine V_icmp_gt (tgt := 73) (pc1 := 49) d10_bitsUntilSent_46 (by decide) rfl (fun _ => ?_) (fun h1 => absurd (by rw [show i = 1001 by omega]; decide) h1)
    refine V_bipush (pc1 := 75) d10_bitsUntilSent_73 vb_m5 rfl ?_
    refine V_iret rfl d10_bitsUntilSent_75 (Nat.zero_le _) (Nat.zero_le _) ?_
    have hq2 := hq
    simp only [r10_bitsUntilSent_41, i10_bitsUntilSent_41, m10_bitsUntilSent_41] at hq2
    exact hq2
  | succ n ih =>
    intro i ni z I L hni hv hn Q hq
    refine V_iload (pc1 := 43) 3 d10_bitsUntilSent_41 rfl rfl ?_
    refine V_sipush (pc1 := 46) d10_bitsUntilSent_43 vs_1000 rfl ?_
    refine V_icmp_gt (tgt := 73) (pc1 := 49) d10_bitsUntilSent_46 (by decide) rfl (fun h1 => absurd h1 (by exact nI_nlt (a := 1000) (by omega) (by omega))) (fun _ => ?_)
    refine V_aload_n (pc1 := 50) 0 d10_bitsUntilSent_49 rfl rfl ?_
    refine V_getr (pc1 := 53) ly0 (lt305 rfl) f10_16 (fun _ => rfl) rf0_1 d10_bitsUntilSent_50 rfl ?_
    refine V_vv (pc1 := 56) (w0_passBit g okB72   I L hv) ly72 (lt305 rfl) s0_passBit l10_156 rfl rfl ⟨Nat.le_of_ble_eq_true rfl, Nat.le_of_ble_eq_true rfl, Nat.le_refl _, Nat.le_refl _⟩ (Nat.le_of_ble_eq_true rfl) rfl d10_bitsUntilSent_53 rfl ?_
    refine V_aload_n (pc1 := 57) 1 d10_bitsUntilSent_56 rfl rfl ?_
    refine V_geti (pc1 := 60) (nd_l1 (okFi hni)) (nd_b1 (okFi hni)) f10_198 (fun _ => rfl) rfl d10_bitsUntilSent_57 rfl ?_
    refine V_iload_n (pc1 := 61) 2 d10_bitsUntilSent_60 rfl rfl ?_
    refine V_icmp_eq (tgt := 67) (pc1 := 64) d10_bitsUntilSent_61 (by decide) rfl (fun h2 => ?_) (fun h2 => ?_)
    · skip
      refine V_iinc (pc1 := 70) 3 (v := nI (i + 1)) d10_bitsUntilSent_67 rfl (nI_1 _) (Nat.le_of_ble_eq_true rfl) rfl rfl ?_
      refine V_goto (tgt := 41) d10_bitsUntilSent_70 (by decide) ?_
      refine V_lv (lv1 := [(0, .ref (xA g 0)), (2, .ref (xA g ((75 + 16 * ni) + 1))), (3, .int z), (4, .int (nI (i + 1)))]) (lvsub_p [1, 2, 3, 0] rfl) ?_
      have hq2 := hq
      simp only [r10_bitsUntilSent_41, i10_bitsUntilSent_41, m10_bitsUntilSent_41, if_pos h2] at hq2
      exact ih (i + 1) ni z (i0_passBit 72 I L) (m0_passBit 72 I L) hni (bV_pass hv) (by omega) Q hq2
    · skip
      refine V_iload (pc1 := 66) 3 d10_bitsUntilSent_64 rfl rfl ?_
      refine V_iret rfl d10_bitsUntilSent_66 (Nat.zero_le _) (Nat.zero_le _) ?_
      have hq2 := hq
      simp only [r10_bitsUntilSent_41, i10_bitsUntilSent_41, m10_bitsUntilSent_41, if_neg h2] at hq2
      exact hq2
def r10_bitsUntilSent (nd : Int32) (I : Nat → Nat → Int32) (L : Nat → Nat → Int64) : Int32 := (if (r10_isNode nd) = true then r10_bitsUntilSent_41 nd 1000 1 (nd.toNatClampNeg) ((i0_copyFrom 72 1 I L) ((75 + 16 * (nd.toNatClampNeg)) + 1) 4) (i0_copyFrom 72 1 I L) (m0_copyFrom 72 1 I L) else (-1))
def i10_bitsUntilSent (nd : Int32) (I : Nat → Nat → Int32) (L : Nat → Nat → Int64) : Nat → Nat → Int32 := (if (r10_isNode nd) = true then i10_bitsUntilSent_41 nd 1000 1 (nd.toNatClampNeg) ((i0_copyFrom 72 1 I L) ((75 + 16 * (nd.toNatClampNeg)) + 1) 4) (i0_copyFrom 72 1 I L) (m0_copyFrom 72 1 I L) else I)
def m10_bitsUntilSent (nd : Int32) (I : Nat → Nat → Int32) (L : Nat → Nat → Int64) : Nat → Nat → Int64 := (if (r10_isNode nd) = true then m10_bitsUntilSent_41 nd 1000 1 (nd.toNatClampNeg) ((i0_copyFrom 72 1 I L) ((75 + 16 * (nd.toNatClampNeg)) + 1) 4) (i0_copyFrom 72 1 I L) (m0_copyFrom 72 1 I L) else L)
set_option maxRecDepth 4000 in
theorem v10_bitsUntilSent (g : GlT)  (nd : Int32) (I : Nat → Nat → Int32) (L : Nat → Nat → Int64) (hv : bV 1 I) (hb : ∀ i, i < 4 → nB (1 + 3 + 16 * i) I) (Q : Option Value → MemT → Prop) (hq : Q (some (.int (r10_bitsUntilSent nd I L))) (i10_bitsUntilSent nd I L, m10_bitsUntilSent nd I L, R0, 305)) : V g (k10_bitsUntilSent, 7, 0, 0) 0 0 0 [(0, .ref (xA g 0)), (1, .int nd)] [] (I, L, R0, 305) Q := by
  refine V_iload_n (pc1 := 1) 1 d10_bitsUntilSent_0 rfl rfl ?_
  refine V_si (pc1 := 4) (w10_isNode g  nd  I L ) s10_isNode l10_68 rfl rfl ⟨Nat.le_of_ble_eq_true rfl, Nat.le_of_ble_eq_true rfl, Nat.le_refl _, Nat.le_refl _⟩ (Nat.le_of_ble_eq_true rfl) rfl d10_bitsUntilSent_1 rfl ?_
  refine V_bne (tgt := 9) (pc1 := 7) d10_bitsUntilSent_4 (by decide) rfl (fun h1 => ?_) (fun h1 => ?_)
  · skip
    obtain ⟨ni, hni, rfl⟩ := isNode_nat h1
    have hn3 : (nI ni).toNatClampNeg = ni := nI_clamp (by omega)
    refine V_aload_n (pc1 := 10) 0 d10_bitsUntilSent_9 rfl rfl ?_
    refine V_getr (pc1 := 13) ly0 (lt305 rfl) f10_16 (fun _ => rfl) rf0_1 d10_bitsUntilSent_10 rfl ?_
    refine V_aload_n (pc1 := 14) 0 d10_bitsUntilSent_13 rfl rfl ?_
    refine V_getr (pc1 := 17) ly0 (lt305 rfl) f10_10 (fun _ => rfl) rf0_0 d10_bitsUntilSent_14 rfl ?_
    refine V_vv (pc1 := 20) (w0_copyFrom g okB72 okB1  (by omega) I L hv hb) ly72 (lt305 rfl) s0_copyFrom l10_222 rfl rfl ⟨Nat.le_of_ble_eq_true rfl, Nat.le_of_ble_eq_true rfl, Nat.le_refl _, Nat.le_refl _⟩ (Nat.le_of_ble_eq_true rfl) rfl d10_bitsUntilSent_17 rfl ?_
    refine V_aload_n (pc1 := 21) 0 d10_bitsUntilSent_20 rfl rfl ?_
    refine V_getr (pc1 := 24) ly0 (lt305 rfl) f10_16 (fun _ => rfl) rf0_1 d10_bitsUntilSent_21 rfl ?_
    refine V_getr (pc1 := 27) ly72 (lt305 rfl) f10_75 (fun _ => rfl) rf72_1 d10_bitsUntilSent_24 rfl ?_
    refine V_iload_n (pc1 := 28) 1 d10_bitsUntilSent_27 rfl rfl ?_
    refine V_aald (pc1 := 29) ni ((75 + 16 * ni)) ly74 (Or.inr rfl) (lt305 rfl) rfl hni (rf74 hni) d10_bitsUntilSent_28 rfl ?_
    refine V_getr (pc1 := 32) (nd_l0 (okFi hni)) (nd_b0 (okFi hni)) f10_179 (fun _ => rfl) (nd_r0_1 (okFi hni)) d10_bitsUntilSent_29 rfl ?_
    refine V_astore_n (pc1 := 33) d10_bitsUntilSent_32 (Nat.le_of_ble_eq_true rfl) rfl rfl ?_
    refine V_aload_n (pc1 := 34) 0 d10_bitsUntilSent_33 rfl rfl ?_
    refine V_geti (pc1 := 37) (nd_l1 (okFi hni)) (nd_b1 (okFi hni)) f10_198 (fun _ => rfl) rfl d10_bitsUntilSent_34 rfl ?_
    refine V_istore_n (pc1 := 38) d10_bitsUntilSent_37 (Nat.le_of_ble_eq_true rfl) rfl rfl ?_
    refine V_iconst (pc1 := 39) d10_bitsUntilSent_38 vc_1 rfl ?_
    refine V_istore (pc1 := 41) d10_bitsUntilSent_39 (Nat.le_of_ble_eq_true rfl) rfl rfl ?_
    refine V_lv (lv1 := [(0, .ref (xA g 0)), (2, .ref (xA g ((75 + 16 * ni) + 1))), (3, .int ((i0_copyFrom 72 1 I L) ((75 + 16 * ni) + 1) 4)), (4, .int (nI 1))]) (lvsub_p [3, 2, 1, 0] rfl) ?_
    have hq2 := hq
    simp only [r10_bitsUntilSent, i10_bitsUntilSent, m10_bitsUntilSent, if_pos h1, hn3] at hq2
    exact t10_bitsUntilSent_41 g  _  1000 1 ni ((i0_copyFrom 72 1 I L) ((75 + 16 * ni) + 1) 4) (i0_copyFrom 72 1 I L) (m0_copyFrom 72 1 I L) hni (bV_copy (by omega) hv) rfl Q hq2
  · skip
    refine V_iconst (pc1 := 8) d10_bitsUntilSent_7 vc_m1 rfl ?_
    refine V_iret rfl d10_bitsUntilSent_8 (Nat.zero_le _) (Nat.zero_le _) ?_
    have hq2 := hq
    simp only [r10_bitsUntilSent, i10_bitsUntilSent, m10_bitsUntilSent, if_neg h1] at hq2
    exact hq2
theorem w10_bitsUntilSent (g : GlT)  (nd : Int32) (I : Nat → Nat → Int32) (L : Nat → Nat → Int64) (hv : bV 1 I) (hb : ∀ i, i < 4 → nB (1 + 3 + 16 * i) I) : Call g (k10_bitsUntilSent, 7, 0, 0) [.ref (xA g 0), .int nd] (I, L, R0, 305) (Qi (r10_bitsUntilSent nd I L) (i10_bitsUntilSent nd I L) (m10_bitsUntilSent nd I L)) := Call.of (by decide) (Nat.le_of_ble_eq_true rfl) rfl (v10_bitsUntilSent g  nd  I L hv hb _ (And.intro rfl rfl))


def r10_addMessage (idn : Int32) (ln : Int32) (pd : Int32) (jt : Int32) (I : Nat → Nat → Int32) (L : Nat → Nat → Int64) : Int32 := (if (¬ ((r10_isIdentifier idn) = true)) ∨ ((¬ ((r10_isLength ln) = true)) ∨ ((¬ ((r10_isWithin pd 1 5000) = true)) ∨ (¬ ((r10_isWithin jt 0 500) = true)))) then (-2) else (if (r5_put idn ln pd jt I L) = true then (i5_put idn ln pd jt I L) 288 4 else (-3)))
def i10_addMessage (idn : Int32) (ln : Int32) (pd : Int32) (jt : Int32) (I : Nat → Nat → Int32) (L : Nat → Nat → Int64) : Nat → Nat → Int32 := (if (¬ ((r10_isIdentifier idn) = true)) ∨ ((¬ ((r10_isLength ln) = true)) ∨ ((¬ ((r10_isWithin pd 1 5000) = true)) ∨ (¬ ((r10_isWithin jt 0 500) = true)))) then I else i5_put idn ln pd jt I L)
set_option maxRecDepth 4000 in
theorem v10_addMessage (g : GlT)  (idn : Int32) (ln : Int32) (pd : Int32) (jt : Int32) (I : Nat → Nat → Int32) (L : Nat → Nat → Int64) (hm0 : ∃ m, m ≤ 8 ∧ I 288 4 = nI m) (Q : Option Value → MemT → Prop) (hq : Q (some (.int (r10_addMessage idn ln pd jt I L))) (i10_addMessage idn ln pd jt I L, L, R0, 305)) : V g (k10_addMessage, 3, 0, 0) 0 0 0 [(0, .ref (xA g 0)), (1, .int idn), (2, .int ln), (3, .int pd), (4, .int jt)] [] (I, L, R0, 305) Q := by
  obtain ⟨m, hm8, hm⟩ := hm0
  refine V_iload_n (pc1 := 1) 1 d10_addMessage_0 rfl rfl ?_
  refine V_si (pc1 := 4) (w10_isIdentifier g  idn  I L ) s10_isIdentifier l10_72 rfl rfl ⟨Nat.le_of_ble_eq_true rfl, Nat.le_of_ble_eq_true rfl, Nat.le_refl _, Nat.le_refl _⟩ (Nat.le_of_ble_eq_true rfl) rfl d10_addMessage_1 rfl ?_
  have k2 : ((¬ ((r10_isIdentifier idn) = true)) ∨ ((¬ ((r10_isLength ln) = true)) ∨ ((¬ ((r10_isWithin pd 1 5000) = true)) ∨ (¬ ((r10_isWithin jt 0 500) = true))))) → V g (k10_addMessage, 3, 0, 0) 0 0 37 [(0, .ref (xA g 0)), (1, .int idn), (2, .int ln), (3, .int pd), (4, .int jt)] [] (I, L, R0, 305) Q := by
    intro h1
    refine V_bipush (pc1 := 39) d10_addMessage_37 vb_m2 rfl ?_
    refine V_iret rfl d10_addMessage_39 (Nat.zero_le _) (Nat.zero_le _) ?_
    have hq2 := hq
    simp only [r10_addMessage, i10_addMessage, if_pos h1] at hq2
    exact hq2
  have k3 : ¬ ((¬ ((r10_isIdentifier idn) = true)) ∨ ((¬ ((r10_isLength ln) = true)) ∨ ((¬ ((r10_isWithin pd 1 5000) = true)) ∨ (¬ ((r10_isWithin jt 0 500) = true))))) → V g (k10_addMessage, 3, 0, 0) 0 0 40 [(0, .ref (xA g 0)), (1, .int idn), (2, .int ln), (3, .int pd), (4, .int jt)] [] (I, L, R0, 305) Q := by
    intro h1
    refine V_aload_n (pc1 := 41) 0 d10_addMessage_40 rfl rfl ?_
    refine V_getr (pc1 := 44) ly0 (lt305 rfl) f10_37 (fun _ => rfl) rf0_5 d10_addMessage_41 rfl ?_
    refine V_iload_n (pc1 := 45) 1 d10_addMessage_44 rfl rfl ?_
    refine V_iload_n (pc1 := 46) 2 d10_addMessage_45 rfl rfl ?_
    refine V_iload_n (pc1 := 47) 3 d10_addMessage_46 rfl rfl ?_
    refine V_iload (pc1 := 49) 4 d10_addMessage_47 rfl rfl ?_
    refine V_vi (pc1 := 52) (w5_put g  idn ln pd jt m hm8 I L hm) ly288 (lt305 rfl) s5_put l10_242 rfl rfl ⟨Nat.le_of_ble_eq_true rfl, Nat.le_of_ble_eq_true rfl, Nat.le_refl _, Nat.le_refl _⟩ (Nat.le_of_ble_eq_true rfl) rfl d10_addMessage_49 rfl ?_
    refine V_bne (tgt := 58) (pc1 := 55) d10_addMessage_52 (by decide) rfl (fun h4 => ?_) (fun h4 => ?_)
    · skip
      refine V_aload_n (pc1 := 59) 0 d10_addMessage_58 rfl rfl ?_
      refine V_getr (pc1 := 62) ly0 (lt305 rfl) f10_37 (fun _ => rfl) rf0_5 d10_addMessage_59 rfl ?_
      refine V_geti (pc1 := 65) ly288 (lt305 rfl) f10_246 (fun _ => rfl) rfl d10_addMessage_62 rfl ?_
      refine V_iret rfl d10_addMessage_65 (Nat.zero_le _) (Nat.zero_le _) ?_
      have hq2 := hq
      simp only [r10_addMessage, i10_addMessage, if_neg h1, if_pos h4] at hq2
      exact hq2
    · skip
      refine V_bipush (pc1 := 57) d10_addMessage_55 vb_m3 rfl ?_
      refine V_iret rfl d10_addMessage_57 (Nat.zero_le _) (Nat.zero_le _) ?_
      have hq2 := hq
      simp only [r10_addMessage, i10_addMessage, if_neg h1, if_neg h4] at hq2
      exact hq2
  refine V_beq (tgt := 37) (pc1 := 7) d10_addMessage_4 (by decide) rfl (fun h5 => ?_) (fun h5 => ?_)
  · skip
    exact k2 (Or.inl h5)
  · skip
    refine V_iload_n (pc1 := 8) 2 d10_addMessage_7 rfl rfl ?_
    refine V_si (pc1 := 11) (w10_isLength g  ln  I L ) s10_isLength l10_236 rfl rfl ⟨Nat.le_of_ble_eq_true rfl, Nat.le_of_ble_eq_true rfl, Nat.le_refl _, Nat.le_refl _⟩ (Nat.le_of_ble_eq_true rfl) rfl d10_addMessage_8 rfl ?_
    refine V_beq (tgt := 37) (pc1 := 14) d10_addMessage_11 (by decide) rfl (fun h6 => ?_) (fun h6 => ?_)
    · skip
      exact k2 (Or.inr (Or.inl h6))
    · skip
      refine V_iload_n (pc1 := 15) 3 d10_addMessage_14 rfl rfl ?_
      refine V_iconst (pc1 := 16) d10_addMessage_15 vc_1 rfl ?_
      refine V_sipush (pc1 := 19) d10_addMessage_16 vs_5000 rfl ?_
      refine V_si (pc1 := 22) (w10_isWithin g  pd 1 5000  I L ) s10_isWithin l10_48 rfl rfl ⟨Nat.le_of_ble_eq_true rfl, Nat.le_of_ble_eq_true rfl, Nat.le_refl _, Nat.le_refl _⟩ (Nat.le_of_ble_eq_true rfl) rfl d10_addMessage_19 rfl ?_
      refine V_beq (tgt := 37) (pc1 := 25) d10_addMessage_22 (by decide) rfl (fun h7 => ?_) (fun h7 => ?_)
      · skip
        exact k2 (Or.inr (Or.inr (Or.inl h7)))
      · skip
        refine V_iload (pc1 := 27) 4 d10_addMessage_25 rfl rfl ?_
        refine V_iconst (pc1 := 28) d10_addMessage_27 vc_0 rfl ?_
        refine V_sipush (pc1 := 31) d10_addMessage_28 vs_500 rfl ?_
        refine V_si (pc1 := 34) (w10_isWithin g  jt 0 500  I L ) s10_isWithin l10_48 rfl rfl ⟨Nat.le_of_ble_eq_true rfl, Nat.le_of_ble_eq_true rfl, Nat.le_refl _, Nat.le_refl _⟩ (Nat.le_of_ble_eq_true rfl) rfl d10_addMessage_31 rfl ?_
        refine V_bne (tgt := 40) (pc1 := 37) d10_addMessage_34 (by decide) rfl (fun h8 => ?_) (fun h8 => ?_)
        · skip
          exact k3 (fun z => z.elim (fun z => z h5) (fun z => z.elim (fun z => z h6) (fun z => z.elim (fun z => z h7) (fun z => z h8))))
        · skip
          exact k2 (Or.inr (Or.inr (Or.inr h8)))
theorem w10_addMessage (g : GlT)  (idn : Int32) (ln : Int32) (pd : Int32) (jt : Int32) (I : Nat → Nat → Int32) (L : Nat → Nat → Int64) (hm0 : ∃ m, m ≤ 8 ∧ I 288 4 = nI m) : Call g (k10_addMessage, 3, 0, 0) [.ref (xA g 0), .int idn, .int ln, .int pd, .int jt] (I, L, R0, 305) (Qi (r10_addMessage idn ln pd jt I L) (i10_addMessage idn ln pd jt I L) L) := Call.of (by decide) (Nat.le_of_ble_eq_true rfl) rfl (v10_addMessage g  idn ln pd jt  I L hm0 _ (And.intro rfl rfl))


def r10_removeMessage (idn : Int32) (I : Nat → Nat → Int32) (L : Nat → Nat → Int64) : Int32 := (if 0 ≤ r5_indexOf idn I L then (i5_removeAt ((r5_indexOf idn I L).toNatClampNeg) I L) 288 4 else (-5))
def i10_removeMessage (idn : Int32) (I : Nat → Nat → Int32) (L : Nat → Nat → Int64) : Nat → Nat → Int32 := (if 0 ≤ r5_indexOf idn I L then i5_removeAt ((r5_indexOf idn I L).toNatClampNeg) I L else I)
set_option maxRecDepth 4000 in
theorem v10_removeMessage (g : GlT)  (idn : Int32) (I : Nat → Nat → Int32) (L : Nat → Nat → Int64) (hm0 : ∃ m, m ≤ 8 ∧ I 288 4 = nI m) (Q : Option Value → MemT → Prop) (hq : Q (some (.int (r10_removeMessage idn I L))) (i10_removeMessage idn I L, L, R0, 305)) : V g (k10_removeMessage, 2, 0, 0) 0 0 0 [(0, .ref (xA g 0)), (1, .int idn)] [] (I, L, R0, 305) Q := by
  obtain ⟨m, hm8, hm⟩ := hm0
  refine V_aload_n (pc1 := 1) 0 d10_removeMessage_0 rfl rfl ?_
  refine V_getr (pc1 := 4) ly0 (lt305 rfl) f10_37 (fun _ => rfl) rf0_5 d10_removeMessage_1 rfl ?_
  refine V_iload_n (pc1 := 5) 1 d10_removeMessage_4 rfl rfl ?_
  refine V_vi (pc1 := 8) (w5_indexOf g  idn m hm8 I L hm) ly288 (lt305 rfl) s5_indexOf l10_247 rfl rfl ⟨Nat.le_of_ble_eq_true rfl, Nat.le_of_ble_eq_true rfl, Nat.le_refl _, Nat.le_refl _⟩ (Nat.le_of_ble_eq_true rfl) rfl d10_removeMessage_5 rfl ?_
  refine V_istore_n (pc1 := 9) d10_removeMessage_8 (Nat.le_of_ble_eq_true rfl) rfl rfl ?_
  refine V_iload_n (pc1 := 10) 0 d10_removeMessage_9 rfl rfl ?_
  refine V_if_ge (tgt := 16) (pc1 := 13) d10_removeMessage_10 (by decide) rfl (fun h1 => ?_) (fun h1 => ?_)
  · skip
    obtain ⟨p, hp, hpe⟩ := midx hm hm8 h1
    have hp3 : (r5_indexOf idn I L).toNatClampNeg = p := by rw [hpe]; exact nI_clamp (by omega)
    rw [hpe]
    refine V_aload_n (pc1 := 17) 1 d10_removeMessage_16 rfl rfl ?_
    refine V_getr (pc1 := 20) ly0 (lt305 rfl) f10_37 (fun _ => rfl) rf0_5 d10_removeMessage_17 rfl ?_
    refine V_iload_n (pc1 := 21) 0 d10_removeMessage_20 rfl rfl ?_
    refine V_vv (pc1 := 24) (w5_removeAt g  p m hm8 hp I L hm) ly288 (lt305 rfl) s5_removeAt l10_248 rfl rfl ⟨Nat.le_of_ble_eq_true rfl, Nat.le_of_ble_eq_true rfl, Nat.le_refl _, Nat.le_refl _⟩ (Nat.le_of_ble_eq_true rfl) rfl d10_removeMessage_21 rfl ?_
    refine V_aload_n (pc1 := 25) 1 d10_removeMessage_24 rfl rfl ?_
    refine V_getr (pc1 := 28) ly0 (lt305 rfl) f10_37 (fun _ => rfl) rf0_5 d10_removeMessage_25 rfl ?_
    refine V_geti (pc1 := 31) ly288 (lt305 rfl) f10_246 (fun _ => rfl) rfl d10_removeMessage_28 rfl ?_
    refine V_iret rfl d10_removeMessage_31 (Nat.zero_le _) (Nat.zero_le _) ?_
    have hq2 := hq
    simp only [r10_removeMessage, i10_removeMessage, if_pos h1, hp3] at hq2
    exact hq2
  · skip
    refine V_bipush (pc1 := 15) d10_removeMessage_13 vb_m5 rfl ?_
    refine V_iret rfl d10_removeMessage_15 (Nat.zero_le _) (Nat.zero_le _) ?_
    have hq2 := hq
    simp only [r10_removeMessage, i10_removeMessage, if_neg h1] at hq2
    exact hq2
theorem w10_removeMessage (g : GlT)  (idn : Int32) (I : Nat → Nat → Int32) (L : Nat → Nat → Int64) (hm0 : ∃ m, m ≤ 8 ∧ I 288 4 = nI m) : Call g (k10_removeMessage, 2, 0, 0) [.ref (xA g 0), .int idn] (I, L, R0, 305) (Qi (r10_removeMessage idn I L) (i10_removeMessage idn I L) L) := Call.of (by decide) (Nat.le_of_ble_eq_true rfl) rfl (v10_removeMessage g  idn  I L hm0 _ (And.intro rfl rfl))


def r10_responseTime (idn : Int32) (I : Nat → Nat → Int32) (L : Nat → Nat → Int64) : Int32 := (if 0 ≤ r5_indexOf idn I L then r5_worstResponse ((r5_indexOf idn I L).toNatClampNeg) I L else (-2))
set_option maxRecDepth 4000 in
theorem v10_responseTime (g : GlT)  (idn : Int32) (I : Nat → Nat → Int32) (L : Nat → Nat → Int64) (hm0 : ∃ m, m ≤ 8 ∧ I 288 4 = nI m) (Q : Option Value → MemT → Prop) (hq : Q (some (.int (r10_responseTime idn I L))) (I, L, R0, 305)) : V g (k10_responseTime, 3, 0, 0) 0 0 0 [(0, .ref (xA g 0)), (1, .int idn)] [] (I, L, R0, 305) Q := by
  obtain ⟨m, hm8, hm⟩ := hm0
  refine V_aload_n (pc1 := 1) 0 d10_responseTime_0 rfl rfl ?_
  refine V_getr (pc1 := 4) ly0 (lt305 rfl) f10_37 (fun _ => rfl) rf0_5 d10_responseTime_1 rfl ?_
  refine V_iload_n (pc1 := 5) 1 d10_responseTime_4 rfl rfl ?_
  refine V_vi (pc1 := 8) (w5_indexOf g  idn m hm8 I L hm) ly288 (lt305 rfl) s5_indexOf l10_247 rfl rfl ⟨Nat.le_of_ble_eq_true rfl, Nat.le_of_ble_eq_true rfl, Nat.le_refl _, Nat.le_refl _⟩ (Nat.le_of_ble_eq_true rfl) rfl d10_responseTime_5 rfl ?_
  refine V_istore_n (pc1 := 9) d10_responseTime_8 (Nat.le_of_ble_eq_true rfl) rfl rfl ?_
  refine V_iload_n (pc1 := 10) 0 d10_responseTime_9 rfl rfl ?_
  have key2 : ∀ (z26_2 : Int32), z26_2 = (if 0 ≤ r5_indexOf idn I L then nI ((r5_indexOf idn I L).toNatClampNeg) else r5_indexOf idn I L) → ∀ (y26_0 : Int32), y26_0 = (if 0 ≤ r5_indexOf idn I L then r5_worstResponse ((r5_indexOf idn I L).toNatClampNeg) I L else (-2)) → ∀ (lv : List (Nat × Value)), lvsub [(2, .int z26_2), (0, .ref (xA g 0)), (1, .int idn)] lv → V g (k10_responseTime, 3, 0, 0) 0 0 26 lv [.int y26_0] (I, L, R0, 305) Q := by
    intro z26_2 ez26_2 y26_0 ey26_0
    subst ez26_2
    subst ey26_0
    intro lv hlv
    refine V_lv hlv ?_
    refine V_iret rfl d10_responseTime_26 (Nat.zero_le _) (Nat.zero_le _) ?_
    have hq2 := hq
    simp only [r10_responseTime] at hq2
    exact hq2
  refine V_if_ge (tgt := 18) (pc1 := 13) d10_responseTime_10 (by decide) rfl (fun h1 => ?_) (fun h1 => ?_)
  · skip
    obtain ⟨p, hp, hpe⟩ := midx hm hm8 h1
    have hp3 : (r5_indexOf idn I L).toNatClampNeg = p := by rw [hpe]; exact nI_clamp (by omega)
    rw [hpe]
    refine V_aload_n (pc1 := 19) 1 d10_responseTime_18 rfl rfl ?_
    refine V_getr (pc1 := 22) ly0 (lt305 rfl) f10_37 (fun _ => rfl) rf0_5 d10_responseTime_19 rfl ?_
    refine V_iload_n (pc1 := 23) 0 d10_responseTime_22 rfl rfl ?_
    refine V_vi (pc1 := 26) (w5_worstResponse g  p m hm8 hp I L hm) ly288 (lt305 rfl) s5_worstResponse l10_249 rfl rfl ⟨Nat.le_of_ble_eq_true rfl, Nat.le_of_ble_eq_true rfl, Nat.le_refl _, Nat.le_refl _⟩ (Nat.le_of_ble_eq_true rfl) rfl d10_responseTime_23 rfl ?_
    exact key2 _ (by first | rfl | (simp only [if_pos h1, hp3]; done) | (simp only [if_pos h1, hp3]; rfl)) _ (by first | rfl | (simp only [if_pos h1, hp3]; done) | (simp only [if_pos h1, hp3]; rfl)) _ (lvsub_p [0, 1, 2] rfl)
  · skip
    refine V_bipush (pc1 := 15) d10_responseTime_13 vb_m2 rfl ?_
    refine V_goto (tgt := 26) d10_responseTime_15 (by decide) ?_
    exact key2 _ (by first | rfl | (simp only [if_neg h1]; done) | (simp only [if_neg h1]; rfl)) _ (by first | rfl | (simp only [if_neg h1]; done) | (simp only [if_neg h1]; rfl)) _ (lvsub_p [0, 1, 2] rfl)
theorem w10_responseTime (g : GlT)  (idn : Int32) (I : Nat → Nat → Int32) (L : Nat → Nat → Int64) (hm0 : ∃ m, m ≤ 8 ∧ I 288 4 = nI m) : Call g (k10_responseTime, 3, 0, 0) [.ref (xA g 0), .int idn] (I, L, R0, 305) (Qi (r10_responseTime idn I L) (I) L) := Call.of (by decide) (Nat.le_of_ble_eq_true rfl) rfl (v10_responseTime g  idn  I L hm0 _ (And.intro rfl rfl))


def r10_misses_4 : Nat → Nat → Int32 → (Nat → Nat → Int32) → (Nat → Nat → Int64) → Int32
  | 0, i, z, I, L => z
  | n + 1, i, z, I, L => r10_misses_4  n (i + 1) (if r5_worstResponse i I L = (-5) then z + 1 else z) I L
set_option maxRecDepth 4000 in
theorem t10_misses_4 (g : GlT)  (m : Nat) (hm8 : m ≤ 8) : ∀ (n i : Nat) (z : Int32) (I : Nat → Nat → Int32) (L : Nat → Nat → Int64), (hm : I 288 4 = nI m) → (hn : i + n = m) → ∀ (Q : Option Value → MemT → Prop), Q (some (.int (r10_misses_4 n i z I L))) (I, L, R0, 305) → V g (k10_misses, 3, 0, 0) 0 0 4 [(0, .ref (xA g 0)), (1, .int z), (2, .int (nI i))] [] (I, L, R0, 305) Q := by
  intro n
  induction n with
  | zero =>
    intro i z I L hm hn Q hq
    refine V_iload_n (pc1 := 5) 2 d10_misses_4 rfl rfl ?_
    refine V_aload_n (pc1 := 6) 0 d10_misses_5 rfl rfl ?_
    refine V_getr (pc1 := 9) ly0 (lt305 rfl) f10_37 (fun _ => rfl) rf0_5 d10_misses_6 rfl ?_
    refine V_geti (pc1 := 12) ly288 (lt305 rfl) f10_246 (fun _ => rfl) hm d10_misses_9 rfl ?_
    refine V_icmp_ge (tgt := 37) (pc1 := 15) d10_misses_12 (by decide) rfl (fun _ => ?_) (fun h1 => absurd (nI_le (by omega) (by omega)) h1)
    refine V_iload_n (pc1 := 38) 1 d10_misses_37 rfl rfl ?_
    refine V_iret rfl d10_misses_38 (Nat.zero_le _) (Nat.zero_le _) ?_
    have hq2 := hq
    simp only [r10_misses_4] at hq2
    exact hq2
  | succ n ih =>
    intro i z I L hm hn Q hq
    refine V_iload_n (pc1 := 5) 2 d10_misses_4 rfl rfl ?_
    refine V_aload_n (pc1 := 6) 0 d10_misses_5 rfl rfl ?_
    refine V_getr (pc1 := 9) ly0 (lt305 rfl) f10_37 (fun _ => rfl) rf0_5 d10_misses_6 rfl ?_
    refine V_geti (pc1 := 12) ly288 (lt305 rfl) f10_246 (fun _ => rfl) hm d10_misses_9 rfl ?_
    refine V_icmp_ge (tgt := 37) (pc1 := 15) d10_misses_12 (by decide) rfl (fun h1 => absurd h1 (nI_ge (by omega) (by omega))) (fun _ => ?_)
    refine V_aload_n (pc1 := 16) 0 d10_misses_15 rfl rfl ?_
    refine V_getr (pc1 := 19) ly0 (lt305 rfl) f10_37 (fun _ => rfl) rf0_5 d10_misses_16 rfl ?_
    refine V_iload_n (pc1 := 20) 2 d10_misses_19 rfl rfl ?_
    refine V_vi (pc1 := 23) (w5_worstResponse g  i m hm8 (by omega) I L hm) ly288 (lt305 rfl) s5_worstResponse l10_249 rfl rfl ⟨Nat.le_of_ble_eq_true rfl, Nat.le_of_ble_eq_true rfl, Nat.le_refl _, Nat.le_refl _⟩ (Nat.le_of_ble_eq_true rfl) rfl d10_misses_20 rfl ?_
    refine V_bipush (pc1 := 25) d10_misses_23 vb_m5 rfl ?_
    have key3 : ∀ (z31_1 : Int32), z31_1 = (if r5_worstResponse i I L = (-5) then z + 1 else z) → ∀ (lv : List (Nat × Value)), lvsub [(1, .int z31_1), (0, .ref (xA g 0)), (2, .int (nI i))] lv → V g (k10_misses, 3, 0, 0) 0 0 31 lv [] (I, L, R0, 305) Q := by
      intro z31_1 ez31_1
      subst ez31_1
      intro lv hlv
      refine V_lv hlv ?_
      refine V_iinc (pc1 := 34) 2 (v := nI (i + 1)) d10_misses_31 rfl (nI_1 _) (Nat.le_of_ble_eq_true rfl) rfl rfl ?_
      refine V_goto (tgt := 4) d10_misses_34 (by decide) ?_
      refine V_lv (lv1 := [(0, .ref (xA g 0)), (1, .int (if r5_worstResponse i I L = (-5) then z + 1 else z)), (2, .int (nI (i + 1)))]) (lvsub_p [2, 1, 0] rfl) ?_
      have hq2 := hq
      simp only [r10_misses_4] at hq2
      exact ih (i + 1) (if r5_worstResponse i I L = (-5) then z + 1 else z) I L hm (by omega) Q hq2
    refine V_icmp_ne (tgt := 31) (pc1 := 28) d10_misses_25 (by decide) rfl (fun h2 => ?_) (fun h2 => ?_)
    · skip
      exact key3 _ (by first | rfl | (simp only [if_neg h2]; done) | (simp only [if_neg h2]; rfl)) _ (lvsub_p [1, 0, 2] rfl)
    · skip
      refine V_iinc (pc1 := 31) 1 (v := z + 1) d10_misses_28 rfl rfl (Nat.le_of_ble_eq_true rfl) rfl rfl ?_
      exact key3 _ (by first | rfl | (simp only [if_pos h2]; done) | (simp only [if_pos h2]; rfl)) _ (lvsub_p [0, 1, 2] rfl)
def r10_misses (I : Nat → Nat → Int32) (L : Nat → Nat → Int64) : Int32 := r10_misses_4  ((I 288 4).toNatClampNeg) 0 0 I L
set_option maxRecDepth 4000 in
theorem v10_misses (g : GlT)  (m : Nat) (hm8 : m ≤ 8) (I : Nat → Nat → Int32) (L : Nat → Nat → Int64) (hm : I 288 4 = nI m) (Q : Option Value → MemT → Prop) (hq : Q (some (.int (r10_misses I L))) (I, L, R0, 305)) : V g (k10_misses, 3, 0, 0) 0 0 0 [(0, .ref (xA g 0))] [] (I, L, R0, 305) Q := by
  have hm3 : (I 288 4).toNatClampNeg = m := by rw [hm]; exact nI_clamp (by omega)
  refine V_iconst (pc1 := 1) d10_misses_0 vc_0 rfl ?_
  refine V_istore_n (pc1 := 2) d10_misses_1 (Nat.le_of_ble_eq_true rfl) rfl rfl ?_
  refine V_iconst (pc1 := 3) d10_misses_2 vc_0 rfl ?_
  refine V_istore_n (pc1 := 4) d10_misses_3 (Nat.le_of_ble_eq_true rfl) rfl rfl ?_
  refine V_lv (lv1 := [(0, .ref (xA g 0)), (1, .int 0), (2, .int (nI 0))]) (lvsub_p [2, 1, 0] rfl) ?_
  have hq2 := hq
  simp only [r10_misses, hm3] at hq2
  exact t10_misses_4 g   _ hm8 m 0 0 I L hm (by omega) Q hq2
theorem w10_misses (g : GlT)  (m : Nat) (hm8 : m ≤ 8) (I : Nat → Nat → Int32) (L : Nat → Nat → Int64) (hm : I 288 4 = nI m) : Call g (k10_misses, 3, 0, 0) [.ref (xA g 0)] (I, L, R0, 305) (Qi (r10_misses I L) (I) L) := Call.of (by decide) (Nat.le_of_ble_eq_true rfl) rfl (v10_misses g   m hm8 I L hm _ (And.intro rfl rfl))


def r10_append (x : Int32) (I : Nat → Nat → Int32) (L : Nat → Nat → Int64) : Int32 := (if (r10_isWithin x 0 127) = true then (if (r9_add x I L) = true then (i9_add x I L) 293 2 else (-3)) else (-2))
def i10_append (x : Int32) (I : Nat → Nat → Int32) (L : Nat → Nat → Int64) : Nat → Nat → Int32 := (if (r10_isWithin x 0 127) = true then i9_add x I L else I)
set_option maxRecDepth 4000 in
theorem v10_append (g : GlT)  (x : Int32) (I : Nat → Nat → Int32) (L : Nat → Nat → Int64) (ht0 : ∃ t, t ≤ 120 ∧ I 293 2 = nI t) (Q : Option Value → MemT → Prop) (hq : Q (some (.int (r10_append x I L))) (i10_append x I L, L, R0, 305)) : V g (k10_append, 2, 0, 0) 0 0 0 [(0, .ref (xA g 0)), (1, .int x)] [] (I, L, R0, 305) Q := by
  obtain ⟨t, ht8, ht⟩ := ht0
  refine V_iload_n (pc1 := 1) 1 d10_append_0 rfl rfl ?_
  refine V_iconst (pc1 := 2) d10_append_1 vc_0 rfl ?_
  refine V_bipush (pc1 := 4) d10_append_2 vb_127 rfl ?_
  refine V_si (pc1 := 7) (w10_isWithin g  x 0 127  I L ) s10_isWithin l10_48 rfl rfl ⟨Nat.le_of_ble_eq_true rfl, Nat.le_of_ble_eq_true rfl, Nat.le_refl _, Nat.le_refl _⟩ (Nat.le_of_ble_eq_true rfl) rfl d10_append_4 rfl ?_
  refine V_bne (tgt := 13) (pc1 := 10) d10_append_7 (by decide) rfl (fun h1 => ?_) (fun h1 => ?_)
  · skip
    refine V_aload_n (pc1 := 14) 0 d10_append_13 rfl rfl ?_
    refine V_getr (pc1 := 17) ly0 (lt305 rfl) f10_44 (fun _ => rfl) rf0_6 d10_append_14 rfl ?_
    refine V_iload_n (pc1 := 18) 1 d10_append_17 rfl rfl ?_
    refine V_vi (pc1 := 21) (w9_add g  x t ht8 I L ht) ly293 (lt305 rfl) s9_add l10_252 rfl rfl ⟨Nat.le_of_ble_eq_true rfl, Nat.le_of_ble_eq_true rfl, Nat.le_refl _, Nat.le_refl _⟩ (Nat.le_of_ble_eq_true rfl) rfl d10_append_18 rfl ?_
    refine V_bne (tgt := 27) (pc1 := 24) d10_append_21 (by decide) rfl (fun h2 => ?_) (fun h2 => ?_)
    · skip
      refine V_aload_n (pc1 := 28) 0 d10_append_27 rfl rfl ?_
      refine V_getr (pc1 := 31) ly0 (lt305 rfl) f10_44 (fun _ => rfl) rf0_6 d10_append_28 rfl ?_
      refine V_geti (pc1 := 34) ly293 (lt305 rfl) f10_254 (fun _ => rfl) rfl d10_append_31 rfl ?_
      refine V_iret rfl d10_append_34 (Nat.zero_le _) (Nat.zero_le _) ?_
      have hq2 := hq
      simp only [r10_append, i10_append, if_pos h1, if_pos h2] at hq2
      exact hq2
    · skip
      refine V_bipush (pc1 := 26) d10_append_24 vb_m3 rfl ?_
      refine V_iret rfl d10_append_26 (Nat.zero_le _) (Nat.zero_le _) ?_
      have hq2 := hq
      simp only [r10_append, i10_append, if_pos h1, if_neg h2] at hq2
      exact hq2
  · skip
    refine V_bipush (pc1 := 12) d10_append_10 vb_m2 rfl ?_
    refine V_iret rfl d10_append_12 (Nat.zero_le _) (Nat.zero_le _) ?_
    have hq2 := hq
    simp only [r10_append, i10_append, if_neg h1] at hq2
    exact hq2
theorem w10_append (g : GlT)  (x : Int32) (I : Nat → Nat → Int32) (L : Nat → Nat → Int64) (ht0 : ∃ t, t ≤ 120 ∧ I 293 2 = nI t) : Call g (k10_append, 2, 0, 0) [.ref (xA g 0), .int x] (I, L, R0, 305) (Qi (r10_append x I L) (i10_append x I L) L) := Call.of (by decide) (Nat.le_of_ble_eq_true rfl) rfl (v10_append g  x  I L ht0 _ (And.intro rfl rfl))


def r10_clearText (I : Nat → Nat → Int32) (L : Nat → Nat → Int64) : Int32 := I 293 2
def i10_clearText (I : Nat → Nat → Int32) (L : Nat → Nat → Int64) : Nat → Nat → Int32 := uI I 293 2 0
set_option maxRecDepth 4000 in
theorem v10_clearText (g : GlT)  (I : Nat → Nat → Int32) (L : Nat → Nat → Int64) (Q : Option Value → MemT → Prop) (hq : Q (some (.int (r10_clearText I L))) (i10_clearText I L, L, R0, 305)) : V g (k10_clearText, 1, 0, 0) 0 0 0 [(0, .ref (xA g 0))] [] (I, L, R0, 305) Q := by
  refine V_aload_n (pc1 := 1) 0 d10_clearText_0 rfl rfl ?_
  refine V_getr (pc1 := 4) ly0 (lt305 rfl) f10_44 (fun _ => rfl) rf0_6 d10_clearText_1 rfl ?_
  refine V_geti (pc1 := 7) ly293 (lt305 rfl) f10_254 (fun _ => rfl) rfl d10_clearText_4 rfl ?_
  refine V_istore_n (pc1 := 8) d10_clearText_7 (Nat.le_of_ble_eq_true rfl) rfl rfl ?_
  refine V_aload_n (pc1 := 9) 1 d10_clearText_8 rfl rfl ?_
  refine V_getr (pc1 := 12) ly0 (lt305 rfl) f10_44 (fun _ => rfl) rf0_6 d10_clearText_9 rfl ?_
  refine V_iconst (pc1 := 13) d10_clearText_12 vc_0 rfl ?_
  refine V_puti (pc1 := 16) ly293 (lt305 rfl) f10_254 rfl rfl d10_clearText_13 rfl ?_
  refine V_iload_n (pc1 := 17) 0 d10_clearText_16 rfl rfl ?_
  refine V_iret rfl d10_clearText_17 (Nat.zero_le _) (Nat.zero_le _) ?_
  have hq2 := hq
  simp only [r10_clearText, i10_clearText] at hq2
  exact hq2
theorem w10_clearText (g : GlT)  (I : Nat → Nat → Int32) (L : Nat → Nat → Int64) : Call g (k10_clearText, 1, 0, 0) [.ref (xA g 0)] (I, L, R0, 305) (Qi (r10_clearText I L) (i10_clearText I L) L) := Call.of (by decide) (Nat.le_of_ble_eq_true rfl) rfl (v10_clearText g    I L  _ (And.intro rfl rfl))


def r10_faultPosition (I : Nat → Nat → Int32) (L : Nat → Nat → Int64) : Int32 := r9_findFault I L
def i10_faultPosition (I : Nat → Nat → Int32) (L : Nat → Nat → Int64) : Nat → Nat → Int32 := i9_findFault I L
set_option maxRecDepth 4000 in
theorem v10_faultPosition (g : GlT)  (I : Nat → Nat → Int32) (L : Nat → Nat → Int64) (ht0 : ∃ t, t ≤ 120 ∧ I 293 2 = nI t) (Q : Option Value → MemT → Prop) (hq : Q (some (.int (r10_faultPosition I L))) (i10_faultPosition I L, L, R0, 305)) : V g (k10_faultPosition, 7, 0, 0) 0 0 0 [(0, .ref (xA g 0))] [] (I, L, R0, 305) Q := by
  obtain ⟨t, ht8, ht⟩ := ht0
  refine V_aload_n (pc1 := 1) 0 d10_faultPosition_0 rfl rfl ?_
  refine V_getr (pc1 := 4) ly0 (lt305 rfl) f10_44 (fun _ => rfl) rf0_6 d10_faultPosition_1 rfl ?_
  refine V_vi (pc1 := 7) (w9_findFault g   t ht8 I L ht) ly293 (lt305 rfl) s9_findFault l10_255 rfl rfl ⟨Nat.le_of_ble_eq_true rfl, Nat.le_of_ble_eq_true rfl, Nat.le_refl _, Nat.le_refl _⟩ (Nat.le_of_ble_eq_true rfl) rfl d10_faultPosition_4 rfl ?_
  refine V_iret rfl d10_faultPosition_7 (Nat.zero_le _) (Nat.zero_le _) ?_
  have hq2 := hq
  simp only [r10_faultPosition, i10_faultPosition] at hq2
  exact hq2
theorem w10_faultPosition (g : GlT)  (I : Nat → Nat → Int32) (L : Nat → Nat → Int64) (ht0 : ∃ t, t ≤ 120 ∧ I 293 2 = nI t) : Call g (k10_faultPosition, 7, 0, 0) [.ref (xA g 0)] (I, L, R0, 305) (Qi (r10_faultPosition I L) (i10_faultPosition I L) L) := Call.of (by decide) (Nat.le_of_ble_eq_true rfl) rfl (v10_faultPosition g    I L ht0 _ (And.intro rfl rfl))


def r10_requestRead (I : Nat → Nat → Int32) (L : Nat → Nat → Int64) : Bool := (if (r10_isNode (I 294 1)) = true then r6_enqueue (4 + 16 * ((I 294 1).toNatClampNeg)) 2 (r10_keyOf (I 294 2) (I 294 3)) (I 294 4) (I 294 5) I L else false)
def i10_requestRead (I : Nat → Nat → Int32) (L : Nat → Nat → Int64) : Nat → Nat → Int32 := (if (r10_isNode (I 294 1)) = true then i6_enqueue (4 + 16 * ((I 294 1).toNatClampNeg)) 2 (r10_keyOf (I 294 2) (I 294 3)) (I 294 4) (I 294 5) I L else I)
set_option maxRecDepth 4000 in
theorem v10_requestRead (g : GlT)  (I : Nat → Nat → Int32) (L : Nat → Nat → Int64) (hv : bV 1 I) (Q : Option Value → MemT → Prop) (hq : Q (some (.int (bI (r10_requestRead I L)))) (i10_requestRead I L, L, R0, 305)) : V g (k10_requestRead, 3, 0, 0) 0 0 0 [(0, .ref (xA g 0)), (1, .ref (xA g 294))] [] (I, L, R0, 305) Q := by
  refine V_aload_n (pc1 := 1) 1 d10_requestRead_0 rfl rfl ?_
  refine V_geti (pc1 := 4) ly294 (lt305 rfl) f10_322 (fun _ => rfl) rfl d10_requestRead_1 rfl ?_
  refine V_si (pc1 := 7) (w10_isNode g  (I 294 1)  I L ) s10_isNode l10_68 rfl rfl ⟨Nat.le_of_ble_eq_true rfl, Nat.le_of_ble_eq_true rfl, Nat.le_refl _, Nat.le_refl _⟩ (Nat.le_of_ble_eq_true rfl) rfl d10_requestRead_4 rfl ?_
  refine V_bne (tgt := 12) (pc1 := 10) d10_requestRead_7 (by decide) rfl (fun h1 => ?_) (fun h1 => ?_)
  · skip
    obtain ⟨ni, hni, hne⟩ := isNode_nat h1
    have hn3 : (I 294 1).toNatClampNeg = ni := by rw [hne]; exact nI_clamp (by omega)
    refine V_aload_n (pc1 := 13) 0 d10_requestRead_12 rfl rfl ?_
    refine V_getr (pc1 := 16) ly0 (lt305 rfl) f10_10 (fun _ => rfl) rf0_0 d10_requestRead_13 rfl ?_
    refine V_getr (pc1 := 19) ly1 (lt305 rfl) f10_75 (fun _ => rfl) rf1_1 d10_requestRead_16 rfl ?_
    refine V_aload_n (pc1 := 20) 1 d10_requestRead_19 rfl rfl ?_
    refine V_geti (pc1 := 23) ly294 (lt305 rfl) f10_322 (fun _ => rfl) rfl d10_requestRead_20 rfl ?_
    refine V_aald (pc1 := 24) ni ((4 + 16 * ni)) ly3 (Or.inr rfl) (lt305 rfl) hne hni (rfi hni) d10_requestRead_23 rfl ?_
    refine V_aload_n (pc1 := 25) 1 d10_requestRead_24 rfl rfl ?_
    refine V_geti (pc1 := 28) ly294 (lt305 rfl) f10_325 (fun _ => rfl) rfl d10_requestRead_25 rfl ?_
    refine V_aload_n (pc1 := 29) 1 d10_requestRead_28 rfl rfl ?_
    refine V_geti (pc1 := 32) ly294 (lt305 rfl) f10_328 (fun _ => rfl) rfl d10_requestRead_29 rfl ?_
    refine V_si (pc1 := 35) (w10_keyOf g  (I 294 2) (I 294 3)  I L ) s10_keyOf l10_95 rfl rfl ⟨Nat.le_of_ble_eq_true rfl, Nat.le_of_ble_eq_true rfl, Nat.le_refl _, Nat.le_refl _⟩ (Nat.le_of_ble_eq_true rfl) rfl d10_requestRead_32 rfl ?_
    refine V_aload_n (pc1 := 36) 1 d10_requestRead_35 rfl rfl ?_
    refine V_geti (pc1 := 39) ly294 (lt305 rfl) f10_331 (fun _ => rfl) rfl d10_requestRead_36 rfl ?_
    refine V_aload_n (pc1 := 40) 1 d10_requestRead_39 rfl rfl ?_
    refine V_geti (pc1 := 43) ly294 (lt305 rfl) f10_334 (fun _ => rfl) rfl d10_requestRead_40 rfl ?_
    refine V_vi (pc1 := 46) (w6_enqueue g (okNi hni) (r10_keyOf (I 294 2) (I 294 3)) (I 294 4) (I 294 5)  I L (hv.1 ni hni)) (nd_l0 (okNi hni)) (nd_b0 (okNi hni)) s6_enqueue l10_130 rfl rfl ⟨Nat.le_of_ble_eq_true rfl, Nat.le_of_ble_eq_true rfl, Nat.le_refl _, Nat.le_refl _⟩ (Nat.le_of_ble_eq_true rfl) rfl d10_requestRead_43 rfl ?_
    refine V_zret rfl (bI_or _) d10_requestRead_46 (Nat.zero_le _) (Nat.zero_le _) ?_
    have hq2 := hq
    simp only [r10_requestRead, i10_requestRead, if_pos h1, hn3] at hq2
    exact hq2
  · skip
    refine V_iconst (pc1 := 11) d10_requestRead_10 vc_0 rfl ?_
    refine V_zret rfl (Or.inl rfl) d10_requestRead_11 (Nat.zero_le _) (Nat.zero_le _) ?_
    have hq2 := hq
    simp only [r10_requestRead, i10_requestRead, if_neg h1] at hq2
    exact hq2
theorem w10_requestRead (g : GlT)  (I : Nat → Nat → Int32) (L : Nat → Nat → Int64) (hv : bV 1 I) : Call g (k10_requestRead, 3, 0, 0) [.ref (xA g 0), .ref (xA g 294)] (I, L, R0, 305) (Qi (bI (r10_requestRead I L)) (i10_requestRead I L) L) := Call.of (by decide) (Nat.le_of_ble_eq_true rfl) rfl (v10_requestRead g    I L hv _ (And.intro rfl rfl))


theorem bV_rr {I : Nat → Nat → Int32} {L : Nat → Nat → Int64} (h : bV 1 I) : bV 1 (i10_requestRead I L) := by
  unfold i10_requestRead
  split
  · rename_i hn
    obtain ⟨ni, hni, e⟩ := isNode_nat hn
    have e2 : (I 294 1).toNatClampNeg = ni := by rw [e]; exact nI_clamp (by omega)
    rw [e2]
    refine ⟨fun j hj => ?_, ?_⟩
    · by_cases q : j = ni
      · subst q; exact nV_enq (h.1 j hj)
      · exact nV.of1 (x6_enqueue (by omega) (by omega) (by omega) (by omega) (by omega)) (x6_enqueue (by omega) (by omega) (by omega) (by omega) (by omega)) (x6_enqueue (by omega) (by omega) (by omega) (by omega) (by omega)) (h.1 j hj)
    · obtain ⟨d, h8, hd⟩ := h.2
      exact ⟨d, h8, (congrFun (x6_enqueue (by omega) (by omega) (by omega) (by omega) (by omega)) _).trans hd⟩
  · exact h
theorem tx_rr {I : Nat → Nat → Int32} {L : Nat → Nat → Int64} {a : Nat} (ha : 293 ≤ a) : (i10_requestRead I L) a = I a := by
  unfold i10_requestRead
  split
  · rename_i hn
    obtain ⟨ni, hni, e⟩ := isNode_nat hn
    have e2 : (I 294 1).toNatClampNeg = ni := by rw [e]; exact nI_clamp (by omega)
    rw [e2]
    exact x6_enqueue (by omega) (by omega) (by omega) (by omega) (by omega)
  · rfl
theorem bV_hi {I J : Nat → Nat → Int32} (h : bV 1 I) (e : ∀ a, a < 72 → J a = I a) : bV 1 J := by
  refine ⟨fun j hj => nV.of1 (e _ (by omega)) (e _ (by omega)) (e _ (by omega)) (h.1 j hj), ?_⟩
  obtain ⟨d, h8, hd⟩ := h.2
  exact ⟨d, h8, (congrFun (e _ (by omega)) _).trans hd⟩

def r10_load_37 : Nat → Nat → Int32 → (Nat → Nat → Int32) → (Nat → Nat → Int64) → Int32
  | 0, i, z, I, L => z
  | n + 1, i, z, I, L => r10_load_37  n (i + 1) (if (r7_isBetweenRequests (i7_take (r9_letterAt i I L) I L) L) = true then (if (r10_requestRead (i7_take (r9_letterAt i I L) I L) L) = true then z + 1 else z) else z) (if (r7_isBetweenRequests (i7_take (r9_letterAt i I L) I L) L) = true then i10_requestRead (i7_take (r9_letterAt i I L) I L) L else i7_take (r9_letterAt i I L) I L) L
def i10_load_37 : Nat → Nat → Int32 → (Nat → Nat → Int32) → (Nat → Nat → Int64) → (Nat → Nat → Int32)
  | 0, i, z, I, L => I
  | n + 1, i, z, I, L => i10_load_37  n (i + 1) (if (r7_isBetweenRequests (i7_take (r9_letterAt i I L) I L) L) = true then (if (r10_requestRead (i7_take (r9_letterAt i I L) I L) L) = true then z + 1 else z) else z) (if (r7_isBetweenRequests (i7_take (r9_letterAt i I L) I L) L) = true then i10_requestRead (i7_take (r9_letterAt i I L) I L) L else i7_take (r9_letterAt i I L) I L) L
set_option maxRecDepth 4000 in
theorem t10_load_37 (g : GlT)  (t : Nat) (ht8 : t ≤ 120) : ∀ (n i : Nat) (z : Int32) (I : Nat → Nat → Int32) (L : Nat → Nat → Int64), (hv : bV 1 I) → (ht : I 293 2 = nI t) → (hn : i + n = t) → ∀ (Q : Option Value → MemT → Prop), Q (some (.int (r10_load_37 n i z I L))) (i10_load_37 n i z I L, L, R0, 305) → V g (k10_load, 7, 0, 0) 0 0 37 [(0, .ref (xA g 0)), (2, .ref (xA g 294)), (3, .int z), (4, .int (nI i))] [] (I, L, R0, 305) Q := by
  intro n
  induction n with
  | zero =>
    intro i z I L hv ht hn Q hq
    refine V_iload (pc1 := 39) 3 d10_load_37 rfl rfl ?_
    refine V_aload_n (pc1 := 40) 0 d10_load_39 rfl rfl ?_
    refine V_getr (pc1 := 43) ly0 (lt305 rfl) f10_44 (fun _ => rfl) rf0_6 d10_load_40 rfl ?_
    refine V_geti (pc1 := 46) ly293 (lt305 rfl) f10_254 (fun _ => rfl) ht d10_load_43 rfl ?_
    refine V_icmp_ge (tgt := 87) (pc1 := 49) d10_load_46 (by decide) rfl (fun _ => ?_) (fun h1 => absurd (nI_le (by omega) (by omega)) h1)
    refine V_iload_n (pc1 := 88) 2 d10_load_87 rfl rfl ?_
    refine V_iret rfl d10_load_88 (Nat.zero_le _) (Nat.zero_le _) ?_
    have hq2 := hq
    simp only [r10_load_37, i10_load_37] at hq2
    exact hq2
  | succ n ih =>
    intro i z I L hv ht hn Q hq
    refine V_iload (pc1 := 39) 3 d10_load_37 rfl rfl ?_
    refine V_aload_n (pc1 := 40) 0 d10_load_39 rfl rfl ?_
    refine V_getr (pc1 := 43) ly0 (lt305 rfl) f10_44 (fun _ => rfl) rf0_6 d10_load_40 rfl ?_
    refine V_geti (pc1 := 46) ly293 (lt305 rfl) f10_254 (fun _ => rfl) ht d10_load_43 rfl ?_
    refine V_icmp_ge (tgt := 87) (pc1 := 49) d10_load_46 (by decide) rfl (fun h1 => absurd h1 (nI_ge (by omega) (by omega))) (fun _ => ?_)
    refine V_aload_n (pc1 := 50) 1 d10_load_49 rfl rfl ?_
    refine V_aload_n (pc1 := 51) 0 d10_load_50 rfl rfl ?_
    refine V_getr (pc1 := 54) ly0 (lt305 rfl) f10_44 (fun _ => rfl) rf0_6 d10_load_51 rfl ?_
    refine V_iload (pc1 := 56) 3 d10_load_54 rfl rfl ?_
    refine V_vi (pc1 := 59) (w9_letterAt g  i t ht8 (by omega) I L ht) ly293 (lt305 rfl) s9_letterAt l10_267 rfl rfl ⟨Nat.le_of_ble_eq_true rfl, Nat.le_of_ble_eq_true rfl, Nat.le_refl _, Nat.le_refl _⟩ (Nat.le_of_ble_eq_true rfl) rfl d10_load_56 rfl ?_
    refine V_vi (pc1 := 62) (w7_take g  (r9_letterAt i I L)  I L ) ly294 (lt305 rfl) s7_take l10_270 rfl rfl ⟨Nat.le_of_ble_eq_true rfl, Nat.le_of_ble_eq_true rfl, Nat.le_refl _, Nat.le_refl _⟩ (Nat.le_of_ble_eq_true rfl) rfl d10_load_59 rfl ?_
    refine V_pop (pc1 := 63) d10_load_62 rfl rfl ?_
    refine V_aload_n (pc1 := 64) 1 d10_load_63 rfl rfl ?_
    refine V_vi (pc1 := 67) (w7_isBetweenRequests g    (i7_take (r9_letterAt i I L) I L) L ) ly294 (lt305 rfl) s7_isBetweenRequests l10_273 rfl rfl ⟨Nat.le_of_ble_eq_true rfl, Nat.le_of_ble_eq_true rfl, Nat.le_refl _, Nat.le_refl _⟩ (Nat.le_of_ble_eq_true rfl) rfl d10_load_64 rfl ?_
    have key4 : ∀ (z81_3 : Int32), z81_3 = (if (r7_isBetweenRequests (i7_take (r9_letterAt i I L) I L) L) = true then (if (r10_requestRead (i7_take (r9_letterAt i I L) I L) L) = true then z + 1 else z) else z) → ∀ (zI81 : Nat → Nat → Int32), zI81 = (if (r7_isBetweenRequests (i7_take (r9_letterAt i I L) I L) L) = true then i10_requestRead (i7_take (r9_letterAt i I L) I L) L else i7_take (r9_letterAt i I L) I L) → ∀ (lv : List (Nat × Value)), lvsub [(3, .int z81_3), (0, .ref (xA g 0)), (2, .ref (xA g 294)), (4, .int (nI i))] lv → V g (k10_load, 7, 0, 0) 0 0 81 lv [] (zI81, L, R0, 305) Q := by
      intro z81_3 ez81_3 zI81 ezI81
      subst ez81_3
      subst ezI81
      intro lv hlv
      refine V_lv hlv ?_
      refine V_iinc (pc1 := 84) 3 (v := nI (i + 1)) d10_load_81 rfl (nI_1 _) (Nat.le_of_ble_eq_true rfl) rfl rfl ?_
      refine V_goto (tgt := 37) d10_load_84 (by decide) ?_
      refine V_lv (lv1 := [(0, .ref (xA g 0)), (2, .ref (xA g 294)), (3, .int (if (r7_isBetweenRequests (i7_take (r9_letterAt i I L) I L) L) = true then (if (r10_requestRead (i7_take (r9_letterAt i I L) I L) L) = true then z + 1 else z) else z)), (4, .int (nI (i + 1)))]) (lvsub_p [2, 3, 1, 0] rfl) ?_
      have hq2 := hq
      simp only [r10_load_37, i10_load_37] at hq2
      exact ih (i + 1) (if (r7_isBetweenRequests (i7_take (r9_letterAt i I L) I L) L) = true then (if (r10_requestRead (i7_take (r9_letterAt i I L) I L) L) = true then z + 1 else z) else z) (if (r7_isBetweenRequests (i7_take (r9_letterAt i I L) I L) L) = true then i10_requestRead (i7_take (r9_letterAt i I L) I L) L else i7_take (r9_letterAt i I L) I L) L (by (repeat' split) <;> first | exact bV_rr (bV_hi hv (fun a ha => x7_take (show (a : Nat) ≠ 294 by omega))) | exact bV_hi hv (fun a ha => x7_take (show (a : Nat) ≠ 294 by omega))) (by (repeat' split) <;> first | exact ((congrFun (tx_rr (by omega)) _).trans (congrFun (x7_take (show (293 : Nat) ≠ 294 by decide)) _)).trans ht | exact (congrFun (x7_take (show (293 : Nat) ≠ 294 by decide)) _).trans ht) (by omega) Q hq2
    refine V_beq (tgt := 81) (pc1 := 70) d10_load_67 (by decide) rfl (fun h2 => ?_) (fun h2 => ?_)
    · skip
      exact key4 _ (by first | rfl | (simp only [if_neg h2]; done) | (simp only [if_neg h2]; rfl)) _ (by first | rfl | (simp only [if_neg h2]; done) | (simp only [if_neg h2]; rfl)) _ (lvsub_p [2, 0, 1, 3] rfl)
    · skip
      refine V_aload_n (pc1 := 71) 0 d10_load_70 rfl rfl ?_
      refine V_aload_n (pc1 := 72) 1 d10_load_71 rfl rfl ?_
      refine V_vi (pc1 := 75) (w10_requestRead g    (i7_take (r9_letterAt i I L) I L) L (bV_hi hv (fun a ha => x7_take (show (a : Nat) ≠ 294 by omega)))) ly0 (lt305 rfl) s10_requestRead l10_276 rfl rfl ⟨Nat.le_of_ble_eq_true rfl, Nat.le_of_ble_eq_true rfl, Nat.le_refl _, Nat.le_refl _⟩ (Nat.le_of_ble_eq_true rfl) rfl d10_load_72 rfl ?_
      refine V_beq (tgt := 81) (pc1 := 78) d10_load_75 (by decide) rfl (fun h3 => ?_) (fun h3 => ?_)
      · skip
        exact key4 _ (by first | rfl | (simp only [if_pos h2, if_neg h3]; done) | (simp only [if_pos h2, if_neg h3]; rfl)) _ (by first | rfl | (simp only [if_pos h2, if_neg h3]; done) | (simp only [if_pos h2, if_neg h3]; rfl)) _ (lvsub_p [2, 0, 1, 3] rfl)
      · skip
        refine V_iinc (pc1 := 81) 2 (v := z + 1) d10_load_78 rfl rfl (Nat.le_of_ble_eq_true rfl) rfl rfl ?_
        exact key4 _ (by first | rfl | (simp only [if_pos h2, if_pos h3]; done) | (simp only [if_pos h2, if_pos h3]; rfl)) _ (by first | rfl | (simp only [if_pos h2, if_pos h3]; done) | (simp only [if_pos h2, if_pos h3]; rfl)) _ (lvsub_p [0, 1, 2, 3] rfl)
def r10_load (I : Nat → Nat → Int32) (L : Nat → Nat → Int64) : Int32 := (if r9_findFault I L = (-5) then r10_load_37  ((I 293 2).toNatClampNeg) 0 0 (i7_restart (i9_findFault I L) L) L else ((-1000) : Int32) - (r9_findFault I L))
def i10_load (I : Nat → Nat → Int32) (L : Nat → Nat → Int64) : Nat → Nat → Int32 := (if r9_findFault I L = (-5) then i10_load_37  ((I 293 2).toNatClampNeg) 0 0 (i7_restart (i9_findFault I L) L) L else i9_findFault I L)
set_option maxRecDepth 4000 in
theorem v10_load (g : GlT)  (t : Nat) (ht8 : t ≤ 120) (I : Nat → Nat → Int32) (L : Nat → Nat → Int64) (hv : bV 1 I) (ht : I 293 2 = nI t) (Q : Option Value → MemT → Prop) (hq : Q (some (.int (r10_load I L))) (i10_load I L, L, R0, 305)) : V g (k10_load, 7, 0, 0) 0 0 0 [(0, .ref (xA g 0))] [] (I, L, R0, 305) Q := by
  have ht3 : (I 293 2).toNatClampNeg = t := by rw [ht]; exact nI_clamp (by omega)
  refine V_aload_n (pc1 := 1) 0 d10_load_0 rfl rfl ?_
  refine V_getr (pc1 := 4) ly0 (lt305 rfl) f10_44 (fun _ => rfl) rf0_6 d10_load_1 rfl ?_
  refine V_vi (pc1 := 7) (w9_findFault g   t ht8 I L ht) ly293 (lt305 rfl) s9_findFault l10_255 rfl rfl ⟨Nat.le_of_ble_eq_true rfl, Nat.le_of_ble_eq_true rfl, Nat.le_refl _, Nat.le_refl _⟩ (Nat.le_of_ble_eq_true rfl) rfl d10_load_4 rfl ?_
  refine V_istore_n (pc1 := 8) d10_load_7 (Nat.le_of_ble_eq_true rfl) rfl rfl ?_
  refine V_iload_n (pc1 := 9) 0 d10_load_8 rfl rfl ?_
  refine V_bipush (pc1 := 11) d10_load_9 vb_m5 rfl ?_
  refine V_icmp_eq (tgt := 20) (pc1 := 14) d10_load_11 (by decide) rfl (fun h1 => ?_) (fun h1 => ?_)
  · skip
    refine V_aload_n (pc1 := 21) 1 d10_load_20 rfl rfl ?_
    refine V_getr (pc1 := 24) ly0 (lt305 rfl) f10_44 (fun _ => rfl) rf0_6 d10_load_21 rfl ?_
    refine V_getr (pc1 := 27) ly293 (lt305 rfl) f10_258 (fun _ => rfl) rf293_0 d10_load_24 rfl ?_
    refine V_astore_n (pc1 := 28) d10_load_27 (Nat.le_of_ble_eq_true rfl) rfl rfl ?_
    refine V_aload_n (pc1 := 29) 0 d10_load_28 rfl rfl ?_
    refine V_vv (pc1 := 32) (w7_restart g    (i9_findFault I L) L ) ly294 (lt305 rfl) s7_restart l10_262 rfl rfl ⟨Nat.le_of_ble_eq_true rfl, Nat.le_of_ble_eq_true rfl, Nat.le_refl _, Nat.le_refl _⟩ (Nat.le_of_ble_eq_true rfl) rfl d10_load_29 rfl ?_
    refine V_iconst (pc1 := 33) d10_load_32 vc_0 rfl ?_
    refine V_istore_n (pc1 := 34) d10_load_33 (Nat.le_of_ble_eq_true rfl) rfl rfl ?_
    refine V_iconst (pc1 := 35) d10_load_34 vc_0 rfl ?_
    refine V_istore (pc1 := 37) d10_load_35 (Nat.le_of_ble_eq_true rfl) rfl rfl ?_
    refine V_lv (lv1 := [(0, .ref (xA g 0)), (2, .ref (xA g 294)), (3, .int 0), (4, .int (nI 0))]) (lvsub_p [4, 2, 1, 0] rfl) ?_
    have hq2 := hq
    simp only [r10_load, i10_load, ht3, if_pos h1] at hq2
    exact t10_load_37 g   _ ht8 t 0 0 (i7_restart (i9_findFault I L) L) L (bV_hi hv (fun a ha => (x7_restart (show (a : Nat) ≠ 294 by omega)).trans (x9_findFault (show (a : Nat) ≠ 294 by omega)))) (((congrFun (x7_restart (I := (i9_findFault I L)) (L := L) (show (293 : Nat) ≠ 294 by decide)) _).trans (congrFun (x9_findFault (I := I) (L := L) (show (293 : Nat) ≠ 294 by decide)) _)).trans ht) (by omega) Q hq2
  · skip
    refine V_sipush (pc1 := 17) d10_load_14 vs_m1000 rfl ?_
    refine V_iload_n (pc1 := 18) 0 d10_load_17 rfl rfl ?_
    refine V_isub (pc1 := 19) d10_load_18 rfl ?_
    refine V_iret rfl d10_load_19 (Nat.zero_le _) (Nat.zero_le _) ?_
    have hq2 := hq
    simp only [r10_load, i10_load, ht3, if_neg h1] at hq2
    exact hq2
theorem w10_load (g : GlT)  (t : Nat) (ht8 : t ≤ 120) (I : Nat → Nat → Int32) (L : Nat → Nat → Int64) (hv : bV 1 I) (ht : I 293 2 = nI t) : Call g (k10_load, 7, 0, 0) [.ref (xA g 0)] (I, L, R0, 305) (Qi (r10_load I L) (i10_load I L) L) := Call.of (by decide) (Nat.le_of_ble_eq_true rfl) rfl (v10_load g   t ht8 I L hv ht _ (And.intro rfl rfl))


def r10_save (x : Int32) (I : Nat → Nat → Int32) (L : Nat → Nat → Int64) : Int32 := (if (r10_isSlot x) = true then I 1 4 else (-2))
def i10_save (x : Int32) (I : Nat → Nat → Int32) (L : Nat → Nat → Int64) : Nat → Nat → Int32 := (if (r10_isSlot x) = true then uI (i0_copyFrom (144 + 71 * (x.toNatClampNeg)) 1 I L) 286 (x.toNatClampNeg) 1 else I)
def m10_save (x : Int32) (I : Nat → Nat → Int32) (L : Nat → Nat → Int64) : Nat → Nat → Int64 := (if (r10_isSlot x) = true then m0_copyFrom (144 + 71 * (x.toNatClampNeg)) 1 I L else L)
set_option maxRecDepth 4000 in
theorem v10_save (g : GlT)  (x : Int32) (I : Nat → Nat → Int32) (L : Nat → Nat → Int64) (hv : bV 1 I) (hb : ∀ i, i < 4 → nB (1 + 3 + 16 * i) I) (Q : Option Value → MemT → Prop) (hq : Q (some (.int (r10_save x I L))) (i10_save x I L, m10_save x I L, R0, 305)) : V g (k10_save, 4, 0, 0) 0 0 0 [(0, .ref (xA g 0)), (1, .int x)] [] (I, L, R0, 305) Q := by
  refine V_iload_n (pc1 := 1) 1 d10_save_0 rfl rfl ?_
  refine V_si (pc1 := 4) (w10_isSlot g  x  I L ) s10_isSlot l10_280 rfl rfl ⟨Nat.le_of_ble_eq_true rfl, Nat.le_of_ble_eq_true rfl, Nat.le_refl _, Nat.le_refl _⟩ (Nat.le_of_ble_eq_true rfl) rfl d10_save_1 rfl ?_
  refine V_bne (tgt := 10) (pc1 := 7) d10_save_4 (by decide) rfl (fun h1 => ?_) (fun h1 => ?_)
  · skip
    obtain ⟨si, hsi, rfl⟩ := isSlot_nat h1
    have hsi3 : (nI si).toNatClampNeg = si := nI_clamp (by omega)
    refine V_aload_n (pc1 := 11) 0 d10_save_10 rfl rfl ?_
    refine V_getr (pc1 := 14) ly0 (lt305 rfl) f10_19 (fun _ => rfl) rf0_2 d10_save_11 rfl ?_
    refine V_iload_n (pc1 := 15) 1 d10_save_14 rfl rfl ?_
    refine V_aald (pc1 := 16) si ((144 + 71 * si)) ly143 (Or.inl rfl) (lt305 rfl) rfl hsi (rfS hsi) d10_save_15 rfl ?_
    refine V_aload_n (pc1 := 17) 0 d10_save_16 rfl rfl ?_
    refine V_getr (pc1 := 20) ly0 (lt305 rfl) f10_10 (fun _ => rfl) rf0_0 d10_save_17 rfl ?_
    refine V_vv (pc1 := 23) (w0_copyFrom g (okSi hsi) okB1  (by omega) I L hv hb) (bs_l0 (okSi hsi)) (bs_b0 (okSi hsi)) s0_copyFrom l10_222 rfl rfl ⟨Nat.le_of_ble_eq_true rfl, Nat.le_of_ble_eq_true rfl, Nat.le_refl _, Nat.le_refl _⟩ (Nat.le_of_ble_eq_true rfl) rfl d10_save_20 rfl ?_
    refine V_aload_n (pc1 := 24) 0 d10_save_23 rfl rfl ?_
    refine V_getr (pc1 := 27) ly0 (lt305 rfl) f10_23 (fun _ => rfl) rf0_3 d10_save_24 rfl ?_
    refine V_iload_n (pc1 := 28) 1 d10_save_27 rfl rfl ?_
    refine V_iconst (pc1 := 29) d10_save_28 vc_1 rfl ?_
    refine V_zast (pc1 := 30) si ly286 (lt305 rfl) rfl hsi (Or.inr rfl) d10_save_29 rfl rfl ?_
    refine V_aload_n (pc1 := 31) 0 d10_save_30 rfl rfl ?_
    refine V_getr (pc1 := 34) ly0 (lt305 rfl) f10_10 (fun _ => rfl) rf0_0 d10_save_31 rfl ?_
    refine V_geti (pc1 := 37) ly1 (lt305 rfl) f10_143 (fun _ => rfl) ((congrFun (uI_off (i0_copyFrom (144 + 71 * si) 1 I L) si 1 (show (1 : Nat) ≠ 286 by decide)) _).trans (congrFun (x0_copyFrom (I := I) (L := L) (by omega)) _)) d10_save_34 rfl ?_
    refine V_iret rfl d10_save_37 (Nat.zero_le _) (Nat.zero_le _) ?_
    have hq2 := hq
    simp only [r10_save, i10_save, m10_save, if_pos h1, hsi3] at hq2
    exact hq2
  · skip
    refine V_bipush (pc1 := 9) d10_save_7 vb_m2 rfl ?_
    refine V_iret rfl d10_save_9 (Nat.zero_le _) (Nat.zero_le _) ?_
    have hq2 := hq
    simp only [r10_save, i10_save, m10_save, if_neg h1] at hq2
    exact hq2
theorem w10_save (g : GlT)  (x : Int32) (I : Nat → Nat → Int32) (L : Nat → Nat → Int64) (hv : bV 1 I) (hb : ∀ i, i < 4 → nB (1 + 3 + 16 * i) I) : Call g (k10_save, 4, 0, 0) [.ref (xA g 0), .int x] (I, L, R0, 305) (Qi (r10_save x I L) (i10_save x I L) (m10_save x I L)) := Call.of (by decide) (Nat.le_of_ble_eq_true rfl) rfl (v10_save g  x  I L hv hb _ (And.intro rfl rfl))


def r10_restore (x : Int32) (I : Nat → Nat → Int32) (L : Nat → Nat → Int64) : Int32 := (if (r10_isSlot x) = true then (if I 286 (x.toNatClampNeg) = 0 then (-5) else (i0_copyFrom 1 (144 + 71 * (x.toNatClampNeg)) I L) 1 4) else (-2))
def i10_restore (x : Int32) (I : Nat → Nat → Int32) (L : Nat → Nat → Int64) : Nat → Nat → Int32 := (if (r10_isSlot x) = true then (if I 286 (x.toNatClampNeg) = 0 then I else i0_copyFrom 1 (144 + 71 * (x.toNatClampNeg)) I L) else I)
def m10_restore (x : Int32) (I : Nat → Nat → Int32) (L : Nat → Nat → Int64) : Nat → Nat → Int64 := (if (r10_isSlot x) = true then (if I 286 (x.toNatClampNeg) = 0 then L else m0_copyFrom 1 (144 + 71 * (x.toNatClampNeg)) I L) else L)
set_option maxRecDepth 4000 in
theorem v10_restore (g : GlT)  (x : Int32) (I : Nat → Nat → Int32) (L : Nat → Nat → Int64) (hvs : ∀ i, i < 2 → bV (144 + 71 * i) I) (hbs : ∀ j, j < 2 → ∀ i, i < 4 → nB (144 + 71 * j + 3 + 16 * i) I) (Q : Option Value → MemT → Prop) (hq : Q (some (.int (r10_restore x I L))) (i10_restore x I L, m10_restore x I L, R0, 305)) : V g (k10_restore, 4, 0, 0) 0 0 0 [(0, .ref (xA g 0)), (1, .int x)] [] (I, L, R0, 305) Q := by
  refine V_iload_n (pc1 := 1) 1 d10_restore_0 rfl rfl ?_
  refine V_si (pc1 := 4) (w10_isSlot g  x  I L ) s10_isSlot l10_280 rfl rfl ⟨Nat.le_of_ble_eq_true rfl, Nat.le_of_ble_eq_true rfl, Nat.le_refl _, Nat.le_refl _⟩ (Nat.le_of_ble_eq_true rfl) rfl d10_restore_1 rfl ?_
  refine V_bne (tgt := 10) (pc1 := 7) d10_restore_4 (by decide) rfl (fun h1 => ?_) (fun h1 => ?_)
  · skip
    obtain ⟨si, hsi, rfl⟩ := isSlot_nat h1
    have hsi3 : (nI si).toNatClampNeg = si := nI_clamp (by omega)
    refine V_aload_n (pc1 := 11) 0 d10_restore_10 rfl rfl ?_
    refine V_getr (pc1 := 14) ly0 (lt305 rfl) f10_23 (fun _ => rfl) rf0_3 d10_restore_11 rfl ?_
    refine V_iload_n (pc1 := 15) 1 d10_restore_14 rfl rfl ?_
    refine V_zald2 (pc1 := 16) si ly286 (lt305 rfl) rfl hsi rfl d10_restore_15 rfl ?_
    refine V_if_ne (tgt := 22) (pc1 := 19) d10_restore_16 (by decide) rfl (fun h2 => ?_) (fun h2 => ?_)
    · skip
      refine V_aload_n (pc1 := 23) 0 d10_restore_22 rfl rfl ?_
      refine V_getr (pc1 := 26) ly0 (lt305 rfl) f10_10 (fun _ => rfl) rf0_0 d10_restore_23 rfl ?_
      refine V_aload_n (pc1 := 27) 0 d10_restore_26 rfl rfl ?_
      refine V_getr (pc1 := 30) ly0 (lt305 rfl) f10_19 (fun _ => rfl) rf0_2 d10_restore_27 rfl ?_
      refine V_iload_n (pc1 := 31) 1 d10_restore_30 rfl rfl ?_
      refine V_aald (pc1 := 32) si ((144 + 71 * si)) ly143 (Or.inl rfl) (lt305 rfl) rfl hsi (rfS hsi) d10_restore_31 rfl ?_
      refine V_vv (pc1 := 35) (w0_copyFrom g okB1 (okSi hsi)  (by omega) I L (hvs si hsi) (hbs si hsi)) ly1 (lt305 rfl) s0_copyFrom l10_222 rfl rfl ⟨Nat.le_of_ble_eq_true rfl, Nat.le_of_ble_eq_true rfl, Nat.le_refl _, Nat.le_refl _⟩ (Nat.le_of_ble_eq_true rfl) rfl d10_restore_32 rfl ?_
      refine V_aload_n (pc1 := 36) 0 d10_restore_35 rfl rfl ?_
      refine V_getr (pc1 := 39) ly0 (lt305 rfl) f10_10 (fun _ => rfl) rf0_0 d10_restore_36 rfl ?_
      refine V_geti (pc1 := 42) ly1 (lt305 rfl) f10_143 (fun _ => rfl) rfl d10_restore_39 rfl ?_
      refine V_iret rfl d10_restore_42 (Nat.zero_le _) (Nat.zero_le _) ?_
      have hq2 := hq
      simp only [r10_restore, i10_restore, m10_restore, if_pos h1, hsi3, if_neg h2] at hq2
      exact hq2
    · skip
      refine V_bipush (pc1 := 21) d10_restore_19 vb_m5 rfl ?_
      refine V_iret rfl d10_restore_21 (Nat.zero_le _) (Nat.zero_le _) ?_
      have hq2 := hq
      simp only [r10_restore, i10_restore, m10_restore, if_pos h1, hsi3, if_pos h2] at hq2
      exact hq2
  · skip
    refine V_bipush (pc1 := 9) d10_restore_7 vb_m2 rfl ?_
    refine V_iret rfl d10_restore_9 (Nat.zero_le _) (Nat.zero_le _) ?_
    have hq2 := hq
    simp only [r10_restore, i10_restore, m10_restore, if_neg h1] at hq2
    exact hq2
theorem w10_restore (g : GlT)  (x : Int32) (I : Nat → Nat → Int32) (L : Nat → Nat → Int64) (hvs : ∀ i, i < 2 → bV (144 + 71 * i) I) (hbs : ∀ j, j < 2 → ∀ i, i < 4 → nB (144 + 71 * j + 3 + 16 * i) I) : Call g (k10_restore, 4, 0, 0) [.ref (xA g 0), .int x] (I, L, R0, 305) (Qi (r10_restore x I L) (i10_restore x I L) (m10_restore x I L)) := Call.of (by decide) (Nat.le_of_ble_eq_true rfl) rfl (v10_restore g  x  I L hvs hbs _ (And.intro rfl rfl))


def r10_mixFrames_58 (k : Nat) (c : Nat) (k2 : Nat) (c2 : Nat) (h : Int64) : Nat → Nat → Int64 → (Nat → Nat → Int32) → (Nat → Nat → Int64) → Int64
  | 0, i, z, I, L => z
  | n + 1, i, z, I, L => r10_mixFrames_58 k c k2 c2 h n (i + 1) (r10_mix (r10_mix (r10_mix z ((r3_keyAt k2 c2 (nI i) I L).toInt64)) ((r3_lengthAt k2 c2 (nI i) I L).toInt64)) ((r3_dataAt k2 c2 (nI i) I L).toInt64)) I L
set_option maxRecDepth 4000 in
theorem t10_mixFrames_58 (g : GlT) {k : Nat} {c : Nat} {k2 : Nat} {c2 : Nat} (hk : okF k c) (hk2 : okF k2 c2) (h : Int64) (s : Nat) (hc : s ≤ c) (s2 : Nat) (hc2 : s2 ≤ c2) : ∀ (n i : Nat) (z : Int64) (I : Nat → Nat → Int32) (L : Nat → Nat → Int64), (hs : I k 3 = nI s) → (hs2 : I k2 3 = nI s2) → (hn : i + n = s2) → ∀ (Q : Option Value → MemT → Prop), Q (some (.long (r10_mixFrames_58 k c k2 c2 h n i z I L))) (I, L, R0, 305) → V g (k10_mixFrames, 3, 0, 0) 0 0 58 [(2, .ref (xA g k)), (3, .ref (xA g k2)), (4, .long z), (6, .int (nI i))] [] (I, L, R0, 305) Q := by
  intro n
  induction n with
  | zero =>
    intro i z I L hs hs2 hn Q hq
    have hs3 : (I k 3).toNatClampNeg = s := by rw [hs]; exact nI_clamp (by have := fl_cap hk; omega)
    have hs4 : (I k2 3).toNatClampNeg = s2 := by rw [hs2]; exact nI_clamp (by have := fl_cap hk2; omega)
    refine V_iload (pc1 := 60) 3 d10_mixFrames_58 rfl rfl ?_
    refine V_aload_n (pc1 := 61) 1 d10_mixFrames_60 rfl rfl ?_
    refine V_geti (pc1 := 64) (fl_l0 hk2) (fl_b0 hk2) f10_113 (fun _ => rfl) hs2 d10_mixFrames_61 rfl ?_
    refine V_icmp_ge (tgt := 115) (pc1 := 67) d10_mixFrames_64 (by decide) rfl (fun _ => ?_) (fun h1 => absurd (by have := fl_cap hk2; exact nI_le (by omega) (by omega)) h1)
    refine V_lload (pc1 := 117) 2 d10_mixFrames_115 rfl rfl ?_
    refine V_lret rfl d10_mixFrames_117 (Nat.zero_le _) (Nat.zero_le _) ?_
    have hq2 := hq
    simp only [r10_mixFrames_58, hs3, hs4] at hq2
    exact hq2
  | succ n ih =>
    intro i z I L hs hs2 hn Q hq
    have hs3 : (I k 3).toNatClampNeg = s := by rw [hs]; exact nI_clamp (by have := fl_cap hk; omega)
    have hs4 : (I k2 3).toNatClampNeg = s2 := by rw [hs2]; exact nI_clamp (by have := fl_cap hk2; omega)
    refine V_iload (pc1 := 60) 3 d10_mixFrames_58 rfl rfl ?_
    refine V_aload_n (pc1 := 61) 1 d10_mixFrames_60 rfl rfl ?_
    refine V_geti (pc1 := 64) (fl_l0 hk2) (fl_b0 hk2) f10_113 (fun _ => rfl) hs2 d10_mixFrames_61 rfl ?_
    refine V_icmp_ge (tgt := 115) (pc1 := 67) d10_mixFrames_64 (by decide) rfl (fun h1 => absurd h1 (by have := fl_cap hk2; exact nI_ge (by omega) (by omega))) (fun _ => ?_)
    refine V_lload (pc1 := 69) 2 d10_mixFrames_67 rfl rfl ?_
    refine V_aload_n (pc1 := 70) 1 d10_mixFrames_69 rfl rfl ?_
    refine V_iload (pc1 := 72) 3 d10_mixFrames_70 rfl rfl ?_
    refine V_vi (pc1 := 75) (w3_keyAt g hk2 (nI i) s2 hc2 I L hs2) (fl_l0 hk2) (fl_b0 hk2) s3_keyAt l10_204 rfl rfl ⟨Nat.le_of_ble_eq_true rfl, Nat.le_of_ble_eq_true rfl, Nat.le_refl _, Nat.le_refl _⟩ (Nat.le_of_ble_eq_true rfl) rfl d10_mixFrames_72 rfl ?_
    refine V_i2l (pc1 := 76) d10_mixFrames_75 rfl ?_
    refine V_sl (pc1 := 79) (w10_mix g  z ((r3_keyAt k2 c2 (nI i) I L).toInt64)  I L ) s10_mix l10_285 rfl rfl ⟨Nat.le_of_ble_eq_true rfl, Nat.le_of_ble_eq_true rfl, Nat.le_refl _, Nat.le_refl _⟩ (Nat.le_of_ble_eq_true rfl) rfl d10_mixFrames_76 rfl ?_
    refine V_lstore (pc1 := 81) d10_mixFrames_79 (Nat.le_of_ble_eq_true rfl) rfl rfl ?_
    refine V_lload (pc1 := 83) 0 d10_mixFrames_81 rfl rfl ?_
    refine V_aload_n (pc1 := 84) 2 d10_mixFrames_83 rfl rfl ?_
    refine V_iload (pc1 := 86) 3 d10_mixFrames_84 rfl rfl ?_
    refine V_vi (pc1 := 89) (w3_lengthAt g hk2 (nI i) s2 hc2 I L hs2) (fl_l0 hk2) (fl_b0 hk2) s3_lengthAt l10_210 rfl rfl ⟨Nat.le_of_ble_eq_true rfl, Nat.le_of_ble_eq_true rfl, Nat.le_refl _, Nat.le_refl _⟩ (Nat.le_of_ble_eq_true rfl) rfl d10_mixFrames_86 rfl ?_
    refine V_i2l (pc1 := 90) d10_mixFrames_89 rfl ?_
    refine V_sl (pc1 := 93) (w10_mix g  (r10_mix z ((r3_keyAt k2 c2 (nI i) I L).toInt64)) ((r3_lengthAt k2 c2 (nI i) I L).toInt64)  I L ) s10_mix l10_285 rfl rfl ⟨Nat.le_of_ble_eq_true rfl, Nat.le_of_ble_eq_true rfl, Nat.le_refl _, Nat.le_refl _⟩ (Nat.le_of_ble_eq_true rfl) rfl d10_mixFrames_90 rfl ?_
    refine V_lstore (pc1 := 95) d10_mixFrames_93 (Nat.le_of_ble_eq_true rfl) rfl rfl ?_
    refine V_lload (pc1 := 97) 0 d10_mixFrames_95 rfl rfl ?_
    refine V_aload_n (pc1 := 98) 2 d10_mixFrames_97 rfl rfl ?_
    refine V_iload (pc1 := 100) 3 d10_mixFrames_98 rfl rfl ?_
    refine V_vi (pc1 := 103) (w3_dataAt g hk2 (nI i) s2 hc2 I L hs2) (fl_l0 hk2) (fl_b0 hk2) s3_dataAt l10_213 rfl rfl ⟨Nat.le_of_ble_eq_true rfl, Nat.le_of_ble_eq_true rfl, Nat.le_refl _, Nat.le_refl _⟩ (Nat.le_of_ble_eq_true rfl) rfl d10_mixFrames_100 rfl ?_
    refine V_i2l (pc1 := 104) d10_mixFrames_103 rfl ?_
    refine V_sl (pc1 := 107) (w10_mix g  (r10_mix (r10_mix z ((r3_keyAt k2 c2 (nI i) I L).toInt64)) ((r3_lengthAt k2 c2 (nI i) I L).toInt64)) ((r3_dataAt k2 c2 (nI i) I L).toInt64)  I L ) s10_mix l10_285 rfl rfl ⟨Nat.le_of_ble_eq_true rfl, Nat.le_of_ble_eq_true rfl, Nat.le_refl _, Nat.le_refl _⟩ (Nat.le_of_ble_eq_true rfl) rfl d10_mixFrames_104 rfl ?_
    refine V_lstore (pc1 := 109) d10_mixFrames_107 (Nat.le_of_ble_eq_true rfl) rfl rfl ?_
    refine V_iinc (pc1 := 112) 3 (v := nI (i + 1)) d10_mixFrames_109 rfl (nI_1 _) (Nat.le_of_ble_eq_true rfl) rfl rfl ?_
    refine V_goto (tgt := 58) d10_mixFrames_112 (by decide) ?_
    refine V_lv (lv1 := [(2, .ref (xA g k)), (3, .ref (xA g k2)), (4, .long (r10_mix (r10_mix (r10_mix z ((r3_keyAt k2 c2 (nI i) I L).toInt64)) ((r3_lengthAt k2 c2 (nI i) I L).toInt64)) ((r3_dataAt k2 c2 (nI i) I L).toInt64))), (6, .int (nI (i + 1)))]) (lvsub_p [2, 3, 1, 0] rfl) ?_
    have hq2 := hq
    simp only [r10_mixFrames_58, hs3, hs4] at hq2
    exact ih (i + 1) (r10_mix (r10_mix (r10_mix z ((r3_keyAt k2 c2 (nI i) I L).toInt64)) ((r3_lengthAt k2 c2 (nI i) I L).toInt64)) ((r3_dataAt k2 c2 (nI i) I L).toInt64)) I L hs hs2 (by omega) Q hq2
def r10_mixFrames_14 (k : Nat) (c : Nat) (k2 : Nat) (c2 : Nat) (h : Int64) : Nat → Nat → Int64 → (Nat → Nat → Int32) → (Nat → Nat → Int64) → Int64
  | 0, i, z, I, L => r10_mixFrames_58 k c k2 c2 h ((I k2 3).toNatClampNeg) 0 (r10_mix z ((I k2 3).toInt64)) I L
  | n + 1, i, z, I, L => r10_mixFrames_14 k c k2 c2 h n (i + 1) (r10_mix z ((r3_keyAt k c (nI i) I L).toInt64)) I L
set_option maxRecDepth 4000 in
theorem t10_mixFrames_14 (g : GlT) {k : Nat} {c : Nat} {k2 : Nat} {c2 : Nat} (hk : okF k c) (hk2 : okF k2 c2) (h : Int64) (s : Nat) (hc : s ≤ c) (s2 : Nat) (hc2 : s2 ≤ c2) : ∀ (n i : Nat) (z : Int64) (I : Nat → Nat → Int32) (L : Nat → Nat → Int64), (hs : I k 3 = nI s) → (hs2 : I k2 3 = nI s2) → (hn : i + n = s) → ∀ (Q : Option Value → MemT → Prop), Q (some (.long (r10_mixFrames_14 k c k2 c2 h n i z I L))) (I, L, R0, 305) → V g (k10_mixFrames, 3, 0, 0) 0 0 14 [(2, .ref (xA g k)), (3, .ref (xA g k2)), (4, .long z), (6, .int (nI i))] [] (I, L, R0, 305) Q := by
  intro n
  induction n with
  | zero =>
    intro i z I L hs hs2 hn Q hq
    have hs3 : (I k 3).toNatClampNeg = s := by rw [hs]; exact nI_clamp (by have := fl_cap hk; omega)
    have hs4 : (I k2 3).toNatClampNeg = s2 := by rw [hs2]; exact nI_clamp (by have := fl_cap hk2; omega)
    refine V_iload (pc1 := 16) 3 d10_mixFrames_14 rfl rfl ?_
    refine V_aload_n (pc1 := 17) 0 d10_mixFrames_16 rfl rfl ?_
    refine V_geti (pc1 := 20) (fl_l0 hk) (fl_b0 hk) f10_113 (fun _ => rfl) hs d10_mixFrames_17 rfl ?_
    refine V_icmp_ge (tgt := 43) (pc1 := 23) d10_mixFrames_20 (by decide) rfl (fun _ => ?_) (fun h1 => absurd (by have := fl_cap hk; exact nI_le (by omega) (by omega)) h1)
    refine V_lload (pc1 := 45) 2 d10_mixFrames_43 rfl rfl ?_
    refine V_aload_n (pc1 := 46) 1 d10_mixFrames_45 rfl rfl ?_
    refine V_geti (pc1 := 49) (fl_l0 hk2) (fl_b0 hk2) f10_113 (fun _ => rfl) rfl d10_mixFrames_46 rfl ?_
    refine V_i2l (pc1 := 50) d10_mixFrames_49 rfl ?_
    refine V_sl (pc1 := 53) (w10_mix g  z ((I k2 3).toInt64)  I L ) s10_mix l10_285 rfl rfl ⟨Nat.le_of_ble_eq_true rfl, Nat.le_of_ble_eq_true rfl, Nat.le_refl _, Nat.le_refl _⟩ (Nat.le_of_ble_eq_true rfl) rfl d10_mixFrames_50 rfl ?_
    refine V_lstore (pc1 := 55) d10_mixFrames_53 (Nat.le_of_ble_eq_true rfl) rfl rfl ?_
    refine V_iconst (pc1 := 56) d10_mixFrames_55 vc_0 rfl ?_
    refine V_istore (pc1 := 58) d10_mixFrames_56 (Nat.le_of_ble_eq_true rfl) rfl rfl ?_
    refine V_lv (lv1 := [(2, .ref (xA g k)), (3, .ref (xA g k2)), (4, .long (r10_mix z ((I k2 3).toInt64))), (6, .int (nI 0))]) (lvsub_p [2, 3, 1, 0] rfl) ?_
    have hq2 := hq
    simp only [r10_mixFrames_14, hs3, hs4] at hq2
    exact t10_mixFrames_58 g hk hk2 _ _ hc s2 hc2 s2 0 (r10_mix z ((I k2 3).toInt64)) I L hs hs2 (by omega) Q hq2
  | succ n ih =>
    intro i z I L hs hs2 hn Q hq
    have hs3 : (I k 3).toNatClampNeg = s := by rw [hs]; exact nI_clamp (by have := fl_cap hk; omega)
    have hs4 : (I k2 3).toNatClampNeg = s2 := by rw [hs2]; exact nI_clamp (by have := fl_cap hk2; omega)
    refine V_iload (pc1 := 16) 3 d10_mixFrames_14 rfl rfl ?_
    refine V_aload_n (pc1 := 17) 0 d10_mixFrames_16 rfl rfl ?_
    refine V_geti (pc1 := 20) (fl_l0 hk) (fl_b0 hk) f10_113 (fun _ => rfl) hs d10_mixFrames_17 rfl ?_
    refine V_icmp_ge (tgt := 43) (pc1 := 23) d10_mixFrames_20 (by decide) rfl (fun h1 => absurd h1 (by have := fl_cap hk; exact nI_ge (by omega) (by omega))) (fun _ => ?_)
    refine V_lload (pc1 := 25) 2 d10_mixFrames_23 rfl rfl ?_
    refine V_aload_n (pc1 := 26) 0 d10_mixFrames_25 rfl rfl ?_
    refine V_iload (pc1 := 28) 3 d10_mixFrames_26 rfl rfl ?_
    refine V_vi (pc1 := 31) (w3_keyAt g hk (nI i) s hc I L hs) (fl_l0 hk) (fl_b0 hk) s3_keyAt l10_204 rfl rfl ⟨Nat.le_of_ble_eq_true rfl, Nat.le_of_ble_eq_true rfl, Nat.le_refl _, Nat.le_refl _⟩ (Nat.le_of_ble_eq_true rfl) rfl d10_mixFrames_28 rfl ?_
    refine V_i2l (pc1 := 32) d10_mixFrames_31 rfl ?_
    refine V_sl (pc1 := 35) (w10_mix g  z ((r3_keyAt k c (nI i) I L).toInt64)  I L ) s10_mix l10_285 rfl rfl ⟨Nat.le_of_ble_eq_true rfl, Nat.le_of_ble_eq_true rfl, Nat.le_refl _, Nat.le_refl _⟩ (Nat.le_of_ble_eq_true rfl) rfl d10_mixFrames_32 rfl ?_
    refine V_lstore (pc1 := 37) d10_mixFrames_35 (Nat.le_of_ble_eq_true rfl) rfl rfl ?_
    refine V_iinc (pc1 := 40) 3 (v := nI (i + 1)) d10_mixFrames_37 rfl (nI_1 _) (Nat.le_of_ble_eq_true rfl) rfl rfl ?_
    refine V_goto (tgt := 14) d10_mixFrames_40 (by decide) ?_
    refine V_lv (lv1 := [(2, .ref (xA g k)), (3, .ref (xA g k2)), (4, .long (r10_mix z ((r3_keyAt k c (nI i) I L).toInt64))), (6, .int (nI (i + 1)))]) (lvsub_p [2, 3, 1, 0] rfl) ?_
    have hq2 := hq
    simp only [r10_mixFrames_14, hs3, hs4] at hq2
    exact ih (i + 1) (r10_mix z ((r3_keyAt k c (nI i) I L).toInt64)) I L hs hs2 (by omega) Q hq2
def r10_mixFrames (k : Nat) (c : Nat) (k2 : Nat) (c2 : Nat) (h : Int64) (I : Nat → Nat → Int32) (L : Nat → Nat → Int64) : Int64 := r10_mixFrames_14 k c k2 c2 h ((I k 3).toNatClampNeg) 0 (r10_mix h ((I k 3).toInt64)) I L
set_option maxRecDepth 4000 in
theorem v10_mixFrames (g : GlT) {k : Nat} {c : Nat} {k2 : Nat} {c2 : Nat} (hk : okF k c) (hk2 : okF k2 c2) (h : Int64) (s : Nat) (hc : s ≤ c) (s2 : Nat) (hc2 : s2 ≤ c2) (I : Nat → Nat → Int32) (L : Nat → Nat → Int64) (hs : I k 3 = nI s) (hs2 : I k2 3 = nI s2) (Q : Option Value → MemT → Prop) (hq : Q (some (.long (r10_mixFrames k c k2 c2 h I L))) (I, L, R0, 305)) : V g (k10_mixFrames, 3, 0, 0) 0 0 0 [(0, .long h), (2, .ref (xA g k)), (3, .ref (xA g k2))] [] (I, L, R0, 305) Q := by
  have hs3 : (I k 3).toNatClampNeg = s := by rw [hs]; exact nI_clamp (by have := fl_cap hk; omega)
  have hs4 : (I k2 3).toNatClampNeg = s2 := by rw [hs2]; exact nI_clamp (by have := fl_cap hk2; omega)
  refine V_lload_n (pc1 := 1) 0 d10_mixFrames_0 rfl rfl ?_
  refine V_aload_n (pc1 := 2) 1 d10_mixFrames_1 rfl rfl ?_
  refine V_geti (pc1 := 5) (fl_l0 hk) (fl_b0 hk) f10_113 (fun _ => rfl) rfl d10_mixFrames_2 rfl ?_
  refine V_i2l (pc1 := 6) d10_mixFrames_5 rfl ?_
  refine V_sl (pc1 := 9) (w10_mix g  h ((I k 3).toInt64)  I L ) s10_mix l10_285 rfl rfl ⟨Nat.le_of_ble_eq_true rfl, Nat.le_of_ble_eq_true rfl, Nat.le_refl _, Nat.le_refl _⟩ (Nat.le_of_ble_eq_true rfl) rfl d10_mixFrames_6 rfl ?_
  refine V_lstore (pc1 := 11) d10_mixFrames_9 (Nat.le_of_ble_eq_true rfl) rfl rfl ?_
  refine V_iconst (pc1 := 12) d10_mixFrames_11 vc_0 rfl ?_
  refine V_istore (pc1 := 14) d10_mixFrames_12 (Nat.le_of_ble_eq_true rfl) rfl rfl ?_
  refine V_lv (lv1 := [(2, .ref (xA g k)), (3, .ref (xA g k2)), (4, .long (r10_mix h ((I k 3).toInt64))), (6, .int (nI 0))]) (lvsub_p [3, 4, 1, 0] rfl) ?_
  have hq2 := hq
  simp only [r10_mixFrames, hs3, hs4] at hq2
  exact t10_mixFrames_14 g hk hk2 _ _ hc s2 hc2 s 0 (r10_mix h ((I k 3).toInt64)) I L hs hs2 (by omega) Q hq2
theorem w10_mixFrames (g : GlT) {k : Nat} {c : Nat} {k2 : Nat} {c2 : Nat} (hk : okF k c) (hk2 : okF k2 c2) (h : Int64) (s : Nat) (hc : s ≤ c) (s2 : Nat) (hc2 : s2 ≤ c2) (I : Nat → Nat → Int32) (L : Nat → Nat → Int64) (hs : I k 3 = nI s) (hs2 : I k2 3 = nI s2) : Call g (k10_mixFrames, 3, 0, 0) [.long h, .ref (xA g k), .ref (xA g k2)] (I, L, R0, 305) (Ql (r10_mixFrames k c k2 c2 h I L) (I) L) := Call.of (by decide) (Nat.le_of_ble_eq_true rfl) rfl (v10_mixFrames g hk hk2 h s hc s2 hc2 I L hs hs2 _ (And.intro rfl rfl))

