theorem i32_m1 (x : Int32) : x + Int32.ofInt (-1) = x - 1 := by rw [vc_m1, Int32.sub_eq_add_neg]
/-- the sizes of a node's lists -/
def nV (k : Nat) (I : Nat → Nat → Int32) : Prop := (∃ w, w ≤ 4 ∧ I (k + 3) 3 = nI w) ∧ (∃ r, r ≤ 6 ∧ I (k + 7) 3 = nI r) ∧ ∃ a, a ≤ 4 ∧ I (k + 11) 3 = nI a
theorem nV.of {k : Nat} {I J : Nat → Nat → Int32} (h1 : J (k + 3) 3 = I (k + 3) 3) (h2 : J (k + 7) 3 = I (k + 7) 3) (h3 : J (k + 11) 3 = I (k + 11) 3) (h : nV k I) : nV k J := by
  unfold nV
  rw [h1, h2, h3]
  exact h
def p3_place (k : Nat) (key : Int32) : Nat → Nat → (Nat → Nat → Int32) → Nat
  | 0, i, I => i
  | n + 1, i, I => (if I (k + 1) i ≤ key then p3_place k key n (i + 1) I else i)
def P3 (k : Nat) (key : Int32) (I : Nat → Nat → Int32) : Nat := p3_place k key ((I k 3).toNatClampNeg) 0 I
theorem p3_le (k : Nat) (key : Int32) (I : Nat → Nat → Int32) : ∀ n i, i ≤ p3_place k key n i I ∧ p3_place k key n i I ≤ i + n := by
  intro n
  induction n with
  | zero => intro i; exact ⟨Nat.le_refl _, Nat.le_refl _⟩
  | succ n ih =>
    intro i
    simp only [p3_place]
    split
    · have := ih (i + 1); omega
    · omega
theorem p3_eq (k c : Nat) (key : Int32) (I : Nat → Nat → Int32) (L : Nat → Nat → Int64) {s : Nat} (hs : (I k 3).toNatClampNeg = s) : ∀ n i, i + n = s → r3_placeFor_2 k c key n i I L = nI (p3_place k key n i I) := by
  intro n
  induction n with
  | zero => intro i h; simp only [r3_placeFor_2, p3_place]; rw [hs, ← h]; rfl
  | succ n ih =>
    intro i h
    simp only [r3_placeFor_2, p3_place]
    split
    · exact ih (i + 1) (by omega)
    · rfl
theorem P3_eq {k c : Nat} {key : Int32} {I : Nat → Nat → Int32} {L : Nat → Nat → Int64} : r3_placeFor k c key I L = nI (P3 k key I) := p3_eq k c key I L rfl _ 0 (Nat.zero_add _)
theorem P3_le {k : Nat} {key : Int32} {I : Nat → Nat → Int32} {s : Nat} (hs : I k 3 = nI s) (h6 : s ≤ 6) : P3 k key I ≤ s := by
  have h := (p3_le k key I ((I k 3).toNatClampNeg) 0).2
  rw [show (I k 3).toNatClampNeg = s by rw [hs]; exact nI_clamp (by omega)] at h
  unfold P3
  rw [show (I k 3).toNatClampNeg = s by rw [hs]; exact nI_clamp (by omega)]
  omega
theorem w3_placeFor2 (g : GlT) {k : Nat} {c : Nat} (hk : okF k c) (key : Int32) (s : Nat) (hc : s ≤ c) (I : Nat → Nat → Int32) (L : Nat → Nat → Int64) (hs : I k 3 = nI s) : Call g (k3_placeFor, 1, 0, 0) [.ref (xA g k), .int key] (I, L, R0, 305) (Qi (nI (P3 k key I)) I L) := by
  rw [← P3_eq (c := c) (L := L)]
  exact w3_placeFor g hk key s hc I L hs
theorem nfull {k c s : Nat} {I : Nat → Nat → Int32} {L : Nat → Nat → Int64} (hs : I k 3 = nI s) (h6 : s ≤ 6) (hc : c ≤ 6) (h : ¬ r3_isFull k c I L = true) : s < c := by
  unfold r3_isFull at h
  split at h
  · rename_i h2
    exact nI_lt_of2 hs (by omega) (by omega) h2
  · exact absurd rfl h
theorem rm21 {k c : Nat} {x : Int32} : ∀ (n i t : Nat) (I : Nat → Nat → Int32) (L : Nat → Nat → Int64), i3_removeAt_21 k c x n i t I L k = I k := by
  intro n
  induction n with
  | zero => intros; rfl
  | succ n ih =>
    intros
    simp only [i3_removeAt_21]
    rw [ih, uI_off _ _ _ (by omega), uI_off _ _ _ (by omega), uI_off _ _ _ (by omega)]
theorem rm_size {k c p s : Nat} {I : Nat → Nat → Int32} {L : Nat → Nat → Int64} (hs : I k 3 = nI s) (hp : p < s) (h6 : s ≤ 6) : (i3_removeAt k c (nI p) I L) k 3 = nI (s - 1) := by
  unfold i3_removeAt
  rw [if_pos]
  · rw [rm21, uI_self, show (I k 3).toNatClampNeg = s by rw [hs]; exact nI_clamp (by omega)]
    exact nI_dec (by omega)
  · unfold r3_has
    rw [if_neg]
    intro h
    rcases h with h | h
    · exact nI_pos (by omega) h
    · rw [hs] at h
      exact nI_ge hp (by omega) h

def r6_takesPart (k : Nat) (l : Nat) (I : Nat → Nat → Int32) (L : Nat → Nat → Int64) : Bool := (if (I k 8 = 0) ∨ (I k 8 = 1) then false else true)
set_option maxRecDepth 4000 in
theorem v6_takesPart (g : GlT) {k : Nat} {l : Nat} (hk : okN k l) (I : Nat → Nat → Int32) (L : Nat → Nat → Int64) (Q : Option Value → MemT → Prop) (hq : Q (some (.int (bI (r6_takesPart k l I L)))) (I, L, R0, 305)) : V g (k6_takesPart, 1, 0, 0) 0 0 0 [(0, .ref (xA g k))] [] (I, L, R0, 305) Q := by
  refine V_aload_n (pc1 := 1) 0 d6_takesPart_0 rfl rfl ?_
  refine V_geti (pc1 := 4) (nd_l0 hk) (nd_b0 hk) f6_40 (fun _ => rfl) rfl d6_takesPart_1 rfl ?_
  have key6 : ∀ (y20_0 : Int32), y20_0 = bI (if (I k 8 = 0) ∨ (I k 8 = 1) then false else true) → ∀ (lv : List (Nat × Value)), lvsub [(0, .ref (xA g k))] lv → V g (k6_takesPart, 1, 0, 0) 0 0 20 lv [.int y20_0] (I, L, R0, 305) Q := by
    intro y20_0 ey20_0
    subst ey20_0
    intro lv hlv
    refine V_lv hlv ?_
    refine V_zret rfl (bI_or _) d6_takesPart_20 (Nat.zero_le _) (Nat.zero_le _) ?_
    have hq2 := hq
    simp only [r6_takesPart] at hq2
    exact hq2
  have k2 : ((I k 8 = 0) ∨ (I k 8 = 1)) → V g (k6_takesPart, 1, 0, 0) 0 0 19 [(0, .ref (xA g k))] [] (I, L, R0, 305) Q := by
    intro h1
    refine V_iconst (pc1 := 20) d6_takesPart_19 vc_0 rfl ?_
    exact key6 _ (by first | rfl | (simp only [if_pos h1]; done) | (simp only [if_pos h1]; rfl)) _ (lvsub_p [0] rfl)
  have k3 : ¬ ((I k 8 = 0) ∨ (I k 8 = 1)) → V g (k6_takesPart, 1, 0, 0) 0 0 15 [(0, .ref (xA g k))] [] (I, L, R0, 305) Q := by
    intro h1
    refine V_iconst (pc1 := 16) d6_takesPart_15 vc_1 rfl ?_
    refine V_goto (tgt := 20) d6_takesPart_16 (by decide) ?_
    exact key6 _ (by first | rfl | (simp only [if_neg h1]; done) | (simp only [if_neg h1]; rfl)) _ (lvsub_p [0] rfl)
  refine V_if_eq (tgt := 19) (pc1 := 7) d6_takesPart_4 (by decide) rfl (fun h4 => ?_) (fun h4 => ?_)
  · skip
    exact k2 (Or.inl h4)
  · skip
    refine V_aload_n (pc1 := 8) 0 d6_takesPart_7 rfl rfl ?_
    refine V_geti (pc1 := 11) (nd_l0 hk) (nd_b0 hk) f6_40 (fun _ => rfl) rfl d6_takesPart_8 rfl ?_
    refine V_iconst (pc1 := 12) d6_takesPart_11 vc_1 rfl ?_
    refine V_icmp_eq (tgt := 19) (pc1 := 15) d6_takesPart_12 (by decide) rfl (fun h5 => ?_) (fun h5 => ?_)
    · skip
      exact k2 (Or.inr h5)
    · skip
      exact k3 (fun z => z.elim h4 h5)
theorem w6_takesPart (g : GlT) {k : Nat} {l : Nat} (hk : okN k l) (I : Nat → Nat → Int32) (L : Nat → Nat → Int64) : Call g (k6_takesPart, 1, 0, 0) [.ref (xA g k)] (I, L, R0, 305) (Qi (bI (r6_takesPart k l I L)) (I) L) := Call.of (by decide) (Nat.le_of_ble_eq_true rfl) rfl (v6_takesPart g hk   I L  _ (And.intro rfl rfl))

def r6_isErrorPassive (k : Nat) (l : Nat) (I : Nat → Nat → Int32) (L : Nat → Nat → Int64) : Bool := (if (I l 0 ≤ I k 10) ∨ (¬ (I k 11 < I l 0)) then true else false)
set_option maxRecDepth 4000 in
theorem v6_isErrorPassive (g : GlT) {k : Nat} {l : Nat} (hk : okN k l) (I : Nat → Nat → Int32) (L : Nat → Nat → Int64) (Q : Option Value → MemT → Prop) (hq : Q (some (.int (bI (r6_isErrorPassive k l I L)))) (I, L, R0, 305)) : V g (k6_isErrorPassive, 1, 0, 0) 0 0 0 [(0, .ref (xA g k))] [] (I, L, R0, 305) Q := by
  refine V_aload_n (pc1 := 1) 0 d6_isErrorPassive_0 rfl rfl ?_
  refine V_geti (pc1 := 4) (nd_l0 hk) (nd_b0 hk) f6_74 (fun _ => rfl) rfl d6_isErrorPassive_1 rfl ?_
  refine V_aload_n (pc1 := 5) 0 d6_isErrorPassive_4 rfl rfl ?_
  refine V_getr (pc1 := 8) (nd_l0 hk) (nd_b0 hk) f6_50 (fun _ => rfl) (nd_r0_0 hk) d6_isErrorPassive_5 rfl ?_
  refine V_geti (pc1 := 11) (lm_l0 (nd_L hk)) (lm_b0 (nd_L hk)) f6_96 (fun _ => rfl) rfl d6_isErrorPassive_8 rfl ?_
  have key6 : ∀ (y33_0 : Int32), y33_0 = bI (if (I l 0 ≤ I k 10) ∨ (¬ (I k 11 < I l 0)) then true else false) → ∀ (lv : List (Nat × Value)), lvsub [(0, .ref (xA g k))] lv → V g (k6_isErrorPassive, 1, 0, 0) 0 0 33 lv [.int y33_0] (I, L, R0, 305) Q := by
    intro y33_0 ey33_0
    subst ey33_0
    intro lv hlv
    refine V_lv hlv ?_
    refine V_zret rfl (bI_or _) d6_isErrorPassive_33 (Nat.zero_le _) (Nat.zero_le _) ?_
    have hq2 := hq
    simp only [r6_isErrorPassive] at hq2
    exact hq2
  have k2 : ((I l 0 ≤ I k 10) ∨ (¬ (I k 11 < I l 0))) → V g (k6_isErrorPassive, 1, 0, 0) 0 0 28 [(0, .ref (xA g k))] [] (I, L, R0, 305) Q := by
    intro h1
    refine V_iconst (pc1 := 29) d6_isErrorPassive_28 vc_1 rfl ?_
    refine V_goto (tgt := 33) d6_isErrorPassive_29 (by decide) ?_
    exact key6 _ (by first | rfl | (simp only [if_pos h1]; done) | (simp only [if_pos h1]; rfl)) _ (lvsub_p [0] rfl)
  have k3 : ¬ ((I l 0 ≤ I k 10) ∨ (¬ (I k 11 < I l 0))) → V g (k6_isErrorPassive, 1, 0, 0) 0 0 32 [(0, .ref (xA g k))] [] (I, L, R0, 305) Q := by
    intro h1
    refine V_iconst (pc1 := 33) d6_isErrorPassive_32 vc_0 rfl ?_
    exact key6 _ (by first | rfl | (simp only [if_neg h1]; done) | (simp only [if_neg h1]; rfl)) _ (lvsub_p [0] rfl)
  refine V_icmp_ge (tgt := 28) (pc1 := 14) d6_isErrorPassive_11 (by decide) rfl (fun h4 => ?_) (fun h4 => ?_)
  · skip
    exact k2 (Or.inl h4)
  · skip
    refine V_aload_n (pc1 := 15) 0 d6_isErrorPassive_14 rfl rfl ?_
    refine V_geti (pc1 := 18) (nd_l0 hk) (nd_b0 hk) f6_77 (fun _ => rfl) rfl d6_isErrorPassive_15 rfl ?_
    refine V_aload_n (pc1 := 19) 0 d6_isErrorPassive_18 rfl rfl ?_
    refine V_getr (pc1 := 22) (nd_l0 hk) (nd_b0 hk) f6_50 (fun _ => rfl) (nd_r0_0 hk) d6_isErrorPassive_19 rfl ?_
    refine V_geti (pc1 := 25) (lm_l0 (nd_L hk)) (lm_b0 (nd_L hk)) f6_96 (fun _ => rfl) rfl d6_isErrorPassive_22 rfl ?_
    refine V_icmp_lt (tgt := 32) (pc1 := 28) d6_isErrorPassive_25 (by decide) rfl (fun h5 => ?_) (fun h5 => ?_)
    · skip
      exact k3 (fun z => z.elim h4 (fun z => z h5))
    · skip
      exact k2 (Or.inr h5)
theorem w6_isErrorPassive (g : GlT) {k : Nat} {l : Nat} (hk : okN k l) (I : Nat → Nat → Int32) (L : Nat → Nat → Int64) : Call g (k6_isErrorPassive, 1, 0, 0) [.ref (xA g k)] (I, L, R0, 305) (Qi (bI (r6_isErrorPassive k l I L)) (I) L) := Call.of (by decide) (Nat.le_of_ble_eq_true rfl) rfl (v6_isErrorPassive g hk   I L  _ (And.intro rfl rfl))

def r6_enqueue (k : Nat) (l : Nat) (key : Int32) (ln : Int32) (dt : Int32) (I : Nat → Nat → Int32) (L : Nat → Nat → Int64) : Bool := (if (r3_isFull (k + 3) 4 I L) = true then false else true)
def i6_enqueue (k : Nat) (l : Nat) (key : Int32) (ln : Int32) (dt : Int32) (I : Nat → Nat → Int32) (L : Nat → Nat → Int64) : Nat → Nat → Int32 := (if (r3_isFull (k + 3) 4 I L) = true then I else (if I k 17 < nI (P3 (k + 3) key I) then i3_insertAt (k + 3) 4 (P3 (k + 3) key I) key ln dt I L else uI (i3_insertAt (k + 3) 4 (P3 (k + 3) key I) key ln dt I L) k 17 ((I k 17) + 1)))
set_option maxRecDepth 4000 in
theorem v6_enqueue (g : GlT) {k : Nat} {l : Nat} (hk : okN k l) (key : Int32) (ln : Int32) (dt : Int32) (I : Nat → Nat → Int32) (L : Nat → Nat → Int64) (hv : nV k I) (Q : Option Value → MemT → Prop) (hq : Q (some (.int (bI (r6_enqueue k l key ln dt I L)))) (i6_enqueue k l key ln dt I L, L, R0, 305)) : V g (k6_enqueue, 2, 0, 0) 0 0 0 [(0, .ref (xA g k)), (1, .int key), (2, .int ln), (3, .int dt)] [] (I, L, R0, 305) Q := by
  have hv0 := hv
  obtain ⟨⟨gw, hw4, hw⟩, ⟨gr, hr6, hr⟩, ga, ha4, ha⟩ := hv0
  refine V_aload_n (pc1 := 1) 0 d6_enqueue_0 rfl rfl ?_
  refine V_getr (pc1 := 4) (nd_l0 hk) (nd_b0 hk) f6_23 (fun _ => rfl) (nd_r0_2 hk) d6_enqueue_1 rfl ?_
  refine V_vi (pc1 := 7) (w3_isFull g (nd_F3 hk)   I L ) (nd_l3 hk) (nd_b3 hk) s3_isFull l6_101 rfl rfl ⟨Nat.le_of_ble_eq_true rfl, Nat.le_of_ble_eq_true rfl, Nat.le_refl _, Nat.le_refl _⟩ (Nat.le_of_ble_eq_true rfl) rfl d6_enqueue_4 rfl ?_
  refine V_beq (tgt := 12) (pc1 := 10) d6_enqueue_7 (by decide) rfl (fun h1 => ?_) (fun h1 => ?_)
  · skip
    refine V_aload_n (pc1 := 13) 0 d6_enqueue_12 rfl rfl ?_
    refine V_getr (pc1 := 16) (nd_l0 hk) (nd_b0 hk) f6_23 (fun _ => rfl) (nd_r0_2 hk) d6_enqueue_13 rfl ?_
    refine V_iload_n (pc1 := 17) 1 d6_enqueue_16 rfl rfl ?_
    refine V_vi (pc1 := 20) (w3_placeFor2 g (nd_F3 hk) key gw hw4 I L hw) (nd_l3 hk) (nd_b3 hk) s3_placeFor l6_105 rfl rfl ⟨Nat.le_of_ble_eq_true rfl, Nat.le_of_ble_eq_true rfl, Nat.le_refl _, Nat.le_refl _⟩ (Nat.le_of_ble_eq_true rfl) rfl d6_enqueue_17 rfl ?_
    refine V_istore (pc1 := 22) d6_enqueue_20 (Nat.le_of_ble_eq_true rfl) rfl rfl ?_
    refine V_aload_n (pc1 := 23) 1 d6_enqueue_22 rfl rfl ?_
    refine V_getr (pc1 := 26) (nd_l0 hk) (nd_b0 hk) f6_23 (fun _ => rfl) (nd_r0_2 hk) d6_enqueue_23 rfl ?_
    refine V_iload (pc1 := 28) 0 d6_enqueue_26 rfl rfl ?_
    refine V_iload_n (pc1 := 29) 2 d6_enqueue_28 rfl rfl ?_
    refine V_iload_n (pc1 := 30) 3 d6_enqueue_29 rfl rfl ?_
    refine V_iload_n (pc1 := 31) 4 d6_enqueue_30 rfl rfl ?_
    refine V_vv (pc1 := 34) (w3_insertAt g (nd_F3 hk) (P3 (k + 3) key I) key ln dt gw (nfull hw (by omega) (by omega) h1) (P3_le hw (by omega)) I L hw) (nd_l3 hk) (nd_b3 hk) s3_insertAt l6_109 rfl rfl ⟨Nat.le_of_ble_eq_true rfl, Nat.le_of_ble_eq_true rfl, Nat.le_refl _, Nat.le_refl _⟩ (Nat.le_of_ble_eq_true rfl) rfl d6_enqueue_31 rfl ?_
    refine V_iload (pc1 := 36) 0 d6_enqueue_34 rfl rfl ?_
    refine V_aload_n (pc1 := 37) 1 d6_enqueue_36 rfl rfl ?_
    refine V_geti (pc1 := 40) (nd_l0 hk) (nd_b0 hk) f6_47 (fun _ => rfl) (congrFun (x3_insertAt (I := I) (L := L) (show (k : Nat) ≠ k + 3 by omega) (show (k : Nat) ≠ k + 4 by omega) (show (k : Nat) ≠ k + 5 by omega) (show (k : Nat) ≠ k + 6 by omega)) _) d6_enqueue_37 rfl ?_
    have key3 : ∀ (zI53 : Nat → Nat → Int32), zI53 = (if I k 17 < nI (P3 (k + 3) key I) then i3_insertAt (k + 3) 4 (P3 (k + 3) key I) key ln dt I L else uI (i3_insertAt (k + 3) 4 (P3 (k + 3) key I) key ln dt I L) k 17 ((I k 17) + 1)) → ∀ (lv : List (Nat × Value)), lvsub [(4, .int (nI (P3 (k + 3) key I))), (0, .ref (xA g k)), (1, .int key), (2, .int ln), (3, .int dt)] lv → V g (k6_enqueue, 2, 0, 0) 0 0 53 lv [] (zI53, L, R0, 305) Q := by
      intro zI53 ezI53
      subst ezI53
      intro lv hlv
      refine V_lv hlv ?_
      refine V_iconst (pc1 := 54) d6_enqueue_53 vc_1 rfl ?_
      refine V_zret rfl (Or.inr rfl) d6_enqueue_54 (Nat.zero_le _) (Nat.zero_le _) ?_
      have hq2 := hq
      simp only [r6_enqueue, i6_enqueue, if_neg h1] at hq2
      exact hq2
    refine V_icmp_gt (tgt := 53) (pc1 := 43) d6_enqueue_40 (by decide) rfl (fun h2 => ?_) (fun h2 => ?_)
    · skip
      exact key3 _ (by first | rfl | (simp only [if_pos h2]; done) | (simp only [if_pos h2]; rfl)) _ (lvsub_p [0, 1, 2, 3, 4] rfl)
    · skip
      refine V_aload_n (pc1 := 44) 1 d6_enqueue_43 rfl rfl ?_
      refine V_dup (pc1 := 45) d6_enqueue_44 rfl rfl ?_
      refine V_geti (pc1 := 48) (nd_l0 hk) (nd_b0 hk) f6_47 (fun _ => rfl) (congrFun (x3_insertAt (I := I) (L := L) (show (k : Nat) ≠ k + 3 by omega) (show (k : Nat) ≠ k + 4 by omega) (show (k : Nat) ≠ k + 5 by omega) (show (k : Nat) ≠ k + 6 by omega)) _) d6_enqueue_45 rfl ?_
      refine V_iconst (pc1 := 49) d6_enqueue_48 vc_1 rfl ?_
      refine V_iadd (pc1 := 50) d6_enqueue_49 rfl ?_
      refine V_puti (pc1 := 53) (nd_l0 hk) (nd_b0 hk) f6_47 rfl rfl d6_enqueue_50 rfl ?_
      exact key3 _ (by first | rfl | (simp only [if_neg h2]; done) | (simp only [if_neg h2]; rfl)) _ (lvsub_p [0, 1, 2, 3, 4] rfl)
  · skip
    refine V_iconst (pc1 := 11) d6_enqueue_10 vc_0 rfl ?_
    refine V_zret rfl (Or.inl rfl) d6_enqueue_11 (Nat.zero_le _) (Nat.zero_le _) ?_
    have hq2 := hq
    simp only [r6_enqueue, i6_enqueue, if_pos h1] at hq2
    exact hq2
theorem w6_enqueue (g : GlT) {k : Nat} {l : Nat} (hk : okN k l) (key : Int32) (ln : Int32) (dt : Int32) (I : Nat → Nat → Int32) (L : Nat → Nat → Int64) (hv : nV k I) : Call g (k6_enqueue, 2, 0, 0) [.ref (xA g k), .int key, .int ln, .int dt] (I, L, R0, 305) (Qi (bI (r6_enqueue k l key ln dt I L)) (i6_enqueue k l key ln dt I L) L) := Call.of (by decide) (Nat.le_of_ble_eq_true rfl) rfl (v6_enqueue g hk key ln dt  I L hv _ (And.intro rfl rfl))
theorem x6_enqueue {k : Nat} {l : Nat} {key : Int32} {ln : Int32} {dt : Int32} {I : Nat → Nat → Int32} {L : Nat → Nat → Int64} {aa : Nat} (h0 : aa ≠ k) (h1 : aa ≠ k + 3) (h2 : aa ≠ k + 4) (h3 : aa ≠ k + 5) (h4 : aa ≠ k + 6) : i6_enqueue k l key ln dt I L aa = I aa := by
  first | (simp only [i6_enqueue]; done) | (simp only [i6_enqueue]; (try (repeat' split)) <;> first | rfl | (simp [uI_off, h0, h1, h2, h3, h4, x3_insertAt]; done))

def r6_withdraw_12 (k : Nat) (l : Nat) (idn : Int32) : Nat → Nat → Int32 → (Nat → Nat → Int32) → (Nat → Nat → Int64) → Int32
  | 0, i, rm, I, L => rm
  | n + 1, i, rm, I, L => r6_withdraw_12 k l idn n n (if nI n = I k 17 then rm else (if (r3_keyAt (k + 3) 4 (nI n) I L) >>> (1 &&& 31) = idn then rm + 1 else rm)) (if nI n = I k 17 then I else (if (r3_keyAt (k + 3) 4 (nI n) I L) >>> (1 &&& 31) = idn then (if I k 17 ≤ nI n then i3_removeAt (k + 3) 4 (nI n) I L else uI (i3_removeAt (k + 3) 4 (nI n) I L) k 17 ((I k 17) - 1)) else I)) L
def i6_withdraw_12 (k : Nat) (l : Nat) (idn : Int32) : Nat → Nat → Int32 → (Nat → Nat → Int32) → (Nat → Nat → Int64) → (Nat → Nat → Int32)
  | 0, i, rm, I, L => I
  | n + 1, i, rm, I, L => i6_withdraw_12 k l idn n n (if nI n = I k 17 then rm else (if (r3_keyAt (k + 3) 4 (nI n) I L) >>> (1 &&& 31) = idn then rm + 1 else rm)) (if nI n = I k 17 then I else (if (r3_keyAt (k + 3) 4 (nI n) I L) >>> (1 &&& 31) = idn then (if I k 17 ≤ nI n then i3_removeAt (k + 3) 4 (nI n) I L else uI (i3_removeAt (k + 3) 4 (nI n) I L) k 17 ((I k 17) - 1)) else I)) L
set_option maxRecDepth 4000 in
theorem t6_withdraw_12 (g : GlT) {k : Nat} {l : Nat} (hk : okN k l) (idn : Int32)  : ∀ (n i : Nat) (rm : Int32) (I : Nat → Nat → Int32) (L : Nat → Nat → Int64), (hn : i = n) → (hs : ∃ s, s ≤ 4 ∧ i ≤ s ∧ I (k + 3) 3 = nI s) → ∀ (Q : Option Value → MemT → Prop), Q (some (.int (r6_withdraw_12 k l idn n i rm I L))) (i6_withdraw_12 k l idn n i rm I L, L, R0, 305) → V g (k6_withdraw, 3, 0, 0) 0 0 12 [(0, .ref (xA g k)), (1, .int idn), (2, .int rm), (3, .int (nI i - 1))] [] (I, L, R0, 305) Q := by
  intro n
  induction n with
  | zero =>
    intro i rm I L hn hs Q hq
    obtain rfl : i = 0 := hn
    refine V_iload_n (pc1 := 13) 3 d6_withdraw_12 rfl rfl ?_
    refine V_if_lt (tgt := 76) (pc1 := 16) d6_withdraw_13 (by decide) rfl (fun _ => ?_) (fun h1 => absurd (by decide) h1)
    refine V_iload_n (pc1 := 77) 2 d6_withdraw_76 rfl rfl ?_
    refine V_iret rfl d6_withdraw_77 (Nat.zero_le _) (Nat.zero_le _) ?_
    have hq2 := hq
    simp only [r6_withdraw_12, i6_withdraw_12] at hq2
    exact hq2
  | succ n ih =>
    intro i rm I L hn hs Q hq
    obtain rfl : i = n + 1 := hn
    rw [nI_pred]
    obtain ⟨s, hs4, his, hs⟩ := hs
    refine V_iload_n (pc1 := 13) 3 d6_withdraw_12 rfl rfl ?_
    refine V_if_lt (tgt := 76) (pc1 := 16) d6_withdraw_13 (by decide) rfl (fun h1 => absurd h1 (nI_pos (by omega))) (fun _ => ?_)
    refine V_iload_n (pc1 := 17) 3 d6_withdraw_16 rfl rfl ?_
    refine V_aload_n (pc1 := 18) 0 d6_withdraw_17 rfl rfl ?_
    refine V_geti (pc1 := 21) (nd_l0 hk) (nd_b0 hk) f6_47 (fun _ => rfl) rfl d6_withdraw_18 rfl ?_
    have key5 : ∀ (z70_2 : Int32), z70_2 = (if nI n = I k 17 then rm else (if (r3_keyAt (k + 3) 4 (nI n) I L) >>> (1 &&& 31) = idn then rm + 1 else rm)) → ∀ (zI70 : Nat → Nat → Int32), zI70 = (if nI n = I k 17 then I else (if (r3_keyAt (k + 3) 4 (nI n) I L) >>> (1 &&& 31) = idn then (if I k 17 ≤ nI n then i3_removeAt (k + 3) 4 (nI n) I L else uI (i3_removeAt (k + 3) 4 (nI n) I L) k 17 ((I k 17) - 1)) else I)) → ∀ (lv : List (Nat × Value)), lvsub [(0, .ref (xA g k)), (1, .int idn), (2, .int z70_2), (3, .int (nI n))] lv → V g (k6_withdraw, 3, 0, 0) 0 0 70 lv [] (zI70, L, R0, 305) Q := by
      intro z70_2 ez70_2 zI70 ezI70
      subst ez70_2
      subst ezI70
      intro lv hlv
      refine V_lv hlv ?_
      refine V_iinc (pc1 := 73) 3 (v := nI n - 1) d6_withdraw_70 rfl (i32_m1 _) (Nat.le_of_ble_eq_true rfl) rfl rfl ?_
      refine V_goto (tgt := 12) d6_withdraw_73 (by decide) ?_
      refine V_lv (lv1 := [(0, .ref (xA g k)), (1, .int idn), (2, .int (if nI n = I k 17 then rm else (if (r3_keyAt (k + 3) 4 (nI n) I L) >>> (1 &&& 31) = idn then rm + 1 else rm))), (3, .int (nI n - 1))]) (lvsub_p [1, 2, 3, 0] rfl) ?_
      have hq2 := hq
      simp only [r6_withdraw_12, i6_withdraw_12] at hq2
      exact ih n (if nI n = I k 17 then rm else (if (r3_keyAt (k + 3) 4 (nI n) I L) >>> (1 &&& 31) = idn then rm + 1 else rm)) (if nI n = I k 17 then I else (if (r3_keyAt (k + 3) 4 (nI n) I L) >>> (1 &&& 31) = idn then (if I k 17 ≤ nI n then i3_removeAt (k + 3) 4 (nI n) I L else uI (i3_removeAt (k + 3) 4 (nI n) I L) k 17 ((I k 17) - 1)) else I)) L rfl (by (repeat' split) <;> first | exact ⟨s, hs4, by omega, hs⟩ | exact ⟨s - 1, by omega, by omega, rm_size hs (by omega) (by omega)⟩ | exact ⟨s - 1, by omega, by omega, (congrFun (uI_off _ _ _ (by omega)) _).trans (rm_size hs (by omega) (by omega))⟩) Q hq2
    refine V_icmp_eq (tgt := 70) (pc1 := 24) d6_withdraw_21 (by decide) rfl (fun h2 => ?_) (fun h2 => ?_)
    · skip
      exact key5 _ (by first | rfl | (simp only [if_pos h2]; done) | (simp only [if_pos h2]; rfl)) _ (by first | rfl | (simp only [if_pos h2]; done) | (simp only [if_pos h2]; rfl)) _ (lvsub_p [0, 1, 2, 3] rfl)
    · skip
      refine V_aload_n (pc1 := 25) 0 d6_withdraw_24 rfl rfl ?_
      refine V_getr (pc1 := 28) (nd_l0 hk) (nd_b0 hk) f6_23 (fun _ => rfl) (nd_r0_2 hk) d6_withdraw_25 rfl ?_
      refine V_iload_n (pc1 := 29) 3 d6_withdraw_28 rfl rfl ?_
      refine V_vi (pc1 := 32) (w3_keyAt g (nd_F3 hk) (nI n) s hs4 I L hs) (nd_l3 hk) (nd_b3 hk) s3_keyAt l6_116 rfl rfl ⟨Nat.le_of_ble_eq_true rfl, Nat.le_of_ble_eq_true rfl, Nat.le_refl _, Nat.le_refl _⟩ (Nat.le_of_ble_eq_true rfl) rfl d6_withdraw_29 rfl ?_
      refine V_iconst (pc1 := 33) d6_withdraw_32 vc_1 rfl ?_
      refine V_ishr (pc1 := 34) d6_withdraw_33 rfl ?_
      refine V_iload_n (pc1 := 35) 1 d6_withdraw_34 rfl rfl ?_
      refine V_icmp_eq (tgt := 41) (pc1 := 38) d6_withdraw_35 (by decide) rfl (fun h3 => ?_) (fun h3 => ?_)
      · skip
        refine V_aload_n (pc1 := 42) 0 d6_withdraw_41 rfl rfl ?_
        refine V_getr (pc1 := 45) (nd_l0 hk) (nd_b0 hk) f6_23 (fun _ => rfl) (nd_r0_2 hk) d6_withdraw_42 rfl ?_
        refine V_iload_n (pc1 := 46) 3 d6_withdraw_45 rfl rfl ?_
        refine V_vv (pc1 := 49) (w3_removeAt g (nd_F3 hk) (nI n) s hs4 I L hs) (nd_l3 hk) (nd_b3 hk) s3_removeAt l6_119 rfl rfl ⟨Nat.le_of_ble_eq_true rfl, Nat.le_of_ble_eq_true rfl, Nat.le_refl _, Nat.le_refl _⟩ (Nat.le_of_ble_eq_true rfl) rfl d6_withdraw_46 rfl ?_
        refine V_iinc (pc1 := 52) 2 (v := rm + 1) d6_withdraw_49 rfl rfl (Nat.le_of_ble_eq_true rfl) rfl rfl ?_
        refine V_iload_n (pc1 := 53) 3 d6_withdraw_52 rfl rfl ?_
        refine V_aload_n (pc1 := 54) 1 d6_withdraw_53 rfl rfl ?_
        refine V_geti (pc1 := 57) (nd_l0 hk) (nd_b0 hk) f6_47 (fun _ => rfl) (congrFun (x3_removeAt (I := I) (L := L) (show (k : Nat) ≠ k + 3 by omega) (show (k : Nat) ≠ k + 4 by omega) (show (k : Nat) ≠ k + 5 by omega) (show (k : Nat) ≠ k + 6 by omega)) _) d6_withdraw_54 rfl ?_
        refine V_icmp_ge (tgt := 70) (pc1 := 60) d6_withdraw_57 (by decide) rfl (fun h4 => ?_) (fun h4 => ?_)
        · skip
          exact key5 _ (by first | rfl | (simp only [if_neg h2, if_pos h3, if_pos h4]; done) | (simp only [if_neg h2, if_pos h3, if_pos h4]; rfl)) _ (by first | rfl | (simp only [if_neg h2, if_pos h3, if_pos h4]; done) | (simp only [if_neg h2, if_pos h3, if_pos h4]; rfl)) _ (lvsub_p [1, 2, 0, 3] rfl)
        · skip
          refine V_aload_n (pc1 := 61) 1 d6_withdraw_60 rfl rfl ?_
          refine V_dup (pc1 := 62) d6_withdraw_61 rfl rfl ?_
          refine V_geti (pc1 := 65) (nd_l0 hk) (nd_b0 hk) f6_47 (fun _ => rfl) (congrFun (x3_removeAt (I := I) (L := L) (show (k : Nat) ≠ k + 3 by omega) (show (k : Nat) ≠ k + 4 by omega) (show (k : Nat) ≠ k + 5 by omega) (show (k : Nat) ≠ k + 6 by omega)) _) d6_withdraw_62 rfl ?_
          refine V_iconst (pc1 := 66) d6_withdraw_65 vc_1 rfl ?_
          refine V_isub (pc1 := 67) d6_withdraw_66 rfl ?_
          refine V_puti (pc1 := 70) (nd_l0 hk) (nd_b0 hk) f6_47 rfl rfl d6_withdraw_67 rfl ?_
          exact key5 _ (by first | rfl | (simp only [if_neg h2, if_pos h3, if_neg h4]; done) | (simp only [if_neg h2, if_pos h3, if_neg h4]; rfl)) _ (by first | rfl | (simp only [if_neg h2, if_pos h3, if_neg h4]; done) | (simp only [if_neg h2, if_pos h3, if_neg h4]; rfl)) _ (lvsub_p [1, 2, 0, 3] rfl)
      · skip
        refine V_goto (tgt := 70) d6_withdraw_38 (by decide) ?_
        exact key5 _ (by first | rfl | (simp only [if_neg h2, if_neg h3]; done) | (simp only [if_neg h2, if_neg h3]; rfl)) _ (by first | rfl | (simp only [if_neg h2, if_neg h3]; done) | (simp only [if_neg h2, if_neg h3]; rfl)) _ (lvsub_p [0, 1, 2, 3] rfl)
def r6_withdraw (k : Nat) (l : Nat) (idn : Int32) (I : Nat → Nat → Int32) (L : Nat → Nat → Int64) : Int32 := r6_withdraw_12 k l idn ((I (k + 3) 3).toNatClampNeg) ((I (k + 3) 3).toNatClampNeg) 0 I L
def i6_withdraw (k : Nat) (l : Nat) (idn : Int32) (I : Nat → Nat → Int32) (L : Nat → Nat → Int64) : Nat → Nat → Int32 := i6_withdraw_12 k l idn ((I (k + 3) 3).toNatClampNeg) ((I (k + 3) 3).toNatClampNeg) 0 I L
set_option maxRecDepth 4000 in
theorem v6_withdraw (g : GlT) {k : Nat} {l : Nat} (hk : okN k l) (idn : Int32) (I : Nat → Nat → Int32) (L : Nat → Nat → Int64) (hv : nV k I) (Q : Option Value → MemT → Prop) (hq : Q (some (.int (r6_withdraw k l idn I L))) (i6_withdraw k l idn I L, L, R0, 305)) : V g (k6_withdraw, 3, 0, 0) 0 0 0 [(0, .ref (xA g k)), (1, .int idn)] [] (I, L, R0, 305) Q := by
  have hv0 := hv
  obtain ⟨⟨gw, hw4, hw⟩, ⟨gr, hr6, hr⟩, ga, ha4, ha⟩ := hv0
  have hw3 : (I (k + 3) 3).toNatClampNeg = gw := by rw [hw]; exact nI_clamp (by omega)
  refine V_iconst (pc1 := 1) d6_withdraw_0 vc_0 rfl ?_
  refine V_istore_n (pc1 := 2) d6_withdraw_1 (Nat.le_of_ble_eq_true rfl) rfl rfl ?_
  refine V_aload_n (pc1 := 3) 1 d6_withdraw_2 rfl rfl ?_
  refine V_getr (pc1 := 6) (nd_l0 hk) (nd_b0 hk) f6_23 (fun _ => rfl) (nd_r0_2 hk) d6_withdraw_3 rfl ?_
  refine V_geti (pc1 := 9) (nd_l3 hk) (nd_b3 hk) f6_113 (fun _ => rfl) hw d6_withdraw_6 rfl ?_
  refine V_iconst (pc1 := 10) d6_withdraw_9 vc_1 rfl ?_
  refine V_isub (pc1 := 11) d6_withdraw_10 rfl ?_
  refine V_istore_n (pc1 := 12) d6_withdraw_11 (Nat.le_of_ble_eq_true rfl) rfl rfl ?_
  refine V_lv (lv1 := [(0, .ref (xA g k)), (1, .int idn), (2, .int 0), (3, .int (nI gw - 1))]) (lvsub_p [2, 3, 1, 0] rfl) ?_
  have hq2 := hq
  simp only [r6_withdraw, i6_withdraw, hw3] at hq2
  exact t6_withdraw_12 g hk _  gw gw 0 I L rfl ⟨gw, hw4, Nat.le_refl _, hw⟩ Q hq2
theorem w6_withdraw (g : GlT) {k : Nat} {l : Nat} (hk : okN k l) (idn : Int32) (I : Nat → Nat → Int32) (L : Nat → Nat → Int64) (hv : nV k I) : Call g (k6_withdraw, 3, 0, 0) [.ref (xA g k), .int idn] (I, L, R0, 305) (Qi (r6_withdraw k l idn I L) (i6_withdraw k l idn I L) L) := Call.of (by decide) (Nat.le_of_ble_eq_true rfl) rfl (v6_withdraw g hk idn  I L hv _ (And.intro rfl rfl))
theorem x6_withdraw_12 {k : Nat} {l : Nat} {idn : Int32} {aa : Nat} (h0 : aa ≠ k) (h1 : aa ≠ k + 3) (h2 : aa ≠ k + 4) (h3 : aa ≠ k + 5) (h4 : aa ≠ k + 6) : ∀ (n i : Nat) (rm : Int32) (I : Nat → Nat → Int32) (L : Nat → Nat → Int64), i6_withdraw_12 k l idn n i rm I L aa = I aa := by
  intro n
  induction n with
  | zero => intros; first | (simp only [i6_withdraw_12]; done) | (simp only [i6_withdraw_12]; (try (repeat' split)) <;> first | rfl | (simp [uI_off, h0, h1, h2, h3, h4, x3_removeAt]; done))
  | succ n ih => intros; first | (simp only [i6_withdraw_12]; done) | (simp only [i6_withdraw_12]; (try (repeat' split)) <;> first | rfl | (simp [ih, uI_off, h0, h1, h2, h3, h4, x3_removeAt]; done))
theorem x6_withdraw {k : Nat} {l : Nat} {idn : Int32} {I : Nat → Nat → Int32} {L : Nat → Nat → Int64} {aa : Nat} (h0 : aa ≠ k) (h1 : aa ≠ k + 3) (h2 : aa ≠ k + 4) (h3 : aa ≠ k + 5) (h4 : aa ≠ k + 6) : i6_withdraw k l idn I L aa = I aa := by
  first | (simp only [i6_withdraw]; done) | (simp only [i6_withdraw]; (try (repeat' split)) <;> first | rfl | (simp [uI_off, h0, h1, h2, h3, h4, x3_removeAt, x6_withdraw_12 h0 h1 h2 h3 h4]; done))

def i6_enter (k : Nat) (l : Nat) (x : Int32) (I : Nat → Nat → Int32) (L : Nat → Nat → Int64) : Nat → Nat → Int32 := (if x = 6 then uI (if (x < 4) ∨ (¬ (x ≤ 8)) then uI (uI (uI (uI (uI I k 8 x) k 12 0) k 13 0) k 17 (-1)) k 9 0 else uI (uI (uI (uI I k 8 x) k 12 0) k 13 0) k 17 (-1)) (k + 1) 3 ((I (k + 1) 3) + 1) else (if (x < 4) ∨ (¬ (x ≤ 8)) then uI (uI (uI (uI (uI I k 8 x) k 12 0) k 13 0) k 17 (-1)) k 9 0 else uI (uI (uI (uI I k 8 x) k 12 0) k 13 0) k 17 (-1)))
set_option maxRecDepth 4000 in
theorem v6_enter (g : GlT) {k : Nat} {l : Nat} (hk : okN k l) (x : Int32) (I : Nat → Nat → Int32) (L : Nat → Nat → Int64) (Q : Option Value → MemT → Prop) (hq : Q (none) (i6_enter k l x I L, L, R0, 305)) : V g (k6_enter, 1, 0, 0) 0 0 0 [(0, .ref (xA g k)), (1, .int x)] [] (I, L, R0, 305) Q := by
  refine V_aload_n (pc1 := 1) 0 d6_enter_0 rfl rfl ?_
  refine V_iload_n (pc1 := 2) 1 d6_enter_1 rfl rfl ?_
  refine V_puti (pc1 := 5) (nd_l0 hk) (nd_b0 hk) f6_40 rfl rfl d6_enter_2 rfl ?_
  refine V_aload_n (pc1 := 6) 0 d6_enter_5 rfl rfl ?_
  refine V_iconst (pc1 := 7) d6_enter_6 vc_0 rfl ?_
  refine V_puti (pc1 := 10) (nd_l0 hk) (nd_b0 hk) f6_80 rfl rfl d6_enter_7 rfl ?_
  refine V_aload_n (pc1 := 11) 0 d6_enter_10 rfl rfl ?_
  refine V_iconst (pc1 := 12) d6_enter_11 vc_0 rfl ?_
  refine V_puti (pc1 := 15) (nd_l0 hk) (nd_b0 hk) f6_83 rfl rfl d6_enter_12 rfl ?_
  refine V_aload_n (pc1 := 16) 0 d6_enter_15 rfl rfl ?_
  refine V_iconst (pc1 := 17) d6_enter_16 vc_m1 rfl ?_
  refine V_puti (pc1 := 20) (nd_l0 hk) (nd_b0 hk) f6_47 rfl rfl d6_enter_17 rfl ?_
  refine V_iload_n (pc1 := 21) 1 d6_enter_20 rfl rfl ?_
  refine V_iconst (pc1 := 22) d6_enter_21 vc_4 rfl ?_
  have key6 : ∀ (zI36 : Nat → Nat → Int32), zI36 = (if (x < 4) ∨ (¬ (x ≤ 8)) then uI (uI (uI (uI (uI I k 8 x) k 12 0) k 13 0) k 17 (-1)) k 9 0 else uI (uI (uI (uI I k 8 x) k 12 0) k 13 0) k 17 (-1)) → ∀ (lv : List (Nat × Value)), lvsub [(0, .ref (xA g k)), (1, .int x)] lv → V g (k6_enter, 1, 0, 0) 0 0 36 lv [] (zI36, L, R0, 305) Q := by
    intro zI36 ezI36
    subst ezI36
    intro lv hlv
    refine V_lv hlv ?_
    refine V_iload_n (pc1 := 37) 1 d6_enter_36 rfl rfl ?_
    refine V_bipush (pc1 := 39) d6_enter_37 vb_6 rfl ?_
    have key8 : ∀ (zI55 : Nat → Nat → Int32), zI55 = (if x = 6 then uI (if (x < 4) ∨ (¬ (x ≤ 8)) then uI (uI (uI (uI (uI I k 8 x) k 12 0) k 13 0) k 17 (-1)) k 9 0 else uI (uI (uI (uI I k 8 x) k 12 0) k 13 0) k 17 (-1)) (k + 1) 3 ((I (k + 1) 3) + 1) else (if (x < 4) ∨ (¬ (x ≤ 8)) then uI (uI (uI (uI (uI I k 8 x) k 12 0) k 13 0) k 17 (-1)) k 9 0 else uI (uI (uI (uI I k 8 x) k 12 0) k 13 0) k 17 (-1))) → ∀ (lv : List (Nat × Value)), lvsub [(0, .ref (xA g k)), (1, .int x)] lv → V g (k6_enter, 1, 0, 0) 0 0 55 lv [] (zI55, L, R0, 305) Q := by
      intro zI55 ezI55
      subst ezI55
      intro lv hlv
      refine V_lv hlv ?_
      refine V_vret rfl d6_enter_55 (Nat.zero_le _) (Nat.zero_le _) ?_
      have hq2 := hq
      simp only [i6_enter] at hq2
      exact hq2
    refine V_icmp_ne (tgt := 55) (pc1 := 42) d6_enter_39 (by decide) rfl (fun h7 => ?_) (fun h7 => ?_)
    · skip
      exact key8 _ (by first | rfl | (simp only [if_neg h7]; done) | (simp only [if_neg h7]; rfl)) _ (lvsub_p [0, 1] rfl)
    · skip
      refine V_aload_n (pc1 := 43) 0 d6_enter_42 rfl rfl ?_
      refine V_getr (pc1 := 46) (nd_l0 hk) (nd_b0 hk) f6_12 (fun _ => rfl) (nd_r0_1 hk) d6_enter_43 rfl ?_
      refine V_dup (pc1 := 47) d6_enter_46 rfl rfl ?_
      refine V_geti (pc1 := 50) (nd_l1 hk) (nd_b1 hk) f6_122 (fun _ => rfl) (show (if (x < 4) ∨ (¬ (x ≤ 8)) then uI (uI (uI (uI (uI I k 8 x) k 12 0) k 13 0) k 17 (-1)) k 9 0 else uI (uI (uI (uI I k 8 x) k 12 0) k 13 0) k 17 (-1)) (k + 1) 3 = (I (k + 1) 3) from by (repeat' split) <;> first | exact ((congrFun (uI_off _ _ _ (show (k + 1 : Nat) ≠ k by omega)) _).trans ((congrFun (uI_off _ _ _ (show (k + 1 : Nat) ≠ k by omega)) _).trans ((congrFun (uI_off _ _ _ (show (k + 1 : Nat) ≠ k by omega)) _).trans ((congrFun (uI_off _ _ _ (show (k + 1 : Nat) ≠ k by omega)) _).trans (congrFun (uI_off _ _ _ (show (k + 1 : Nat) ≠ k by omega)) _))))) | exact ((congrFun (uI_off _ _ _ (show (k + 1 : Nat) ≠ k by omega)) _).trans ((congrFun (uI_off _ _ _ (show (k + 1 : Nat) ≠ k by omega)) _).trans ((congrFun (uI_off _ _ _ (show (k + 1 : Nat) ≠ k by omega)) _).trans (congrFun (uI_off _ _ _ (show (k + 1 : Nat) ≠ k by omega)) _))))) d6_enter_47 rfl ?_
      refine V_iconst (pc1 := 51) d6_enter_50 vc_1 rfl ?_
      refine V_iadd (pc1 := 52) d6_enter_51 rfl ?_
      refine V_puti (pc1 := 55) (nd_l1 hk) (nd_b1 hk) f6_122 rfl rfl d6_enter_52 rfl ?_
      exact key8 _ (by first | rfl | (simp only [if_pos h7]; done) | (simp only [if_pos h7]; rfl)) _ (lvsub_p [0, 1] rfl)
  have k2 : ((x < 4) ∨ (¬ (x ≤ 8))) → V g (k6_enter, 1, 0, 0) 0 0 31 [(0, .ref (xA g k)), (1, .int x)] [] (uI (uI (uI (uI I k 8 x) k 12 0) k 13 0) k 17 (-1), L, R0, 305) Q := by
    intro h1
    refine V_aload_n (pc1 := 32) 0 d6_enter_31 rfl rfl ?_
    refine V_iconst (pc1 := 33) d6_enter_32 vc_0 rfl ?_
    refine V_putz (pc1 := 36) (nd_l0 hk) (nd_b0 hk) f6_70 rfl rfl (Or.inl rfl) d6_enter_33 rfl ?_
    exact key6 _ (by first | rfl | (simp only [if_pos h1]; done) | (simp only [if_pos h1]; rfl)) _ (lvsub_p [0, 1] rfl)
  have k3 : ¬ ((x < 4) ∨ (¬ (x ≤ 8))) → V g (k6_enter, 1, 0, 0) 0 0 36 [(0, .ref (xA g k)), (1, .int x)] [] (uI (uI (uI (uI I k 8 x) k 12 0) k 13 0) k 17 (-1), L, R0, 305) Q := by
    intro h1
    exact key6 _ (by first | rfl | (simp only [if_neg h1]; done) | (simp only [if_neg h1]; rfl)) _ (lvsub_p [0, 1] rfl)
  refine V_icmp_lt (tgt := 31) (pc1 := 25) d6_enter_22 (by decide) rfl (fun h4 => ?_) (fun h4 => ?_)
  · skip
    exact k2 (Or.inl h4)
  · skip
    refine V_iload_n (pc1 := 26) 1 d6_enter_25 rfl rfl ?_
    refine V_bipush (pc1 := 28) d6_enter_26 vb_8 rfl ?_
    refine V_icmp_le (tgt := 36) (pc1 := 31) d6_enter_28 (by decide) rfl (fun h5 => ?_) (fun h5 => ?_)
    · skip
      exact k3 (fun z => z.elim h4 (fun z => z h5))
    · skip
      exact k2 (Or.inr h5)
theorem w6_enter (g : GlT) {k : Nat} {l : Nat} (hk : okN k l) (x : Int32) (I : Nat → Nat → Int32) (L : Nat → Nat → Int64) : Call g (k6_enter, 1, 0, 0) [.ref (xA g k), .int x] (I, L, R0, 305) (Qv (i6_enter k l x I L) L) := Call.of (by decide) (Nat.le_of_ble_eq_true rfl) rfl (v6_enter g hk x  I L  _ (And.intro rfl rfl))
theorem x6_enter {k : Nat} {l : Nat} {x : Int32} {I : Nat → Nat → Int32} {L : Nat → Nat → Int64} {aa : Nat} (h0 : aa ≠ k) (h1 : aa ≠ k + 1) : i6_enter k l x I L aa = I aa := by
  first | (simp only [i6_enter]; done) | (simp only [i6_enter]; (try (repeat' split)) <;> first | rfl | (simp [uI_off, h0, h1]; done))

def r6_levelToDrive (k : Nat) (l : Nat) (I : Nat → Nat → Int32) (L : Nat → Nat → Int64) : Int32 := (if I k 8 = 3 then bI (if I (k + 3) 3 ≤ 0 then true else false) else (if I k 8 = 4 then (if I k 9 = 0 then r2_nextOfReceiver (k + 15) I L else r2_nextOf (k + 15) (L k 18) I L) else (if I k 8 = 5 then bI (if I k 14 = 0 then true else false) else (if I k 8 = 6 then 0 else 1))))
set_option maxRecDepth 4000 in
theorem v6_levelToDrive (g : GlT) {k : Nat} {l : Nat} (hk : okN k l) (I : Nat → Nat → Int32) (L : Nat → Nat → Int64) (Q : Option Value → MemT → Prop) (hq : Q (some (.int (r6_levelToDrive k l I L))) (I, L, R0, 305)) : V g (k6_levelToDrive, 4, 0, 0) 0 0 0 [(0, .ref (xA g k))] [] (I, L, R0, 305) Q := by
  refine V_aload_n (pc1 := 1) 0 d6_levelToDrive_0 rfl rfl ?_
  refine V_geti (pc1 := 4) (nd_l0 hk) (nd_b0 hk) f6_40 (fun _ => rfl) rfl d6_levelToDrive_1 rfl ?_
  by_cases h1 : I k 8 = 3
  · refine V_tsIn 3 h1 d6_levelToDrive_4 (by decide) (by decide) (off := 32) (tgt := 36) (by decide) (by decide) ?_
    refine V_aload_n (pc1 := 37) 0 d6_levelToDrive_36 rfl rfl ?_
    refine V_getr (pc1 := 40) (nd_l0 hk) (nd_b0 hk) f6_23 (fun _ => rfl) (nd_r0_2 hk) d6_levelToDrive_37 rfl ?_
    refine V_geti (pc1 := 43) (nd_l3 hk) (nd_b3 hk) f6_113 (fun _ => rfl) rfl d6_levelToDrive_40 rfl ?_
    have key3 : ∀ (y51_0 : Int32), y51_0 = bI (if I (k + 3) 3 ≤ 0 then true else false) → ∀ (lv : List (Nat × Value)), lvsub [(0, .ref (xA g k))] lv → V g (k6_levelToDrive, 4, 0, 0) 0 0 51 lv [.int y51_0] (I, L, R0, 305) Q := by
      intro y51_0 ey51_0
      subst ey51_0
      intro lv hlv
      refine V_lv hlv ?_
      refine V_iret rfl d6_levelToDrive_51 (Nat.zero_le _) (Nat.zero_le _) ?_
      have hq2 := hq
      simp only [r6_levelToDrive, if_pos h1] at hq2
      exact hq2
    refine V_if_le (tgt := 50) (pc1 := 46) d6_levelToDrive_43 (by decide) rfl (fun h2 => ?_) (fun h2 => ?_)
    · skip
      refine V_iconst (pc1 := 51) d6_levelToDrive_50 vc_1 rfl ?_
      exact key3 _ (by first | rfl | (simp only [if_pos h2]; done) | (simp only [if_pos h2]; rfl)) _ (lvsub_p [0] rfl)
    · skip
      refine V_iconst (pc1 := 47) d6_levelToDrive_46 vc_0 rfl ?_
      refine V_goto (tgt := 51) d6_levelToDrive_47 (by decide) ?_
      exact key3 _ (by first | rfl | (simp only [if_neg h2]; done) | (simp only [if_neg h2]; rfl)) _ (lvsub_p [0] rfl)
  · skip
    by_cases h4 : I k 8 = 4
    · refine V_tsIn 4 h4 d6_levelToDrive_4 (by decide) (by decide) (off := 48) (tgt := 52) (by decide) (by decide) ?_
      refine V_aload_n (pc1 := 53) 0 d6_levelToDrive_52 rfl rfl ?_
      refine V_geti (pc1 := 56) (nd_l0 hk) (nd_b0 hk) f6_70 (fun _ => rfl) rfl d6_levelToDrive_53 rfl ?_
      have key6 : ∀ (y80_0 : Int32), y80_0 = (if I k 9 = 0 then r2_nextOfReceiver (k + 15) I L else r2_nextOf (k + 15) (L k 18) I L) → ∀ (lv : List (Nat × Value)), lvsub [(0, .ref (xA g k))] lv → V g (k6_levelToDrive, 4, 0, 0) 0 0 80 lv [.int y80_0] (I, L, R0, 305) Q := by
        intro y80_0 ey80_0
        subst ey80_0
        intro lv hlv
        refine V_lv hlv ?_
        refine V_iret rfl d6_levelToDrive_80 (Nat.zero_le _) (Nat.zero_le _) ?_
        have hq2 := hq
        simp only [r6_levelToDrive, if_neg h1, if_pos h4] at hq2
        exact hq2
      refine V_if_eq (tgt := 73) (pc1 := 59) d6_levelToDrive_56 (by decide) rfl (fun h5 => ?_) (fun h5 => ?_)
      · skip
        refine V_aload_n (pc1 := 74) 0 d6_levelToDrive_73 rfl rfl ?_
        refine V_getr (pc1 := 77) (nd_l0 hk) (nd_b0 hk) f6_36 (fun _ => rfl) (nd_r0_5 hk) d6_levelToDrive_74 rfl ?_
        refine V_vi (pc1 := 80) (w2_nextOfReceiver g (nd_G15 hk)   I L ) (nd_l15 hk) (nd_b15 hk) s2_nextOfReceiver l6_133 rfl rfl ⟨Nat.le_of_ble_eq_true rfl, Nat.le_of_ble_eq_true rfl, Nat.le_refl _, Nat.le_refl _⟩ (Nat.le_of_ble_eq_true rfl) rfl d6_levelToDrive_77 rfl ?_
        exact key6 _ (by first | rfl | (simp only [if_pos h5]; done) | (simp only [if_pos h5]; rfl)) _ (lvsub_p [0] rfl)
      · skip
        refine V_aload_n (pc1 := 60) 0 d6_levelToDrive_59 rfl rfl ?_
        refine V_getr (pc1 := 63) (nd_l0 hk) (nd_b0 hk) f6_36 (fun _ => rfl) (nd_r0_5 hk) d6_levelToDrive_60 rfl ?_
        refine V_aload_n (pc1 := 64) 0 d6_levelToDrive_63 rfl rfl ?_
        refine V_getl (pc1 := 67) (nd_l0 hk) (nd_b0 hk) f6_92 (fun _ => rfl) rfl d6_levelToDrive_64 rfl ?_
        refine V_vi (pc1 := 70) (w2_nextOf g (nd_G15 hk) (L k 18)  I L ) (nd_l15 hk) (nd_b15 hk) s2_nextOf l6_129 rfl rfl ⟨Nat.le_of_ble_eq_true rfl, Nat.le_of_ble_eq_true rfl, Nat.le_refl _, Nat.le_refl _⟩ (Nat.le_of_ble_eq_true rfl) rfl d6_levelToDrive_67 rfl ?_
        refine V_goto (tgt := 80) d6_levelToDrive_70 (by decide) ?_
        exact key6 _ (by first | rfl | (simp only [if_neg h5]; done) | (simp only [if_neg h5]; rfl)) _ (lvsub_p [0] rfl)
    · skip
      by_cases h7 : I k 8 = 5
      · refine V_tsIn 5 h7 d6_levelToDrive_4 (by decide) (by decide) (off := 77) (tgt := 81) (by decide) (by decide) ?_
        refine V_aload_n (pc1 := 82) 0 d6_levelToDrive_81 rfl rfl ?_
        refine V_geti (pc1 := 85) (nd_l0 hk) (nd_b0 hk) f6_86 (fun _ => rfl) rfl d6_levelToDrive_82 rfl ?_
        have key9 : ∀ (y93_0 : Int32), y93_0 = bI (if I k 14 = 0 then true else false) → ∀ (lv : List (Nat × Value)), lvsub [(0, .ref (xA g k))] lv → V g (k6_levelToDrive, 4, 0, 0) 0 0 93 lv [.int y93_0] (I, L, R0, 305) Q := by
          intro y93_0 ey93_0
          subst ey93_0
          intro lv hlv
          refine V_lv hlv ?_
          refine V_iret rfl d6_levelToDrive_93 (Nat.zero_le _) (Nat.zero_le _) ?_
          have hq2 := hq
          simp only [r6_levelToDrive, if_neg h1, if_neg h4, if_pos h7] at hq2
          exact hq2
        refine V_if_eq (tgt := 92) (pc1 := 88) d6_levelToDrive_85 (by decide) rfl (fun h8 => ?_) (fun h8 => ?_)
        · skip
          refine V_iconst (pc1 := 93) d6_levelToDrive_92 vc_1 rfl ?_
          exact key9 _ (by first | rfl | (simp only [if_pos h8]; done) | (simp only [if_pos h8]; rfl)) _ (lvsub_p [0] rfl)
        · skip
          refine V_iconst (pc1 := 89) d6_levelToDrive_88 vc_0 rfl ?_
          refine V_goto (tgt := 93) d6_levelToDrive_89 (by decide) ?_
          exact key9 _ (by first | rfl | (simp only [if_neg h8]; done) | (simp only [if_neg h8]; rfl)) _ (lvsub_p [0] rfl)
      · skip
        by_cases h10 : I k 8 = 6
        · refine V_tsIn 6 h10 d6_levelToDrive_4 (by decide) (by decide) (off := 90) (tgt := 94) (by decide) (by decide) ?_
          refine V_iconst (pc1 := 95) d6_levelToDrive_94 vc_0 rfl ?_
          refine V_iret rfl d6_levelToDrive_95 (Nat.zero_le _) (Nat.zero_le _) ?_
          have hq2 := hq
          simp only [r6_levelToDrive, if_neg h1, if_neg h4, if_neg h7, if_pos h10] at hq2
          exact hq2
        · skip
          refine V_tsOut (tgt := 96) d6_levelToDrive_4 (fun i a b => by
              have hh : i = 3 ∨ i = 4 ∨ i = 5 ∨ i = 6 := by omega
              rcases hh with rfl | rfl | rfl | rfl
              · exact ts_ne (by decide) h1
              · exact ts_ne (by decide) h4
              · exact ts_ne (by decide) h7
              · exact ts_ne (by decide) h10
              ) (by decide) ?_
          refine V_iconst (pc1 := 97) d6_levelToDrive_96 vc_1 rfl ?_
          refine V_iret rfl d6_levelToDrive_97 (Nat.zero_le _) (Nat.zero_le _) ?_
          have hq2 := hq
          simp only [r6_levelToDrive, if_neg h1, if_neg h4, if_neg h7, if_neg h10] at hq2
          exact hq2
theorem w6_levelToDrive (g : GlT) {k : Nat} {l : Nat} (hk : okN k l) (I : Nat → Nat → Int32) (L : Nat → Nat → Int64) : Call g (k6_levelToDrive, 4, 0, 0) [.ref (xA g k)] (I, L, R0, 305) (Qi (r6_levelToDrive k l I L) (I) L) := Call.of (by decide) (Nat.le_of_ble_eq_true rfl) rfl (v6_levelToDrive g hk   I L  _ (And.intro rfl rfl))

def r6_drive (k : Nat) (l : Nat) (I : Nat → Nat → Int32) (L : Nat → Nat → Int64) : Int32 := r6_levelToDrive k l I L
def i6_drive (k : Nat) (l : Nat) (I : Nat → Nat → Int32) (L : Nat → Nat → Int64) : Nat → Nat → Int32 := uI I k 16 (r6_levelToDrive k l I L)
set_option maxRecDepth 4000 in
theorem v6_drive (g : GlT) {k : Nat} {l : Nat} (hk : okN k l) (I : Nat → Nat → Int32) (L : Nat → Nat → Int64) (Q : Option Value → MemT → Prop) (hq : Q (some (.int (r6_drive k l I L))) (i6_drive k l I L, L, R0, 305)) : V g (k6_drive, 5, 0, 0) 0 0 0 [(0, .ref (xA g k))] [] (I, L, R0, 305) Q := by
  refine V_aload_n (pc1 := 1) 0 d6_drive_0 rfl rfl ?_
  refine V_aload_n (pc1 := 2) 0 d6_drive_1 rfl rfl ?_
  refine V_vi (pc1 := 5) (w6_levelToDrive g hk   I L ) (nd_l0 hk) (nd_b0 hk) s6_levelToDrive l6_125 rfl rfl ⟨Nat.le_of_ble_eq_true rfl, Nat.le_of_ble_eq_true rfl, Nat.le_refl _, Nat.le_refl _⟩ (Nat.le_of_ble_eq_true rfl) rfl d6_drive_2 rfl ?_
  refine V_puti (pc1 := 8) (nd_l0 hk) (nd_b0 hk) f6_44 rfl rfl d6_drive_5 rfl ?_
  refine V_aload_n (pc1 := 9) 0 d6_drive_8 rfl rfl ?_
  refine V_geti (pc1 := 12) (nd_l0 hk) (nd_b0 hk) f6_44 (fun _ => rfl) (uI_self _ _ _ _) d6_drive_9 rfl ?_
  refine V_iret rfl d6_drive_12 (Nat.zero_le _) (Nat.zero_le _) ?_
  have hq2 := hq
  simp only [r6_drive, i6_drive] at hq2
  exact hq2
theorem w6_drive (g : GlT) {k : Nat} {l : Nat} (hk : okN k l) (I : Nat → Nat → Int32) (L : Nat → Nat → Int64) : Call g (k6_drive, 5, 0, 0) [.ref (xA g k)] (I, L, R0, 305) (Qi (r6_drive k l I L) (i6_drive k l I L) L) := Call.of (by decide) (Nat.le_of_ble_eq_true rfl) rfl (v6_drive g hk   I L  _ (And.intro rfl rfl))
theorem x6_drive {k : Nat} {l : Nat} {I : Nat → Nat → Int32} {L : Nat → Nat → Int64} {aa : Nat} (h0 : aa ≠ k) : i6_drive k l I L aa = I aa := by
  first | (simp only [i6_drive]; done) | (simp only [i6_drive]; (try (repeat' split)) <;> first | rfl | (simp [uI_off, h0]; done))

def i6_raiseReceiveCounter (k : Nat) (l : Nat) (x : Int32) (I : Nat → Nat → Int32) (L : Nat → Nat → Int64) : Nat → Nat → Int32 := uI I k 11 (if (I k 11) + x < 255 then (I k 11) + x else 255)
set_option maxRecDepth 4000 in
theorem v6_raiseReceiveCounter (g : GlT) {k : Nat} {l : Nat} (hk : okN k l) (x : Int32) (I : Nat → Nat → Int32) (L : Nat → Nat → Int64) (Q : Option Value → MemT → Prop) (hq : Q (none) (i6_raiseReceiveCounter k l x I L, L, R0, 305)) : V g (k6_raiseReceiveCounter, 1, 0, 0) 0 0 0 [(0, .ref (xA g k)), (1, .int x)] [] (I, L, R0, 305) Q := by
  refine V_aload_n (pc1 := 1) 0 d6_raiseReceiveCounter_0 rfl rfl ?_
  refine V_sipush (pc1 := 4) d6_raiseReceiveCounter_1 vs_255 rfl ?_
  refine V_aload_n (pc1 := 5) 0 d6_raiseReceiveCounter_4 rfl rfl ?_
  refine V_geti (pc1 := 8) (nd_l0 hk) (nd_b0 hk) f6_77 (fun _ => rfl) rfl d6_raiseReceiveCounter_5 rfl ?_
  refine V_iload_n (pc1 := 9) 1 d6_raiseReceiveCounter_8 rfl rfl ?_
  refine V_iadd (pc1 := 10) d6_raiseReceiveCounter_9 rfl ?_
  refine V_min (pc1 := 13) l6_268 jminS jmthI jminC (Nat.le_of_ble_eq_true rfl) (Nat.zero_le _) (Nat.zero_le _) (Nat.le_of_ble_eq_true rfl) d6_raiseReceiveCounter_10 rfl ?_
  refine V_puti (pc1 := 16) (nd_l0 hk) (nd_b0 hk) f6_77 rfl rfl d6_raiseReceiveCounter_13 rfl ?_
  refine V_vret rfl d6_raiseReceiveCounter_16 (Nat.zero_le _) (Nat.zero_le _) ?_
  have hq2 := hq
  simp only [i6_raiseReceiveCounter] at hq2
  exact hq2
theorem w6_raiseReceiveCounter (g : GlT) {k : Nat} {l : Nat} (hk : okN k l) (x : Int32) (I : Nat → Nat → Int32) (L : Nat → Nat → Int64) : Call g (k6_raiseReceiveCounter, 1, 0, 0) [.ref (xA g k), .int x] (I, L, R0, 305) (Qv (i6_raiseReceiveCounter k l x I L) L) := Call.of (by decide) (Nat.le_of_ble_eq_true rfl) rfl (v6_raiseReceiveCounter g hk x  I L  _ (And.intro rfl rfl))
theorem x6_raiseReceiveCounter {k : Nat} {l : Nat} {x : Int32} {I : Nat → Nat → Int32} {L : Nat → Nat → Int64} {aa : Nat} (h0 : aa ≠ k) : i6_raiseReceiveCounter k l x I L aa = I aa := by
  first | (simp only [i6_raiseReceiveCounter]; done) | (simp only [i6_raiseReceiveCounter]; (try (repeat' split)) <;> first | rfl | (simp [uI_off, h0]; done))

def i6_fail (k : Nat) (l : Nat) (kd : Nat) (I : Nat → Nat → Int32) (L : Nat → Nat → Int64) : Nat → Nat → Int32 := (if (if I k 9 = 0 then i6_raiseReceiveCounter k l 1 (i8_countError (k + 1) kd I L) L else (if (¬ (nI kd = 5)) ∨ (¬ ((r6_isErrorPassive k l (i8_countError (k + 1) kd I L) L) = true)) then uI (i8_countError (k + 1) kd I L) k 10 ((I k 10) + 8) else i8_countError (k + 1) kd I L)) k 10 < I l 1 then i6_enter k l 5 (uI (if I k 9 = 0 then i6_raiseReceiveCounter k l 1 (i8_countError (k + 1) kd I L) L else (if (¬ (nI kd = 5)) ∨ (¬ ((r6_isErrorPassive k l (i8_countError (k + 1) kd I L) L) = true)) then uI (i8_countError (k + 1) kd I L) k 10 ((I k 10) + 8) else i8_countError (k + 1) kd I L)) k 14 (bI (if (r6_isErrorPassive k l (if I k 9 = 0 then i6_raiseReceiveCounter k l 1 (i8_countError (k + 1) kd I L) L else (if (¬ (nI kd = 5)) ∨ (¬ ((r6_isErrorPassive k l (i8_countError (k + 1) kd I L) L) = true)) then uI (i8_countError (k + 1) kd I L) k 10 ((I k 10) + 8) else i8_countError (k + 1) kd I L)) L) = true then false else true))) L else i6_enter k l 1 (if I k 9 = 0 then i6_raiseReceiveCounter k l 1 (i8_countError (k + 1) kd I L) L else (if (¬ (nI kd = 5)) ∨ (¬ ((r6_isErrorPassive k l (i8_countError (k + 1) kd I L) L) = true)) then uI (i8_countError (k + 1) kd I L) k 10 ((I k 10) + 8) else i8_countError (k + 1) kd I L)) L)
set_option maxRecDepth 4000 in
theorem v6_fail (g : GlT) {k : Nat} {l : Nat} (hk : okN k l) (kd : Nat) (hkd : kd < 6) (I : Nat → Nat → Int32) (L : Nat → Nat → Int64) (Q : Option Value → MemT → Prop) (hq : Q (none) (i6_fail k l kd I L, L, R0, 305)) : V g (k6_fail, 2, 0, 0) 0 0 0 [(0, .ref (xA g k)), (1, .int (nI kd))] [] (I, L, R0, 305) Q := by
  refine V_aload_n (pc1 := 1) 0 d6_fail_0 rfl rfl ?_
  refine V_getr (pc1 := 4) (nd_l0 hk) (nd_b0 hk) f6_12 (fun _ => rfl) (nd_r0_1 hk) d6_fail_1 rfl ?_
  refine V_iload_n (pc1 := 5) 1 d6_fail_4 rfl rfl ?_
  refine V_vv (pc1 := 8) (w8_countError g (nd_Y1 hk) kd hkd I L ) (nd_l1 hk) (nd_b1 hk) s8_countError l6_262 rfl rfl ⟨Nat.le_of_ble_eq_true rfl, Nat.le_of_ble_eq_true rfl, Nat.le_refl _, Nat.le_refl _⟩ (Nat.le_of_ble_eq_true rfl) rfl d6_fail_5 rfl ?_
  refine V_aload_n (pc1 := 9) 0 d6_fail_8 rfl rfl ?_
  refine V_geti (pc1 := 12) (nd_l0 hk) (nd_b0 hk) f6_70 (fun _ => rfl) (congrFun (x8_countError (I := I) (L := L) (show (k : Nat) ≠ k + 1 by omega) (show (k : Nat) ≠ k + 2 by omega)) _) d6_fail_9 rfl ?_
  have key7 : ∀ (zI46 : Nat → Nat → Int32), zI46 = (if I k 9 = 0 then i6_raiseReceiveCounter k l 1 (i8_countError (k + 1) kd I L) L else (if (¬ (nI kd = 5)) ∨ (¬ ((r6_isErrorPassive k l (i8_countError (k + 1) kd I L) L) = true)) then uI (i8_countError (k + 1) kd I L) k 10 ((I k 10) + 8) else i8_countError (k + 1) kd I L)) → ∀ (lv : List (Nat × Value)), lvsub [(0, .ref (xA g k)), (1, .int (nI kd))] lv → V g (k6_fail, 2, 0, 0) 0 0 46 lv [] (zI46, L, R0, 305) Q := by
    intro zI46 ezI46
    subst ezI46
    intro lv hlv
    refine V_lv hlv ?_
    refine V_aload_n (pc1 := 47) 0 d6_fail_46 rfl rfl ?_
    refine V_geti (pc1 := 50) (nd_l0 hk) (nd_b0 hk) f6_74 (fun _ => rfl) rfl d6_fail_47 rfl ?_
    refine V_aload_n (pc1 := 51) 0 d6_fail_50 rfl rfl ?_
    refine V_getr (pc1 := 54) (nd_l0 hk) (nd_b0 hk) f6_50 (fun _ => rfl) (nd_r0_0 hk) d6_fail_51 rfl ?_
    refine V_geti (pc1 := 57) (lm_l0 (nd_L hk)) (lm_b0 (nd_L hk)) f6_265 (fun _ => rfl) (show (if I k 9 = 0 then i6_raiseReceiveCounter k l 1 (i8_countError (k + 1) kd I L) L else (if (¬ (nI kd = 5)) ∨ (¬ ((r6_isErrorPassive k l (i8_countError (k + 1) kd I L) L) = true)) then uI (i8_countError (k + 1) kd I L) k 10 ((I k 10) + 8) else i8_countError (k + 1) kd I L)) l 1 = (I l 1) from by (repeat' split) <;> first | exact ((congrFun (x6_raiseReceiveCounter (I := (i8_countError (k + 1) kd I L)) (L := L) (show (l : Nat) ≠ k by have := nd_lt hk; omega)) _).trans (congrFun (x8_countError (I := I) (L := L) (show (l : Nat) ≠ k + 1 by have := nd_lt hk; omega) (show (l : Nat) ≠ k + 2 by have := nd_lt hk; omega)) _)) | exact ((congrFun (uI_off _ _ _ (show (l : Nat) ≠ k by have := nd_lt hk; omega)) _).trans (congrFun (x8_countError (I := I) (L := L) (show (l : Nat) ≠ k + 1 by have := nd_lt hk; omega) (show (l : Nat) ≠ k + 2 by have := nd_lt hk; omega)) _)) | exact (congrFun (x8_countError (I := I) (L := L) (show (l : Nat) ≠ k + 1 by have := nd_lt hk; omega) (show (l : Nat) ≠ k + 2 by have := nd_lt hk; omega)) _)) d6_fail_54 rfl ?_
    have key11 : ∀ (zI89 : Nat → Nat → Int32), zI89 = (if (if I k 9 = 0 then i6_raiseReceiveCounter k l 1 (i8_countError (k + 1) kd I L) L else (if (¬ (nI kd = 5)) ∨ (¬ ((r6_isErrorPassive k l (i8_countError (k + 1) kd I L) L) = true)) then uI (i8_countError (k + 1) kd I L) k 10 ((I k 10) + 8) else i8_countError (k + 1) kd I L)) k 10 < I l 1 then i6_enter k l 5 (uI (if I k 9 = 0 then i6_raiseReceiveCounter k l 1 (i8_countError (k + 1) kd I L) L else (if (¬ (nI kd = 5)) ∨ (¬ ((r6_isErrorPassive k l (i8_countError (k + 1) kd I L) L) = true)) then uI (i8_countError (k + 1) kd I L) k 10 ((I k 10) + 8) else i8_countError (k + 1) kd I L)) k 14 (bI (if (r6_isErrorPassive k l (if I k 9 = 0 then i6_raiseReceiveCounter k l 1 (i8_countError (k + 1) kd I L) L else (if (¬ (nI kd = 5)) ∨ (¬ ((r6_isErrorPassive k l (i8_countError (k + 1) kd I L) L) = true)) then uI (i8_countError (k + 1) kd I L) k 10 ((I k 10) + 8) else i8_countError (k + 1) kd I L)) L) = true then false else true))) L else i6_enter k l 1 (if I k 9 = 0 then i6_raiseReceiveCounter k l 1 (i8_countError (k + 1) kd I L) L else (if (¬ (nI kd = 5)) ∨ (¬ ((r6_isErrorPassive k l (i8_countError (k + 1) kd I L) L) = true)) then uI (i8_countError (k + 1) kd I L) k 10 ((I k 10) + 8) else i8_countError (k + 1) kd I L)) L) → ∀ (lv : List (Nat × Value)), lvsub [(0, .ref (xA g k)), (1, .int (nI kd))] lv → V g (k6_fail, 2, 0, 0) 0 0 89 lv [] (zI89, L, R0, 305) Q := by
      intro zI89 ezI89
      subst ezI89
      intro lv hlv
      refine V_lv hlv ?_
      refine V_vret rfl d6_fail_89 (Nat.zero_le _) (Nat.zero_le _) ?_
      have hq2 := hq
      simp only [i6_fail] at hq2
      exact hq2
    refine V_icmp_lt (tgt := 68) (pc1 := 60) d6_fail_57 (by decide) rfl (fun h8 => ?_) (fun h8 => ?_)
    · skip
      refine V_aload_n (pc1 := 69) 0 d6_fail_68 rfl rfl ?_
      refine V_aload_n (pc1 := 70) 0 d6_fail_69 rfl rfl ?_
      refine V_vi (pc1 := 73) (w6_isErrorPassive g hk   (if I k 9 = 0 then i6_raiseReceiveCounter k l 1 (i8_countError (k + 1) kd I L) L else (if (¬ (nI kd = 5)) ∨ (¬ ((r6_isErrorPassive k l (i8_countError (k + 1) kd I L) L) = true)) then uI (i8_countError (k + 1) kd I L) k 10 ((I k 10) + 8) else i8_countError (k + 1) kd I L)) L ) (nd_l0 hk) (nd_b0 hk) s6_isErrorPassive l6_182 rfl rfl ⟨Nat.le_of_ble_eq_true rfl, Nat.le_of_ble_eq_true rfl, Nat.le_refl _, Nat.le_refl _⟩ (Nat.le_of_ble_eq_true rfl) rfl d6_fail_70 rfl ?_
      have key10 : ∀ (y81_0 : Int32), y81_0 = bI (if (r6_isErrorPassive k l (if I k 9 = 0 then i6_raiseReceiveCounter k l 1 (i8_countError (k + 1) kd I L) L else (if (¬ (nI kd = 5)) ∨ (¬ ((r6_isErrorPassive k l (i8_countError (k + 1) kd I L) L) = true)) then uI (i8_countError (k + 1) kd I L) k 10 ((I k 10) + 8) else i8_countError (k + 1) kd I L)) L) = true then false else true) → ∀ (lv : List (Nat × Value)), lvsub [(0, .ref (xA g k)), (1, .int (nI kd))] lv → V g (k6_fail, 2, 0, 0) 0 0 81 lv [.int y81_0, .ref (xA g k)] ((if I k 9 = 0 then i6_raiseReceiveCounter k l 1 (i8_countError (k + 1) kd I L) L else (if (¬ (nI kd = 5)) ∨ (¬ ((r6_isErrorPassive k l (i8_countError (k + 1) kd I L) L) = true)) then uI (i8_countError (k + 1) kd I L) k 10 ((I k 10) + 8) else i8_countError (k + 1) kd I L)), L, R0, 305) Q := by
        intro y81_0 ey81_0
        subst ey81_0
        intro lv hlv
        refine V_lv hlv ?_
        refine V_putz (pc1 := 84) (nd_l0 hk) (nd_b0 hk) f6_86 rfl rfl (bI_or _) d6_fail_81 rfl ?_
        refine V_aload_n (pc1 := 85) 0 d6_fail_84 rfl rfl ?_
        refine V_iconst (pc1 := 86) d6_fail_85 vc_5 rfl ?_
        refine V_vv (pc1 := 89) (w6_enter g hk 5  (uI (if I k 9 = 0 then i6_raiseReceiveCounter k l 1 (i8_countError (k + 1) kd I L) L else (if (¬ (nI kd = 5)) ∨ (¬ ((r6_isErrorPassive k l (i8_countError (k + 1) kd I L) L) = true)) then uI (i8_countError (k + 1) kd I L) k 10 ((I k 10) + 8) else i8_countError (k + 1) kd I L)) k 14 (bI (if (r6_isErrorPassive k l (if I k 9 = 0 then i6_raiseReceiveCounter k l 1 (i8_countError (k + 1) kd I L) L else (if (¬ (nI kd = 5)) ∨ (¬ ((r6_isErrorPassive k l (i8_countError (k + 1) kd I L) L) = true)) then uI (i8_countError (k + 1) kd I L) k 10 ((I k 10) + 8) else i8_countError (k + 1) kd I L)) L) = true then false else true))) L ) (nd_l0 hk) (nd_b0 hk) s6_enter l6_169 rfl rfl ⟨Nat.le_of_ble_eq_true rfl, Nat.le_of_ble_eq_true rfl, Nat.le_refl _, Nat.le_refl _⟩ (Nat.le_of_ble_eq_true rfl) rfl d6_fail_86 rfl ?_
        exact key11 _ (by first | rfl | (simp only [if_pos h8]; done) | (simp only [if_pos h8]; rfl)) _ (lvsub_p [0, 1] rfl)
      refine V_bne (tgt := 80) (pc1 := 76) d6_fail_73 (by decide) rfl (fun h9 => ?_) (fun h9 => ?_)
      · skip
        refine V_iconst (pc1 := 81) d6_fail_80 vc_0 rfl ?_
        exact key10 _ (by first | rfl | (simp only [if_pos h9]; done) | (simp only [if_pos h9]; rfl)) _ (lvsub_p [0, 1] rfl)
      · skip
        refine V_iconst (pc1 := 77) d6_fail_76 vc_1 rfl ?_
        refine V_goto (tgt := 81) d6_fail_77 (by decide) ?_
        exact key10 _ (by first | rfl | (simp only [if_neg h9]; done) | (simp only [if_neg h9]; rfl)) _ (lvsub_p [0, 1] rfl)
    · skip
      refine V_aload_n (pc1 := 61) 0 d6_fail_60 rfl rfl ?_
      refine V_iconst (pc1 := 62) d6_fail_61 vc_1 rfl ?_
      refine V_vv (pc1 := 65) (w6_enter g hk 1  (if I k 9 = 0 then i6_raiseReceiveCounter k l 1 (i8_countError (k + 1) kd I L) L else (if (¬ (nI kd = 5)) ∨ (¬ ((r6_isErrorPassive k l (i8_countError (k + 1) kd I L) L) = true)) then uI (i8_countError (k + 1) kd I L) k 10 ((I k 10) + 8) else i8_countError (k + 1) kd I L)) L ) (nd_l0 hk) (nd_b0 hk) s6_enter l6_169 rfl rfl ⟨Nat.le_of_ble_eq_true rfl, Nat.le_of_ble_eq_true rfl, Nat.le_refl _, Nat.le_refl _⟩ (Nat.le_of_ble_eq_true rfl) rfl d6_fail_62 rfl ?_
      refine V_goto (tgt := 89) d6_fail_65 (by decide) ?_
      exact key11 _ (by first | rfl | (simp only [if_neg h8]; done) | (simp only [if_neg h8]; rfl)) _ (lvsub_p [0, 1] rfl)
  refine V_if_ne (tgt := 23) (pc1 := 15) d6_fail_12 (by decide) rfl (fun h1 => ?_) (fun h1 => ?_)
  · skip
    refine V_iload_n (pc1 := 24) 1 d6_fail_23 rfl rfl ?_
    refine V_iconst (pc1 := 25) d6_fail_24 vc_5 rfl ?_
    have k3 : ((¬ (nI kd = 5)) ∨ (¬ ((r6_isErrorPassive k l (i8_countError (k + 1) kd I L) L) = true))) → V g (k6_fail, 2, 0, 0) 0 0 35 [(0, .ref (xA g k)), (1, .int (nI kd))] [] (i8_countError (k + 1) kd I L, L, R0, 305) Q := by
      intro h2
      refine V_aload_n (pc1 := 36) 0 d6_fail_35 rfl rfl ?_
      refine V_dup (pc1 := 37) d6_fail_36 rfl rfl ?_
      refine V_geti (pc1 := 40) (nd_l0 hk) (nd_b0 hk) f6_74 (fun _ => rfl) (congrFun (x8_countError (I := I) (L := L) (show (k : Nat) ≠ k + 1 by omega) (show (k : Nat) ≠ k + 2 by omega)) _) d6_fail_37 rfl ?_
      refine V_bipush (pc1 := 42) d6_fail_40 vb_8 rfl ?_
      refine V_iadd (pc1 := 43) d6_fail_42 rfl ?_
      refine V_puti (pc1 := 46) (nd_l0 hk) (nd_b0 hk) f6_74 rfl rfl d6_fail_43 rfl ?_
      exact key7 _ (by first | rfl | (simp only [if_neg h1, if_pos h2]; done) | (simp only [if_neg h1, if_pos h2]; rfl)) _ (lvsub_p [0, 1] rfl)
    have k4 : ¬ ((¬ (nI kd = 5)) ∨ (¬ ((r6_isErrorPassive k l (i8_countError (k + 1) kd I L) L) = true))) → V g (k6_fail, 2, 0, 0) 0 0 46 [(0, .ref (xA g k)), (1, .int (nI kd))] [] (i8_countError (k + 1) kd I L, L, R0, 305) Q := by
      intro h2
      exact key7 _ (by first | rfl | (simp only [if_neg h1, if_neg h2]; done) | (simp only [if_neg h1, if_neg h2]; rfl)) _ (lvsub_p [0, 1] rfl)
    refine V_icmp_ne (tgt := 35) (pc1 := 28) d6_fail_25 (by decide) rfl (fun h5 => ?_) (fun h5 => ?_)
    · skip
      exact k3 (Or.inl h5)
    · skip
      refine V_aload_n (pc1 := 29) 0 d6_fail_28 rfl rfl ?_
      refine V_vi (pc1 := 32) (w6_isErrorPassive g hk   (i8_countError (k + 1) kd I L) L ) (nd_l0 hk) (nd_b0 hk) s6_isErrorPassive l6_182 rfl rfl ⟨Nat.le_of_ble_eq_true rfl, Nat.le_of_ble_eq_true rfl, Nat.le_refl _, Nat.le_refl _⟩ (Nat.le_of_ble_eq_true rfl) rfl d6_fail_29 rfl ?_
      refine V_bne (tgt := 46) (pc1 := 35) d6_fail_32 (by decide) rfl (fun h6 => ?_) (fun h6 => ?_)
      · skip
        exact k4 (fun z => z.elim (fun z => z h5) (fun z => z h6))
      · skip
        exact k3 (Or.inr h6)
  · skip
    refine V_aload_n (pc1 := 16) 0 d6_fail_15 rfl rfl ?_
    refine V_iconst (pc1 := 17) d6_fail_16 vc_1 rfl ?_
    refine V_vv (pc1 := 20) (w6_raiseReceiveCounter g hk 1  (i8_countError (k + 1) kd I L) L ) (nd_l0 hk) (nd_b0 hk) s6_raiseReceiveCounter l6_179 rfl rfl ⟨Nat.le_of_ble_eq_true rfl, Nat.le_of_ble_eq_true rfl, Nat.le_refl _, Nat.le_refl _⟩ (Nat.le_of_ble_eq_true rfl) rfl d6_fail_17 rfl ?_
    refine V_goto (tgt := 46) d6_fail_20 (by decide) ?_
    exact key7 _ (by first | rfl | (simp only [if_pos h1]; done) | (simp only [if_pos h1]; rfl)) _ (lvsub_p [0, 1] rfl)
theorem w6_fail (g : GlT) {k : Nat} {l : Nat} (hk : okN k l) (kd : Nat) (hkd : kd < 6) (I : Nat → Nat → Int32) (L : Nat → Nat → Int64) : Call g (k6_fail, 2, 0, 0) [.ref (xA g k), .int (nI kd)] (I, L, R0, 305) (Qv (i6_fail k l kd I L) L) := Call.of (by decide) (Nat.le_of_ble_eq_true rfl) rfl (v6_fail g hk kd hkd I L  _ (And.intro rfl rfl))
theorem x6_fail {k : Nat} {l : Nat} {kd : Nat} {I : Nat → Nat → Int32} {L : Nat → Nat → Int64} {aa : Nat} (h0 : aa ≠ k) (h1 : aa ≠ k + 1) (h2 : aa ≠ k + 2) : i6_fail k l kd I L aa = I aa := by
  first | (simp only [i6_fail]; done) | (simp only [i6_fail]; (try (repeat' split)) <;> first | rfl | (simp [uI_off, h0, h1, h2, x6_enter, x6_raiseReceiveCounter, x8_countError]; done))

def i6_beginFrame (k : Nat) (l : Nat) (x : Int32) (I : Nat → Nat → Int32) (L : Nat → Nat → Int64) : Nat → Nat → Int32 := (if x = 0 then i2_begin (k + 15) (uI (i6_enter k l 4 I L) k 9 x) L else uI (i2_begin (k + 15) (uI (i6_enter k l 4 I L) k 9 x) L) k 17 0)
def m6_beginFrame (k : Nat) (l : Nat) (x : Int32) (I : Nat → Nat → Int32) (L : Nat → Nat → Int64) : Nat → Nat → Int64 := (if x = 0 then m2_begin (k + 15) (uI (i6_enter k l 4 I L) k 9 x) L else uL (m2_begin (k + 15) (uI (i6_enter k l 4 I L) k 9 x) L) k 18 (r2_outgoingBits (r3_keyAt (k + 3) 4 0 (uI (i2_begin (k + 15) (uI (i6_enter k l 4 I L) k 9 x) L) k 17 0) (m2_begin (k + 15) (uI (i6_enter k l 4 I L) k 9 x) L)) (r3_lengthAt (k + 3) 4 0 (uI (i2_begin (k + 15) (uI (i6_enter k l 4 I L) k 9 x) L) k 17 0) (m2_begin (k + 15) (uI (i6_enter k l 4 I L) k 9 x) L)) (r3_dataAt (k + 3) 4 0 (uI (i2_begin (k + 15) (uI (i6_enter k l 4 I L) k 9 x) L) k 17 0) (m2_begin (k + 15) (uI (i6_enter k l 4 I L) k 9 x) L))))
set_option maxRecDepth 4000 in
theorem v6_beginFrame (g : GlT) {k : Nat} {l : Nat} (hk : okN k l) (x : Int32) (hx : x = 0 ∨ x = 1) (I : Nat → Nat → Int32) (L : Nat → Nat → Int64) (hv : nV k I) (Q : Option Value → MemT → Prop) (hq : Q (none) (i6_beginFrame k l x I L, m6_beginFrame k l x I L, R0, 305)) : V g (k6_beginFrame, 3, 0, 0) 0 0 0 [(0, .ref (xA g k)), (1, .int x)] [] (I, L, R0, 305) Q := by
  have hv0 := hv
  obtain ⟨⟨gw, hw4, hw⟩, ⟨gr, hr6, hr⟩, ga, ha4, ha⟩ := hv0
  refine V_aload_n (pc1 := 1) 0 d6_beginFrame_0 rfl rfl ?_
  refine V_iconst (pc1 := 2) d6_beginFrame_1 vc_4 rfl ?_
  refine V_vv (pc1 := 5) (w6_enter g hk 4  I L ) (nd_l0 hk) (nd_b0 hk) s6_enter l6_169 rfl rfl ⟨Nat.le_of_ble_eq_true rfl, Nat.le_of_ble_eq_true rfl, Nat.le_refl _, Nat.le_refl _⟩ (Nat.le_of_ble_eq_true rfl) rfl d6_beginFrame_2 rfl ?_
  refine V_aload_n (pc1 := 6) 0 d6_beginFrame_5 rfl rfl ?_
  refine V_iload_n (pc1 := 7) 1 d6_beginFrame_6 rfl rfl ?_
  refine V_putz (pc1 := 10) (nd_l0 hk) (nd_b0 hk) f6_70 rfl rfl hx d6_beginFrame_7 rfl ?_
  refine V_aload_n (pc1 := 11) 0 d6_beginFrame_10 rfl rfl ?_
  refine V_getr (pc1 := 14) (nd_l0 hk) (nd_b0 hk) f6_36 (fun _ => rfl) (nd_r0_5 hk) d6_beginFrame_11 rfl ?_
  refine V_vv (pc1 := 17) (w2_begin g (nd_G15 hk)   (uI (i6_enter k l 4 I L) k 9 x) L ) (nd_l15 hk) (nd_b15 hk) s2_begin l6_185 rfl rfl ⟨Nat.le_of_ble_eq_true rfl, Nat.le_of_ble_eq_true rfl, Nat.le_refl _, Nat.le_refl _⟩ (Nat.le_of_ble_eq_true rfl) rfl d6_beginFrame_14 rfl ?_
  refine V_iload_n (pc1 := 18) 1 d6_beginFrame_17 rfl rfl ?_
  have key2 : ∀ (zI57 : Nat → Nat → Int32), zI57 = (if x = 0 then i2_begin (k + 15) (uI (i6_enter k l 4 I L) k 9 x) L else uI (i2_begin (k + 15) (uI (i6_enter k l 4 I L) k 9 x) L) k 17 0) → ∀ (zL57 : Nat → Nat → Int64), zL57 = (if x = 0 then m2_begin (k + 15) (uI (i6_enter k l 4 I L) k 9 x) L else uL (m2_begin (k + 15) (uI (i6_enter k l 4 I L) k 9 x) L) k 18 (r2_outgoingBits (r3_keyAt (k + 3) 4 0 (uI (i2_begin (k + 15) (uI (i6_enter k l 4 I L) k 9 x) L) k 17 0) (m2_begin (k + 15) (uI (i6_enter k l 4 I L) k 9 x) L)) (r3_lengthAt (k + 3) 4 0 (uI (i2_begin (k + 15) (uI (i6_enter k l 4 I L) k 9 x) L) k 17 0) (m2_begin (k + 15) (uI (i6_enter k l 4 I L) k 9 x) L)) (r3_dataAt (k + 3) 4 0 (uI (i2_begin (k + 15) (uI (i6_enter k l 4 I L) k 9 x) L) k 17 0) (m2_begin (k + 15) (uI (i6_enter k l 4 I L) k 9 x) L)))) → ∀ (lv : List (Nat × Value)), lvsub [(0, .ref (xA g k)), (1, .int x)] lv → V g (k6_beginFrame, 3, 0, 0) 0 0 57 lv [] (zI57, zL57, R0, 305) Q := by
    intro zI57 ezI57 zL57 ezL57
    subst ezI57
    subst ezL57
    intro lv hlv
    refine V_lv hlv ?_
    refine V_vret rfl d6_beginFrame_57 (Nat.zero_le _) (Nat.zero_le _) ?_
    have hq2 := hq
    simp only [i6_beginFrame, m6_beginFrame] at hq2
    exact hq2
  refine V_if_eq (tgt := 57) (pc1 := 21) d6_beginFrame_18 (by decide) rfl (fun h1 => ?_) (fun h1 => ?_)
  · skip
    exact key2 _ (by first | rfl | (simp only [if_pos h1]; done) | (simp only [if_pos h1]; rfl)) _ (by first | rfl | (simp only [if_pos h1]; done) | (simp only [if_pos h1]; rfl)) _ (lvsub_p [0, 1] rfl)
  · skip
    refine V_aload_n (pc1 := 22) 0 d6_beginFrame_21 rfl rfl ?_
    refine V_iconst (pc1 := 23) d6_beginFrame_22 vc_0 rfl ?_
    refine V_puti (pc1 := 26) (nd_l0 hk) (nd_b0 hk) f6_47 rfl rfl d6_beginFrame_23 rfl ?_
    refine V_aload_n (pc1 := 27) 0 d6_beginFrame_26 rfl rfl ?_
    refine V_aload_n (pc1 := 28) 0 d6_beginFrame_27 rfl rfl ?_
    refine V_getr (pc1 := 31) (nd_l0 hk) (nd_b0 hk) f6_23 (fun _ => rfl) (nd_r0_2 hk) d6_beginFrame_28 rfl ?_
    refine V_iconst (pc1 := 32) d6_beginFrame_31 vc_0 rfl ?_
    refine V_vi (pc1 := 35) (w3_keyAt g (nd_F3 hk) 0 gw hw4 (uI (i2_begin (k + 15) (uI (i6_enter k l 4 I L) k 9 x) L) k 17 0) (m2_begin (k + 15) (uI (i6_enter k l 4 I L) k 9 x) L) (((congrFun (uI_off _ _ _ (show (k + 3 : Nat) ≠ k by omega)) _).trans ((congrFun (x2_begin (I := (uI (i6_enter k l 4 I L) k 9 x)) (L := L) (show (k + 3 : Nat) ≠ k + 15 by omega)) _).trans ((congrFun (uI_off _ _ _ (show (k + 3 : Nat) ≠ k by omega)) _).trans (congrFun (x6_enter (I := I) (L := L) (show (k + 3 : Nat) ≠ k by omega) (show (k + 3 : Nat) ≠ k + 1 by omega)) _)))).trans hw)) (nd_l3 hk) (nd_b3 hk) s3_keyAt l6_116 rfl rfl ⟨Nat.le_of_ble_eq_true rfl, Nat.le_of_ble_eq_true rfl, Nat.le_refl _, Nat.le_refl _⟩ (Nat.le_of_ble_eq_true rfl) rfl d6_beginFrame_32 rfl ?_
    refine V_aload_n (pc1 := 36) 0 d6_beginFrame_35 rfl rfl ?_
    refine V_getr (pc1 := 39) (nd_l0 hk) (nd_b0 hk) f6_23 (fun _ => rfl) (nd_r0_2 hk) d6_beginFrame_36 rfl ?_
    refine V_iconst (pc1 := 40) d6_beginFrame_39 vc_0 rfl ?_
    refine V_vi (pc1 := 43) (w3_lengthAt g (nd_F3 hk) 0 gw hw4 (uI (i2_begin (k + 15) (uI (i6_enter k l 4 I L) k 9 x) L) k 17 0) (m2_begin (k + 15) (uI (i6_enter k l 4 I L) k 9 x) L) (((congrFun (uI_off _ _ _ (show (k + 3 : Nat) ≠ k by omega)) _).trans ((congrFun (x2_begin (I := (uI (i6_enter k l 4 I L) k 9 x)) (L := L) (show (k + 3 : Nat) ≠ k + 15 by omega)) _).trans ((congrFun (uI_off _ _ _ (show (k + 3 : Nat) ≠ k by omega)) _).trans (congrFun (x6_enter (I := I) (L := L) (show (k + 3 : Nat) ≠ k by omega) (show (k + 3 : Nat) ≠ k + 1 by omega)) _)))).trans hw)) (nd_l3 hk) (nd_b3 hk) s3_lengthAt l6_188 rfl rfl ⟨Nat.le_of_ble_eq_true rfl, Nat.le_of_ble_eq_true rfl, Nat.le_refl _, Nat.le_refl _⟩ (Nat.le_of_ble_eq_true rfl) rfl d6_beginFrame_40 rfl ?_
    refine V_aload_n (pc1 := 44) 0 d6_beginFrame_43 rfl rfl ?_
    refine V_getr (pc1 := 47) (nd_l0 hk) (nd_b0 hk) f6_23 (fun _ => rfl) (nd_r0_2 hk) d6_beginFrame_44 rfl ?_
    refine V_iconst (pc1 := 48) d6_beginFrame_47 vc_0 rfl ?_
    refine V_vi (pc1 := 51) (w3_dataAt g (nd_F3 hk) 0 gw hw4 (uI (i2_begin (k + 15) (uI (i6_enter k l 4 I L) k 9 x) L) k 17 0) (m2_begin (k + 15) (uI (i6_enter k l 4 I L) k 9 x) L) (((congrFun (uI_off _ _ _ (show (k + 3 : Nat) ≠ k by omega)) _).trans ((congrFun (x2_begin (I := (uI (i6_enter k l 4 I L) k 9 x)) (L := L) (show (k + 3 : Nat) ≠ k + 15 by omega)) _).trans ((congrFun (uI_off _ _ _ (show (k + 3 : Nat) ≠ k by omega)) _).trans (congrFun (x6_enter (I := I) (L := L) (show (k + 3 : Nat) ≠ k by omega) (show (k + 3 : Nat) ≠ k + 1 by omega)) _)))).trans hw)) (nd_l3 hk) (nd_b3 hk) s3_dataAt l6_191 rfl rfl ⟨Nat.le_of_ble_eq_true rfl, Nat.le_of_ble_eq_true rfl, Nat.le_refl _, Nat.le_refl _⟩ (Nat.le_of_ble_eq_true rfl) rfl d6_beginFrame_48 rfl ?_
    refine V_sl (pc1 := 54) (w2_outgoingBits g  (r3_keyAt (k + 3) 4 0 (uI (i2_begin (k + 15) (uI (i6_enter k l 4 I L) k 9 x) L) k 17 0) (m2_begin (k + 15) (uI (i6_enter k l 4 I L) k 9 x) L)) (r3_lengthAt (k + 3) 4 0 (uI (i2_begin (k + 15) (uI (i6_enter k l 4 I L) k 9 x) L) k 17 0) (m2_begin (k + 15) (uI (i6_enter k l 4 I L) k 9 x) L)) (r3_dataAt (k + 3) 4 0 (uI (i2_begin (k + 15) (uI (i6_enter k l 4 I L) k 9 x) L) k 17 0) (m2_begin (k + 15) (uI (i6_enter k l 4 I L) k 9 x) L))  (uI (i2_begin (k + 15) (uI (i6_enter k l 4 I L) k 9 x) L) k 17 0) (m2_begin (k + 15) (uI (i6_enter k l 4 I L) k 9 x) L) ) s2_outgoingBits l6_194 rfl rfl ⟨Nat.le_of_ble_eq_true rfl, Nat.le_of_ble_eq_true rfl, Nat.le_refl _, Nat.le_refl _⟩ (Nat.le_of_ble_eq_true rfl) rfl d6_beginFrame_51 rfl ?_
    refine V_putl (pc1 := 57) (nd_l0 hk) (nd_b0 hk) f6_92 rfl rfl d6_beginFrame_54 rfl ?_
    exact key2 _ (by first | rfl | (simp only [if_neg h1]; done) | (simp only [if_neg h1]; rfl)) _ (by first | rfl | (simp only [if_neg h1]; done) | (simp only [if_neg h1]; rfl)) _ (lvsub_p [0, 1] rfl)
theorem w6_beginFrame (g : GlT) {k : Nat} {l : Nat} (hk : okN k l) (x : Int32) (hx : x = 0 ∨ x = 1) (I : Nat → Nat → Int32) (L : Nat → Nat → Int64) (hv : nV k I) : Call g (k6_beginFrame, 3, 0, 0) [.ref (xA g k), .int x] (I, L, R0, 305) (Qv (i6_beginFrame k l x I L) (m6_beginFrame k l x I L)) := Call.of (by decide) (Nat.le_of_ble_eq_true rfl) rfl (v6_beginFrame g hk x hx I L hv _ (And.intro rfl rfl))
theorem x6_beginFrame {k : Nat} {l : Nat} {x : Int32} {I : Nat → Nat → Int32} {L : Nat → Nat → Int64} {aa : Nat} (h0 : aa ≠ k) (h1 : aa ≠ k + 1) (h2 : aa ≠ k + 15) : i6_beginFrame k l x I L aa = I aa := by
  first | (simp only [i6_beginFrame]; done) | (simp only [i6_beginFrame]; (try (repeat' split)) <;> first | rfl | (simp [uI_off, h0, h1, h2, x2_begin, x6_enter]; done))
theorem y6_beginFrame {k : Nat} {l : Nat} {x : Int32} {I : Nat → Nat → Int32} {L : Nat → Nat → Int64} {aa : Nat} (h0 : aa ≠ k) (h1 : aa ≠ k + 15) : m6_beginFrame k l x I L aa = L aa := by
  first | (simp only [m6_beginFrame]; done) | (simp only [m6_beginFrame]; (try (repeat' split)) <;> first | rfl | (simp [uL_off, h0, h1, y2_begin]; done))

def i6_actBusOff (k : Nat) (l : Nat) (x : Int32) (I : Nat → Nat → Int32) (L : Nat → Nat → Int64) : Nat → Nat → Int32 := (if 11 ≤ (if x = 1 then (I k 12) + 1 else 0) then (if (I k 13) + 1 < I l 2 then uI (uI (uI I k 12 (if x = 1 then (I k 12) + 1 else 0)) k 12 0) k 13 ((I k 13) + 1) else i6_enter k l 3 (uI (uI (uI (uI (uI I k 12 (if x = 1 then (I k 12) + 1 else 0)) k 12 0) k 13 ((I k 13) + 1)) k 10 0) k 11 0) L) else uI I k 12 (if x = 1 then (I k 12) + 1 else 0))
set_option maxRecDepth 4000 in
theorem v6_actBusOff (g : GlT) {k : Nat} {l : Nat} (hk : okN k l) (x : Int32) (I : Nat → Nat → Int32) (L : Nat → Nat → Int64) (Q : Option Value → MemT → Prop) (hq : Q (none) (i6_actBusOff k l x I L, L, R0, 305)) : V g (k6_actBusOff, 2, 0, 0) 0 0 0 [(0, .ref (xA g k)), (1, .int x)] [] (I, L, R0, 305) Q := by
  refine V_aload_n (pc1 := 1) 0 d6_actBusOff_0 rfl rfl ?_
  refine V_iload_n (pc1 := 2) 1 d6_actBusOff_1 rfl rfl ?_
  refine V_iconst (pc1 := 3) d6_actBusOff_2 vc_1 rfl ?_
  have key2 : ∀ (y16_0 : Int32), y16_0 = (if x = 1 then (I k 12) + 1 else 0) → ∀ (lv : List (Nat × Value)), lvsub [(0, .ref (xA g k)), (1, .int x)] lv → V g (k6_actBusOff, 2, 0, 0) 0 0 16 lv [.int y16_0, .ref (xA g k)] (I, L, R0, 305) Q := by
    intro y16_0 ey16_0
    subst ey16_0
    intro lv hlv
    refine V_lv hlv ?_
    refine V_puti (pc1 := 19) (nd_l0 hk) (nd_b0 hk) f6_80 rfl rfl d6_actBusOff_16 rfl ?_
    refine V_aload_n (pc1 := 20) 0 d6_actBusOff_19 rfl rfl ?_
    refine V_geti (pc1 := 23) (nd_l0 hk) (nd_b0 hk) f6_80 (fun _ => rfl) (uI_self _ _ _ _) d6_actBusOff_20 rfl ?_
    refine V_bipush (pc1 := 25) d6_actBusOff_23 vb_11 rfl ?_
    refine V_icmp_ge (tgt := 29) (pc1 := 28) d6_actBusOff_25 (by decide) rfl (fun h3 => ?_) (fun h3 => ?_)
    · skip
      refine V_aload_n (pc1 := 30) 0 d6_actBusOff_29 rfl rfl ?_
      refine V_iconst (pc1 := 31) d6_actBusOff_30 vc_0 rfl ?_
      refine V_puti (pc1 := 34) (nd_l0 hk) (nd_b0 hk) f6_80 rfl rfl d6_actBusOff_31 rfl ?_
      refine V_aload_n (pc1 := 35) 0 d6_actBusOff_34 rfl rfl ?_
      refine V_dup (pc1 := 36) d6_actBusOff_35 rfl rfl ?_
      refine V_geti (pc1 := 39) (nd_l0 hk) (nd_b0 hk) f6_83 (fun _ => rfl) ((uI_ne _ _ _ (show (13 : Nat) ≠ 12 by decide)).trans (uI_ne _ _ _ (show (13 : Nat) ≠ 12 by decide))) d6_actBusOff_36 rfl ?_
      refine V_iconst (pc1 := 40) d6_actBusOff_39 vc_1 rfl ?_
      refine V_iadd (pc1 := 41) d6_actBusOff_40 rfl ?_
      refine V_puti (pc1 := 44) (nd_l0 hk) (nd_b0 hk) f6_83 rfl rfl d6_actBusOff_41 rfl ?_
      refine V_aload_n (pc1 := 45) 0 d6_actBusOff_44 rfl rfl ?_
      refine V_geti (pc1 := 48) (nd_l0 hk) (nd_b0 hk) f6_83 (fun _ => rfl) (uI_self _ _ _ _) d6_actBusOff_45 rfl ?_
      refine V_aload_n (pc1 := 49) 0 d6_actBusOff_48 rfl rfl ?_
      refine V_getr (pc1 := 52) (nd_l0 hk) (nd_b0 hk) f6_50 (fun _ => rfl) (nd_r0_0 hk) d6_actBusOff_49 rfl ?_
      refine V_geti (pc1 := 55) (lm_l0 (nd_L hk)) (lm_b0 (nd_L hk)) f6_166 (fun _ => rfl) ((congrFun (uI_off _ _ _ (show (l : Nat) ≠ k by have := nd_lt hk; omega)) _).trans ((congrFun (uI_off _ _ _ (show (l : Nat) ≠ k by have := nd_lt hk; omega)) _).trans (congrFun (uI_off _ _ _ (show (l : Nat) ≠ k by have := nd_lt hk; omega)) _))) d6_actBusOff_52 rfl ?_
      have key5 : ∀ (zI73 : Nat → Nat → Int32), zI73 = (if (I k 13) + 1 < I l 2 then uI (uI (uI I k 12 (if x = 1 then (I k 12) + 1 else 0)) k 12 0) k 13 ((I k 13) + 1) else i6_enter k l 3 (uI (uI (uI (uI (uI I k 12 (if x = 1 then (I k 12) + 1 else 0)) k 12 0) k 13 ((I k 13) + 1)) k 10 0) k 11 0) L) → ∀ (lv : List (Nat × Value)), lvsub [(0, .ref (xA g k)), (1, .int x)] lv → V g (k6_actBusOff, 2, 0, 0) 0 0 73 lv [] (zI73, L, R0, 305) Q := by
        intro zI73 ezI73
        subst ezI73
        intro lv hlv
        refine V_lv hlv ?_
        refine V_vret rfl d6_actBusOff_73 (Nat.zero_le _) (Nat.zero_le _) ?_
        have hq2 := hq
        simp only [i6_actBusOff, if_pos h3] at hq2
        exact hq2
      refine V_icmp_lt (tgt := 73) (pc1 := 58) d6_actBusOff_55 (by decide) rfl (fun h4 => ?_) (fun h4 => ?_)
      · skip
        exact key5 _ (by first | rfl | (simp only [if_pos h4]; done) | (simp only [if_pos h4]; rfl)) _ (lvsub_p [0, 1] rfl)
      · skip
        refine V_aload_n (pc1 := 59) 0 d6_actBusOff_58 rfl rfl ?_
        refine V_iconst (pc1 := 60) d6_actBusOff_59 vc_0 rfl ?_
        refine V_puti (pc1 := 63) (nd_l0 hk) (nd_b0 hk) f6_74 rfl rfl d6_actBusOff_60 rfl ?_
        refine V_aload_n (pc1 := 64) 0 d6_actBusOff_63 rfl rfl ?_
        refine V_iconst (pc1 := 65) d6_actBusOff_64 vc_0 rfl ?_
        refine V_puti (pc1 := 68) (nd_l0 hk) (nd_b0 hk) f6_77 rfl rfl d6_actBusOff_65 rfl ?_
        refine V_aload_n (pc1 := 69) 0 d6_actBusOff_68 rfl rfl ?_
        refine V_iconst (pc1 := 70) d6_actBusOff_69 vc_3 rfl ?_
        refine V_vv (pc1 := 73) (w6_enter g hk 3  (uI (uI (uI (uI (uI I k 12 (if x = 1 then (I k 12) + 1 else 0)) k 12 0) k 13 ((I k 13) + 1)) k 10 0) k 11 0) L ) (nd_l0 hk) (nd_b0 hk) s6_enter l6_169 rfl rfl ⟨Nat.le_of_ble_eq_true rfl, Nat.le_of_ble_eq_true rfl, Nat.le_refl _, Nat.le_refl _⟩ (Nat.le_of_ble_eq_true rfl) rfl d6_actBusOff_70 rfl ?_
        exact key5 _ (by first | rfl | (simp only [if_neg h4]; done) | (simp only [if_neg h4]; rfl)) _ (lvsub_p [0, 1] rfl)
    · skip
      refine V_vret rfl d6_actBusOff_28 (Nat.zero_le _) (Nat.zero_le _) ?_
      have hq2 := hq
      simp only [i6_actBusOff, if_neg h3] at hq2
      exact hq2
  refine V_icmp_ne (tgt := 15) (pc1 := 6) d6_actBusOff_3 (by decide) rfl (fun h1 => ?_) (fun h1 => ?_)
  · skip
    refine V_iconst (pc1 := 16) d6_actBusOff_15 vc_0 rfl ?_
    exact key2 _ (by first | rfl | (simp only [if_neg h1]; done) | (simp only [if_neg h1]; rfl)) _ (lvsub_p [0, 1] rfl)
  · skip
    refine V_aload_n (pc1 := 7) 0 d6_actBusOff_6 rfl rfl ?_
    refine V_geti (pc1 := 10) (nd_l0 hk) (nd_b0 hk) f6_80 (fun _ => rfl) rfl d6_actBusOff_7 rfl ?_
    refine V_iconst (pc1 := 11) d6_actBusOff_10 vc_1 rfl ?_
    refine V_iadd (pc1 := 12) d6_actBusOff_11 rfl ?_
    refine V_goto (tgt := 16) d6_actBusOff_12 (by decide) ?_
    exact key2 _ (by first | rfl | (simp only [if_pos h1]; done) | (simp only [if_pos h1]; rfl)) _ (lvsub_p [0, 1] rfl)
theorem w6_actBusOff (g : GlT) {k : Nat} {l : Nat} (hk : okN k l) (x : Int32) (I : Nat → Nat → Int32) (L : Nat → Nat → Int64) : Call g (k6_actBusOff, 2, 0, 0) [.ref (xA g k), .int x] (I, L, R0, 305) (Qv (i6_actBusOff k l x I L) L) := Call.of (by decide) (Nat.le_of_ble_eq_true rfl) rfl (v6_actBusOff g hk x  I L  _ (And.intro rfl rfl))
theorem x6_actBusOff {k : Nat} {l : Nat} {x : Int32} {I : Nat → Nat → Int32} {L : Nat → Nat → Int64} {aa : Nat} (h0 : aa ≠ k) (h1 : aa ≠ k + 1) : i6_actBusOff k l x I L aa = I aa := by
  first | (simp only [i6_actBusOff]; done) | (simp only [i6_actBusOff]; (try (repeat' split)) <;> first | rfl | (simp [uI_off, h0, h1, x6_enter]; done))

def i6_actJoining (k : Nat) (l : Nat) (x : Int32) (I : Nat → Nat → Int32) (L : Nat → Nat → Int64) : Nat → Nat → Int32 := (if (if x = 1 then (I k 12) + 1 else 0) < 11 then uI I k 12 (if x = 1 then (I k 12) + 1 else 0) else i6_enter k l 3 (uI I k 12 (if x = 1 then (I k 12) + 1 else 0)) L)
set_option maxRecDepth 4000 in
theorem v6_actJoining (g : GlT) {k : Nat} {l : Nat} (hk : okN k l) (x : Int32) (I : Nat → Nat → Int32) (L : Nat → Nat → Int64) (Q : Option Value → MemT → Prop) (hq : Q (none) (i6_actJoining k l x I L, L, R0, 305)) : V g (k6_actJoining, 2, 0, 0) 0 0 0 [(0, .ref (xA g k)), (1, .int x)] [] (I, L, R0, 305) Q := by
  refine V_aload_n (pc1 := 1) 0 d6_actJoining_0 rfl rfl ?_
  refine V_iload_n (pc1 := 2) 1 d6_actJoining_1 rfl rfl ?_
  refine V_iconst (pc1 := 3) d6_actJoining_2 vc_1 rfl ?_
  have key2 : ∀ (y16_0 : Int32), y16_0 = (if x = 1 then (I k 12) + 1 else 0) → ∀ (lv : List (Nat × Value)), lvsub [(0, .ref (xA g k)), (1, .int x)] lv → V g (k6_actJoining, 2, 0, 0) 0 0 16 lv [.int y16_0, .ref (xA g k)] (I, L, R0, 305) Q := by
    intro y16_0 ey16_0
    subst ey16_0
    intro lv hlv
    refine V_lv hlv ?_
    refine V_puti (pc1 := 19) (nd_l0 hk) (nd_b0 hk) f6_80 rfl rfl d6_actJoining_16 rfl ?_
    refine V_aload_n (pc1 := 20) 0 d6_actJoining_19 rfl rfl ?_
    refine V_geti (pc1 := 23) (nd_l0 hk) (nd_b0 hk) f6_80 (fun _ => rfl) (uI_self _ _ _ _) d6_actJoining_20 rfl ?_
    refine V_bipush (pc1 := 25) d6_actJoining_23 vb_11 rfl ?_
    have key4 : ∀ (zI33 : Nat → Nat → Int32), zI33 = (if (if x = 1 then (I k 12) + 1 else 0) < 11 then uI I k 12 (if x = 1 then (I k 12) + 1 else 0) else i6_enter k l 3 (uI I k 12 (if x = 1 then (I k 12) + 1 else 0)) L) → ∀ (lv : List (Nat × Value)), lvsub [(0, .ref (xA g k)), (1, .int x)] lv → V g (k6_actJoining, 2, 0, 0) 0 0 33 lv [] (zI33, L, R0, 305) Q := by
      intro zI33 ezI33
      subst ezI33
      intro lv hlv
      refine V_lv hlv ?_
      refine V_vret rfl d6_actJoining_33 (Nat.zero_le _) (Nat.zero_le _) ?_
      have hq2 := hq
      simp only [i6_actJoining] at hq2
      exact hq2
    refine V_icmp_lt (tgt := 33) (pc1 := 28) d6_actJoining_25 (by decide) rfl (fun h3 => ?_) (fun h3 => ?_)
    · skip
      exact key4 _ (by first | rfl | (simp only [if_pos h3]; done) | (simp only [if_pos h3]; rfl)) _ (lvsub_p [0, 1] rfl)
    · skip
      refine V_aload_n (pc1 := 29) 0 d6_actJoining_28 rfl rfl ?_
      refine V_iconst (pc1 := 30) d6_actJoining_29 vc_3 rfl ?_
      refine V_vv (pc1 := 33) (w6_enter g hk 3  (uI I k 12 (if x = 1 then (I k 12) + 1 else 0)) L ) (nd_l0 hk) (nd_b0 hk) s6_enter l6_169 rfl rfl ⟨Nat.le_of_ble_eq_true rfl, Nat.le_of_ble_eq_true rfl, Nat.le_refl _, Nat.le_refl _⟩ (Nat.le_of_ble_eq_true rfl) rfl d6_actJoining_30 rfl ?_
      exact key4 _ (by first | rfl | (simp only [if_neg h3]; done) | (simp only [if_neg h3]; rfl)) _ (lvsub_p [0, 1] rfl)
  refine V_icmp_ne (tgt := 15) (pc1 := 6) d6_actJoining_3 (by decide) rfl (fun h1 => ?_) (fun h1 => ?_)
  · skip
    refine V_iconst (pc1 := 16) d6_actJoining_15 vc_0 rfl ?_
    exact key2 _ (by first | rfl | (simp only [if_neg h1]; done) | (simp only [if_neg h1]; rfl)) _ (lvsub_p [0, 1] rfl)
  · skip
    refine V_aload_n (pc1 := 7) 0 d6_actJoining_6 rfl rfl ?_
    refine V_geti (pc1 := 10) (nd_l0 hk) (nd_b0 hk) f6_80 (fun _ => rfl) rfl d6_actJoining_7 rfl ?_
    refine V_iconst (pc1 := 11) d6_actJoining_10 vc_1 rfl ?_
    refine V_iadd (pc1 := 12) d6_actJoining_11 rfl ?_
    refine V_goto (tgt := 16) d6_actJoining_12 (by decide) ?_
    exact key2 _ (by first | rfl | (simp only [if_pos h1]; done) | (simp only [if_pos h1]; rfl)) _ (lvsub_p [0, 1] rfl)
theorem w6_actJoining (g : GlT) {k : Nat} {l : Nat} (hk : okN k l) (x : Int32) (I : Nat → Nat → Int32) (L : Nat → Nat → Int64) : Call g (k6_actJoining, 2, 0, 0) [.ref (xA g k), .int x] (I, L, R0, 305) (Qv (i6_actJoining k l x I L) L) := Call.of (by decide) (Nat.le_of_ble_eq_true rfl) rfl (v6_actJoining g hk x  I L  _ (And.intro rfl rfl))
theorem x6_actJoining {k : Nat} {l : Nat} {x : Int32} {I : Nat → Nat → Int32} {L : Nat → Nat → Int64} {aa : Nat} (h0 : aa ≠ k) (h1 : aa ≠ k + 1) : i6_actJoining k l x I L aa = I aa := by
  first | (simp only [i6_actJoining]; done) | (simp only [i6_actJoining]; (try (repeat' split)) <;> first | rfl | (simp [uI_off, h0, h1, x6_enter]; done))

def i6_actIdle (k : Nat) (l : Nat) (x : Int32) (I : Nat → Nat → Int32) (L : Nat → Nat → Int64) : Nat → Nat → Int32 := (if x = 0 then i6_beginFrame k l (bI (if I k 16 = 0 then true else false)) I L else (if I k 16 = 0 then i6_fail k l 1 (uI I k 9 1) L else I))
def m6_actIdle (k : Nat) (l : Nat) (x : Int32) (I : Nat → Nat → Int32) (L : Nat → Nat → Int64) : Nat → Nat → Int64 := (if x = 0 then m6_beginFrame k l (bI (if I k 16 = 0 then true else false)) I L else L)
set_option maxRecDepth 4000 in
theorem v6_actIdle (g : GlT) {k : Nat} {l : Nat} (hk : okN k l) (x : Int32) (I : Nat → Nat → Int32) (L : Nat → Nat → Int64) (hv : nV k I) (Q : Option Value → MemT → Prop) (hq : Q (none) (i6_actIdle k l x I L, m6_actIdle k l x I L, R0, 305)) : V g (k6_actIdle, 4, 0, 0) 0 0 0 [(0, .ref (xA g k)), (1, .int x)] [] (I, L, R0, 305) Q := by
  refine V_iload_n (pc1 := 1) 1 d6_actIdle_0 rfl rfl ?_
  have key5 : ∀ (zI40 : Nat → Nat → Int32), zI40 = (if x = 0 then i6_beginFrame k l (bI (if I k 16 = 0 then true else false)) I L else (if I k 16 = 0 then i6_fail k l 1 (uI I k 9 1) L else I)) → ∀ (zL40 : Nat → Nat → Int64), zL40 = (if x = 0 then m6_beginFrame k l (bI (if I k 16 = 0 then true else false)) I L else L) → ∀ (lv : List (Nat × Value)), lvsub [(0, .ref (xA g k)), (1, .int x)] lv → V g (k6_actIdle, 4, 0, 0) 0 0 40 lv [] (zI40, zL40, R0, 305) Q := by
    intro zI40 ezI40 zL40 ezL40
    subst ezI40
    subst ezL40
    intro lv hlv
    refine V_lv hlv ?_
    refine V_vret rfl d6_actIdle_40 (Nat.zero_le _) (Nat.zero_le _) ?_
    have hq2 := hq
    simp only [i6_actIdle, m6_actIdle] at hq2
    exact hq2
  refine V_if_ne (tgt := 23) (pc1 := 4) d6_actIdle_1 (by decide) rfl (fun h1 => ?_) (fun h1 => ?_)
  · skip
    refine V_aload_n (pc1 := 24) 0 d6_actIdle_23 rfl rfl ?_
    refine V_geti (pc1 := 27) (nd_l0 hk) (nd_b0 hk) f6_44 (fun _ => rfl) rfl d6_actIdle_24 rfl ?_
    refine V_if_ne (tgt := 40) (pc1 := 30) d6_actIdle_27 (by decide) rfl (fun h2 => ?_) (fun h2 => ?_)
    · skip
      exact key5 _ (by first | rfl | (simp only [if_neg h1, if_neg h2]; done) | (simp only [if_neg h1, if_neg h2]; rfl)) _ (by first | rfl | (simp only [if_neg h1, if_neg h2]; done) | (simp only [if_neg h1, if_neg h2]; rfl)) _ (lvsub_p [0, 1] rfl)
    · skip
      refine V_aload_n (pc1 := 31) 0 d6_actIdle_30 rfl rfl ?_
      refine V_iconst (pc1 := 32) d6_actIdle_31 vc_1 rfl ?_
      refine V_putz (pc1 := 35) (nd_l0 hk) (nd_b0 hk) f6_70 rfl rfl (Or.inr rfl) d6_actIdle_32 rfl ?_
      refine V_aload_n (pc1 := 36) 0 d6_actIdle_35 rfl rfl ?_
      refine V_iconst (pc1 := 37) d6_actIdle_36 vc_1 rfl ?_
      refine V_vv (pc1 := 40) (w6_fail g hk 1 (by first | decide | omega | (split <;> decide)) (uI I k 9 1) L ) (nd_l0 hk) (nd_b0 hk) s6_fail l6_176 rfl rfl ⟨Nat.le_of_ble_eq_true rfl, Nat.le_of_ble_eq_true rfl, Nat.le_refl _, Nat.le_refl _⟩ (Nat.le_of_ble_eq_true rfl) rfl d6_actIdle_37 rfl ?_
      exact key5 _ (by first | rfl | (simp only [if_neg h1, if_pos h2]; done) | (simp only [if_neg h1, if_pos h2]; rfl)) _ (by first | rfl | (simp only [if_neg h1, if_pos h2]; done) | (simp only [if_neg h1, if_pos h2]; rfl)) _ (lvsub_p [0, 1] rfl)
  · skip
    refine V_aload_n (pc1 := 5) 0 d6_actIdle_4 rfl rfl ?_
    refine V_aload_n (pc1 := 6) 0 d6_actIdle_5 rfl rfl ?_
    refine V_geti (pc1 := 9) (nd_l0 hk) (nd_b0 hk) f6_44 (fun _ => rfl) rfl d6_actIdle_6 rfl ?_
    have key4 : ∀ (y17_0 : Int32), y17_0 = bI (if I k 16 = 0 then true else false) → ∀ (lv : List (Nat × Value)), lvsub [(0, .ref (xA g k)), (1, .int x)] lv → V g (k6_actIdle, 4, 0, 0) 0 0 17 lv [.int y17_0, .ref (xA g k)] (I, L, R0, 305) Q := by
      intro y17_0 ey17_0
      subst ey17_0
      intro lv hlv
      refine V_lv hlv ?_
      refine V_vv (pc1 := 20) (w6_beginFrame g hk (bI (if I k 16 = 0 then true else false)) (bI_or _) I L hv) (nd_l0 hk) (nd_b0 hk) s6_beginFrame l6_172 rfl rfl ⟨Nat.le_of_ble_eq_true rfl, Nat.le_of_ble_eq_true rfl, Nat.le_refl _, Nat.le_refl _⟩ (Nat.le_of_ble_eq_true rfl) rfl d6_actIdle_17 rfl ?_
      refine V_goto (tgt := 40) d6_actIdle_20 (by decide) ?_
      exact key5 _ (by first | rfl | (simp only [if_pos h1]; done) | (simp only [if_pos h1]; rfl)) _ (by first | rfl | (simp only [if_pos h1]; done) | (simp only [if_pos h1]; rfl)) _ (lvsub_p [0, 1] rfl)
    refine V_if_ne (tgt := 16) (pc1 := 12) d6_actIdle_9 (by decide) rfl (fun h3 => ?_) (fun h3 => ?_)
    · skip
      refine V_iconst (pc1 := 17) d6_actIdle_16 vc_0 rfl ?_
      exact key4 _ (by first | rfl | (simp only [if_neg h3]; done) | (simp only [if_neg h3]; rfl)) _ (lvsub_p [0, 1] rfl)
    · skip
      refine V_iconst (pc1 := 13) d6_actIdle_12 vc_1 rfl ?_
      refine V_goto (tgt := 17) d6_actIdle_13 (by decide) ?_
      exact key4 _ (by first | rfl | (simp only [if_pos h3]; done) | (simp only [if_pos h3]; rfl)) _ (lvsub_p [0, 1] rfl)
theorem w6_actIdle (g : GlT) {k : Nat} {l : Nat} (hk : okN k l) (x : Int32) (I : Nat → Nat → Int32) (L : Nat → Nat → Int64) (hv : nV k I) : Call g (k6_actIdle, 4, 0, 0) [.ref (xA g k), .int x] (I, L, R0, 305) (Qv (i6_actIdle k l x I L) (m6_actIdle k l x I L)) := Call.of (by decide) (Nat.le_of_ble_eq_true rfl) rfl (v6_actIdle g hk x  I L hv _ (And.intro rfl rfl))
theorem x6_actIdle {k : Nat} {l : Nat} {x : Int32} {I : Nat → Nat → Int32} {L : Nat → Nat → Int64} {aa : Nat} (h0 : aa ≠ k) (h1 : aa ≠ k + 1) (h2 : aa ≠ k + 2) (h3 : aa ≠ k + 15) : i6_actIdle k l x I L aa = I aa := by
  first | (simp only [i6_actIdle]; done) | (simp only [i6_actIdle]; (try (repeat' split)) <;> first | rfl | (simp [uI_off, h0, h1, h2, h3, x6_beginFrame, x6_fail]; done))
theorem y6_actIdle {k : Nat} {l : Nat} {x : Int32} {I : Nat → Nat → Int32} {L : Nat → Nat → Int64} {aa : Nat} (h0 : aa ≠ k) (h1 : aa ≠ k + 15) : m6_actIdle k l x I L aa = L aa := by
  first | (simp only [m6_actIdle]; done) | (simp only [m6_actIdle]; (try (repeat' split)) <;> first | rfl | (simp [uL_off, h0, h1, y6_beginFrame]; done))

def i6_actFlag (k : Nat) (l : Nat) (I : Nat → Nat → Int32) (L : Nat → Nat → Int64) : Nat → Nat → Int32 := (if (I k 12) + 1 < 6 then uI I k 12 ((I k 12) + 1) else i6_enter k l 7 (uI (uI I k 12 ((I k 12) + 1)) k 15 (bI (if I k 8 = 5 then true else false))) L)
set_option maxRecDepth 4000 in
theorem v6_actFlag (g : GlT) {k : Nat} {l : Nat} (hk : okN k l) (I : Nat → Nat → Int32) (L : Nat → Nat → Int64) (Q : Option Value → MemT → Prop) (hq : Q (none) (i6_actFlag k l I L, L, R0, 305)) : V g (k6_actFlag, 2, 0, 0) 0 0 0 [(0, .ref (xA g k))] [] (I, L, R0, 305) Q := by
  refine V_aload_n (pc1 := 1) 0 d6_actFlag_0 rfl rfl ?_
  refine V_dup (pc1 := 2) d6_actFlag_1 rfl rfl ?_
  refine V_geti (pc1 := 5) (nd_l0 hk) (nd_b0 hk) f6_80 (fun _ => rfl) rfl d6_actFlag_2 rfl ?_
  refine V_iconst (pc1 := 6) d6_actFlag_5 vc_1 rfl ?_
  refine V_iadd (pc1 := 7) d6_actFlag_6 rfl ?_
  refine V_puti (pc1 := 10) (nd_l0 hk) (nd_b0 hk) f6_80 rfl rfl d6_actFlag_7 rfl ?_
  refine V_aload_n (pc1 := 11) 0 d6_actFlag_10 rfl rfl ?_
  refine V_geti (pc1 := 14) (nd_l0 hk) (nd_b0 hk) f6_80 (fun _ => rfl) (uI_self _ _ _ _) d6_actFlag_11 rfl ?_
  refine V_bipush (pc1 := 16) d6_actFlag_14 vb_6 rfl ?_
  have key4 : ∀ (zI42 : Nat → Nat → Int32), zI42 = (if (I k 12) + 1 < 6 then uI I k 12 ((I k 12) + 1) else i6_enter k l 7 (uI (uI I k 12 ((I k 12) + 1)) k 15 (bI (if I k 8 = 5 then true else false))) L) → ∀ (lv : List (Nat × Value)), lvsub [(0, .ref (xA g k))] lv → V g (k6_actFlag, 2, 0, 0) 0 0 42 lv [] (zI42, L, R0, 305) Q := by
    intro zI42 ezI42
    subst ezI42
    intro lv hlv
    refine V_lv hlv ?_
    refine V_vret rfl d6_actFlag_42 (Nat.zero_le _) (Nat.zero_le _) ?_
    have hq2 := hq
    simp only [i6_actFlag] at hq2
    exact hq2
  refine V_icmp_lt (tgt := 42) (pc1 := 19) d6_actFlag_16 (by decide) rfl (fun h1 => ?_) (fun h1 => ?_)
  · skip
    exact key4 _ (by first | rfl | (simp only [if_pos h1]; done) | (simp only [if_pos h1]; rfl)) _ (lvsub_p [0] rfl)
  · skip
    refine V_aload_n (pc1 := 20) 0 d6_actFlag_19 rfl rfl ?_
    refine V_aload_n (pc1 := 21) 0 d6_actFlag_20 rfl rfl ?_
    refine V_geti (pc1 := 24) (nd_l0 hk) (nd_b0 hk) f6_40 (fun _ => rfl) (uI_ne _ _ _ (show (8 : Nat) ≠ 12 by decide)) d6_actFlag_21 rfl ?_
    refine V_iconst (pc1 := 25) d6_actFlag_24 vc_5 rfl ?_
    have key3 : ∀ (y33_0 : Int32), y33_0 = bI (if I k 8 = 5 then true else false) → ∀ (lv : List (Nat × Value)), lvsub [(0, .ref (xA g k))] lv → V g (k6_actFlag, 2, 0, 0) 0 0 33 lv [.int y33_0, .ref (xA g k)] (uI I k 12 ((I k 12) + 1), L, R0, 305) Q := by
      intro y33_0 ey33_0
      subst ey33_0
      intro lv hlv
      refine V_lv hlv ?_
      refine V_putz (pc1 := 36) (nd_l0 hk) (nd_b0 hk) f6_89 rfl rfl (bI_or _) d6_actFlag_33 rfl ?_
      refine V_aload_n (pc1 := 37) 0 d6_actFlag_36 rfl rfl ?_
      refine V_bipush (pc1 := 39) d6_actFlag_37 vb_7 rfl ?_
      refine V_vv (pc1 := 42) (w6_enter g hk 7  (uI (uI I k 12 ((I k 12) + 1)) k 15 (bI (if I k 8 = 5 then true else false))) L ) (nd_l0 hk) (nd_b0 hk) s6_enter l6_169 rfl rfl ⟨Nat.le_of_ble_eq_true rfl, Nat.le_of_ble_eq_true rfl, Nat.le_refl _, Nat.le_refl _⟩ (Nat.le_of_ble_eq_true rfl) rfl d6_actFlag_39 rfl ?_
      exact key4 _ (by first | rfl | (simp only [if_neg h1]; done) | (simp only [if_neg h1]; rfl)) _ (lvsub_p [0] rfl)
    refine V_icmp_ne (tgt := 32) (pc1 := 28) d6_actFlag_25 (by decide) rfl (fun h2 => ?_) (fun h2 => ?_)
    · skip
      refine V_iconst (pc1 := 33) d6_actFlag_32 vc_0 rfl ?_
      exact key3 _ (by first | rfl | (simp only [if_neg h2]; done) | (simp only [if_neg h2]; rfl)) _ (lvsub_p [0] rfl)
    · skip
      refine V_iconst (pc1 := 29) d6_actFlag_28 vc_1 rfl ?_
      refine V_goto (tgt := 33) d6_actFlag_29 (by decide) ?_
      exact key3 _ (by first | rfl | (simp only [if_pos h2]; done) | (simp only [if_pos h2]; rfl)) _ (lvsub_p [0] rfl)
theorem w6_actFlag (g : GlT) {k : Nat} {l : Nat} (hk : okN k l) (I : Nat → Nat → Int32) (L : Nat → Nat → Int64) : Call g (k6_actFlag, 2, 0, 0) [.ref (xA g k)] (I, L, R0, 305) (Qv (i6_actFlag k l I L) L) := Call.of (by decide) (Nat.le_of_ble_eq_true rfl) rfl (v6_actFlag g hk   I L  _ (And.intro rfl rfl))
theorem x6_actFlag {k : Nat} {l : Nat} {I : Nat → Nat → Int32} {L : Nat → Nat → Int64} {aa : Nat} (h0 : aa ≠ k) (h1 : aa ≠ k + 1) : i6_actFlag k l I L aa = I aa := by
  first | (simp only [i6_actFlag]; done) | (simp only [i6_actFlag]; (try (repeat' split)) <;> first | rfl | (simp [uI_off, h0, h1, x6_enter]; done))

def i6_actDelimiter (k : Nat) (l : Nat) (x : Int32) (I : Nat → Nat → Int32) (L : Nat → Nat → Int64) : Nat → Nat → Int32 := (if x = 1 then (if (I k 12) + 1 < 8 then uI (uI I k 15 0) k 12 ((I k 12) + 1) else i6_enter k l 8 (uI (uI I k 15 0) k 12 ((I k 12) + 1)) L) else (if I k 12 = 0 then (if (I k 15 = 0) ∨ (¬ (I k 9 = 0)) then uI I k 15 0 else i6_raiseReceiveCounter k l 8 (uI I k 15 0) L) else (if 7 ≤ I k 12 then i6_enter k l 6 (uI I k 15 0) L else i6_fail k l 4 (uI I k 15 0) L)))
set_option maxRecDepth 4000 in
theorem v6_actDelimiter (g : GlT) {k : Nat} {l : Nat} (hk : okN k l) (x : Int32) (I : Nat → Nat → Int32) (L : Nat → Nat → Int64) (Q : Option Value → MemT → Prop) (hq : Q (none) (i6_actDelimiter k l x I L, L, R0, 305)) : V g (k6_actDelimiter, 3, 0, 0) 0 0 0 [(0, .ref (xA g k)), (1, .int x)] [] (I, L, R0, 305) Q := by
  refine V_aload_n (pc1 := 1) 0 d6_actDelimiter_0 rfl rfl ?_
  refine V_geti (pc1 := 4) (nd_l0 hk) (nd_b0 hk) f6_89 (fun _ => rfl) rfl d6_actDelimiter_1 rfl ?_
  refine V_istore_n (pc1 := 5) d6_actDelimiter_4 (Nat.le_of_ble_eq_true rfl) rfl rfl ?_
  refine V_aload_n (pc1 := 6) 1 d6_actDelimiter_5 rfl rfl ?_
  refine V_iconst (pc1 := 7) d6_actDelimiter_6 vc_0 rfl ?_
  refine V_putz (pc1 := 10) (nd_l0 hk) (nd_b0 hk) f6_89 rfl rfl (Or.inl rfl) d6_actDelimiter_7 rfl ?_
  refine V_iload_n (pc1 := 11) 2 d6_actDelimiter_10 rfl rfl ?_
  refine V_iconst (pc1 := 12) d6_actDelimiter_11 vc_1 rfl ?_
  have key10 : ∀ (zI93 : Nat → Nat → Int32), zI93 = (if x = 1 then (if (I k 12) + 1 < 8 then uI (uI I k 15 0) k 12 ((I k 12) + 1) else i6_enter k l 8 (uI (uI I k 15 0) k 12 ((I k 12) + 1)) L) else (if I k 12 = 0 then (if (I k 15 = 0) ∨ (¬ (I k 9 = 0)) then uI I k 15 0 else i6_raiseReceiveCounter k l 8 (uI I k 15 0) L) else (if 7 ≤ I k 12 then i6_enter k l 6 (uI I k 15 0) L else i6_fail k l 4 (uI I k 15 0) L))) → ∀ (lv : List (Nat × Value)), lvsub [(2, .int (I k 15)), (0, .ref (xA g k)), (1, .int x)] lv → V g (k6_actDelimiter, 3, 0, 0) 0 0 93 lv [] (zI93, L, R0, 305) Q := by
    intro zI93 ezI93
    subst ezI93
    intro lv hlv
    refine V_lv hlv ?_
    refine V_vret rfl d6_actDelimiter_93 (Nat.zero_le _) (Nat.zero_le _) ?_
    have hq2 := hq
    simp only [i6_actDelimiter] at hq2
    exact hq2
  refine V_icmp_ne (tgt := 43) (pc1 := 15) d6_actDelimiter_12 (by decide) rfl (fun h1 => ?_) (fun h1 => ?_)
  · skip
    refine V_aload_n (pc1 := 44) 1 d6_actDelimiter_43 rfl rfl ?_
    refine V_geti (pc1 := 47) (nd_l0 hk) (nd_b0 hk) f6_80 (fun _ => rfl) (uI_ne _ _ _ (show (12 : Nat) ≠ 15 by decide)) d6_actDelimiter_44 rfl ?_
    refine V_if_ne (tgt := 70) (pc1 := 50) d6_actDelimiter_47 (by decide) rfl (fun h2 => ?_) (fun h2 => ?_)
    · skip
      refine V_aload_n (pc1 := 71) 1 d6_actDelimiter_70 rfl rfl ?_
      refine V_geti (pc1 := 74) (nd_l0 hk) (nd_b0 hk) f6_80 (fun _ => rfl) (uI_ne _ _ _ (show (12 : Nat) ≠ 15 by decide)) d6_actDelimiter_71 rfl ?_
      refine V_bipush (pc1 := 76) d6_actDelimiter_74 vb_7 rfl ?_
      refine V_icmp_ge (tgt := 87) (pc1 := 79) d6_actDelimiter_76 (by decide) rfl (fun h3 => ?_) (fun h3 => ?_)
      · skip
        refine V_aload_n (pc1 := 88) 1 d6_actDelimiter_87 rfl rfl ?_
        refine V_bipush (pc1 := 90) d6_actDelimiter_88 vb_6 rfl ?_
        refine V_vv (pc1 := 93) (w6_enter g hk 6  (uI I k 15 0) L ) (nd_l0 hk) (nd_b0 hk) s6_enter l6_169 rfl rfl ⟨Nat.le_of_ble_eq_true rfl, Nat.le_of_ble_eq_true rfl, Nat.le_refl _, Nat.le_refl _⟩ (Nat.le_of_ble_eq_true rfl) rfl d6_actDelimiter_90 rfl ?_
        exact key10 _ (by first | rfl | (simp only [if_neg h1, if_neg h2, if_pos h3]; done) | (simp only [if_neg h1, if_neg h2, if_pos h3]; rfl)) _ (lvsub_p [0, 1, 2] rfl)
      · skip
        refine V_aload_n (pc1 := 80) 1 d6_actDelimiter_79 rfl rfl ?_
        refine V_iconst (pc1 := 81) d6_actDelimiter_80 vc_4 rfl ?_
        refine V_vv (pc1 := 84) (w6_fail g hk 4 (by first | decide | omega | (split <;> decide)) (uI I k 15 0) L ) (nd_l0 hk) (nd_b0 hk) s6_fail l6_176 rfl rfl ⟨Nat.le_of_ble_eq_true rfl, Nat.le_of_ble_eq_true rfl, Nat.le_refl _, Nat.le_refl _⟩ (Nat.le_of_ble_eq_true rfl) rfl d6_actDelimiter_81 rfl ?_
        refine V_goto (tgt := 93) d6_actDelimiter_84 (by decide) ?_
        exact key10 _ (by first | rfl | (simp only [if_neg h1, if_neg h2, if_neg h3]; done) | (simp only [if_neg h1, if_neg h2, if_neg h3]; rfl)) _ (lvsub_p [0, 1, 2] rfl)
    · skip
      refine V_iload_n (pc1 := 51) 0 d6_actDelimiter_50 rfl rfl ?_
      have k5 : ((I k 15 = 0) ∨ (¬ (I k 9 = 0))) → V g (k6_actDelimiter, 3, 0, 0) 0 0 93 [(2, .int (I k 15)), (0, .ref (xA g k)), (1, .int x)] [] (uI I k 15 0, L, R0, 305) Q := by
        intro h4
        exact key10 _ (by first | rfl | (simp only [if_neg h1, if_pos h2, if_pos h4]; done) | (simp only [if_neg h1, if_pos h2, if_pos h4]; rfl)) _ (lvsub_p [0, 1, 2] rfl)
      have k6 : ¬ ((I k 15 = 0) ∨ (¬ (I k 9 = 0))) → V g (k6_actDelimiter, 3, 0, 0) 0 0 61 [(2, .int (I k 15)), (0, .ref (xA g k)), (1, .int x)] [] (uI I k 15 0, L, R0, 305) Q := by
        intro h4
        refine V_aload_n (pc1 := 62) 1 d6_actDelimiter_61 rfl rfl ?_
        refine V_bipush (pc1 := 64) d6_actDelimiter_62 vb_8 rfl ?_
        refine V_vv (pc1 := 67) (w6_raiseReceiveCounter g hk 8  (uI I k 15 0) L ) (nd_l0 hk) (nd_b0 hk) s6_raiseReceiveCounter l6_179 rfl rfl ⟨Nat.le_of_ble_eq_true rfl, Nat.le_of_ble_eq_true rfl, Nat.le_refl _, Nat.le_refl _⟩ (Nat.le_of_ble_eq_true rfl) rfl d6_actDelimiter_64 rfl ?_
        refine V_goto (tgt := 93) d6_actDelimiter_67 (by decide) ?_
        exact key10 _ (by first | rfl | (simp only [if_neg h1, if_pos h2, if_neg h4]; done) | (simp only [if_neg h1, if_pos h2, if_neg h4]; rfl)) _ (lvsub_p [0, 1, 2] rfl)
      refine V_if_eq (tgt := 93) (pc1 := 54) d6_actDelimiter_51 (by decide) rfl (fun h7 => ?_) (fun h7 => ?_)
      · skip
        exact k5 (Or.inl h7)
      · skip
        refine V_aload_n (pc1 := 55) 1 d6_actDelimiter_54 rfl rfl ?_
        refine V_geti (pc1 := 58) (nd_l0 hk) (nd_b0 hk) f6_70 (fun _ => rfl) (uI_ne _ _ _ (show (9 : Nat) ≠ 15 by decide)) d6_actDelimiter_55 rfl ?_
        refine V_if_ne (tgt := 93) (pc1 := 61) d6_actDelimiter_58 (by decide) rfl (fun h8 => ?_) (fun h8 => ?_)
        · skip
          exact k5 (Or.inr h8)
        · skip
          exact k6 (fun z => z.elim h7 (fun z => z h8))
  · skip
    refine V_aload_n (pc1 := 16) 1 d6_actDelimiter_15 rfl rfl ?_
    refine V_dup (pc1 := 17) d6_actDelimiter_16 rfl rfl ?_
    refine V_geti (pc1 := 20) (nd_l0 hk) (nd_b0 hk) f6_80 (fun _ => rfl) (uI_ne _ _ _ (show (12 : Nat) ≠ 15 by decide)) d6_actDelimiter_17 rfl ?_
    refine V_iconst (pc1 := 21) d6_actDelimiter_20 vc_1 rfl ?_
    refine V_iadd (pc1 := 22) d6_actDelimiter_21 rfl ?_
    refine V_puti (pc1 := 25) (nd_l0 hk) (nd_b0 hk) f6_80 rfl rfl d6_actDelimiter_22 rfl ?_
    refine V_aload_n (pc1 := 26) 1 d6_actDelimiter_25 rfl rfl ?_
    refine V_geti (pc1 := 29) (nd_l0 hk) (nd_b0 hk) f6_80 (fun _ => rfl) (uI_self _ _ _ _) d6_actDelimiter_26 rfl ?_
    refine V_bipush (pc1 := 31) d6_actDelimiter_29 vb_8 rfl ?_
    refine V_icmp_lt (tgt := 93) (pc1 := 34) d6_actDelimiter_31 (by decide) rfl (fun h9 => ?_) (fun h9 => ?_)
    · skip
      exact key10 _ (by first | rfl | (simp only [if_pos h1, if_pos h9]; done) | (simp only [if_pos h1, if_pos h9]; rfl)) _ (lvsub_p [0, 1, 2] rfl)
    · skip
      refine V_aload_n (pc1 := 35) 1 d6_actDelimiter_34 rfl rfl ?_
      refine V_bipush (pc1 := 37) d6_actDelimiter_35 vb_8 rfl ?_
      refine V_vv (pc1 := 40) (w6_enter g hk 8  (uI (uI I k 15 0) k 12 ((I k 12) + 1)) L ) (nd_l0 hk) (nd_b0 hk) s6_enter l6_169 rfl rfl ⟨Nat.le_of_ble_eq_true rfl, Nat.le_of_ble_eq_true rfl, Nat.le_refl _, Nat.le_refl _⟩ (Nat.le_of_ble_eq_true rfl) rfl d6_actDelimiter_37 rfl ?_
      refine V_goto (tgt := 93) d6_actDelimiter_40 (by decide) ?_
      exact key10 _ (by first | rfl | (simp only [if_pos h1, if_neg h9]; done) | (simp only [if_pos h1, if_neg h9]; rfl)) _ (lvsub_p [0, 1, 2] rfl)
theorem w6_actDelimiter (g : GlT) {k : Nat} {l : Nat} (hk : okN k l) (x : Int32) (I : Nat → Nat → Int32) (L : Nat → Nat → Int64) : Call g (k6_actDelimiter, 3, 0, 0) [.ref (xA g k), .int x] (I, L, R0, 305) (Qv (i6_actDelimiter k l x I L) L) := Call.of (by decide) (Nat.le_of_ble_eq_true rfl) rfl (v6_actDelimiter g hk x  I L  _ (And.intro rfl rfl))
theorem x6_actDelimiter {k : Nat} {l : Nat} {x : Int32} {I : Nat → Nat → Int32} {L : Nat → Nat → Int64} {aa : Nat} (h0 : aa ≠ k) (h1 : aa ≠ k + 1) (h2 : aa ≠ k + 2) : i6_actDelimiter k l x I L aa = I aa := by
  first | (simp only [i6_actDelimiter]; done) | (simp only [i6_actDelimiter]; (try (repeat' split)) <;> first | rfl | (simp [uI_off, h0, h1, h2, x6_enter, x6_fail, x6_raiseReceiveCounter]; done))

def i6_actIntermission (k : Nat) (l : Nat) (x : Int32) (I : Nat → Nat → Int32) (L : Nat → Nat → Int64) : Nat → Nat → Int32 := (if 3 ≤ (I k 12) + 1 then (if x = 0 then i6_beginFrame k l 0 (uI I k 12 ((I k 12) + 1)) L else i6_enter k l (nI (if (I k 9 = 0) ∨ (¬ ((r6_isErrorPassive k l (uI I k 12 ((I k 12) + 1)) L) = true)) then 3 else 9)) (uI I k 12 ((I k 12) + 1)) L) else (if x = 0 then i6_enter k l 6 (uI I k 12 ((I k 12) + 1)) L else uI I k 12 ((I k 12) + 1)))
def m6_actIntermission (k : Nat) (l : Nat) (x : Int32) (I : Nat → Nat → Int32) (L : Nat → Nat → Int64) : Nat → Nat → Int64 := (if 3 ≤ (I k 12) + 1 then (if x = 0 then m6_beginFrame k l 0 (uI I k 12 ((I k 12) + 1)) L else L) else L)
set_option maxRecDepth 4000 in
theorem v6_actIntermission (g : GlT) {k : Nat} {l : Nat} (hk : okN k l) (x : Int32) (I : Nat → Nat → Int32) (L : Nat → Nat → Int64) (hv : nV k I) (Q : Option Value → MemT → Prop) (hq : Q (none) (i6_actIntermission k l x I L, m6_actIntermission k l x I L, R0, 305)) : V g (k6_actIntermission, 4, 0, 0) 0 0 0 [(0, .ref (xA g k)), (1, .int x)] [] (I, L, R0, 305) Q := by
  refine V_aload_n (pc1 := 1) 0 d6_actIntermission_0 rfl rfl ?_
  refine V_dup (pc1 := 2) d6_actIntermission_1 rfl rfl ?_
  refine V_geti (pc1 := 5) (nd_l0 hk) (nd_b0 hk) f6_80 (fun _ => rfl) rfl d6_actIntermission_2 rfl ?_
  refine V_iconst (pc1 := 6) d6_actIntermission_5 vc_1 rfl ?_
  refine V_iadd (pc1 := 7) d6_actIntermission_6 rfl ?_
  refine V_puti (pc1 := 10) (nd_l0 hk) (nd_b0 hk) f6_80 rfl rfl d6_actIntermission_7 rfl ?_
  refine V_aload_n (pc1 := 11) 0 d6_actIntermission_10 rfl rfl ?_
  refine V_geti (pc1 := 14) (nd_l0 hk) (nd_b0 hk) f6_80 (fun _ => rfl) (uI_self _ _ _ _) d6_actIntermission_11 rfl ?_
  refine V_iconst (pc1 := 15) d6_actIntermission_14 vc_3 rfl ?_
  have key10 : ∀ (zI67 : Nat → Nat → Int32), zI67 = (if 3 ≤ (I k 12) + 1 then (if x = 0 then i6_beginFrame k l 0 (uI I k 12 ((I k 12) + 1)) L else i6_enter k l (nI (if (I k 9 = 0) ∨ (¬ ((r6_isErrorPassive k l (uI I k 12 ((I k 12) + 1)) L) = true)) then 3 else 9)) (uI I k 12 ((I k 12) + 1)) L) else (if x = 0 then i6_enter k l 6 (uI I k 12 ((I k 12) + 1)) L else uI I k 12 ((I k 12) + 1))) → ∀ (zL67 : Nat → Nat → Int64), zL67 = (if 3 ≤ (I k 12) + 1 then (if x = 0 then m6_beginFrame k l 0 (uI I k 12 ((I k 12) + 1)) L else L) else L) → ∀ (lv : List (Nat × Value)), lvsub [(0, .ref (xA g k)), (1, .int x)] lv → V g (k6_actIntermission, 4, 0, 0) 0 0 67 lv [] (zI67, zL67, R0, 305) Q := by
    intro zI67 ezI67 zL67 ezL67
    subst ezI67
    subst ezL67
    intro lv hlv
    refine V_lv hlv ?_
    refine V_vret rfl d6_actIntermission_67 (Nat.zero_le _) (Nat.zero_le _) ?_
    have hq2 := hq
    simp only [i6_actIntermission, m6_actIntermission] at hq2
    exact hq2
  refine V_icmp_ge (tgt := 31) (pc1 := 18) d6_actIntermission_15 (by decide) rfl (fun h1 => ?_) (fun h1 => ?_)
  · skip
    refine V_iload_n (pc1 := 32) 1 d6_actIntermission_31 rfl rfl ?_
    refine V_if_ne (tgt := 43) (pc1 := 35) d6_actIntermission_32 (by decide) rfl (fun h2 => ?_) (fun h2 => ?_)
    · skip
      refine V_aload_n (pc1 := 44) 0 d6_actIntermission_43 rfl rfl ?_
      refine V_aload_n (pc1 := 45) 0 d6_actIntermission_44 rfl rfl ?_
      refine V_geti (pc1 := 48) (nd_l0 hk) (nd_b0 hk) f6_70 (fun _ => rfl) (uI_ne _ _ _ (show (9 : Nat) ≠ 12 by decide)) d6_actIntermission_45 rfl ?_
      have key8 : ∀ (y64_0 : Int32), y64_0 = nI (if (I k 9 = 0) ∨ (¬ ((r6_isErrorPassive k l (uI I k 12 ((I k 12) + 1)) L) = true)) then 3 else 9) → ∀ (lv : List (Nat × Value)), lvsub [(0, .ref (xA g k)), (1, .int x)] lv → V g (k6_actIntermission, 4, 0, 0) 0 0 64 lv [.int y64_0, .ref (xA g k)] (uI I k 12 ((I k 12) + 1), L, R0, 305) Q := by
        intro y64_0 ey64_0
        subst ey64_0
        intro lv hlv
        refine V_lv hlv ?_
        refine V_vv (pc1 := 67) (w6_enter g hk (nI (if (I k 9 = 0) ∨ (¬ ((r6_isErrorPassive k l (uI I k 12 ((I k 12) + 1)) L) = true)) then 3 else 9))  (uI I k 12 ((I k 12) + 1)) L ) (nd_l0 hk) (nd_b0 hk) s6_enter l6_169 rfl rfl ⟨Nat.le_of_ble_eq_true rfl, Nat.le_of_ble_eq_true rfl, Nat.le_refl _, Nat.le_refl _⟩ (Nat.le_of_ble_eq_true rfl) rfl d6_actIntermission_64 rfl ?_
        exact key10 _ (by first | rfl | (simp only [if_pos h1, if_neg h2]; done) | (simp only [if_pos h1, if_neg h2]; rfl)) _ (by first | rfl | (simp only [if_pos h1, if_neg h2]; done) | (simp only [if_pos h1, if_neg h2]; rfl)) _ (lvsub_p [0, 1] rfl)
      have k4 : ((I k 9 = 0) ∨ (¬ ((r6_isErrorPassive k l (uI I k 12 ((I k 12) + 1)) L) = true))) → V g (k6_actIntermission, 4, 0, 0) 0 0 63 [(0, .ref (xA g k)), (1, .int x)] [.ref (xA g k)] (uI I k 12 ((I k 12) + 1), L, R0, 305) Q := by
        intro h3
        refine V_iconst (pc1 := 64) d6_actIntermission_63 vc_3 rfl ?_
        exact key8 _ (by first | rfl | (simp only [if_pos h3]; done) | (simp only [if_pos h3]; rfl)) _ (lvsub_p [0, 1] rfl)
      have k5 : ¬ ((I k 9 = 0) ∨ (¬ ((r6_isErrorPassive k l (uI I k 12 ((I k 12) + 1)) L) = true))) → V g (k6_actIntermission, 4, 0, 0) 0 0 58 [(0, .ref (xA g k)), (1, .int x)] [.ref (xA g k)] (uI I k 12 ((I k 12) + 1), L, R0, 305) Q := by
        intro h3
        refine V_bipush (pc1 := 60) d6_actIntermission_58 vb_9 rfl ?_
        refine V_goto (tgt := 64) d6_actIntermission_60 (by decide) ?_
        exact key8 _ (by first | rfl | (simp only [if_neg h3]; done) | (simp only [if_neg h3]; rfl)) _ (lvsub_p [0, 1] rfl)
      refine V_if_eq (tgt := 63) (pc1 := 51) d6_actIntermission_48 (by decide) rfl (fun h6 => ?_) (fun h6 => ?_)
      · skip
        exact k4 (Or.inl h6)
      · skip
        refine V_aload_n (pc1 := 52) 0 d6_actIntermission_51 rfl rfl ?_
        refine V_vi (pc1 := 55) (w6_isErrorPassive g hk   (uI I k 12 ((I k 12) + 1)) L ) (nd_l0 hk) (nd_b0 hk) s6_isErrorPassive l6_182 rfl rfl ⟨Nat.le_of_ble_eq_true rfl, Nat.le_of_ble_eq_true rfl, Nat.le_refl _, Nat.le_refl _⟩ (Nat.le_of_ble_eq_true rfl) rfl d6_actIntermission_52 rfl ?_
        refine V_beq (tgt := 63) (pc1 := 58) d6_actIntermission_55 (by decide) rfl (fun h7 => ?_) (fun h7 => ?_)
        · skip
          exact k4 (Or.inr h7)
        · skip
          exact k5 (fun z => z.elim h6 (fun z => z h7))
    · skip
      refine V_aload_n (pc1 := 36) 0 d6_actIntermission_35 rfl rfl ?_
      refine V_iconst (pc1 := 37) d6_actIntermission_36 vc_0 rfl ?_
      refine V_vv (pc1 := 40) (w6_beginFrame g hk 0 (Or.inl rfl) (uI I k 12 ((I k 12) + 1)) L (nV.of (congrFun (uI_off _ _ _ (show (k + 3 : Nat) ≠ k by omega)) _) (congrFun (uI_off _ _ _ (show (k + 7 : Nat) ≠ k by omega)) _) (congrFun (uI_off _ _ _ (show (k + 11 : Nat) ≠ k by omega)) _) hv)) (nd_l0 hk) (nd_b0 hk) s6_beginFrame l6_172 rfl rfl ⟨Nat.le_of_ble_eq_true rfl, Nat.le_of_ble_eq_true rfl, Nat.le_refl _, Nat.le_refl _⟩ (Nat.le_of_ble_eq_true rfl) rfl d6_actIntermission_37 rfl ?_
      refine V_goto (tgt := 67) d6_actIntermission_40 (by decide) ?_
      exact key10 _ (by first | rfl | (simp only [if_pos h1, if_pos h2]; done) | (simp only [if_pos h1, if_pos h2]; rfl)) _ (by first | rfl | (simp only [if_pos h1, if_pos h2]; done) | (simp only [if_pos h1, if_pos h2]; rfl)) _ (lvsub_p [0, 1] rfl)
  · skip
    refine V_iload_n (pc1 := 19) 1 d6_actIntermission_18 rfl rfl ?_
    refine V_if_ne (tgt := 67) (pc1 := 22) d6_actIntermission_19 (by decide) rfl (fun h9 => ?_) (fun h9 => ?_)
    · skip
      exact key10 _ (by first | rfl | (simp only [if_neg h1, if_neg h9]; done) | (simp only [if_neg h1, if_neg h9]; rfl)) _ (by first | rfl | (simp only [if_neg h1, if_neg h9]; done) | (simp only [if_neg h1, if_neg h9]; rfl)) _ (lvsub_p [0, 1] rfl)
    · skip
      refine V_aload_n (pc1 := 23) 0 d6_actIntermission_22 rfl rfl ?_
      refine V_bipush (pc1 := 25) d6_actIntermission_23 vb_6 rfl ?_
      refine V_vv (pc1 := 28) (w6_enter g hk 6  (uI I k 12 ((I k 12) + 1)) L ) (nd_l0 hk) (nd_b0 hk) s6_enter l6_169 rfl rfl ⟨Nat.le_of_ble_eq_true rfl, Nat.le_of_ble_eq_true rfl, Nat.le_refl _, Nat.le_refl _⟩ (Nat.le_of_ble_eq_true rfl) rfl d6_actIntermission_25 rfl ?_
      refine V_goto (tgt := 67) d6_actIntermission_28 (by decide) ?_
      exact key10 _ (by first | rfl | (simp only [if_neg h1, if_pos h9]; done) | (simp only [if_neg h1, if_pos h9]; rfl)) _ (by first | rfl | (simp only [if_neg h1, if_pos h9]; done) | (simp only [if_neg h1, if_pos h9]; rfl)) _ (lvsub_p [0, 1] rfl)
theorem w6_actIntermission (g : GlT) {k : Nat} {l : Nat} (hk : okN k l) (x : Int32) (I : Nat → Nat → Int32) (L : Nat → Nat → Int64) (hv : nV k I) : Call g (k6_actIntermission, 4, 0, 0) [.ref (xA g k), .int x] (I, L, R0, 305) (Qv (i6_actIntermission k l x I L) (m6_actIntermission k l x I L)) := Call.of (by decide) (Nat.le_of_ble_eq_true rfl) rfl (v6_actIntermission g hk x  I L hv _ (And.intro rfl rfl))
theorem x6_actIntermission {k : Nat} {l : Nat} {x : Int32} {I : Nat → Nat → Int32} {L : Nat → Nat → Int64} {aa : Nat} (h0 : aa ≠ k) (h1 : aa ≠ k + 1) (h2 : aa ≠ k + 15) : i6_actIntermission k l x I L aa = I aa := by
  first | (simp only [i6_actIntermission]; done) | (simp only [i6_actIntermission]; (try (repeat' split)) <;> first | rfl | (simp [uI_off, h0, h1, h2, x6_beginFrame, x6_enter]; done))
theorem y6_actIntermission {k : Nat} {l : Nat} {x : Int32} {I : Nat → Nat → Int32} {L : Nat → Nat → Int64} {aa : Nat} (h0 : aa ≠ k) (h1 : aa ≠ k + 15) : m6_actIntermission k l x I L aa = L aa := by
  first | (simp only [m6_actIntermission]; done) | (simp only [m6_actIntermission]; (try (repeat' split)) <;> first | rfl | (simp [uL_off, h0, h1, y6_beginFrame]; done))

def i6_actSuspend (k : Nat) (l : Nat) (x : Int32) (I : Nat → Nat → Int32) (L : Nat → Nat → Int64) : Nat → Nat → Int32 := (if x = 0 then i6_beginFrame k l 0 (uI I k 12 ((I k 12) + 1)) L else (if (I k 12) + 1 < 8 then uI I k 12 ((I k 12) + 1) else i6_enter k l 3 (uI I k 12 ((I k 12) + 1)) L))
def m6_actSuspend (k : Nat) (l : Nat) (x : Int32) (I : Nat → Nat → Int32) (L : Nat → Nat → Int64) : Nat → Nat → Int64 := (if x = 0 then m6_beginFrame k l 0 (uI I k 12 ((I k 12) + 1)) L else L)
set_option maxRecDepth 4000 in
theorem v6_actSuspend (g : GlT) {k : Nat} {l : Nat} (hk : okN k l) (x : Int32) (I : Nat → Nat → Int32) (L : Nat → Nat → Int64) (hv : nV k I) (Q : Option Value → MemT → Prop) (hq : Q (none) (i6_actSuspend k l x I L, m6_actSuspend k l x I L, R0, 305)) : V g (k6_actSuspend, 4, 0, 0) 0 0 0 [(0, .ref (xA g k)), (1, .int x)] [] (I, L, R0, 305) Q := by
  refine V_aload_n (pc1 := 1) 0 d6_actSuspend_0 rfl rfl ?_
  refine V_dup (pc1 := 2) d6_actSuspend_1 rfl rfl ?_
  refine V_geti (pc1 := 5) (nd_l0 hk) (nd_b0 hk) f6_80 (fun _ => rfl) rfl d6_actSuspend_2 rfl ?_
  refine V_iconst (pc1 := 6) d6_actSuspend_5 vc_1 rfl ?_
  refine V_iadd (pc1 := 7) d6_actSuspend_6 rfl ?_
  refine V_puti (pc1 := 10) (nd_l0 hk) (nd_b0 hk) f6_80 rfl rfl d6_actSuspend_7 rfl ?_
  refine V_iload_n (pc1 := 11) 1 d6_actSuspend_10 rfl rfl ?_
  have key3 : ∀ (zI36 : Nat → Nat → Int32), zI36 = (if x = 0 then i6_beginFrame k l 0 (uI I k 12 ((I k 12) + 1)) L else (if (I k 12) + 1 < 8 then uI I k 12 ((I k 12) + 1) else i6_enter k l 3 (uI I k 12 ((I k 12) + 1)) L)) → ∀ (zL36 : Nat → Nat → Int64), zL36 = (if x = 0 then m6_beginFrame k l 0 (uI I k 12 ((I k 12) + 1)) L else L) → ∀ (lv : List (Nat × Value)), lvsub [(0, .ref (xA g k)), (1, .int x)] lv → V g (k6_actSuspend, 4, 0, 0) 0 0 36 lv [] (zI36, zL36, R0, 305) Q := by
    intro zI36 ezI36 zL36 ezL36
    subst ezI36
    subst ezL36
    intro lv hlv
    refine V_lv hlv ?_
    refine V_vret rfl d6_actSuspend_36 (Nat.zero_le _) (Nat.zero_le _) ?_
    have hq2 := hq
    simp only [i6_actSuspend, m6_actSuspend] at hq2
    exact hq2
  refine V_if_ne (tgt := 22) (pc1 := 14) d6_actSuspend_11 (by decide) rfl (fun h1 => ?_) (fun h1 => ?_)
  · skip
    refine V_aload_n (pc1 := 23) 0 d6_actSuspend_22 rfl rfl ?_
    refine V_geti (pc1 := 26) (nd_l0 hk) (nd_b0 hk) f6_80 (fun _ => rfl) (uI_self _ _ _ _) d6_actSuspend_23 rfl ?_
    refine V_bipush (pc1 := 28) d6_actSuspend_26 vb_8 rfl ?_
    refine V_icmp_lt (tgt := 36) (pc1 := 31) d6_actSuspend_28 (by decide) rfl (fun h2 => ?_) (fun h2 => ?_)
    · skip
      exact key3 _ (by first | rfl | (simp only [if_neg h1, if_pos h2]; done) | (simp only [if_neg h1, if_pos h2]; rfl)) _ (by first | rfl | (simp only [if_neg h1, if_pos h2]; done) | (simp only [if_neg h1, if_pos h2]; rfl)) _ (lvsub_p [0, 1] rfl)
    · skip
      refine V_aload_n (pc1 := 32) 0 d6_actSuspend_31 rfl rfl ?_
      refine V_iconst (pc1 := 33) d6_actSuspend_32 vc_3 rfl ?_
      refine V_vv (pc1 := 36) (w6_enter g hk 3  (uI I k 12 ((I k 12) + 1)) L ) (nd_l0 hk) (nd_b0 hk) s6_enter l6_169 rfl rfl ⟨Nat.le_of_ble_eq_true rfl, Nat.le_of_ble_eq_true rfl, Nat.le_refl _, Nat.le_refl _⟩ (Nat.le_of_ble_eq_true rfl) rfl d6_actSuspend_33 rfl ?_
      exact key3 _ (by first | rfl | (simp only [if_neg h1, if_neg h2]; done) | (simp only [if_neg h1, if_neg h2]; rfl)) _ (by first | rfl | (simp only [if_neg h1, if_neg h2]; done) | (simp only [if_neg h1, if_neg h2]; rfl)) _ (lvsub_p [0, 1] rfl)
  · skip
    refine V_aload_n (pc1 := 15) 0 d6_actSuspend_14 rfl rfl ?_
    refine V_iconst (pc1 := 16) d6_actSuspend_15 vc_0 rfl ?_
    refine V_vv (pc1 := 19) (w6_beginFrame g hk 0 (Or.inl rfl) (uI I k 12 ((I k 12) + 1)) L (nV.of (congrFun (uI_off _ _ _ (show (k + 3 : Nat) ≠ k by omega)) _) (congrFun (uI_off _ _ _ (show (k + 7 : Nat) ≠ k by omega)) _) (congrFun (uI_off _ _ _ (show (k + 11 : Nat) ≠ k by omega)) _) hv)) (nd_l0 hk) (nd_b0 hk) s6_beginFrame l6_172 rfl rfl ⟨Nat.le_of_ble_eq_true rfl, Nat.le_of_ble_eq_true rfl, Nat.le_refl _, Nat.le_refl _⟩ (Nat.le_of_ble_eq_true rfl) rfl d6_actSuspend_16 rfl ?_
    refine V_goto (tgt := 36) d6_actSuspend_19 (by decide) ?_
    exact key3 _ (by first | rfl | (simp only [if_pos h1]; done) | (simp only [if_pos h1]; rfl)) _ (by first | rfl | (simp only [if_pos h1]; done) | (simp only [if_pos h1]; rfl)) _ (lvsub_p [0, 1] rfl)
theorem w6_actSuspend (g : GlT) {k : Nat} {l : Nat} (hk : okN k l) (x : Int32) (I : Nat → Nat → Int32) (L : Nat → Nat → Int64) (hv : nV k I) : Call g (k6_actSuspend, 4, 0, 0) [.ref (xA g k), .int x] (I, L, R0, 305) (Qv (i6_actSuspend k l x I L) (m6_actSuspend k l x I L)) := Call.of (by decide) (Nat.le_of_ble_eq_true rfl) rfl (v6_actSuspend g hk x  I L hv _ (And.intro rfl rfl))
theorem x6_actSuspend {k : Nat} {l : Nat} {x : Int32} {I : Nat → Nat → Int32} {L : Nat → Nat → Int64} {aa : Nat} (h0 : aa ≠ k) (h1 : aa ≠ k + 1) (h2 : aa ≠ k + 15) : i6_actSuspend k l x I L aa = I aa := by
  first | (simp only [i6_actSuspend]; done) | (simp only [i6_actSuspend]; (try (repeat' split)) <;> first | rfl | (simp [uI_off, h0, h1, h2, x6_beginFrame, x6_enter]; done))
theorem y6_actSuspend {k : Nat} {l : Nat} {x : Int32} {I : Nat → Nat → Int32} {L : Nat → Nat → Int64} {aa : Nat} (h0 : aa ≠ k) (h1 : aa ≠ k + 15) : m6_actSuspend k l x I L aa = L aa := by
  first | (simp only [m6_actSuspend]; done) | (simp only [m6_actSuspend]; (try (repeat' split)) <;> first | rfl | (simp [uL_off, h0, h1, y6_beginFrame]; done))

def i6_actBasicBit (k : Nat) (l : Nat) (x : Int32) (I : Nat → Nat → Int32) (L : Nat → Nat → Int64) : Nat → Nat → Int32 := (if (I k 9 = 0) ∨ (x = I k 16) then (if (¬ (I k 9 = 0)) ∨ (¬ ((r2_hasWrongHeader (k + 15) (i2_takeBasicBit (k + 15) x I L) (m2_takeBasicBit (k + 15) x I L)) = true)) then i2_takeBasicBit (k + 15) x I L else i6_fail k l 4 (i2_takeBasicBit (k + 15) x I L) (m2_takeBasicBit (k + 15) x I L)) else (if (I k 16 = 0) ∨ (¬ ((r2_isInArbitration (k + 15) I L) = true)) then i6_fail k l 1 I L else (if (r2_hasWrongHeader (k + 15) (i2_takeBasicBit (k + 15) x (uI (uI (uI I k 9 0) k 17 (-1)) (k + 1) 2 ((I (k + 1) 2) + 1)) L) (m2_takeBasicBit (k + 15) x (uI (uI (uI I k 9 0) k 17 (-1)) (k + 1) 2 ((I (k + 1) 2) + 1)) L)) = true then i6_fail k l 4 (i2_takeBasicBit (k + 15) x (uI (uI (uI I k 9 0) k 17 (-1)) (k + 1) 2 ((I (k + 1) 2) + 1)) L) (m2_takeBasicBit (k + 15) x (uI (uI (uI I k 9 0) k 17 (-1)) (k + 1) 2 ((I (k + 1) 2) + 1)) L) else i2_takeBasicBit (k + 15) x (uI (uI (uI I k 9 0) k 17 (-1)) (k + 1) 2 ((I (k + 1) 2) + 1)) L)))
def m6_actBasicBit (k : Nat) (l : Nat) (x : Int32) (I : Nat → Nat → Int32) (L : Nat → Nat → Int64) : Nat → Nat → Int64 := (if (I k 9 = 0) ∨ (x = I k 16) then m2_takeBasicBit (k + 15) x I L else (if (I k 16 = 0) ∨ (¬ ((r2_isInArbitration (k + 15) I L) = true)) then L else m2_takeBasicBit (k + 15) x (uI (uI (uI I k 9 0) k 17 (-1)) (k + 1) 2 ((I (k + 1) 2) + 1)) L))
set_option maxRecDepth 4000 in
theorem v6_actBasicBit (g : GlT) {k : Nat} {l : Nat} (hk : okN k l) (x : Int32) (I : Nat → Nat → Int32) (L : Nat → Nat → Int64) (Q : Option Value → MemT → Prop) (hq : Q (none) (i6_actBasicBit k l x I L, m6_actBasicBit k l x I L, R0, 305)) : V g (k6_actBasicBit, 3, 0, 0) 0 0 0 [(0, .ref (xA g k)), (1, .int x)] [] (I, L, R0, 305) Q := by
  refine V_aload_n (pc1 := 1) 0 d6_actBasicBit_0 rfl rfl ?_
  refine V_geti (pc1 := 4) (nd_l0 hk) (nd_b0 hk) f6_70 (fun _ => rfl) rfl d6_actBasicBit_1 rfl ?_
  have k2 : ((I k 9 = 0) ∨ (x = I k 16)) → V g (k6_actBasicBit, 3, 0, 0) 0 0 61 [(0, .ref (xA g k)), (1, .int x)] [] (I, L, R0, 305) Q := by
    intro h1
    refine V_aload_n (pc1 := 62) 0 d6_actBasicBit_61 rfl rfl ?_
    refine V_getr (pc1 := 65) (nd_l0 hk) (nd_b0 hk) f6_36 (fun _ => rfl) (nd_r0_5 hk) d6_actBasicBit_62 rfl ?_
    refine V_iload_n (pc1 := 66) 1 d6_actBasicBit_65 rfl rfl ?_
    refine V_vv (pc1 := 69) (w2_takeBasicBit g (nd_G15 hk) x  I L ) (nd_l15 hk) (nd_b15 hk) s2_takeBasicBit l6_216 rfl rfl ⟨Nat.le_of_ble_eq_true rfl, Nat.le_of_ble_eq_true rfl, Nat.le_refl _, Nat.le_refl _⟩ (Nat.le_of_ble_eq_true rfl) rfl d6_actBasicBit_66 rfl ?_
    refine V_aload_n (pc1 := 70) 0 d6_actBasicBit_69 rfl rfl ?_
    refine V_geti (pc1 := 73) (nd_l0 hk) (nd_b0 hk) f6_70 (fun _ => rfl) (congrFun (x2_takeBasicBit (I := I) (L := L) (show (k : Nat) ≠ k + 15 by omega)) _) d6_actBasicBit_70 rfl ?_
    have key9 : ∀ (zI91 : Nat → Nat → Int32), zI91 = (if (¬ (I k 9 = 0)) ∨ (¬ ((r2_hasWrongHeader (k + 15) (i2_takeBasicBit (k + 15) x I L) (m2_takeBasicBit (k + 15) x I L)) = true)) then i2_takeBasicBit (k + 15) x I L else i6_fail k l 4 (i2_takeBasicBit (k + 15) x I L) (m2_takeBasicBit (k + 15) x I L)) → ∀ (lv : List (Nat × Value)), lvsub [(0, .ref (xA g k)), (1, .int x)] lv → V g (k6_actBasicBit, 3, 0, 0) 0 0 91 lv [] (zI91, m2_takeBasicBit (k + 15) x I L, R0, 305) Q := by
      intro zI91 ezI91
      subst ezI91
      intro lv hlv
      refine V_lv hlv ?_
      refine V_vret rfl d6_actBasicBit_91 (Nat.zero_le _) (Nat.zero_le _) ?_
      have hq2 := hq
      simp only [i6_actBasicBit, m6_actBasicBit, if_pos h1] at hq2
      exact hq2
    have k5 : ((¬ (I k 9 = 0)) ∨ (¬ ((r2_hasWrongHeader (k + 15) (i2_takeBasicBit (k + 15) x I L) (m2_takeBasicBit (k + 15) x I L)) = true))) → V g (k6_actBasicBit, 3, 0, 0) 0 0 91 [(0, .ref (xA g k)), (1, .int x)] [] (i2_takeBasicBit (k + 15) x I L, m2_takeBasicBit (k + 15) x I L, R0, 305) Q := by
      intro h4
      exact key9 _ (by first | rfl | (simp only [if_pos h4]; done) | (simp only [if_pos h4]; rfl)) _ (lvsub_p [0, 1] rfl)
    have k6 : ¬ ((¬ (I k 9 = 0)) ∨ (¬ ((r2_hasWrongHeader (k + 15) (i2_takeBasicBit (k + 15) x I L) (m2_takeBasicBit (k + 15) x I L)) = true))) → V g (k6_actBasicBit, 3, 0, 0) 0 0 86 [(0, .ref (xA g k)), (1, .int x)] [] (i2_takeBasicBit (k + 15) x I L, m2_takeBasicBit (k + 15) x I L, R0, 305) Q := by
      intro h4
      refine V_aload_n (pc1 := 87) 0 d6_actBasicBit_86 rfl rfl ?_
      refine V_iconst (pc1 := 88) d6_actBasicBit_87 vc_4 rfl ?_
      refine V_vv (pc1 := 91) (w6_fail g hk 4 (by first | decide | omega | (split <;> decide)) (i2_takeBasicBit (k + 15) x I L) (m2_takeBasicBit (k + 15) x I L) ) (nd_l0 hk) (nd_b0 hk) s6_fail l6_176 rfl rfl ⟨Nat.le_of_ble_eq_true rfl, Nat.le_of_ble_eq_true rfl, Nat.le_refl _, Nat.le_refl _⟩ (Nat.le_of_ble_eq_true rfl) rfl d6_actBasicBit_88 rfl ?_
      exact key9 _ (by first | rfl | (simp only [if_neg h4]; done) | (simp only [if_neg h4]; rfl)) _ (lvsub_p [0, 1] rfl)
    refine V_if_ne (tgt := 91) (pc1 := 76) d6_actBasicBit_73 (by decide) rfl (fun h7 => ?_) (fun h7 => ?_)
    · skip
      exact k5 (Or.inl h7)
    · skip
      refine V_aload_n (pc1 := 77) 0 d6_actBasicBit_76 rfl rfl ?_
      refine V_getr (pc1 := 80) (nd_l0 hk) (nd_b0 hk) f6_36 (fun _ => rfl) (nd_r0_5 hk) d6_actBasicBit_77 rfl ?_
      refine V_vi (pc1 := 83) (w2_hasWrongHeader g (nd_G15 hk)   (i2_takeBasicBit (k + 15) x I L) (m2_takeBasicBit (k + 15) x I L) ) (nd_l15 hk) (nd_b15 hk) s2_hasWrongHeader l6_219 rfl rfl ⟨Nat.le_of_ble_eq_true rfl, Nat.le_of_ble_eq_true rfl, Nat.le_refl _, Nat.le_refl _⟩ (Nat.le_of_ble_eq_true rfl) rfl d6_actBasicBit_80 rfl ?_
      refine V_beq (tgt := 91) (pc1 := 86) d6_actBasicBit_83 (by decide) rfl (fun h8 => ?_) (fun h8 => ?_)
      · skip
        exact k5 (Or.inr h8)
      · skip
        exact k6 (fun z => z.elim (fun z => z h7) (fun z => z h8))
  have k3 : ¬ ((I k 9 = 0) ∨ (x = I k 16)) → V g (k6_actBasicBit, 3, 0, 0) 0 0 15 [(0, .ref (xA g k)), (1, .int x)] [] (I, L, R0, 305) Q := by
    intro h1
    refine V_aload_n (pc1 := 16) 0 d6_actBasicBit_15 rfl rfl ?_
    refine V_geti (pc1 := 19) (nd_l0 hk) (nd_b0 hk) f6_44 (fun _ => rfl) rfl d6_actBasicBit_16 rfl ?_
    have k11 : ((I k 16 = 0) ∨ (¬ ((r2_isInArbitration (k + 15) I L) = true))) → V g (k6_actBasicBit, 3, 0, 0) 0 0 32 [(0, .ref (xA g k)), (1, .int x)] [] (I, L, R0, 305) Q := by
      intro h10
      refine V_aload_n (pc1 := 33) 0 d6_actBasicBit_32 rfl rfl ?_
      refine V_iconst (pc1 := 34) d6_actBasicBit_33 vc_1 rfl ?_
      refine V_vv (pc1 := 37) (w6_fail g hk 1 (by first | decide | omega | (split <;> decide)) I L ) (nd_l0 hk) (nd_b0 hk) s6_fail l6_176 rfl rfl ⟨Nat.le_of_ble_eq_true rfl, Nat.le_of_ble_eq_true rfl, Nat.le_refl _, Nat.le_refl _⟩ (Nat.le_of_ble_eq_true rfl) rfl d6_actBasicBit_34 rfl ?_
      refine V_vret rfl d6_actBasicBit_37 (Nat.zero_le _) (Nat.zero_le _) ?_
      have hq2 := hq
      simp only [i6_actBasicBit, m6_actBasicBit, if_neg h1, if_pos h10] at hq2
      exact hq2
    have k12 : ¬ ((I k 16 = 0) ∨ (¬ ((r2_isInArbitration (k + 15) I L) = true))) → V g (k6_actBasicBit, 3, 0, 0) 0 0 38 [(0, .ref (xA g k)), (1, .int x)] [] (I, L, R0, 305) Q := by
      intro h10
      refine V_aload_n (pc1 := 39) 0 d6_actBasicBit_38 rfl rfl ?_
      refine V_iconst (pc1 := 40) d6_actBasicBit_39 vc_0 rfl ?_
      refine V_putz (pc1 := 43) (nd_l0 hk) (nd_b0 hk) f6_70 rfl rfl (Or.inl rfl) d6_actBasicBit_40 rfl ?_
      refine V_aload_n (pc1 := 44) 0 d6_actBasicBit_43 rfl rfl ?_
      refine V_iconst (pc1 := 45) d6_actBasicBit_44 vc_m1 rfl ?_
      refine V_puti (pc1 := 48) (nd_l0 hk) (nd_b0 hk) f6_47 rfl rfl d6_actBasicBit_45 rfl ?_
      refine V_aload_n (pc1 := 49) 0 d6_actBasicBit_48 rfl rfl ?_
      refine V_getr (pc1 := 52) (nd_l0 hk) (nd_b0 hk) f6_12 (fun _ => rfl) (nd_r0_1 hk) d6_actBasicBit_49 rfl ?_
      refine V_dup (pc1 := 53) d6_actBasicBit_52 rfl rfl ?_
      refine V_geti (pc1 := 56) (nd_l1 hk) (nd_b1 hk) f6_213 (fun _ => rfl) ((congrFun (uI_off _ _ _ (show (k + 1 : Nat) ≠ k by omega)) _).trans (congrFun (uI_off _ _ _ (show (k + 1 : Nat) ≠ k by omega)) _)) d6_actBasicBit_53 rfl ?_
      refine V_iconst (pc1 := 57) d6_actBasicBit_56 vc_1 rfl ?_
      refine V_iadd (pc1 := 58) d6_actBasicBit_57 rfl ?_
      refine V_puti (pc1 := 61) (nd_l1 hk) (nd_b1 hk) f6_213 rfl rfl d6_actBasicBit_58 rfl ?_
      refine V_aload_n (pc1 := 62) 0 d6_actBasicBit_61 rfl rfl ?_
      refine V_getr (pc1 := 65) (nd_l0 hk) (nd_b0 hk) f6_36 (fun _ => rfl) (nd_r0_5 hk) d6_actBasicBit_62 rfl ?_
      refine V_iload_n (pc1 := 66) 1 d6_actBasicBit_65 rfl rfl ?_
      refine V_vv (pc1 := 69) (w2_takeBasicBit g (nd_G15 hk) x  (uI (uI (uI I k 9 0) k 17 (-1)) (k + 1) 2 ((I (k + 1) 2) + 1)) L ) (nd_l15 hk) (nd_b15 hk) s2_takeBasicBit l6_216 rfl rfl ⟨Nat.le_of_ble_eq_true rfl, Nat.le_of_ble_eq_true rfl, Nat.le_refl _, Nat.le_refl _⟩ (Nat.le_of_ble_eq_true rfl) rfl d6_actBasicBit_66 rfl ?_
      refine V_aload_n (pc1 := 70) 0 d6_actBasicBit_69 rfl rfl ?_
      refine V_geti (pc1 := 73) (nd_l0 hk) (nd_b0 hk) f6_70 (fun _ => rfl) ((congrFun (x2_takeBasicBit (I := (uI (uI (uI I k 9 0) k 17 (-1)) (k + 1) 2 ((I (k + 1) 2) + 1))) (L := L) (show (k : Nat) ≠ k + 15 by omega)) _).trans ((congrFun (uI_off _ _ _ (show (k : Nat) ≠ k + 1 by omega)) _).trans ((uI_ne _ _ _ (show (9 : Nat) ≠ 17 by decide)).trans (uI_self _ _ _ _)))) d6_actBasicBit_70 rfl ?_
      refine V_if_ne (tgt := 91) (pc1 := 76) d6_actBasicBit_73 (by decide) rfl (fun h13 => absurd (by decide) h13) (fun _ => ?_)
      refine V_aload_n (pc1 := 77) 0 d6_actBasicBit_76 rfl rfl ?_
      refine V_getr (pc1 := 80) (nd_l0 hk) (nd_b0 hk) f6_36 (fun _ => rfl) (nd_r0_5 hk) d6_actBasicBit_77 rfl ?_
      refine V_vi (pc1 := 83) (w2_hasWrongHeader g (nd_G15 hk)   (i2_takeBasicBit (k + 15) x (uI (uI (uI I k 9 0) k 17 (-1)) (k + 1) 2 ((I (k + 1) 2) + 1)) L) (m2_takeBasicBit (k + 15) x (uI (uI (uI I k 9 0) k 17 (-1)) (k + 1) 2 ((I (k + 1) 2) + 1)) L) ) (nd_l15 hk) (nd_b15 hk) s2_hasWrongHeader l6_219 rfl rfl ⟨Nat.le_of_ble_eq_true rfl, Nat.le_of_ble_eq_true rfl, Nat.le_refl _, Nat.le_refl _⟩ (Nat.le_of_ble_eq_true rfl) rfl d6_actBasicBit_80 rfl ?_
      have key15 : ∀ (zI91 : Nat → Nat → Int32), zI91 = (if (r2_hasWrongHeader (k + 15) (i2_takeBasicBit (k + 15) x (uI (uI (uI I k 9 0) k 17 (-1)) (k + 1) 2 ((I (k + 1) 2) + 1)) L) (m2_takeBasicBit (k + 15) x (uI (uI (uI I k 9 0) k 17 (-1)) (k + 1) 2 ((I (k + 1) 2) + 1)) L)) = true then i6_fail k l 4 (i2_takeBasicBit (k + 15) x (uI (uI (uI I k 9 0) k 17 (-1)) (k + 1) 2 ((I (k + 1) 2) + 1)) L) (m2_takeBasicBit (k + 15) x (uI (uI (uI I k 9 0) k 17 (-1)) (k + 1) 2 ((I (k + 1) 2) + 1)) L) else i2_takeBasicBit (k + 15) x (uI (uI (uI I k 9 0) k 17 (-1)) (k + 1) 2 ((I (k + 1) 2) + 1)) L) → ∀ (lv : List (Nat × Value)), lvsub [(0, .ref (xA g k)), (1, .int x)] lv → V g (k6_actBasicBit, 3, 0, 0) 0 0 91 lv [] (zI91, m2_takeBasicBit (k + 15) x (uI (uI (uI I k 9 0) k 17 (-1)) (k + 1) 2 ((I (k + 1) 2) + 1)) L, R0, 305) Q := by
        intro zI91 ezI91
        subst ezI91
        intro lv hlv
        refine V_lv hlv ?_
        refine V_vret rfl d6_actBasicBit_91 (Nat.zero_le _) (Nat.zero_le _) ?_
        have hq2 := hq
        simp only [i6_actBasicBit, m6_actBasicBit, if_neg h1, if_neg h10] at hq2
        exact hq2
      refine V_beq (tgt := 91) (pc1 := 86) d6_actBasicBit_83 (by decide) rfl (fun h14 => ?_) (fun h14 => ?_)
      · skip
        exact key15 _ (by first | rfl | (simp only [if_neg h14]; done) | (simp only [if_neg h14]; rfl)) _ (lvsub_p [0, 1] rfl)
      · skip
        refine V_aload_n (pc1 := 87) 0 d6_actBasicBit_86 rfl rfl ?_
        refine V_iconst (pc1 := 88) d6_actBasicBit_87 vc_4 rfl ?_
        refine V_vv (pc1 := 91) (w6_fail g hk 4 (by first | decide | omega | (split <;> decide)) (i2_takeBasicBit (k + 15) x (uI (uI (uI I k 9 0) k 17 (-1)) (k + 1) 2 ((I (k + 1) 2) + 1)) L) (m2_takeBasicBit (k + 15) x (uI (uI (uI I k 9 0) k 17 (-1)) (k + 1) 2 ((I (k + 1) 2) + 1)) L) ) (nd_l0 hk) (nd_b0 hk) s6_fail l6_176 rfl rfl ⟨Nat.le_of_ble_eq_true rfl, Nat.le_of_ble_eq_true rfl, Nat.le_refl _, Nat.le_refl _⟩ (Nat.le_of_ble_eq_true rfl) rfl d6_actBasicBit_88 rfl ?_
        exact key15 _ (by first | rfl | (simp only [if_pos h14]; done) | (simp only [if_pos h14]; rfl)) _ (lvsub_p [0, 1] rfl)
    refine V_if_eq (tgt := 32) (pc1 := 22) d6_actBasicBit_19 (by decide) rfl (fun h16 => ?_) (fun h16 => ?_)
    · skip
      exact k11 (Or.inl h16)
    · skip
      refine V_aload_n (pc1 := 23) 0 d6_actBasicBit_22 rfl rfl ?_
      refine V_getr (pc1 := 26) (nd_l0 hk) (nd_b0 hk) f6_36 (fun _ => rfl) (nd_r0_5 hk) d6_actBasicBit_23 rfl ?_
      refine V_vi (pc1 := 29) (w2_isInArbitration g (nd_G15 hk)   I L ) (nd_l15 hk) (nd_b15 hk) s2_isInArbitration l6_210 rfl rfl ⟨Nat.le_of_ble_eq_true rfl, Nat.le_of_ble_eq_true rfl, Nat.le_refl _, Nat.le_refl _⟩ (Nat.le_of_ble_eq_true rfl) rfl d6_actBasicBit_26 rfl ?_
      refine V_bne (tgt := 38) (pc1 := 32) d6_actBasicBit_29 (by decide) rfl (fun h17 => ?_) (fun h17 => ?_)
      · skip
        exact k12 (fun z => z.elim h16 (fun z => z h17))
      · skip
        exact k11 (Or.inr h17)
  refine V_if_eq (tgt := 61) (pc1 := 7) d6_actBasicBit_4 (by decide) rfl (fun h18 => ?_) (fun h18 => ?_)
  · skip
    exact k2 (Or.inl h18)
  · skip
    refine V_iload_n (pc1 := 8) 1 d6_actBasicBit_7 rfl rfl ?_
    refine V_aload_n (pc1 := 9) 0 d6_actBasicBit_8 rfl rfl ?_
    refine V_geti (pc1 := 12) (nd_l0 hk) (nd_b0 hk) f6_44 (fun _ => rfl) rfl d6_actBasicBit_9 rfl ?_
    refine V_icmp_eq (tgt := 61) (pc1 := 15) d6_actBasicBit_12 (by decide) rfl (fun h19 => ?_) (fun h19 => ?_)
    · skip
      exact k2 (Or.inr h19)
    · skip
      exact k3 (fun z => z.elim h18 h19)
theorem w6_actBasicBit (g : GlT) {k : Nat} {l : Nat} (hk : okN k l) (x : Int32) (I : Nat → Nat → Int32) (L : Nat → Nat → Int64) : Call g (k6_actBasicBit, 3, 0, 0) [.ref (xA g k), .int x] (I, L, R0, 305) (Qv (i6_actBasicBit k l x I L) (m6_actBasicBit k l x I L)) := Call.of (by decide) (Nat.le_of_ble_eq_true rfl) rfl (v6_actBasicBit g hk x  I L  _ (And.intro rfl rfl))
theorem x6_actBasicBit {k : Nat} {l : Nat} {x : Int32} {I : Nat → Nat → Int32} {L : Nat → Nat → Int64} {aa : Nat} (h0 : aa ≠ k) (h1 : aa ≠ k + 1) (h2 : aa ≠ k + 2) (h3 : aa ≠ k + 15) : i6_actBasicBit k l x I L aa = I aa := by
  first | (simp only [i6_actBasicBit]; done) | (simp only [i6_actBasicBit]; (try (repeat' split)) <;> first | rfl | (simp [uI_off, h0, h1, h2, h3, x2_takeBasicBit, x6_fail]; done))
theorem y6_actBasicBit {k : Nat} {l : Nat} {x : Int32} {I : Nat → Nat → Int32} {L : Nat → Nat → Int64} {aa : Nat} (h0 : aa ≠ k + 15) : m6_actBasicBit k l x I L aa = L aa := by
  first | (simp only [m6_actBasicBit]; done) | (simp only [m6_actBasicBit]; (try (repeat' split)) <;> first | rfl | (simp [uL_off, h0, y2_takeBasicBit]; done))

def i6_actStuffedPart (k : Nat) (l : Nat) (x : Int32) (I : Nat → Nat → Int32) (L : Nat → Nat → Int64) : Nat → Nat → Int32 := (if (r2_isStuffBitDue (k + 15) I L) = true then (if x = I (k + 15) 6 then i6_fail k l (if I k 9 = 0 then 2 else 1) I L else i2_takeStuffBit (k + 15) x I L) else i6_actBasicBit k l x I L)
def m6_actStuffedPart (k : Nat) (l : Nat) (x : Int32) (I : Nat → Nat → Int32) (L : Nat → Nat → Int64) : Nat → Nat → Int64 := (if (r2_isStuffBitDue (k + 15) I L) = true then L else m6_actBasicBit k l x I L)
set_option maxRecDepth 4000 in
theorem v6_actStuffedPart (g : GlT) {k : Nat} {l : Nat} (hk : okN k l) (x : Int32) (I : Nat → Nat → Int32) (L : Nat → Nat → Int64) (Q : Option Value → MemT → Prop) (hq : Q (none) (i6_actStuffedPart k l x I L, m6_actStuffedPart k l x I L, R0, 305)) : V g (k6_actStuffedPart, 4, 0, 0) 0 0 0 [(0, .ref (xA g k)), (1, .int x)] [] (I, L, R0, 305) Q := by
  refine V_aload_n (pc1 := 1) 0 d6_actStuffedPart_0 rfl rfl ?_
  refine V_getr (pc1 := 4) (nd_l0 hk) (nd_b0 hk) f6_36 (fun _ => rfl) (nd_r0_5 hk) d6_actStuffedPart_1 rfl ?_
  refine V_vi (pc1 := 7) (w2_isStuffBitDue g (nd_G15 hk)   I L ) (nd_l15 hk) (nd_b15 hk) s2_isStuffBitDue l6_198 rfl rfl ⟨Nat.le_of_ble_eq_true rfl, Nat.le_of_ble_eq_true rfl, Nat.le_refl _, Nat.le_refl _⟩ (Nat.le_of_ble_eq_true rfl) rfl d6_actStuffedPart_4 rfl ?_
  have key5 : ∀ (zI56 : Nat → Nat → Int32), zI56 = (if (r2_isStuffBitDue (k + 15) I L) = true then (if x = I (k + 15) 6 then i6_fail k l (if I k 9 = 0 then 2 else 1) I L else i2_takeStuffBit (k + 15) x I L) else i6_actBasicBit k l x I L) → ∀ (zL56 : Nat → Nat → Int64), zL56 = (if (r2_isStuffBitDue (k + 15) I L) = true then L else m6_actBasicBit k l x I L) → ∀ (lv : List (Nat × Value)), lvsub [(0, .ref (xA g k)), (1, .int x)] lv → V g (k6_actStuffedPart, 4, 0, 0) 0 0 56 lv [] (zI56, zL56, R0, 305) Q := by
    intro zI56 ezI56 zL56 ezL56
    subst ezI56
    subst ezL56
    intro lv hlv
    refine V_lv hlv ?_
    refine V_vret rfl d6_actStuffedPart_56 (Nat.zero_le _) (Nat.zero_le _) ?_
    have hq2 := hq
    simp only [i6_actStuffedPart, m6_actStuffedPart] at hq2
    exact hq2
  refine V_bne (tgt := 18) (pc1 := 10) d6_actStuffedPart_7 (by decide) rfl (fun h1 => ?_) (fun h1 => ?_)
  · skip
    refine V_iload_n (pc1 := 19) 1 d6_actStuffedPart_18 rfl rfl ?_
    refine V_aload_n (pc1 := 20) 0 d6_actStuffedPart_19 rfl rfl ?_
    refine V_getr (pc1 := 23) (nd_l0 hk) (nd_b0 hk) f6_36 (fun _ => rfl) (nd_r0_5 hk) d6_actStuffedPart_20 rfl ?_
    refine V_geti (pc1 := 26) (nd_l15 hk) (nd_b15 hk) f6_204 (fun _ => rfl) rfl d6_actStuffedPart_23 rfl ?_
    refine V_icmp_ne (tgt := 48) (pc1 := 29) d6_actStuffedPart_26 (by decide) rfl (fun h2 => ?_) (fun h2 => ?_)
    · skip
      refine V_aload_n (pc1 := 49) 0 d6_actStuffedPart_48 rfl rfl ?_
      refine V_getr (pc1 := 52) (nd_l0 hk) (nd_b0 hk) f6_36 (fun _ => rfl) (nd_r0_5 hk) d6_actStuffedPart_49 rfl ?_
      refine V_iload_n (pc1 := 53) 1 d6_actStuffedPart_52 rfl rfl ?_
      refine V_vv (pc1 := 56) (w2_takeStuffBit g (nd_G15 hk) x  I L ) (nd_l15 hk) (nd_b15 hk) s2_takeStuffBit l6_207 rfl rfl ⟨Nat.le_of_ble_eq_true rfl, Nat.le_of_ble_eq_true rfl, Nat.le_refl _, Nat.le_refl _⟩ (Nat.le_of_ble_eq_true rfl) rfl d6_actStuffedPart_53 rfl ?_
      exact key5 _ (by first | rfl | (simp only [if_pos h1, if_neg h2]; done) | (simp only [if_pos h1, if_neg h2]; rfl)) _ (by first | rfl | (simp only [if_pos h1, if_neg h2]; done) | (simp only [if_pos h1, if_neg h2]; rfl)) _ (lvsub_p [0, 1] rfl)
    · skip
      refine V_aload_n (pc1 := 30) 0 d6_actStuffedPart_29 rfl rfl ?_
      refine V_aload_n (pc1 := 31) 0 d6_actStuffedPart_30 rfl rfl ?_
      refine V_geti (pc1 := 34) (nd_l0 hk) (nd_b0 hk) f6_70 (fun _ => rfl) rfl d6_actStuffedPart_31 rfl ?_
      have key4 : ∀ (y42_0 : Int32), y42_0 = nI (if I k 9 = 0 then 2 else 1) → ∀ (lv : List (Nat × Value)), lvsub [(0, .ref (xA g k)), (1, .int x)] lv → V g (k6_actStuffedPart, 4, 0, 0) 0 0 42 lv [.int y42_0, .ref (xA g k)] (I, L, R0, 305) Q := by
        intro y42_0 ey42_0
        subst ey42_0
        intro lv hlv
        refine V_lv hlv ?_
        refine V_vv (pc1 := 45) (w6_fail g hk (if I k 9 = 0 then 2 else 1) (by first | decide | omega | (split <;> decide)) I L ) (nd_l0 hk) (nd_b0 hk) s6_fail l6_176 rfl rfl ⟨Nat.le_of_ble_eq_true rfl, Nat.le_of_ble_eq_true rfl, Nat.le_refl _, Nat.le_refl _⟩ (Nat.le_of_ble_eq_true rfl) rfl d6_actStuffedPart_42 rfl ?_
        refine V_goto (tgt := 56) d6_actStuffedPart_45 (by decide) ?_
        exact key5 _ (by first | rfl | (simp only [if_pos h1, if_pos h2]; done) | (simp only [if_pos h1, if_pos h2]; rfl)) _ (by first | rfl | (simp only [if_pos h1, if_pos h2]; done) | (simp only [if_pos h1, if_pos h2]; rfl)) _ (lvsub_p [0, 1] rfl)
      refine V_if_eq (tgt := 41) (pc1 := 37) d6_actStuffedPart_34 (by decide) rfl (fun h3 => ?_) (fun h3 => ?_)
      · skip
        refine V_iconst (pc1 := 42) d6_actStuffedPart_41 vc_2 rfl ?_
        exact key4 _ (by first | rfl | (simp only [if_pos h3]; done) | (simp only [if_pos h3]; rfl)) _ (lvsub_p [0, 1] rfl)
      · skip
        refine V_iconst (pc1 := 38) d6_actStuffedPart_37 vc_1 rfl ?_
        refine V_goto (tgt := 42) d6_actStuffedPart_38 (by decide) ?_
        exact key4 _ (by first | rfl | (simp only [if_neg h3]; done) | (simp only [if_neg h3]; rfl)) _ (lvsub_p [0, 1] rfl)
  · skip
    refine V_aload_n (pc1 := 11) 0 d6_actStuffedPart_10 rfl rfl ?_
    refine V_iload_n (pc1 := 12) 1 d6_actStuffedPart_11 rfl rfl ?_
    refine V_vv (pc1 := 15) (w6_actBasicBit g hk x  I L ) (nd_l0 hk) (nd_b0 hk) s6_actBasicBit l6_201 rfl rfl ⟨Nat.le_of_ble_eq_true rfl, Nat.le_of_ble_eq_true rfl, Nat.le_refl _, Nat.le_refl _⟩ (Nat.le_of_ble_eq_true rfl) rfl d6_actStuffedPart_12 rfl ?_
    refine V_goto (tgt := 56) d6_actStuffedPart_15 (by decide) ?_
    exact key5 _ (by first | rfl | (simp only [if_neg h1]; done) | (simp only [if_neg h1]; rfl)) _ (by first | rfl | (simp only [if_neg h1]; done) | (simp only [if_neg h1]; rfl)) _ (lvsub_p [0, 1] rfl)
theorem w6_actStuffedPart (g : GlT) {k : Nat} {l : Nat} (hk : okN k l) (x : Int32) (I : Nat → Nat → Int32) (L : Nat → Nat → Int64) : Call g (k6_actStuffedPart, 4, 0, 0) [.ref (xA g k), .int x] (I, L, R0, 305) (Qv (i6_actStuffedPart k l x I L) (m6_actStuffedPart k l x I L)) := Call.of (by decide) (Nat.le_of_ble_eq_true rfl) rfl (v6_actStuffedPart g hk x  I L  _ (And.intro rfl rfl))
theorem x6_actStuffedPart {k : Nat} {l : Nat} {x : Int32} {I : Nat → Nat → Int32} {L : Nat → Nat → Int64} {aa : Nat} (h0 : aa ≠ k) (h1 : aa ≠ k + 1) (h2 : aa ≠ k + 2) (h3 : aa ≠ k + 15) : i6_actStuffedPart k l x I L aa = I aa := by
  first | (simp only [i6_actStuffedPart]; done) | (simp only [i6_actStuffedPart]; (try (repeat' split)) <;> first | rfl | (simp [uI_off, h0, h1, h2, h3, x2_takeStuffBit, x6_actBasicBit, x6_fail]; done))
theorem y6_actStuffedPart {k : Nat} {l : Nat} {x : Int32} {I : Nat → Nat → Int32} {L : Nat → Nat → Int64} {aa : Nat} (h0 : aa ≠ k + 15) : m6_actStuffedPart k l x I L aa = L aa := by
  first | (simp only [m6_actStuffedPart]; done) | (simp only [m6_actStuffedPart]; (try (repeat' split)) <;> first | rfl | (simp [uL_off, h0, y6_actBasicBit]; done))

def i6_acceptFrame (k : Nat) (l : Nat) (I : Nat → Nat → Int32) (L : Nat → Nat → Int64) : Nat → Nat → Int32 := (if (((r2_sampledKey (k + 15) (if I k 11 < I l 0 then (if I k 11 ≤ 0 then I else uI I k 11 ((I k 11) - 1)) else uI I k 11 ((I l 0) - 8)) L) >>> (1 &&& 31)) ^^^ (I k 7)) &&& (I k 6) = 0 then (if (if (r2_sampledKey (k + 15) (if I k 11 < I l 0 then (if I k 11 ≤ 0 then I else uI I k 11 ((I k 11) - 1)) else uI I k 11 ((I l 0) - 8)) L) &&& 1 = 1 then r3_indexOf (k + 11) 4 ((r2_sampledKey (k + 15) (if I k 11 < I l 0 then (if I k 11 ≤ 0 then I else uI I k 11 ((I k 11) - 1)) else uI I k 11 ((I l 0) - 8)) L) - 1) (if I k 11 < I l 0 then (if I k 11 ≤ 0 then I else uI I k 11 ((I k 11) - 1)) else uI I k 11 ((I l 0) - 8)) L else (-1)) < 0 then (if (r3_isFull (k + 7) 6 (if I k 11 < I l 0 then (if I k 11 ≤ 0 then I else uI I k 11 ((I k 11) - 1)) else uI I k 11 ((I l 0) - 8)) L) = true then uI (if I k 11 < I l 0 then (if I k 11 ≤ 0 then I else uI I k 11 ((I k 11) - 1)) else uI I k 11 ((I l 0) - 8)) (k + 1) 5 ((I (k + 1) 5) + 1) else i3_insertAt (k + 7) 6 ((I (k + 7) 3).toNatClampNeg) (r2_sampledKey (k + 15) (if I k 11 < I l 0 then (if I k 11 ≤ 0 then I else uI I k 11 ((I k 11) - 1)) else uI I k 11 ((I l 0) - 8)) L) (r2_sampledLength (k + 15) (if I k 11 < I l 0 then (if I k 11 ≤ 0 then I else uI I k 11 ((I k 11) - 1)) else uI I k 11 ((I l 0) - 8)) L) (r2_sampledData (k + 15) (if I k 11 < I l 0 then (if I k 11 ≤ 0 then I else uI I k 11 ((I k 11) - 1)) else uI I k 11 ((I l 0) - 8)) L) (if I k 11 < I l 0 then (if I k 11 ≤ 0 then I else uI I k 11 ((I k 11) - 1)) else uI I k 11 ((I l 0) - 8)) L) else i6_enqueue k l ((r2_sampledKey (k + 15) (if I k 11 < I l 0 then (if I k 11 ≤ 0 then I else uI I k 11 ((I k 11) - 1)) else uI I k 11 ((I l 0) - 8)) L) - 1) (r3_lengthAt (k + 11) 4 (if (r2_sampledKey (k + 15) (if I k 11 < I l 0 then (if I k 11 ≤ 0 then I else uI I k 11 ((I k 11) - 1)) else uI I k 11 ((I l 0) - 8)) L) &&& 1 = 1 then r3_indexOf (k + 11) 4 ((r2_sampledKey (k + 15) (if I k 11 < I l 0 then (if I k 11 ≤ 0 then I else uI I k 11 ((I k 11) - 1)) else uI I k 11 ((I l 0) - 8)) L) - 1) (if I k 11 < I l 0 then (if I k 11 ≤ 0 then I else uI I k 11 ((I k 11) - 1)) else uI I k 11 ((I l 0) - 8)) L else (-1)) (if I k 11 < I l 0 then (if I k 11 ≤ 0 then I else uI I k 11 ((I k 11) - 1)) else uI I k 11 ((I l 0) - 8)) L) (r3_dataAt (k + 11) 4 (if (r2_sampledKey (k + 15) (if I k 11 < I l 0 then (if I k 11 ≤ 0 then I else uI I k 11 ((I k 11) - 1)) else uI I k 11 ((I l 0) - 8)) L) &&& 1 = 1 then r3_indexOf (k + 11) 4 ((r2_sampledKey (k + 15) (if I k 11 < I l 0 then (if I k 11 ≤ 0 then I else uI I k 11 ((I k 11) - 1)) else uI I k 11 ((I l 0) - 8)) L) - 1) (if I k 11 < I l 0 then (if I k 11 ≤ 0 then I else uI I k 11 ((I k 11) - 1)) else uI I k 11 ((I l 0) - 8)) L else (-1)) (if I k 11 < I l 0 then (if I k 11 ≤ 0 then I else uI I k 11 ((I k 11) - 1)) else uI I k 11 ((I l 0) - 8)) L) (if I k 11 < I l 0 then (if I k 11 ≤ 0 then I else uI I k 11 ((I k 11) - 1)) else uI I k 11 ((I l 0) - 8)) L) else (if I k 11 < I l 0 then (if I k 11 ≤ 0 then I else uI I k 11 ((I k 11) - 1)) else uI I k 11 ((I l 0) - 8)))
set_option maxRecDepth 4000 in
theorem v6_acceptFrame (g : GlT) {k : Nat} {l : Nat} (hk : okN k l) (I : Nat → Nat → Int32) (L : Nat → Nat → Int64) (hv : nV k I) (Q : Option Value → MemT → Prop) (hq : Q (none) (i6_acceptFrame k l I L, L, R0, 305)) : V g (k6_acceptFrame, 3, 0, 0) 0 0 0 [(0, .ref (xA g k))] [] (I, L, R0, 305) Q := by
  have hv0 := hv
  obtain ⟨⟨gw, hw4, hw⟩, ⟨gr, hr6, hr⟩, ga, ha4, ha⟩ := hv0
  have hr3 : (I (k + 7) 3).toNatClampNeg = gr := by rw [hr]; exact nI_clamp (by omega)
  refine V_aload_n (pc1 := 1) 0 d6_acceptFrame_0 rfl rfl ?_
  refine V_geti (pc1 := 4) (nd_l0 hk) (nd_b0 hk) f6_77 (fun _ => rfl) rfl d6_acceptFrame_1 rfl ?_
  refine V_aload_n (pc1 := 5) 0 d6_acceptFrame_4 rfl rfl ?_
  refine V_getr (pc1 := 8) (nd_l0 hk) (nd_b0 hk) f6_50 (fun _ => rfl) (nd_r0_0 hk) d6_acceptFrame_5 rfl ?_
  refine V_geti (pc1 := 11) (lm_l0 (nd_L hk)) (lm_b0 (nd_L hk)) f6_96 (fun _ => rfl) rfl d6_acceptFrame_8 rfl ?_
  have key3 : ∀ (zI48 : Nat → Nat → Int32), zI48 = (if I k 11 < I l 0 then (if I k 11 ≤ 0 then I else uI I k 11 ((I k 11) - 1)) else uI I k 11 ((I l 0) - 8)) → ∀ (lv : List (Nat × Value)), lvsub [(0, .ref (xA g k))] lv → V g (k6_acceptFrame, 3, 0, 0) 0 0 48 lv [] (zI48, L, R0, 305) Q := by
    intro zI48 ezI48
    subst ezI48
    intro lv hlv
    refine V_lv hlv ?_
    refine V_aload_n (pc1 := 49) 0 d6_acceptFrame_48 rfl rfl ?_
    refine V_getr (pc1 := 52) (nd_l0 hk) (nd_b0 hk) f6_36 (fun _ => rfl) (nd_r0_5 hk) d6_acceptFrame_49 rfl ?_
    refine V_vi (pc1 := 55) (w2_sampledKey g (nd_G15 hk)   (if I k 11 < I l 0 then (if I k 11 ≤ 0 then I else uI I k 11 ((I k 11) - 1)) else uI I k 11 ((I l 0) - 8)) L ) (nd_l15 hk) (nd_b15 hk) s2_sampledKey l6_243 rfl rfl ⟨Nat.le_of_ble_eq_true rfl, Nat.le_of_ble_eq_true rfl, Nat.le_refl _, Nat.le_refl _⟩ (Nat.le_of_ble_eq_true rfl) rfl d6_acceptFrame_52 rfl ?_
    refine V_istore_n (pc1 := 56) d6_acceptFrame_55 (Nat.le_of_ble_eq_true rfl) rfl rfl ?_
    refine V_iload_n (pc1 := 57) 0 d6_acceptFrame_56 rfl rfl ?_
    refine V_iconst (pc1 := 58) d6_acceptFrame_57 vc_1 rfl ?_
    refine V_ishr (pc1 := 59) d6_acceptFrame_58 rfl ?_
    refine V_aload_n (pc1 := 60) 1 d6_acceptFrame_59 rfl rfl ?_
    refine V_geti (pc1 := 63) (nd_l0 hk) (nd_b0 hk) f6_67 (fun _ => rfl) (show (if I k 11 < I l 0 then (if I k 11 ≤ 0 then I else uI I k 11 ((I k 11) - 1)) else uI I k 11 ((I l 0) - 8)) k 7 = (I k 7) from by (repeat' split) <;> first | exact rfl | exact (uI_ne _ _ _ (show (7 : Nat) ≠ 11 by decide))) d6_acceptFrame_60 rfl ?_
    refine V_ixor (pc1 := 64) d6_acceptFrame_63 rfl ?_
    refine V_aload_n (pc1 := 65) 1 d6_acceptFrame_64 rfl rfl ?_
    refine V_geti (pc1 := 68) (nd_l0 hk) (nd_b0 hk) f6_64 (fun _ => rfl) (show (if I k 11 < I l 0 then (if I k 11 ≤ 0 then I else uI I k 11 ((I k 11) - 1)) else uI I k 11 ((I l 0) - 8)) k 6 = (I k 6) from by (repeat' split) <;> first | exact rfl | exact (uI_ne _ _ _ (show (6 : Nat) ≠ 11 by decide))) d6_acceptFrame_65 rfl ?_
    refine V_iand (pc1 := 69) d6_acceptFrame_68 rfl ?_
    refine V_if_eq (tgt := 73) (pc1 := 72) d6_acceptFrame_69 (by decide) rfl (fun h4 => ?_) (fun h4 => ?_)
    · skip
      refine V_iload_n (pc1 := 74) 0 d6_acceptFrame_73 rfl rfl ?_
      refine V_iconst (pc1 := 75) d6_acceptFrame_74 vc_1 rfl ?_
      refine V_iand (pc1 := 76) d6_acceptFrame_75 rfl ?_
      refine V_iconst (pc1 := 77) d6_acceptFrame_76 vc_1 rfl ?_
      have key6 : ∀ (y94_0 : Int32), y94_0 = (if (r2_sampledKey (k + 15) (if I k 11 < I l 0 then (if I k 11 ≤ 0 then I else uI I k 11 ((I k 11) - 1)) else uI I k 11 ((I l 0) - 8)) L) &&& 1 = 1 then r3_indexOf (k + 11) 4 ((r2_sampledKey (k + 15) (if I k 11 < I l 0 then (if I k 11 ≤ 0 then I else uI I k 11 ((I k 11) - 1)) else uI I k 11 ((I l 0) - 8)) L) - 1) (if I k 11 < I l 0 then (if I k 11 ≤ 0 then I else uI I k 11 ((I k 11) - 1)) else uI I k 11 ((I l 0) - 8)) L else (-1)) → ∀ (lv : List (Nat × Value)), lvsub [(1, .int (r2_sampledKey (k + 15) (if I k 11 < I l 0 then (if I k 11 ≤ 0 then I else uI I k 11 ((I k 11) - 1)) else uI I k 11 ((I l 0) - 8)) L)), (0, .ref (xA g k))] lv → V g (k6_acceptFrame, 3, 0, 0) 0 0 94 lv [.int y94_0] ((if I k 11 < I l 0 then (if I k 11 ≤ 0 then I else uI I k 11 ((I k 11) - 1)) else uI I k 11 ((I l 0) - 8)), L, R0, 305) Q := by
        intro y94_0 ey94_0
        subst ey94_0
        intro lv hlv
        refine V_lv hlv ?_
        refine V_istore_n (pc1 := 95) d6_acceptFrame_94 (Nat.le_of_ble_eq_true rfl) rfl rfl ?_
        refine V_iload_n (pc1 := 96) 0 d6_acceptFrame_95 rfl rfl ?_
        have key9 : ∀ (zI181 : Nat → Nat → Int32), zI181 = (if (if (r2_sampledKey (k + 15) (if I k 11 < I l 0 then (if I k 11 ≤ 0 then I else uI I k 11 ((I k 11) - 1)) else uI I k 11 ((I l 0) - 8)) L) &&& 1 = 1 then r3_indexOf (k + 11) 4 ((r2_sampledKey (k + 15) (if I k 11 < I l 0 then (if I k 11 ≤ 0 then I else uI I k 11 ((I k 11) - 1)) else uI I k 11 ((I l 0) - 8)) L) - 1) (if I k 11 < I l 0 then (if I k 11 ≤ 0 then I else uI I k 11 ((I k 11) - 1)) else uI I k 11 ((I l 0) - 8)) L else (-1)) < 0 then (if (r3_isFull (k + 7) 6 (if I k 11 < I l 0 then (if I k 11 ≤ 0 then I else uI I k 11 ((I k 11) - 1)) else uI I k 11 ((I l 0) - 8)) L) = true then uI (if I k 11 < I l 0 then (if I k 11 ≤ 0 then I else uI I k 11 ((I k 11) - 1)) else uI I k 11 ((I l 0) - 8)) (k + 1) 5 ((I (k + 1) 5) + 1) else i3_insertAt (k + 7) 6 gr (r2_sampledKey (k + 15) (if I k 11 < I l 0 then (if I k 11 ≤ 0 then I else uI I k 11 ((I k 11) - 1)) else uI I k 11 ((I l 0) - 8)) L) (r2_sampledLength (k + 15) (if I k 11 < I l 0 then (if I k 11 ≤ 0 then I else uI I k 11 ((I k 11) - 1)) else uI I k 11 ((I l 0) - 8)) L) (r2_sampledData (k + 15) (if I k 11 < I l 0 then (if I k 11 ≤ 0 then I else uI I k 11 ((I k 11) - 1)) else uI I k 11 ((I l 0) - 8)) L) (if I k 11 < I l 0 then (if I k 11 ≤ 0 then I else uI I k 11 ((I k 11) - 1)) else uI I k 11 ((I l 0) - 8)) L) else i6_enqueue k l ((r2_sampledKey (k + 15) (if I k 11 < I l 0 then (if I k 11 ≤ 0 then I else uI I k 11 ((I k 11) - 1)) else uI I k 11 ((I l 0) - 8)) L) - 1) (r3_lengthAt (k + 11) 4 (if (r2_sampledKey (k + 15) (if I k 11 < I l 0 then (if I k 11 ≤ 0 then I else uI I k 11 ((I k 11) - 1)) else uI I k 11 ((I l 0) - 8)) L) &&& 1 = 1 then r3_indexOf (k + 11) 4 ((r2_sampledKey (k + 15) (if I k 11 < I l 0 then (if I k 11 ≤ 0 then I else uI I k 11 ((I k 11) - 1)) else uI I k 11 ((I l 0) - 8)) L) - 1) (if I k 11 < I l 0 then (if I k 11 ≤ 0 then I else uI I k 11 ((I k 11) - 1)) else uI I k 11 ((I l 0) - 8)) L else (-1)) (if I k 11 < I l 0 then (if I k 11 ≤ 0 then I else uI I k 11 ((I k 11) - 1)) else uI I k 11 ((I l 0) - 8)) L) (r3_dataAt (k + 11) 4 (if (r2_sampledKey (k + 15) (if I k 11 < I l 0 then (if I k 11 ≤ 0 then I else uI I k 11 ((I k 11) - 1)) else uI I k 11 ((I l 0) - 8)) L) &&& 1 = 1 then r3_indexOf (k + 11) 4 ((r2_sampledKey (k + 15) (if I k 11 < I l 0 then (if I k 11 ≤ 0 then I else uI I k 11 ((I k 11) - 1)) else uI I k 11 ((I l 0) - 8)) L) - 1) (if I k 11 < I l 0 then (if I k 11 ≤ 0 then I else uI I k 11 ((I k 11) - 1)) else uI I k 11 ((I l 0) - 8)) L else (-1)) (if I k 11 < I l 0 then (if I k 11 ≤ 0 then I else uI I k 11 ((I k 11) - 1)) else uI I k 11 ((I l 0) - 8)) L) (if I k 11 < I l 0 then (if I k 11 ≤ 0 then I else uI I k 11 ((I k 11) - 1)) else uI I k 11 ((I l 0) - 8)) L) → ∀ (lv : List (Nat × Value)), lvsub [(2, .int (if (r2_sampledKey (k + 15) (if I k 11 < I l 0 then (if I k 11 ≤ 0 then I else uI I k 11 ((I k 11) - 1)) else uI I k 11 ((I l 0) - 8)) L) &&& 1 = 1 then r3_indexOf (k + 11) 4 ((r2_sampledKey (k + 15) (if I k 11 < I l 0 then (if I k 11 ≤ 0 then I else uI I k 11 ((I k 11) - 1)) else uI I k 11 ((I l 0) - 8)) L) - 1) (if I k 11 < I l 0 then (if I k 11 ≤ 0 then I else uI I k 11 ((I k 11) - 1)) else uI I k 11 ((I l 0) - 8)) L else (-1))), (1, .int (r2_sampledKey (k + 15) (if I k 11 < I l 0 then (if I k 11 ≤ 0 then I else uI I k 11 ((I k 11) - 1)) else uI I k 11 ((I l 0) - 8)) L)), (0, .ref (xA g k))] lv → V g (k6_acceptFrame, 3, 0, 0) 0 0 181 lv [] (zI181, L, R0, 305) Q := by
          intro zI181 ezI181
          subst ezI181
          intro lv hlv
          refine V_lv hlv ?_
          refine V_vret rfl d6_acceptFrame_181 (Nat.zero_le _) (Nat.zero_le _) ?_
          have hq2 := hq
          simp only [i6_acceptFrame, hr3, if_pos h4] at hq2
          exact hq2
        refine V_if_lt (tgt := 126) (pc1 := 99) d6_acceptFrame_96 (by decide) rfl (fun h7 => ?_) (fun h7 => ?_)
        · skip
          refine V_aload_n (pc1 := 127) 2 d6_acceptFrame_126 rfl rfl ?_
          refine V_getr (pc1 := 130) (nd_l0 hk) (nd_b0 hk) f6_27 (fun _ => rfl) (nd_r0_3 hk) d6_acceptFrame_127 rfl ?_
          refine V_vi (pc1 := 133) (w3_isFull g (nd_F7 hk)   (if I k 11 < I l 0 then (if I k 11 ≤ 0 then I else uI I k 11 ((I k 11) - 1)) else uI I k 11 ((I l 0) - 8)) L ) (nd_l7 hk) (nd_b7 hk) s3_isFull l6_101 rfl rfl ⟨Nat.le_of_ble_eq_true rfl, Nat.le_of_ble_eq_true rfl, Nat.le_refl _, Nat.le_refl _⟩ (Nat.le_of_ble_eq_true rfl) rfl d6_acceptFrame_130 rfl ?_
          refine V_beq (tgt := 152) (pc1 := 136) d6_acceptFrame_133 (by decide) rfl (fun h8 => ?_) (fun h8 => ?_)
          · skip
            refine V_aload_n (pc1 := 153) 2 d6_acceptFrame_152 rfl rfl ?_
            refine V_getr (pc1 := 156) (nd_l0 hk) (nd_b0 hk) f6_27 (fun _ => rfl) (nd_r0_3 hk) d6_acceptFrame_153 rfl ?_
            refine V_aload_n (pc1 := 157) 2 d6_acceptFrame_156 rfl rfl ?_
            refine V_getr (pc1 := 160) (nd_l0 hk) (nd_b0 hk) f6_27 (fun _ => rfl) (nd_r0_3 hk) d6_acceptFrame_157 rfl ?_
            refine V_geti (pc1 := 163) (nd_l7 hk) (nd_b7 hk) f6_113 (fun _ => rfl) ((show (if I k 11 < I l 0 then (if I k 11 ≤ 0 then I else uI I k 11 ((I k 11) - 1)) else uI I k 11 ((I l 0) - 8)) (k + 7) 3 = (I (k + 7) 3) from by (repeat' split) <;> first | exact rfl | exact (congrFun (uI_off _ _ _ (show (k + 7 : Nat) ≠ k by omega)) _)).trans hr) d6_acceptFrame_160 rfl ?_
            refine V_iload_n (pc1 := 164) 1 d6_acceptFrame_163 rfl rfl ?_
            refine V_aload_n (pc1 := 165) 2 d6_acceptFrame_164 rfl rfl ?_
            refine V_getr (pc1 := 168) (nd_l0 hk) (nd_b0 hk) f6_36 (fun _ => rfl) (nd_r0_5 hk) d6_acceptFrame_165 rfl ?_
            refine V_vi (pc1 := 171) (w2_sampledLength g (nd_G15 hk)   (if I k 11 < I l 0 then (if I k 11 ≤ 0 then I else uI I k 11 ((I k 11) - 1)) else uI I k 11 ((I l 0) - 8)) L ) (nd_l15 hk) (nd_b15 hk) s2_sampledLength l6_256 rfl rfl ⟨Nat.le_of_ble_eq_true rfl, Nat.le_of_ble_eq_true rfl, Nat.le_refl _, Nat.le_refl _⟩ (Nat.le_of_ble_eq_true rfl) rfl d6_acceptFrame_168 rfl ?_
            refine V_aload_n (pc1 := 172) 2 d6_acceptFrame_171 rfl rfl ?_
            refine V_getr (pc1 := 175) (nd_l0 hk) (nd_b0 hk) f6_36 (fun _ => rfl) (nd_r0_5 hk) d6_acceptFrame_172 rfl ?_
            refine V_vi (pc1 := 178) (w2_sampledData g (nd_G15 hk)   (if I k 11 < I l 0 then (if I k 11 ≤ 0 then I else uI I k 11 ((I k 11) - 1)) else uI I k 11 ((I l 0) - 8)) L ) (nd_l15 hk) (nd_b15 hk) s2_sampledData l6_259 rfl rfl ⟨Nat.le_of_ble_eq_true rfl, Nat.le_of_ble_eq_true rfl, Nat.le_refl _, Nat.le_refl _⟩ (Nat.le_of_ble_eq_true rfl) rfl d6_acceptFrame_175 rfl ?_
            refine V_vv (pc1 := 181) (w3_insertAt g (nd_F7 hk) gr (r2_sampledKey (k + 15) (if I k 11 < I l 0 then (if I k 11 ≤ 0 then I else uI I k 11 ((I k 11) - 1)) else uI I k 11 ((I l 0) - 8)) L) (r2_sampledLength (k + 15) (if I k 11 < I l 0 then (if I k 11 ≤ 0 then I else uI I k 11 ((I k 11) - 1)) else uI I k 11 ((I l 0) - 8)) L) (r2_sampledData (k + 15) (if I k 11 < I l 0 then (if I k 11 ≤ 0 then I else uI I k 11 ((I k 11) - 1)) else uI I k 11 ((I l 0) - 8)) L) gr (nfull ((show (if I k 11 < I l 0 then (if I k 11 ≤ 0 then I else uI I k 11 ((I k 11) - 1)) else uI I k 11 ((I l 0) - 8)) (k + 7) 3 = (I (k + 7) 3) from by (repeat' split) <;> first | exact rfl | exact (congrFun (uI_off _ _ _ (show (k + 7 : Nat) ≠ k by omega)) _)).trans hr) (by omega) (by omega) h8) (Nat.le_refl _) (if I k 11 < I l 0 then (if I k 11 ≤ 0 then I else uI I k 11 ((I k 11) - 1)) else uI I k 11 ((I l 0) - 8)) L ((show (if I k 11 < I l 0 then (if I k 11 ≤ 0 then I else uI I k 11 ((I k 11) - 1)) else uI I k 11 ((I l 0) - 8)) (k + 7) 3 = (I (k + 7) 3) from by (repeat' split) <;> first | exact rfl | exact (congrFun (uI_off _ _ _ (show (k + 7 : Nat) ≠ k by omega)) _)).trans hr)) (nd_l7 hk) (nd_b7 hk) s3_insertAt l6_109 rfl rfl ⟨Nat.le_of_ble_eq_true rfl, Nat.le_of_ble_eq_true rfl, Nat.le_refl _, Nat.le_refl _⟩ (Nat.le_of_ble_eq_true rfl) rfl d6_acceptFrame_178 rfl ?_
            exact key9 _ (by first | rfl | (simp only [hr3, if_pos h7, if_neg h8]; done) | (simp only [hr3, if_pos h7, if_neg h8]; rfl)) _ (lvsub_p [0, 1, 2] rfl)
          · skip
            refine V_aload_n (pc1 := 137) 2 d6_acceptFrame_136 rfl rfl ?_
            refine V_getr (pc1 := 140) (nd_l0 hk) (nd_b0 hk) f6_12 (fun _ => rfl) (nd_r0_1 hk) d6_acceptFrame_137 rfl ?_
            refine V_dup (pc1 := 141) d6_acceptFrame_140 rfl rfl ?_
            refine V_geti (pc1 := 144) (nd_l1 hk) (nd_b1 hk) f6_253 (fun _ => rfl) (show (if I k 11 < I l 0 then (if I k 11 ≤ 0 then I else uI I k 11 ((I k 11) - 1)) else uI I k 11 ((I l 0) - 8)) (k + 1) 5 = (I (k + 1) 5) from by (repeat' split) <;> first | exact rfl | exact (congrFun (uI_off _ _ _ (show (k + 1 : Nat) ≠ k by omega)) _)) d6_acceptFrame_141 rfl ?_
            refine V_iconst (pc1 := 145) d6_acceptFrame_144 vc_1 rfl ?_
            refine V_iadd (pc1 := 146) d6_acceptFrame_145 rfl ?_
            refine V_puti (pc1 := 149) (nd_l1 hk) (nd_b1 hk) f6_253 rfl rfl d6_acceptFrame_146 rfl ?_
            refine V_goto (tgt := 181) d6_acceptFrame_149 (by decide) ?_
            exact key9 _ (by first | rfl | (simp only [hr3, if_pos h7, if_pos h8]; done) | (simp only [hr3, if_pos h7, if_pos h8]; rfl)) _ (lvsub_p [0, 1, 2] rfl)
        · skip
          refine V_aload_n (pc1 := 100) 2 d6_acceptFrame_99 rfl rfl ?_
          refine V_iload_n (pc1 := 101) 1 d6_acceptFrame_100 rfl rfl ?_
          refine V_iconst (pc1 := 102) d6_acceptFrame_101 vc_1 rfl ?_
          refine V_isub (pc1 := 103) d6_acceptFrame_102 rfl ?_
          refine V_aload_n (pc1 := 104) 2 d6_acceptFrame_103 rfl rfl ?_
          refine V_getr (pc1 := 107) (nd_l0 hk) (nd_b0 hk) f6_30 (fun _ => rfl) (nd_r0_4 hk) d6_acceptFrame_104 rfl ?_
          refine V_iload_n (pc1 := 108) 0 d6_acceptFrame_107 rfl rfl ?_
          refine V_vi (pc1 := 111) (w3_lengthAt g (nd_F11 hk) (if (r2_sampledKey (k + 15) (if I k 11 < I l 0 then (if I k 11 ≤ 0 then I else uI I k 11 ((I k 11) - 1)) else uI I k 11 ((I l 0) - 8)) L) &&& 1 = 1 then r3_indexOf (k + 11) 4 ((r2_sampledKey (k + 15) (if I k 11 < I l 0 then (if I k 11 ≤ 0 then I else uI I k 11 ((I k 11) - 1)) else uI I k 11 ((I l 0) - 8)) L) - 1) (if I k 11 < I l 0 then (if I k 11 ≤ 0 then I else uI I k 11 ((I k 11) - 1)) else uI I k 11 ((I l 0) - 8)) L else (-1)) ga ha4 (if I k 11 < I l 0 then (if I k 11 ≤ 0 then I else uI I k 11 ((I k 11) - 1)) else uI I k 11 ((I l 0) - 8)) L ((show (if I k 11 < I l 0 then (if I k 11 ≤ 0 then I else uI I k 11 ((I k 11) - 1)) else uI I k 11 ((I l 0) - 8)) (k + 11) 3 = (I (k + 11) 3) from by (repeat' split) <;> first | exact rfl | exact (congrFun (uI_off _ _ _ (show (k + 11 : Nat) ≠ k by omega)) _)).trans ha)) (nd_l11 hk) (nd_b11 hk) s3_lengthAt l6_188 rfl rfl ⟨Nat.le_of_ble_eq_true rfl, Nat.le_of_ble_eq_true rfl, Nat.le_refl _, Nat.le_refl _⟩ (Nat.le_of_ble_eq_true rfl) rfl d6_acceptFrame_108 rfl ?_
          refine V_aload_n (pc1 := 112) 2 d6_acceptFrame_111 rfl rfl ?_
          refine V_getr (pc1 := 115) (nd_l0 hk) (nd_b0 hk) f6_30 (fun _ => rfl) (nd_r0_4 hk) d6_acceptFrame_112 rfl ?_
          refine V_iload_n (pc1 := 116) 0 d6_acceptFrame_115 rfl rfl ?_
          refine V_vi (pc1 := 119) (w3_dataAt g (nd_F11 hk) (if (r2_sampledKey (k + 15) (if I k 11 < I l 0 then (if I k 11 ≤ 0 then I else uI I k 11 ((I k 11) - 1)) else uI I k 11 ((I l 0) - 8)) L) &&& 1 = 1 then r3_indexOf (k + 11) 4 ((r2_sampledKey (k + 15) (if I k 11 < I l 0 then (if I k 11 ≤ 0 then I else uI I k 11 ((I k 11) - 1)) else uI I k 11 ((I l 0) - 8)) L) - 1) (if I k 11 < I l 0 then (if I k 11 ≤ 0 then I else uI I k 11 ((I k 11) - 1)) else uI I k 11 ((I l 0) - 8)) L else (-1)) ga ha4 (if I k 11 < I l 0 then (if I k 11 ≤ 0 then I else uI I k 11 ((I k 11) - 1)) else uI I k 11 ((I l 0) - 8)) L ((show (if I k 11 < I l 0 then (if I k 11 ≤ 0 then I else uI I k 11 ((I k 11) - 1)) else uI I k 11 ((I l 0) - 8)) (k + 11) 3 = (I (k + 11) 3) from by (repeat' split) <;> first | exact rfl | exact (congrFun (uI_off _ _ _ (show (k + 11 : Nat) ≠ k by omega)) _)).trans ha)) (nd_l11 hk) (nd_b11 hk) s3_dataAt l6_191 rfl rfl ⟨Nat.le_of_ble_eq_true rfl, Nat.le_of_ble_eq_true rfl, Nat.le_refl _, Nat.le_refl _⟩ (Nat.le_of_ble_eq_true rfl) rfl d6_acceptFrame_116 rfl ?_
          refine V_vi (pc1 := 122) (w6_enqueue g hk ((r2_sampledKey (k + 15) (if I k 11 < I l 0 then (if I k 11 ≤ 0 then I else uI I k 11 ((I k 11) - 1)) else uI I k 11 ((I l 0) - 8)) L) - 1) (r3_lengthAt (k + 11) 4 (if (r2_sampledKey (k + 15) (if I k 11 < I l 0 then (if I k 11 ≤ 0 then I else uI I k 11 ((I k 11) - 1)) else uI I k 11 ((I l 0) - 8)) L) &&& 1 = 1 then r3_indexOf (k + 11) 4 ((r2_sampledKey (k + 15) (if I k 11 < I l 0 then (if I k 11 ≤ 0 then I else uI I k 11 ((I k 11) - 1)) else uI I k 11 ((I l 0) - 8)) L) - 1) (if I k 11 < I l 0 then (if I k 11 ≤ 0 then I else uI I k 11 ((I k 11) - 1)) else uI I k 11 ((I l 0) - 8)) L else (-1)) (if I k 11 < I l 0 then (if I k 11 ≤ 0 then I else uI I k 11 ((I k 11) - 1)) else uI I k 11 ((I l 0) - 8)) L) (r3_dataAt (k + 11) 4 (if (r2_sampledKey (k + 15) (if I k 11 < I l 0 then (if I k 11 ≤ 0 then I else uI I k 11 ((I k 11) - 1)) else uI I k 11 ((I l 0) - 8)) L) &&& 1 = 1 then r3_indexOf (k + 11) 4 ((r2_sampledKey (k + 15) (if I k 11 < I l 0 then (if I k 11 ≤ 0 then I else uI I k 11 ((I k 11) - 1)) else uI I k 11 ((I l 0) - 8)) L) - 1) (if I k 11 < I l 0 then (if I k 11 ≤ 0 then I else uI I k 11 ((I k 11) - 1)) else uI I k 11 ((I l 0) - 8)) L else (-1)) (if I k 11 < I l 0 then (if I k 11 ≤ 0 then I else uI I k 11 ((I k 11) - 1)) else uI I k 11 ((I l 0) - 8)) L)  (if I k 11 < I l 0 then (if I k 11 ≤ 0 then I else uI I k 11 ((I k 11) - 1)) else uI I k 11 ((I l 0) - 8)) L (nV.of (show (if I k 11 < I l 0 then (if I k 11 ≤ 0 then I else uI I k 11 ((I k 11) - 1)) else uI I k 11 ((I l 0) - 8)) (k + 3) 3 = (I (k + 3) 3) from by (repeat' split) <;> first | exact rfl | exact (congrFun (uI_off _ _ _ (show (k + 3 : Nat) ≠ k by omega)) _)) (show (if I k 11 < I l 0 then (if I k 11 ≤ 0 then I else uI I k 11 ((I k 11) - 1)) else uI I k 11 ((I l 0) - 8)) (k + 7) 3 = (I (k + 7) 3) from by (repeat' split) <;> first | exact rfl | exact (congrFun (uI_off _ _ _ (show (k + 7 : Nat) ≠ k by omega)) _)) (show (if I k 11 < I l 0 then (if I k 11 ≤ 0 then I else uI I k 11 ((I k 11) - 1)) else uI I k 11 ((I l 0) - 8)) (k + 11) 3 = (I (k + 11) 3) from by (repeat' split) <;> first | exact rfl | exact (congrFun (uI_off _ _ _ (show (k + 11 : Nat) ≠ k by omega)) _)) hv)) (nd_l0 hk) (nd_b0 hk) s6_enqueue l6_249 rfl rfl ⟨Nat.le_of_ble_eq_true rfl, Nat.le_of_ble_eq_true rfl, Nat.le_refl _, Nat.le_refl _⟩ (Nat.le_of_ble_eq_true rfl) rfl d6_acceptFrame_119 rfl ?_
          refine V_pop (pc1 := 123) d6_acceptFrame_122 rfl rfl ?_
          refine V_goto (tgt := 181) d6_acceptFrame_123 (by decide) ?_
          exact key9 _ (by first | rfl | (simp only [hr3, if_neg h7]; done) | (simp only [hr3, if_neg h7]; rfl)) _ (lvsub_p [0, 1, 2] rfl)
      refine V_icmp_ne (tgt := 93) (pc1 := 80) d6_acceptFrame_77 (by decide) rfl (fun h5 => ?_) (fun h5 => ?_)
      · skip
        refine V_iconst (pc1 := 94) d6_acceptFrame_93 vc_m1 rfl ?_
        exact key6 _ (by first | rfl | (simp only [hr3, if_neg h5]; done) | (simp only [hr3, if_neg h5]; rfl)) _ (lvsub_p [0, 1] rfl)
      · skip
        refine V_aload_n (pc1 := 81) 1 d6_acceptFrame_80 rfl rfl ?_
        refine V_getr (pc1 := 84) (nd_l0 hk) (nd_b0 hk) f6_30 (fun _ => rfl) (nd_r0_4 hk) d6_acceptFrame_81 rfl ?_
        refine V_iload_n (pc1 := 85) 0 d6_acceptFrame_84 rfl rfl ?_
        refine V_iconst (pc1 := 86) d6_acceptFrame_85 vc_1 rfl ?_
        refine V_isub (pc1 := 87) d6_acceptFrame_86 rfl ?_
        refine V_vi (pc1 := 90) (w3_indexOf g (nd_F11 hk) ((r2_sampledKey (k + 15) (if I k 11 < I l 0 then (if I k 11 ≤ 0 then I else uI I k 11 ((I k 11) - 1)) else uI I k 11 ((I l 0) - 8)) L) - 1) ga ha4 (if I k 11 < I l 0 then (if I k 11 ≤ 0 then I else uI I k 11 ((I k 11) - 1)) else uI I k 11 ((I l 0) - 8)) L ((show (if I k 11 < I l 0 then (if I k 11 ≤ 0 then I else uI I k 11 ((I k 11) - 1)) else uI I k 11 ((I l 0) - 8)) (k + 11) 3 = (I (k + 11) 3) from by (repeat' split) <;> first | exact rfl | exact (congrFun (uI_off _ _ _ (show (k + 11 : Nat) ≠ k by omega)) _)).trans ha)) (nd_l11 hk) (nd_b11 hk) s3_indexOf l6_246 rfl rfl ⟨Nat.le_of_ble_eq_true rfl, Nat.le_of_ble_eq_true rfl, Nat.le_refl _, Nat.le_refl _⟩ (Nat.le_of_ble_eq_true rfl) rfl d6_acceptFrame_87 rfl ?_
        refine V_goto (tgt := 94) d6_acceptFrame_90 (by decide) ?_
        exact key6 _ (by first | rfl | (simp only [hr3, if_pos h5]; done) | (simp only [hr3, if_pos h5]; rfl)) _ (lvsub_p [0, 1] rfl)
    · skip
      refine V_vret rfl d6_acceptFrame_72 (Nat.zero_le _) (Nat.zero_le _) ?_
      have hq2 := hq
      simp only [i6_acceptFrame, hr3, if_neg h4] at hq2
      exact hq2
  refine V_icmp_lt (tgt := 31) (pc1 := 14) d6_acceptFrame_11 (by decide) rfl (fun h1 => ?_) (fun h1 => ?_)
  · skip
    refine V_aload_n (pc1 := 32) 0 d6_acceptFrame_31 rfl rfl ?_
    refine V_geti (pc1 := 35) (nd_l0 hk) (nd_b0 hk) f6_77 (fun _ => rfl) rfl d6_acceptFrame_32 rfl ?_
    refine V_if_le (tgt := 48) (pc1 := 38) d6_acceptFrame_35 (by decide) rfl (fun h2 => ?_) (fun h2 => ?_)
    · skip
      exact key3 _ (by first | rfl | (simp only [hr3, if_pos h1, if_pos h2]; done) | (simp only [hr3, if_pos h1, if_pos h2]; rfl)) _ (lvsub_p [0] rfl)
    · skip
      refine V_aload_n (pc1 := 39) 0 d6_acceptFrame_38 rfl rfl ?_
      refine V_dup (pc1 := 40) d6_acceptFrame_39 rfl rfl ?_
      refine V_geti (pc1 := 43) (nd_l0 hk) (nd_b0 hk) f6_77 (fun _ => rfl) rfl d6_acceptFrame_40 rfl ?_
      refine V_iconst (pc1 := 44) d6_acceptFrame_43 vc_1 rfl ?_
      refine V_isub (pc1 := 45) d6_acceptFrame_44 rfl ?_
      refine V_puti (pc1 := 48) (nd_l0 hk) (nd_b0 hk) f6_77 rfl rfl d6_acceptFrame_45 rfl ?_
      exact key3 _ (by first | rfl | (simp only [hr3, if_pos h1, if_neg h2]; done) | (simp only [hr3, if_pos h1, if_neg h2]; rfl)) _ (lvsub_p [0] rfl)
  · skip
    refine V_aload_n (pc1 := 15) 0 d6_acceptFrame_14 rfl rfl ?_
    refine V_aload_n (pc1 := 16) 0 d6_acceptFrame_15 rfl rfl ?_
    refine V_getr (pc1 := 19) (nd_l0 hk) (nd_b0 hk) f6_50 (fun _ => rfl) (nd_r0_0 hk) d6_acceptFrame_16 rfl ?_
    refine V_geti (pc1 := 22) (lm_l0 (nd_L hk)) (lm_b0 (nd_L hk)) f6_96 (fun _ => rfl) rfl d6_acceptFrame_19 rfl ?_
    refine V_bipush (pc1 := 24) d6_acceptFrame_22 vb_8 rfl ?_
    refine V_isub (pc1 := 25) d6_acceptFrame_24 rfl ?_
    refine V_puti (pc1 := 28) (nd_l0 hk) (nd_b0 hk) f6_77 rfl rfl d6_acceptFrame_25 rfl ?_
    refine V_goto (tgt := 48) d6_acceptFrame_28 (by decide) ?_
    exact key3 _ (by first | rfl | (simp only [hr3, if_neg h1]; done) | (simp only [hr3, if_neg h1]; rfl)) _ (lvsub_p [0] rfl)
theorem w6_acceptFrame (g : GlT) {k : Nat} {l : Nat} (hk : okN k l) (I : Nat → Nat → Int32) (L : Nat → Nat → Int64) (hv : nV k I) : Call g (k6_acceptFrame, 3, 0, 0) [.ref (xA g k)] (I, L, R0, 305) (Qv (i6_acceptFrame k l I L) L) := Call.of (by decide) (Nat.le_of_ble_eq_true rfl) rfl (v6_acceptFrame g hk   I L hv _ (And.intro rfl rfl))
theorem x6_acceptFrame {k : Nat} {l : Nat} {I : Nat → Nat → Int32} {L : Nat → Nat → Int64} {aa : Nat} (h0 : aa ≠ k) (h1 : aa ≠ k + 1) (h2 : aa ≠ k + 3) (h3 : aa ≠ k + 4) (h4 : aa ≠ k + 5) (h5 : aa ≠ k + 6) (h6 : aa ≠ k + 7) (h7 : aa ≠ k + 8) (h8 : aa ≠ k + 9) (h9 : aa ≠ k + 10) : i6_acceptFrame k l I L aa = I aa := by
  first | (simp only [i6_acceptFrame]; done) | (simp only [i6_acceptFrame]; (try (repeat' split)) <;> first | rfl | (simp [uI_off, h0, h1, h2, h3, h4, h5, h6, h7, h8, h9, x3_insertAt, x6_enqueue]; done))

def i6_endFrame (k : Nat) (l : Nat) (x : Int32) (I : Nat → Nat → Int32) (L : Nat → Nat → Int64) : Nat → Nat → Int32 := (if x = 0 then (if I k 9 = 0 then i6_enter k l 6 I L else i6_fail k l 1 I L) else i6_enter k l 8 (if I k 9 = 0 then I else uI (uI (i3_removeAt (k + 3) 4 (I k 17) I L) k 10 (if 0 < (I k 10) - 1 then (I k 10) - 1 else 0)) (k + 1) 4 ((I (k + 1) 4) + 1)) L)
set_option maxRecDepth 4000 in
theorem v6_endFrame (g : GlT) {k : Nat} {l : Nat} (hk : okN k l) (x : Int32) (I : Nat → Nat → Int32) (L : Nat → Nat → Int64) (hv : nV k I) (Q : Option Value → MemT → Prop) (hq : Q (none) (i6_endFrame k l x I L, L, R0, 305)) : V g (k6_endFrame, 3, 0, 0) 0 0 0 [(0, .ref (xA g k)), (1, .int x)] [] (I, L, R0, 305) Q := by
  have hv0 := hv
  obtain ⟨⟨gw, hw4, hw⟩, ⟨gr, hr6, hr⟩, ga, ha4, ha⟩ := hv0
  refine V_iload_n (pc1 := 1) 1 d6_endFrame_0 rfl rfl ?_
  refine V_if_ne (tgt := 26) (pc1 := 4) d6_endFrame_1 (by decide) rfl (fun h1 => ?_) (fun h1 => ?_)
  · skip
    refine V_aload_n (pc1 := 27) 0 d6_endFrame_26 rfl rfl ?_
    refine V_geti (pc1 := 30) (nd_l0 hk) (nd_b0 hk) f6_70 (fun _ => rfl) rfl d6_endFrame_27 rfl ?_
    have key3 : ∀ (zI71 : Nat → Nat → Int32), zI71 = (if I k 9 = 0 then I else uI (uI (i3_removeAt (k + 3) 4 (I k 17) I L) k 10 (if 0 < (I k 10) - 1 then (I k 10) - 1 else 0)) (k + 1) 4 ((I (k + 1) 4) + 1)) → ∀ (lv : List (Nat × Value)), lvsub [(0, .ref (xA g k)), (1, .int x)] lv → V g (k6_endFrame, 3, 0, 0) 0 0 71 lv [] (zI71, L, R0, 305) Q := by
      intro zI71 ezI71
      subst ezI71
      intro lv hlv
      refine V_lv hlv ?_
      refine V_aload_n (pc1 := 72) 0 d6_endFrame_71 rfl rfl ?_
      refine V_bipush (pc1 := 74) d6_endFrame_72 vb_8 rfl ?_
      refine V_vv (pc1 := 77) (w6_enter g hk 8  (if I k 9 = 0 then I else uI (uI (i3_removeAt (k + 3) 4 (I k 17) I L) k 10 (if 0 < (I k 10) - 1 then (I k 10) - 1 else 0)) (k + 1) 4 ((I (k + 1) 4) + 1)) L ) (nd_l0 hk) (nd_b0 hk) s6_enter l6_169 rfl rfl ⟨Nat.le_of_ble_eq_true rfl, Nat.le_of_ble_eq_true rfl, Nat.le_refl _, Nat.le_refl _⟩ (Nat.le_of_ble_eq_true rfl) rfl d6_endFrame_74 rfl ?_
      refine V_vret rfl d6_endFrame_77 (Nat.zero_le _) (Nat.zero_le _) ?_
      have hq2 := hq
      simp only [i6_endFrame, if_neg h1] at hq2
      exact hq2
    refine V_if_eq (tgt := 71) (pc1 := 33) d6_endFrame_30 (by decide) rfl (fun h2 => ?_) (fun h2 => ?_)
    · skip
      exact key3 _ (by first | rfl | (simp only [if_pos h2]; done) | (simp only [if_pos h2]; rfl)) _ (lvsub_p [0, 1] rfl)
    · skip
      refine V_aload_n (pc1 := 34) 0 d6_endFrame_33 rfl rfl ?_
      refine V_getr (pc1 := 37) (nd_l0 hk) (nd_b0 hk) f6_23 (fun _ => rfl) (nd_r0_2 hk) d6_endFrame_34 rfl ?_
      refine V_aload_n (pc1 := 38) 0 d6_endFrame_37 rfl rfl ?_
      refine V_geti (pc1 := 41) (nd_l0 hk) (nd_b0 hk) f6_47 (fun _ => rfl) rfl d6_endFrame_38 rfl ?_
      refine V_vv (pc1 := 44) (w3_removeAt g (nd_F3 hk) (I k 17) gw hw4 I L hw) (nd_l3 hk) (nd_b3 hk) s3_removeAt l6_119 rfl rfl ⟨Nat.le_of_ble_eq_true rfl, Nat.le_of_ble_eq_true rfl, Nat.le_refl _, Nat.le_refl _⟩ (Nat.le_of_ble_eq_true rfl) rfl d6_endFrame_41 rfl ?_
      refine V_aload_n (pc1 := 45) 0 d6_endFrame_44 rfl rfl ?_
      refine V_iconst (pc1 := 46) d6_endFrame_45 vc_0 rfl ?_
      refine V_aload_n (pc1 := 47) 0 d6_endFrame_46 rfl rfl ?_
      refine V_geti (pc1 := 50) (nd_l0 hk) (nd_b0 hk) f6_74 (fun _ => rfl) (congrFun (x3_removeAt (I := I) (L := L) (show (k : Nat) ≠ k + 3 by omega) (show (k : Nat) ≠ k + 4 by omega) (show (k : Nat) ≠ k + 5 by omega) (show (k : Nat) ≠ k + 6 by omega)) _) d6_endFrame_47 rfl ?_
      refine V_iconst (pc1 := 51) d6_endFrame_50 vc_1 rfl ?_
      refine V_isub (pc1 := 52) d6_endFrame_51 rfl ?_
      refine V_max (pc1 := 55) l6_234 jmaxS jmthI jmaxC (Nat.le_of_ble_eq_true rfl) (Nat.zero_le _) (Nat.zero_le _) (Nat.le_of_ble_eq_true rfl) d6_endFrame_52 rfl ?_
      refine V_puti (pc1 := 58) (nd_l0 hk) (nd_b0 hk) f6_74 rfl rfl d6_endFrame_55 rfl ?_
      refine V_aload_n (pc1 := 59) 0 d6_endFrame_58 rfl rfl ?_
      refine V_getr (pc1 := 62) (nd_l0 hk) (nd_b0 hk) f6_12 (fun _ => rfl) (nd_r0_1 hk) d6_endFrame_59 rfl ?_
      refine V_dup (pc1 := 63) d6_endFrame_62 rfl rfl ?_
      refine V_geti (pc1 := 66) (nd_l1 hk) (nd_b1 hk) f6_240 (fun _ => rfl) ((congrFun (uI_off _ _ _ (show (k + 1 : Nat) ≠ k by omega)) _).trans (congrFun (x3_removeAt (I := I) (L := L) (show (k + 1 : Nat) ≠ k + 3 by omega) (show (k + 1 : Nat) ≠ k + 4 by omega) (show (k + 1 : Nat) ≠ k + 5 by omega) (show (k + 1 : Nat) ≠ k + 6 by omega)) _)) d6_endFrame_63 rfl ?_
      refine V_iconst (pc1 := 67) d6_endFrame_66 vc_1 rfl ?_
      refine V_iadd (pc1 := 68) d6_endFrame_67 rfl ?_
      refine V_puti (pc1 := 71) (nd_l1 hk) (nd_b1 hk) f6_240 rfl rfl d6_endFrame_68 rfl ?_
      exact key3 _ (by first | rfl | (simp only [if_neg h2]; done) | (simp only [if_neg h2]; rfl)) _ (lvsub_p [0, 1] rfl)
  · skip
    refine V_aload_n (pc1 := 5) 0 d6_endFrame_4 rfl rfl ?_
    refine V_geti (pc1 := 8) (nd_l0 hk) (nd_b0 hk) f6_70 (fun _ => rfl) rfl d6_endFrame_5 rfl ?_
    have key5 : ∀ (zI25 : Nat → Nat → Int32), zI25 = (if I k 9 = 0 then i6_enter k l 6 I L else i6_fail k l 1 I L) → ∀ (lv : List (Nat × Value)), lvsub [(0, .ref (xA g k)), (1, .int x)] lv → V g (k6_endFrame, 3, 0, 0) 0 0 25 lv [] (zI25, L, R0, 305) Q := by
      intro zI25 ezI25
      subst ezI25
      intro lv hlv
      refine V_lv hlv ?_
      refine V_vret rfl d6_endFrame_25 (Nat.zero_le _) (Nat.zero_le _) ?_
      have hq2 := hq
      simp only [i6_endFrame, if_pos h1] at hq2
      exact hq2
    refine V_if_eq (tgt := 19) (pc1 := 11) d6_endFrame_8 (by decide) rfl (fun h4 => ?_) (fun h4 => ?_)
    · skip
      refine V_aload_n (pc1 := 20) 0 d6_endFrame_19 rfl rfl ?_
      refine V_bipush (pc1 := 22) d6_endFrame_20 vb_6 rfl ?_
      refine V_vv (pc1 := 25) (w6_enter g hk 6  I L ) (nd_l0 hk) (nd_b0 hk) s6_enter l6_169 rfl rfl ⟨Nat.le_of_ble_eq_true rfl, Nat.le_of_ble_eq_true rfl, Nat.le_refl _, Nat.le_refl _⟩ (Nat.le_of_ble_eq_true rfl) rfl d6_endFrame_22 rfl ?_
      exact key5 _ (by first | rfl | (simp only [if_pos h4]; done) | (simp only [if_pos h4]; rfl)) _ (lvsub_p [0, 1] rfl)
    · skip
      refine V_aload_n (pc1 := 12) 0 d6_endFrame_11 rfl rfl ?_
      refine V_iconst (pc1 := 13) d6_endFrame_12 vc_1 rfl ?_
      refine V_vv (pc1 := 16) (w6_fail g hk 1 (by first | decide | omega | (split <;> decide)) I L ) (nd_l0 hk) (nd_b0 hk) s6_fail l6_176 rfl rfl ⟨Nat.le_of_ble_eq_true rfl, Nat.le_of_ble_eq_true rfl, Nat.le_refl _, Nat.le_refl _⟩ (Nat.le_of_ble_eq_true rfl) rfl d6_endFrame_13 rfl ?_
      refine V_goto (tgt := 25) d6_endFrame_16 (by decide) ?_
      exact key5 _ (by first | rfl | (simp only [if_neg h4]; done) | (simp only [if_neg h4]; rfl)) _ (lvsub_p [0, 1] rfl)
theorem w6_endFrame (g : GlT) {k : Nat} {l : Nat} (hk : okN k l) (x : Int32) (I : Nat → Nat → Int32) (L : Nat → Nat → Int64) (hv : nV k I) : Call g (k6_endFrame, 3, 0, 0) [.ref (xA g k), .int x] (I, L, R0, 305) (Qv (i6_endFrame k l x I L) L) := Call.of (by decide) (Nat.le_of_ble_eq_true rfl) rfl (v6_endFrame g hk x  I L hv _ (And.intro rfl rfl))
theorem x6_endFrame {k : Nat} {l : Nat} {x : Int32} {I : Nat → Nat → Int32} {L : Nat → Nat → Int64} {aa : Nat} (h0 : aa ≠ k) (h1 : aa ≠ k + 1) (h2 : aa ≠ k + 2) (h3 : aa ≠ k + 3) (h4 : aa ≠ k + 4) (h5 : aa ≠ k + 5) (h6 : aa ≠ k + 6) : i6_endFrame k l x I L aa = I aa := by
  first | (simp only [i6_endFrame]; done) | (simp only [i6_endFrame]; (try (repeat' split)) <;> first | rfl | (simp [uI_off, h0, h1, h2, h3, h4, h5, h6, x3_removeAt, x6_enter, x6_fail]; done))

def i6_actTail (k : Nat) (l : Nat) (x : Int32) (I : Nat → Nat → Int32) (L : Nat → Nat → Int64) : Nat → Nat → Int32 := (if I (k + 15) 8 = 1 then (if (I k 9 = 0) ∨ (¬ (x = 1)) then uI I (k + 15) 8 ((I (k + 15) 8) + 1) else i6_fail k l 5 (uI I (k + 15) 8 ((I (k + 15) 8) + 1)) L) else (if I (k + 15) 8 < 9 then (if x = 0 then i6_fail k l (if I k 9 = 0 then 4 else 1) (uI I (k + 15) 8 ((I (k + 15) 8) + 1)) L else (if I k 9 = 0 then (if (¬ (I (k + 15) 8 = 2)) ∨ ((r2_isCrcRight (k + 15) (uI I (k + 15) 8 ((I (k + 15) 8) + 1)) L) = true) then (if I (k + 15) 8 = 8 then i6_acceptFrame k l (uI I (k + 15) 8 ((I (k + 15) 8) + 1)) L else uI I (k + 15) 8 ((I (k + 15) 8) + 1)) else i6_fail k l 3 (uI I (k + 15) 8 ((I (k + 15) 8) + 1)) L) else uI I (k + 15) 8 ((I (k + 15) 8) + 1))) else i6_endFrame k l x (uI I (k + 15) 8 ((I (k + 15) 8) + 1)) L))
set_option maxRecDepth 4000 in
theorem v6_actTail (g : GlT) {k : Nat} {l : Nat} (hk : okN k l) (x : Int32) (I : Nat → Nat → Int32) (L : Nat → Nat → Int64) (hv : nV k I) (Q : Option Value → MemT → Prop) (hq : Q (none) (i6_actTail k l x I L, L, R0, 305)) : V g (k6_actTail, 4, 0, 0) 0 0 0 [(0, .ref (xA g k)), (1, .int x)] [] (I, L, R0, 305) Q := by
  refine V_aload_n (pc1 := 1) 0 d6_actTail_0 rfl rfl ?_
  refine V_getr (pc1 := 4) (nd_l0 hk) (nd_b0 hk) f6_36 (fun _ => rfl) (nd_r0_5 hk) d6_actTail_1 rfl ?_
  refine V_geti (pc1 := 7) (nd_l15 hk) (nd_b15 hk) f6_222 (fun _ => rfl) rfl d6_actTail_4 rfl ?_
  refine V_istore_n (pc1 := 8) d6_actTail_7 (Nat.le_of_ble_eq_true rfl) rfl rfl ?_
  refine V_aload_n (pc1 := 9) 1 d6_actTail_8 rfl rfl ?_
  refine V_getr (pc1 := 12) (nd_l0 hk) (nd_b0 hk) f6_36 (fun _ => rfl) (nd_r0_5 hk) d6_actTail_9 rfl ?_
  refine V_dup (pc1 := 13) d6_actTail_12 rfl rfl ?_
  refine V_geti (pc1 := 16) (nd_l15 hk) (nd_b15 hk) f6_222 (fun _ => rfl) rfl d6_actTail_13 rfl ?_
  refine V_iconst (pc1 := 17) d6_actTail_16 vc_1 rfl ?_
  refine V_iadd (pc1 := 18) d6_actTail_17 rfl ?_
  refine V_puti (pc1 := 21) (nd_l15 hk) (nd_b15 hk) f6_222 rfl rfl d6_actTail_18 rfl ?_
  refine V_iload_n (pc1 := 22) 0 d6_actTail_21 rfl rfl ?_
  refine V_iconst (pc1 := 23) d6_actTail_22 vc_1 rfl ?_
  refine V_icmp_ne (tgt := 46) (pc1 := 26) d6_actTail_23 (by decide) rfl (fun h1 => ?_) (fun h1 => ?_)
  · skip
    refine V_iload_n (pc1 := 47) 0 d6_actTail_46 rfl rfl ?_
    refine V_bipush (pc1 := 49) d6_actTail_47 vb_9 rfl ?_
    refine V_icmp_lt (tgt := 60) (pc1 := 52) d6_actTail_49 (by decide) rfl (fun h2 => ?_) (fun h2 => ?_)
    · skip
      refine V_iload_n (pc1 := 61) 2 d6_actTail_60 rfl rfl ?_
      refine V_if_ne (tgt := 83) (pc1 := 64) d6_actTail_61 (by decide) rfl (fun h3 => ?_) (fun h3 => ?_)
      · skip
        refine V_aload_n (pc1 := 84) 1 d6_actTail_83 rfl rfl ?_
        refine V_geti (pc1 := 87) (nd_l0 hk) (nd_b0 hk) f6_70 (fun _ => rfl) (congrFun (uI_off _ _ _ (show (k : Nat) ≠ k + 15 by omega)) _) d6_actTail_84 rfl ?_
        refine V_if_eq (tgt := 91) (pc1 := 90) d6_actTail_87 (by decide) rfl (fun h4 => ?_) (fun h4 => ?_)
        · skip
          refine V_iload_n (pc1 := 92) 0 d6_actTail_91 rfl rfl ?_
          refine V_iconst (pc1 := 93) d6_actTail_92 vc_2 rfl ?_
          have key11 : ∀ (zI124 : Nat → Nat → Int32), zI124 = (if (¬ (I (k + 15) 8 = 2)) ∨ ((r2_isCrcRight (k + 15) (uI I (k + 15) 8 ((I (k + 15) 8) + 1)) L) = true) then (if I (k + 15) 8 = 8 then i6_acceptFrame k l (uI I (k + 15) 8 ((I (k + 15) 8) + 1)) L else uI I (k + 15) 8 ((I (k + 15) 8) + 1)) else i6_fail k l 3 (uI I (k + 15) 8 ((I (k + 15) 8) + 1)) L) → ∀ (lv : List (Nat × Value)), lvsub [(2, .int (I (k + 15) 8)), (0, .ref (xA g k)), (1, .int x)] lv → V g (k6_actTail, 4, 0, 0) 0 0 124 lv [] (zI124, L, R0, 305) Q := by
            intro zI124 ezI124
            subst ezI124
            intro lv hlv
            refine V_lv hlv ?_
            refine V_vret rfl d6_actTail_124 (Nat.zero_le _) (Nat.zero_le _) ?_
            have hq2 := hq
            simp only [i6_actTail, if_neg h1, if_pos h2, if_neg h3, if_pos h4] at hq2
            exact hq2
          have k6 : ((¬ (I (k + 15) 8 = 2)) ∨ ((r2_isCrcRight (k + 15) (uI I (k + 15) 8 ((I (k + 15) 8) + 1)) L) = true)) → V g (k6_actTail, 4, 0, 0) 0 0 114 [(2, .int (I (k + 15) 8)), (0, .ref (xA g k)), (1, .int x)] [] (uI I (k + 15) 8 ((I (k + 15) 8) + 1), L, R0, 305) Q := by
            intro h5
            refine V_iload_n (pc1 := 115) 0 d6_actTail_114 rfl rfl ?_
            refine V_bipush (pc1 := 117) d6_actTail_115 vb_8 rfl ?_
            refine V_icmp_ne (tgt := 124) (pc1 := 120) d6_actTail_117 (by decide) rfl (fun h8 => ?_) (fun h8 => ?_)
            · skip
              exact key11 _ (by first | rfl | (simp only [if_pos h5, if_neg h8]; done) | (simp only [if_pos h5, if_neg h8]; rfl)) _ (lvsub_p [0, 1, 2] rfl)
            · skip
              refine V_aload_n (pc1 := 121) 1 d6_actTail_120 rfl rfl ?_
              refine V_vv (pc1 := 124) (w6_acceptFrame g hk   (uI I (k + 15) 8 ((I (k + 15) 8) + 1)) L (nV.of (congrFun (uI_off _ _ _ (show (k + 3 : Nat) ≠ k + 15 by omega)) _) (congrFun (uI_off _ _ _ (show (k + 7 : Nat) ≠ k + 15 by omega)) _) (congrFun (uI_off _ _ _ (show (k + 11 : Nat) ≠ k + 15 by omega)) _) hv)) (nd_l0 hk) (nd_b0 hk) s6_acceptFrame l6_231 rfl rfl ⟨Nat.le_of_ble_eq_true rfl, Nat.le_of_ble_eq_true rfl, Nat.le_refl _, Nat.le_refl _⟩ (Nat.le_of_ble_eq_true rfl) rfl d6_actTail_121 rfl ?_
              exact key11 _ (by first | rfl | (simp only [if_pos h5, if_pos h8]; done) | (simp only [if_pos h5, if_pos h8]; rfl)) _ (lvsub_p [0, 1, 2] rfl)
          have k7 : ¬ ((¬ (I (k + 15) 8 = 2)) ∨ ((r2_isCrcRight (k + 15) (uI I (k + 15) 8 ((I (k + 15) 8) + 1)) L) = true)) → V g (k6_actTail, 4, 0, 0) 0 0 106 [(2, .int (I (k + 15) 8)), (0, .ref (xA g k)), (1, .int x)] [] (uI I (k + 15) 8 ((I (k + 15) 8) + 1), L, R0, 305) Q := by
            intro h5
            refine V_aload_n (pc1 := 107) 1 d6_actTail_106 rfl rfl ?_
            refine V_iconst (pc1 := 108) d6_actTail_107 vc_3 rfl ?_
            refine V_vv (pc1 := 111) (w6_fail g hk 3 (by first | decide | omega | (split <;> decide)) (uI I (k + 15) 8 ((I (k + 15) 8) + 1)) L ) (nd_l0 hk) (nd_b0 hk) s6_fail l6_176 rfl rfl ⟨Nat.le_of_ble_eq_true rfl, Nat.le_of_ble_eq_true rfl, Nat.le_refl _, Nat.le_refl _⟩ (Nat.le_of_ble_eq_true rfl) rfl d6_actTail_108 rfl ?_
            refine V_goto (tgt := 124) d6_actTail_111 (by decide) ?_
            exact key11 _ (by first | rfl | (simp only [if_neg h5]; done) | (simp only [if_neg h5]; rfl)) _ (lvsub_p [0, 1, 2] rfl)
          refine V_icmp_ne (tgt := 114) (pc1 := 96) d6_actTail_93 (by decide) rfl (fun h9 => ?_) (fun h9 => ?_)
          · skip
            exact k6 (Or.inl h9)
          · skip
            refine V_aload_n (pc1 := 97) 1 d6_actTail_96 rfl rfl ?_
            refine V_getr (pc1 := 100) (nd_l0 hk) (nd_b0 hk) f6_36 (fun _ => rfl) (nd_r0_5 hk) d6_actTail_97 rfl ?_
            refine V_vi (pc1 := 103) (w2_isCrcRight g (nd_G15 hk)   (uI I (k + 15) 8 ((I (k + 15) 8) + 1)) L ) (nd_l15 hk) (nd_b15 hk) s2_isCrcRight l6_228 rfl rfl ⟨Nat.le_of_ble_eq_true rfl, Nat.le_of_ble_eq_true rfl, Nat.le_refl _, Nat.le_refl _⟩ (Nat.le_of_ble_eq_true rfl) rfl d6_actTail_100 rfl ?_
            refine V_bne (tgt := 114) (pc1 := 106) d6_actTail_103 (by decide) rfl (fun h10 => ?_) (fun h10 => ?_)
            · skip
              exact k6 (Or.inr h10)
            · skip
              exact k7 (fun z => z.elim (fun z => z h9) h10)
        · skip
          refine V_vret rfl d6_actTail_90 (Nat.zero_le _) (Nat.zero_le _) ?_
          have hq2 := hq
          simp only [i6_actTail, if_neg h1, if_pos h2, if_neg h3, if_neg h4] at hq2
          exact hq2
      · skip
        refine V_aload_n (pc1 := 65) 1 d6_actTail_64 rfl rfl ?_
        refine V_aload_n (pc1 := 66) 1 d6_actTail_65 rfl rfl ?_
        refine V_geti (pc1 := 69) (nd_l0 hk) (nd_b0 hk) f6_70 (fun _ => rfl) (congrFun (uI_off _ _ _ (show (k : Nat) ≠ k + 15 by omega)) _) d6_actTail_66 rfl ?_
        have key13 : ∀ (y77_0 : Int32), y77_0 = nI (if I k 9 = 0 then 4 else 1) → ∀ (lv : List (Nat × Value)), lvsub [(2, .int (I (k + 15) 8)), (0, .ref (xA g k)), (1, .int x)] lv → V g (k6_actTail, 4, 0, 0) 0 0 77 lv [.int y77_0, .ref (xA g k)] (uI I (k + 15) 8 ((I (k + 15) 8) + 1), L, R0, 305) Q := by
          intro y77_0 ey77_0
          subst ey77_0
          intro lv hlv
          refine V_lv hlv ?_
          refine V_vv (pc1 := 80) (w6_fail g hk (if I k 9 = 0 then 4 else 1) (by first | decide | omega | (split <;> decide)) (uI I (k + 15) 8 ((I (k + 15) 8) + 1)) L ) (nd_l0 hk) (nd_b0 hk) s6_fail l6_176 rfl rfl ⟨Nat.le_of_ble_eq_true rfl, Nat.le_of_ble_eq_true rfl, Nat.le_refl _, Nat.le_refl _⟩ (Nat.le_of_ble_eq_true rfl) rfl d6_actTail_77 rfl ?_
          refine V_goto (tgt := 124) d6_actTail_80 (by decide) ?_
          refine V_vret rfl d6_actTail_124 (Nat.zero_le _) (Nat.zero_le _) ?_
          have hq2 := hq
          simp only [i6_actTail, if_neg h1, if_pos h2, if_pos h3] at hq2
          exact hq2
        refine V_if_eq (tgt := 76) (pc1 := 72) d6_actTail_69 (by decide) rfl (fun h12 => ?_) (fun h12 => ?_)
        · skip
          refine V_iconst (pc1 := 77) d6_actTail_76 vc_4 rfl ?_
          exact key13 _ (by first | rfl | (simp only [if_pos h12]; done) | (simp only [if_pos h12]; rfl)) _ (lvsub_p [0, 1, 2] rfl)
        · skip
          refine V_iconst (pc1 := 73) d6_actTail_72 vc_1 rfl ?_
          refine V_goto (tgt := 77) d6_actTail_73 (by decide) ?_
          exact key13 _ (by first | rfl | (simp only [if_neg h12]; done) | (simp only [if_neg h12]; rfl)) _ (lvsub_p [0, 1, 2] rfl)
    · skip
      refine V_aload_n (pc1 := 53) 1 d6_actTail_52 rfl rfl ?_
      refine V_iload_n (pc1 := 54) 2 d6_actTail_53 rfl rfl ?_
      refine V_vv (pc1 := 57) (w6_endFrame g hk x  (uI I (k + 15) 8 ((I (k + 15) 8) + 1)) L (nV.of (congrFun (uI_off _ _ _ (show (k + 3 : Nat) ≠ k + 15 by omega)) _) (congrFun (uI_off _ _ _ (show (k + 7 : Nat) ≠ k + 15 by omega)) _) (congrFun (uI_off _ _ _ (show (k + 11 : Nat) ≠ k + 15 by omega)) _) hv)) (nd_l0 hk) (nd_b0 hk) s6_endFrame l6_225 rfl rfl ⟨Nat.le_of_ble_eq_true rfl, Nat.le_of_ble_eq_true rfl, Nat.le_refl _, Nat.le_refl _⟩ (Nat.le_of_ble_eq_true rfl) rfl d6_actTail_54 rfl ?_
      refine V_goto (tgt := 124) d6_actTail_57 (by decide) ?_
      refine V_vret rfl d6_actTail_124 (Nat.zero_le _) (Nat.zero_le _) ?_
      have hq2 := hq
      simp only [i6_actTail, if_neg h1, if_neg h2] at hq2
      exact hq2
  · skip
    refine V_aload_n (pc1 := 27) 1 d6_actTail_26 rfl rfl ?_
    refine V_geti (pc1 := 30) (nd_l0 hk) (nd_b0 hk) f6_70 (fun _ => rfl) (congrFun (uI_off _ _ _ (show (k : Nat) ≠ k + 15 by omega)) _) d6_actTail_27 rfl ?_
    have key19 : ∀ (zI124 : Nat → Nat → Int32), zI124 = (if (I k 9 = 0) ∨ (¬ (x = 1)) then uI I (k + 15) 8 ((I (k + 15) 8) + 1) else i6_fail k l 5 (uI I (k + 15) 8 ((I (k + 15) 8) + 1)) L) → ∀ (lv : List (Nat × Value)), lvsub [(2, .int (I (k + 15) 8)), (0, .ref (xA g k)), (1, .int x)] lv → V g (k6_actTail, 4, 0, 0) 0 0 124 lv [] (zI124, L, R0, 305) Q := by
      intro zI124 ezI124
      subst ezI124
      intro lv hlv
      refine V_lv hlv ?_
      refine V_vret rfl d6_actTail_124 (Nat.zero_le _) (Nat.zero_le _) ?_
      have hq2 := hq
      simp only [i6_actTail, if_pos h1] at hq2
      exact hq2
    have k15 : ((I k 9 = 0) ∨ (¬ (x = 1))) → V g (k6_actTail, 4, 0, 0) 0 0 124 [(2, .int (I (k + 15) 8)), (0, .ref (xA g k)), (1, .int x)] [] (uI I (k + 15) 8 ((I (k + 15) 8) + 1), L, R0, 305) Q := by
      intro h14
      exact key19 _ (by first | rfl | (simp only [if_pos h14]; done) | (simp only [if_pos h14]; rfl)) _ (lvsub_p [0, 1, 2] rfl)
    have k16 : ¬ ((I k 9 = 0) ∨ (¬ (x = 1))) → V g (k6_actTail, 4, 0, 0) 0 0 38 [(2, .int (I (k + 15) 8)), (0, .ref (xA g k)), (1, .int x)] [] (uI I (k + 15) 8 ((I (k + 15) 8) + 1), L, R0, 305) Q := by
      intro h14
      refine V_aload_n (pc1 := 39) 1 d6_actTail_38 rfl rfl ?_
      refine V_iconst (pc1 := 40) d6_actTail_39 vc_5 rfl ?_
      refine V_vv (pc1 := 43) (w6_fail g hk 5 (by first | decide | omega | (split <;> decide)) (uI I (k + 15) 8 ((I (k + 15) 8) + 1)) L ) (nd_l0 hk) (nd_b0 hk) s6_fail l6_176 rfl rfl ⟨Nat.le_of_ble_eq_true rfl, Nat.le_of_ble_eq_true rfl, Nat.le_refl _, Nat.le_refl _⟩ (Nat.le_of_ble_eq_true rfl) rfl d6_actTail_40 rfl ?_
      refine V_goto (tgt := 124) d6_actTail_43 (by decide) ?_
      exact key19 _ (by first | rfl | (simp only [if_neg h14]; done) | (simp only [if_neg h14]; rfl)) _ (lvsub_p [0, 1, 2] rfl)
    refine V_if_eq (tgt := 124) (pc1 := 33) d6_actTail_30 (by decide) rfl (fun h17 => ?_) (fun h17 => ?_)
    · skip
      exact k15 (Or.inl h17)
    · skip
      refine V_iload_n (pc1 := 34) 2 d6_actTail_33 rfl rfl ?_
      refine V_iconst (pc1 := 35) d6_actTail_34 vc_1 rfl ?_
      refine V_icmp_ne (tgt := 124) (pc1 := 38) d6_actTail_35 (by decide) rfl (fun h18 => ?_) (fun h18 => ?_)
      · skip
        exact k15 (Or.inr h18)
      · skip
        exact k16 (fun z => z.elim h17 (fun z => z h18))
theorem w6_actTail (g : GlT) {k : Nat} {l : Nat} (hk : okN k l) (x : Int32) (I : Nat → Nat → Int32) (L : Nat → Nat → Int64) (hv : nV k I) : Call g (k6_actTail, 4, 0, 0) [.ref (xA g k), .int x] (I, L, R0, 305) (Qv (i6_actTail k l x I L) L) := Call.of (by decide) (Nat.le_of_ble_eq_true rfl) rfl (v6_actTail g hk x  I L hv _ (And.intro rfl rfl))
theorem x6_actTail {k : Nat} {l : Nat} {x : Int32} {I : Nat → Nat → Int32} {L : Nat → Nat → Int64} {aa : Nat} (h0 : aa ≠ k) (h1 : aa ≠ k + 1) (h2 : aa ≠ k + 2) (h3 : aa ≠ k + 3) (h4 : aa ≠ k + 4) (h5 : aa ≠ k + 5) (h6 : aa ≠ k + 6) (h7 : aa ≠ k + 7) (h8 : aa ≠ k + 8) (h9 : aa ≠ k + 9) (h10 : aa ≠ k + 10) (h11 : aa ≠ k + 15) : i6_actTail k l x I L aa = I aa := by
  first | (simp only [i6_actTail]; done) | (simp only [i6_actTail]; (try (repeat' split)) <;> first | rfl | (simp [uI_off, h0, h1, h2, h3, h4, h5, h6, h7, h8, h9, h10, h11, x6_acceptFrame, x6_endFrame, x6_fail]; done))

def i6_act (k : Nat) (l : Nat) (x : Int32) (I : Nat → Nat → Int32) (L : Nat → Nat → Int64) : Nat → Nat → Int32 := (if I k 8 = 1 then i6_actBusOff k l x I L else (if I k 8 = 2 then i6_actJoining k l x I L else (if I k 8 = 3 then i6_actIdle k l x I L else (if I k 8 = 4 then (if (r2_isInStuffedPart (k + 15) I L) = true then i6_actStuffedPart k l x I L else i6_actTail k l x I L) else (if I k 8 = 5 then i6_actFlag k l I L else (if I k 8 = 6 then i6_actFlag k l I L else (if I k 8 = 7 then i6_actDelimiter k l x I L else (if I k 8 = 8 then i6_actIntermission k l x I L else (if I k 8 = 9 then i6_actSuspend k l x I L else I)))))))))
def m6_act (k : Nat) (l : Nat) (x : Int32) (I : Nat → Nat → Int32) (L : Nat → Nat → Int64) : Nat → Nat → Int64 := (if I k 8 = 1 then L else (if I k 8 = 2 then L else (if I k 8 = 3 then m6_actIdle k l x I L else (if I k 8 = 4 then (if (r2_isInStuffedPart (k + 15) I L) = true then m6_actStuffedPart k l x I L else L) else (if I k 8 = 5 then L else (if I k 8 = 6 then L else (if I k 8 = 7 then L else (if I k 8 = 8 then m6_actIntermission k l x I L else (if I k 8 = 9 then m6_actSuspend k l x I L else L)))))))))
set_option maxRecDepth 4000 in
theorem v6_act (g : GlT) {k : Nat} {l : Nat} (hk : okN k l) (x : Int32) (I : Nat → Nat → Int32) (L : Nat → Nat → Int64) (hv : nV k I) (Q : Option Value → MemT → Prop) (hq : Q (none) (i6_act k l x I L, m6_act k l x I L, R0, 305)) : V g (k6_act, 5, 0, 0) 0 0 0 [(0, .ref (xA g k)), (1, .int x)] [] (I, L, R0, 305) Q := by
  refine V_aload_n (pc1 := 1) 0 d6_act_0 rfl rfl ?_
  refine V_geti (pc1 := 4) (nd_l0 hk) (nd_b0 hk) f6_40 (fun _ => rfl) rfl d6_act_1 rfl ?_
  have key11 : ∀ (zI137 : Nat → Nat → Int32), zI137 = (if I k 8 = 1 then i6_actBusOff k l x I L else (if I k 8 = 2 then i6_actJoining k l x I L else (if I k 8 = 3 then i6_actIdle k l x I L else (if I k 8 = 4 then (if (r2_isInStuffedPart (k + 15) I L) = true then i6_actStuffedPart k l x I L else i6_actTail k l x I L) else (if I k 8 = 5 then i6_actFlag k l I L else (if I k 8 = 6 then i6_actFlag k l I L else (if I k 8 = 7 then i6_actDelimiter k l x I L else (if I k 8 = 8 then i6_actIntermission k l x I L else (if I k 8 = 9 then i6_actSuspend k l x I L else I))))))))) → ∀ (zL137 : Nat → Nat → Int64), zL137 = (if I k 8 = 1 then L else (if I k 8 = 2 then L else (if I k 8 = 3 then m6_actIdle k l x I L else (if I k 8 = 4 then (if (r2_isInStuffedPart (k + 15) I L) = true then m6_actStuffedPart k l x I L else L) else (if I k 8 = 5 then L else (if I k 8 = 6 then L else (if I k 8 = 7 then L else (if I k 8 = 8 then m6_actIntermission k l x I L else (if I k 8 = 9 then m6_actSuspend k l x I L else L))))))))) → ∀ (lv : List (Nat × Value)), lvsub [(0, .ref (xA g k)), (1, .int x)] lv → V g (k6_act, 5, 0, 0) 0 0 137 lv [] (zI137, zL137, R0, 305) Q := by
    intro zI137 ezI137 zL137 ezL137
    subst ezI137
    subst ezL137
    intro lv hlv
    refine V_lv hlv ?_
    refine V_vret rfl d6_act_137 (Nat.zero_le _) (Nat.zero_le _) ?_
    have hq2 := hq
    simp only [i6_act, m6_act] at hq2
    exact hq2
  by_cases h1 : I k 8 = 1
  · refine V_tsIn 1 h1 d6_act_4 (by decide) (by decide) (off := 52) (tgt := 56) (by decide) (by decide) ?_
    refine V_aload_n (pc1 := 57) 0 d6_act_56 rfl rfl ?_
    refine V_iload_n (pc1 := 58) 1 d6_act_57 rfl rfl ?_
    refine V_vv (pc1 := 61) (w6_actBusOff g hk x  I L ) (nd_l0 hk) (nd_b0 hk) s6_actBusOff l6_136 rfl rfl ⟨Nat.le_of_ble_eq_true rfl, Nat.le_of_ble_eq_true rfl, Nat.le_refl _, Nat.le_refl _⟩ (Nat.le_of_ble_eq_true rfl) rfl d6_act_58 rfl ?_
    refine V_goto (tgt := 137) d6_act_61 (by decide) ?_
    exact key11 _ (by first | rfl | (simp only [if_pos h1]; done) | (simp only [if_pos h1]; rfl)) _ (by first | rfl | (simp only [if_pos h1]; done) | (simp only [if_pos h1]; rfl)) _ (lvsub_p [0, 1] rfl)
  · skip
    by_cases h2 : I k 8 = 2
    · refine V_tsIn 2 h2 d6_act_4 (by decide) (by decide) (off := 60) (tgt := 64) (by decide) (by decide) ?_
      refine V_aload_n (pc1 := 65) 0 d6_act_64 rfl rfl ?_
      refine V_iload_n (pc1 := 66) 1 d6_act_65 rfl rfl ?_
      refine V_vv (pc1 := 69) (w6_actJoining g hk x  I L ) (nd_l0 hk) (nd_b0 hk) s6_actJoining l6_139 rfl rfl ⟨Nat.le_of_ble_eq_true rfl, Nat.le_of_ble_eq_true rfl, Nat.le_refl _, Nat.le_refl _⟩ (Nat.le_of_ble_eq_true rfl) rfl d6_act_66 rfl ?_
      refine V_goto (tgt := 137) d6_act_69 (by decide) ?_
      exact key11 _ (by first | rfl | (simp only [if_neg h1, if_pos h2]; done) | (simp only [if_neg h1, if_pos h2]; rfl)) _ (by first | rfl | (simp only [if_neg h1, if_pos h2]; done) | (simp only [if_neg h1, if_pos h2]; rfl)) _ (lvsub_p [0, 1] rfl)
    · skip
      by_cases h3 : I k 8 = 3
      · refine V_tsIn 3 h3 d6_act_4 (by decide) (by decide) (off := 68) (tgt := 72) (by decide) (by decide) ?_
        refine V_aload_n (pc1 := 73) 0 d6_act_72 rfl rfl ?_
        refine V_iload_n (pc1 := 74) 1 d6_act_73 rfl rfl ?_
        refine V_vv (pc1 := 77) (w6_actIdle g hk x  I L hv) (nd_l0 hk) (nd_b0 hk) s6_actIdle l6_142 rfl rfl ⟨Nat.le_of_ble_eq_true rfl, Nat.le_of_ble_eq_true rfl, Nat.le_refl _, Nat.le_refl _⟩ (Nat.le_of_ble_eq_true rfl) rfl d6_act_74 rfl ?_
        refine V_goto (tgt := 137) d6_act_77 (by decide) ?_
        exact key11 _ (by first | rfl | (simp only [if_neg h1, if_neg h2, if_pos h3]; done) | (simp only [if_neg h1, if_neg h2, if_pos h3]; rfl)) _ (by first | rfl | (simp only [if_neg h1, if_neg h2, if_pos h3]; done) | (simp only [if_neg h1, if_neg h2, if_pos h3]; rfl)) _ (lvsub_p [0, 1] rfl)
      · skip
        by_cases h4 : I k 8 = 4
        · refine V_tsIn 4 h4 d6_act_4 (by decide) (by decide) (off := 76) (tgt := 80) (by decide) (by decide) ?_
          refine V_aload_n (pc1 := 81) 0 d6_act_80 rfl rfl ?_
          refine V_getr (pc1 := 84) (nd_l0 hk) (nd_b0 hk) f6_36 (fun _ => rfl) (nd_r0_5 hk) d6_act_81 rfl ?_
          refine V_vi (pc1 := 87) (w2_isInStuffedPart g (nd_G15 hk)   I L ) (nd_l15 hk) (nd_b15 hk) s2_isInStuffedPart l6_145 rfl rfl ⟨Nat.le_of_ble_eq_true rfl, Nat.le_of_ble_eq_true rfl, Nat.le_refl _, Nat.le_refl _⟩ (Nat.le_of_ble_eq_true rfl) rfl d6_act_84 rfl ?_
          refine V_beq (tgt := 98) (pc1 := 90) d6_act_87 (by decide) rfl (fun h5 => ?_) (fun h5 => ?_)
          · skip
            refine V_aload_n (pc1 := 99) 0 d6_act_98 rfl rfl ?_
            refine V_iload_n (pc1 := 100) 1 d6_act_99 rfl rfl ?_
            refine V_vv (pc1 := 103) (w6_actTail g hk x  I L hv) (nd_l0 hk) (nd_b0 hk) s6_actTail l6_151 rfl rfl ⟨Nat.le_of_ble_eq_true rfl, Nat.le_of_ble_eq_true rfl, Nat.le_refl _, Nat.le_refl _⟩ (Nat.le_of_ble_eq_true rfl) rfl d6_act_100 rfl ?_
            refine V_goto (tgt := 137) d6_act_103 (by decide) ?_
            exact key11 _ (by first | rfl | (simp only [if_neg h1, if_neg h2, if_neg h3, if_pos h4, if_neg h5]; done) | (simp only [if_neg h1, if_neg h2, if_neg h3, if_pos h4, if_neg h5]; rfl)) _ (by first | rfl | (simp only [if_neg h1, if_neg h2, if_neg h3, if_pos h4, if_neg h5]; done) | (simp only [if_neg h1, if_neg h2, if_neg h3, if_pos h4, if_neg h5]; rfl)) _ (lvsub_p [0, 1] rfl)
          · skip
            refine V_aload_n (pc1 := 91) 0 d6_act_90 rfl rfl ?_
            refine V_iload_n (pc1 := 92) 1 d6_act_91 rfl rfl ?_
            refine V_vv (pc1 := 95) (w6_actStuffedPart g hk x  I L ) (nd_l0 hk) (nd_b0 hk) s6_actStuffedPart l6_148 rfl rfl ⟨Nat.le_of_ble_eq_true rfl, Nat.le_of_ble_eq_true rfl, Nat.le_refl _, Nat.le_refl _⟩ (Nat.le_of_ble_eq_true rfl) rfl d6_act_92 rfl ?_
            refine V_goto (tgt := 137) d6_act_95 (by decide) ?_
            exact key11 _ (by first | rfl | (simp only [if_neg h1, if_neg h2, if_neg h3, if_pos h4, if_pos h5]; done) | (simp only [if_neg h1, if_neg h2, if_neg h3, if_pos h4, if_pos h5]; rfl)) _ (by first | rfl | (simp only [if_neg h1, if_neg h2, if_neg h3, if_pos h4, if_pos h5]; done) | (simp only [if_neg h1, if_neg h2, if_neg h3, if_pos h4, if_pos h5]; rfl)) _ (lvsub_p [0, 1] rfl)
        · skip
          by_cases h6 : I k 8 = 5
          · refine V_tsIn 5 h6 d6_act_4 (by decide) (by decide) (off := 102) (tgt := 106) (by decide) (by decide) ?_
            refine V_aload_n (pc1 := 107) 0 d6_act_106 rfl rfl ?_
            refine V_vv (pc1 := 110) (w6_actFlag g hk   I L ) (nd_l0 hk) (nd_b0 hk) s6_actFlag l6_154 rfl rfl ⟨Nat.le_of_ble_eq_true rfl, Nat.le_of_ble_eq_true rfl, Nat.le_refl _, Nat.le_refl _⟩ (Nat.le_of_ble_eq_true rfl) rfl d6_act_107 rfl ?_
            refine V_goto (tgt := 137) d6_act_110 (by decide) ?_
            exact key11 _ (by first | rfl | (simp only [if_neg h1, if_neg h2, if_neg h3, if_neg h4, if_pos h6]; done) | (simp only [if_neg h1, if_neg h2, if_neg h3, if_neg h4, if_pos h6]; rfl)) _ (by first | rfl | (simp only [if_neg h1, if_neg h2, if_neg h3, if_neg h4, if_pos h6]; done) | (simp only [if_neg h1, if_neg h2, if_neg h3, if_neg h4, if_pos h6]; rfl)) _ (lvsub_p [0, 1] rfl)
          · skip
            by_cases h7 : I k 8 = 6
            · refine V_tsIn 6 h7 d6_act_4 (by decide) (by decide) (off := 102) (tgt := 106) (by decide) (by decide) ?_
              refine V_aload_n (pc1 := 107) 0 d6_act_106 rfl rfl ?_
              refine V_vv (pc1 := 110) (w6_actFlag g hk   I L ) (nd_l0 hk) (nd_b0 hk) s6_actFlag l6_154 rfl rfl ⟨Nat.le_of_ble_eq_true rfl, Nat.le_of_ble_eq_true rfl, Nat.le_refl _, Nat.le_refl _⟩ (Nat.le_of_ble_eq_true rfl) rfl d6_act_107 rfl ?_
              refine V_goto (tgt := 137) d6_act_110 (by decide) ?_
              exact key11 _ (by first | rfl | (simp only [if_neg h1, if_neg h2, if_neg h3, if_neg h4, if_neg h6, if_pos h7]; done) | (simp only [if_neg h1, if_neg h2, if_neg h3, if_neg h4, if_neg h6, if_pos h7]; rfl)) _ (by first | rfl | (simp only [if_neg h1, if_neg h2, if_neg h3, if_neg h4, if_neg h6, if_pos h7]; done) | (simp only [if_neg h1, if_neg h2, if_neg h3, if_neg h4, if_neg h6, if_pos h7]; rfl)) _ (lvsub_p [0, 1] rfl)
            · skip
              by_cases h8 : I k 8 = 7
              · refine V_tsIn 7 h8 d6_act_4 (by decide) (by decide) (off := 109) (tgt := 113) (by decide) (by decide) ?_
                refine V_aload_n (pc1 := 114) 0 d6_act_113 rfl rfl ?_
                refine V_iload_n (pc1 := 115) 1 d6_act_114 rfl rfl ?_
                refine V_vv (pc1 := 118) (w6_actDelimiter g hk x  I L ) (nd_l0 hk) (nd_b0 hk) s6_actDelimiter l6_157 rfl rfl ⟨Nat.le_of_ble_eq_true rfl, Nat.le_of_ble_eq_true rfl, Nat.le_refl _, Nat.le_refl _⟩ (Nat.le_of_ble_eq_true rfl) rfl d6_act_115 rfl ?_
                refine V_goto (tgt := 137) d6_act_118 (by decide) ?_
                exact key11 _ (by first | rfl | (simp only [if_neg h1, if_neg h2, if_neg h3, if_neg h4, if_neg h6, if_neg h7, if_pos h8]; done) | (simp only [if_neg h1, if_neg h2, if_neg h3, if_neg h4, if_neg h6, if_neg h7, if_pos h8]; rfl)) _ (by first | rfl | (simp only [if_neg h1, if_neg h2, if_neg h3, if_neg h4, if_neg h6, if_neg h7, if_pos h8]; done) | (simp only [if_neg h1, if_neg h2, if_neg h3, if_neg h4, if_neg h6, if_neg h7, if_pos h8]; rfl)) _ (lvsub_p [0, 1] rfl)
              · skip
                by_cases h9 : I k 8 = 8
                · refine V_tsIn 8 h9 d6_act_4 (by decide) (by decide) (off := 117) (tgt := 121) (by decide) (by decide) ?_
                  refine V_aload_n (pc1 := 122) 0 d6_act_121 rfl rfl ?_
                  refine V_iload_n (pc1 := 123) 1 d6_act_122 rfl rfl ?_
                  refine V_vv (pc1 := 126) (w6_actIntermission g hk x  I L hv) (nd_l0 hk) (nd_b0 hk) s6_actIntermission l6_160 rfl rfl ⟨Nat.le_of_ble_eq_true rfl, Nat.le_of_ble_eq_true rfl, Nat.le_refl _, Nat.le_refl _⟩ (Nat.le_of_ble_eq_true rfl) rfl d6_act_123 rfl ?_
                  refine V_goto (tgt := 137) d6_act_126 (by decide) ?_
                  exact key11 _ (by first | rfl | (simp only [if_neg h1, if_neg h2, if_neg h3, if_neg h4, if_neg h6, if_neg h7, if_neg h8, if_pos h9]; done) | (simp only [if_neg h1, if_neg h2, if_neg h3, if_neg h4, if_neg h6, if_neg h7, if_neg h8, if_pos h9]; rfl)) _ (by first | rfl | (simp only [if_neg h1, if_neg h2, if_neg h3, if_neg h4, if_neg h6, if_neg h7, if_neg h8, if_pos h9]; done) | (simp only [if_neg h1, if_neg h2, if_neg h3, if_neg h4, if_neg h6, if_neg h7, if_neg h8, if_pos h9]; rfl)) _ (lvsub_p [0, 1] rfl)
                · skip
                  by_cases h10 : I k 8 = 9
                  · refine V_tsIn 9 h10 d6_act_4 (by decide) (by decide) (off := 125) (tgt := 129) (by decide) (by decide) ?_
                    refine V_aload_n (pc1 := 130) 0 d6_act_129 rfl rfl ?_
                    refine V_iload_n (pc1 := 131) 1 d6_act_130 rfl rfl ?_
                    refine V_vv (pc1 := 134) (w6_actSuspend g hk x  I L hv) (nd_l0 hk) (nd_b0 hk) s6_actSuspend l6_163 rfl rfl ⟨Nat.le_of_ble_eq_true rfl, Nat.le_of_ble_eq_true rfl, Nat.le_refl _, Nat.le_refl _⟩ (Nat.le_of_ble_eq_true rfl) rfl d6_act_131 rfl ?_
                    refine V_goto (tgt := 137) d6_act_134 (by decide) ?_
                    exact key11 _ (by first | rfl | (simp only [if_neg h1, if_neg h2, if_neg h3, if_neg h4, if_neg h6, if_neg h7, if_neg h8, if_neg h9, if_pos h10]; done) | (simp only [if_neg h1, if_neg h2, if_neg h3, if_neg h4, if_neg h6, if_neg h7, if_neg h8, if_neg h9, if_pos h10]; rfl)) _ (by first | rfl | (simp only [if_neg h1, if_neg h2, if_neg h3, if_neg h4, if_neg h6, if_neg h7, if_neg h8, if_neg h9, if_pos h10]; done) | (simp only [if_neg h1, if_neg h2, if_neg h3, if_neg h4, if_neg h6, if_neg h7, if_neg h8, if_neg h9, if_pos h10]; rfl)) _ (lvsub_p [0, 1] rfl)
                  · skip
                    refine V_tsOut (tgt := 137) d6_act_4 (fun i a b => by
                        have hh : i = 1 ∨ i = 2 ∨ i = 3 ∨ i = 4 ∨ i = 5 ∨ i = 6 ∨ i = 7 ∨ i = 8 ∨ i = 9 := by omega
                        rcases hh with rfl | rfl | rfl | rfl | rfl | rfl | rfl | rfl | rfl
                        · exact ts_ne (by decide) h1
                        · exact ts_ne (by decide) h2
                        · exact ts_ne (by decide) h3
                        · exact ts_ne (by decide) h4
                        · exact ts_ne (by decide) h6
                        · exact ts_ne (by decide) h7
                        · exact ts_ne (by decide) h8
                        · exact ts_ne (by decide) h9
                        · exact ts_ne (by decide) h10
                        ) (by decide) ?_
                    exact key11 _ (by first | rfl | (simp only [if_neg h1, if_neg h2, if_neg h3, if_neg h4, if_neg h6, if_neg h7, if_neg h8, if_neg h9, if_neg h10]; done) | (simp only [if_neg h1, if_neg h2, if_neg h3, if_neg h4, if_neg h6, if_neg h7, if_neg h8, if_neg h9, if_neg h10]; rfl)) _ (by first | rfl | (simp only [if_neg h1, if_neg h2, if_neg h3, if_neg h4, if_neg h6, if_neg h7, if_neg h8, if_neg h9, if_neg h10]; done) | (simp only [if_neg h1, if_neg h2, if_neg h3, if_neg h4, if_neg h6, if_neg h7, if_neg h8, if_neg h9, if_neg h10]; rfl)) _ (lvsub_p [0, 1] rfl)
theorem w6_act (g : GlT) {k : Nat} {l : Nat} (hk : okN k l) (x : Int32) (I : Nat → Nat → Int32) (L : Nat → Nat → Int64) (hv : nV k I) : Call g (k6_act, 5, 0, 0) [.ref (xA g k), .int x] (I, L, R0, 305) (Qv (i6_act k l x I L) (m6_act k l x I L)) := Call.of (by decide) (Nat.le_of_ble_eq_true rfl) rfl (v6_act g hk x  I L hv _ (And.intro rfl rfl))
theorem x6_act {k : Nat} {l : Nat} {x : Int32} {I : Nat → Nat → Int32} {L : Nat → Nat → Int64} {aa : Nat} (h0 : aa ≠ k) (h1 : aa ≠ k + 1) (h2 : aa ≠ k + 2) (h3 : aa ≠ k + 3) (h4 : aa ≠ k + 4) (h5 : aa ≠ k + 5) (h6 : aa ≠ k + 6) (h7 : aa ≠ k + 7) (h8 : aa ≠ k + 8) (h9 : aa ≠ k + 9) (h10 : aa ≠ k + 10) (h11 : aa ≠ k + 15) : i6_act k l x I L aa = I aa := by
  first | (simp only [i6_act]; done) | (simp only [i6_act]; (try (repeat' split)) <;> first | rfl | (simp [uI_off, h0, h1, h2, h3, h4, h5, h6, h7, h8, h9, h10, h11, x6_actBusOff, x6_actDelimiter, x6_actFlag, x6_actIdle, x6_actIntermission, x6_actJoining, x6_actStuffedPart, x6_actSuspend, x6_actTail]; done))
theorem y6_act {k : Nat} {l : Nat} {x : Int32} {I : Nat → Nat → Int32} {L : Nat → Nat → Int64} {aa : Nat} (h0 : aa ≠ k) (h1 : aa ≠ k + 15) : m6_act k l x I L aa = L aa := by
  first | (simp only [m6_act]; done) | (simp only [m6_act]; (try (repeat' split)) <;> first | rfl | (simp [uL_off, h0, h1, y6_actIdle, y6_actIntermission, y6_actStuffedPart, y6_actSuspend]; done))
