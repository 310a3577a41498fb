theorem nI_dec {i : Nat} (h : 0 < i) : nI i - 1 = nI (i - 1) := by
  obtain ⟨j, rfl⟩ : ∃ j, i = j + 1 := ⟨i - 1, by omega⟩
  exact nI_pred j
theorem nI_dec2 {i : Nat} (h : 0 < i) : nI i + Int32.ofInt (-1) = nI (i - 1) := by
  obtain ⟨j, rfl⟩ : ∃ j, i = j + 1 := ⟨i - 1, by omega⟩
  rw [vc_m1]
  exact pk_m1 j

theorem has_nat {f x : Int32} {s : Nat} (hf : f = nI s) (hs : s < 2 ^ 31) (h1 : ¬ x < 0) (h2 : ¬ f ≤ x) : ∃ p, p < s ∧ x = nI p := by
  subst hf
  obtain ⟨j, hj, rfl⟩ := nI_of h1
  refine ⟨j, ?_, rfl⟩
  rcases Nat.lt_or_ge j s with h | h
  · exact h
  · exact absurd (nI_le h (by omega)) h2

def r3_isFull (k : Nat) (c : Nat) (I : Nat → Nat → Int32) (L : Nat → Nat → Int64) : Bool := (if I k 3 < nI c then false else true)
set_option maxRecDepth 4000 in
theorem v3_isFull (g : GlT) {k : Nat} {c : Nat} (hk : okF k c) (I : Nat → Nat → Int32) (L : Nat → Nat → Int64) (Q : Option Value → MemT → Prop) (hq : Q (some (.int (bI (r3_isFull k c I L)))) (I, L, R0, 305)) : V g (k3_isFull, 1, 0, 0) 0 0 0 [(0, .ref (xA g k))] [] (I, L, R0, 305) Q := by
  refine V_aload_n (pc1 := 1) 0 d3_isFull_0 rfl rfl ?_
  refine V_geti (pc1 := 4) (fl_l0 hk) (fl_b0 hk) f3_27 (fun _ => rfl) rfl d3_isFull_1 rfl ?_
  refine V_aload_n (pc1 := 5) 0 d3_isFull_4 rfl rfl ?_
  refine V_getr (pc1 := 8) (fl_l0 hk) (fl_b0 hk) f3_15 (fun _ => rfl) (fl_r0_0 hk) d3_isFull_5 rfl ?_
  refine V_alen (pc1 := 9) (a := 0) (v := nI c) (fl_l1 hk) (fl_b1 hk) rfl d3_isFull_8 rfl ?_
  have key2 : ∀ (y17_0 : Int32), y17_0 = bI (if I k 3 < nI c then false else true) → ∀ (lv : List (Nat × Value)), lvsub [(0, .ref (xA g k))] lv → V g (k3_isFull, 1, 0, 0) 0 0 17 lv [.int y17_0] (I, L, R0, 305) Q := by
    intro y17_0 ey17_0
    subst ey17_0
    intro lv hlv
    refine V_lv hlv ?_
    refine V_zret rfl (bI_or _) d3_isFull_17 (Nat.zero_le _) (Nat.zero_le _) ?_
    have hq2 := hq
    simp only [r3_isFull] at hq2
    exact hq2
  refine V_icmp_lt (tgt := 16) (pc1 := 12) d3_isFull_9 (by decide) rfl (fun h1 => ?_) (fun h1 => ?_)
  · skip
    refine V_iconst (pc1 := 17) d3_isFull_16 vc_0 rfl ?_
    exact key2 _ (by first | rfl | (simp only [if_pos h1]; done) | (simp only [if_pos h1]; rfl)) _ (lvsub_p [0] rfl)
  · skip
    refine V_iconst (pc1 := 13) d3_isFull_12 vc_1 rfl ?_
    refine V_goto (tgt := 17) d3_isFull_13 (by decide) ?_
    exact key2 _ (by first | rfl | (simp only [if_neg h1]; done) | (simp only [if_neg h1]; rfl)) _ (lvsub_p [0] rfl)
theorem w3_isFull (g : GlT) {k : Nat} {c : Nat} (hk : okF k c) (I : Nat → Nat → Int32) (L : Nat → Nat → Int64) : Call g (k3_isFull, 1, 0, 0) [.ref (xA g k)] (I, L, R0, 305) (Qi (bI (r3_isFull k c I L)) (I) L) := Call.of (by decide) (Nat.le_of_ble_eq_true rfl) rfl (v3_isFull g hk   I L  _ (And.intro rfl rfl))

def r3_has (k : Nat) (c : Nat) (x : Int32) (I : Nat → Nat → Int32) (L : Nat → Nat → Int64) : Bool := (if (x < 0) ∨ (I k 3 ≤ x) then false else true)
set_option maxRecDepth 4000 in
theorem v3_has (g : GlT) {k : Nat} {c : Nat} (hk : okF k c) (x : Int32) (I : Nat → Nat → Int32) (L : Nat → Nat → Int64) (Q : Option Value → MemT → Prop) (hq : Q (some (.int (bI (r3_has k c x I L)))) (I, L, R0, 305)) : V g (k3_has, 1, 0, 0) 0 0 0 [(0, .ref (xA g k)), (1, .int x)] [] (I, L, R0, 305) Q := by
  refine V_iload_n (pc1 := 1) 1 d3_has_0 rfl rfl ?_
  have key6 : ∀ (y17_0 : Int32), y17_0 = bI (if (x < 0) ∨ (I k 3 ≤ x) then false else true) → ∀ (lv : List (Nat × Value)), lvsub [(0, .ref (xA g k)), (1, .int x)] lv → V g (k3_has, 1, 0, 0) 0 0 17 lv [.int y17_0] (I, L, R0, 305) Q := by
    intro y17_0 ey17_0
    subst ey17_0
    intro lv hlv
    refine V_lv hlv ?_
    refine V_zret rfl (bI_or _) d3_has_17 (Nat.zero_le _) (Nat.zero_le _) ?_
    have hq2 := hq
    simp only [r3_has] at hq2
    exact hq2
  have k2 : ((x < 0) ∨ (I k 3 ≤ x)) → V g (k3_has, 1, 0, 0) 0 0 16 [(0, .ref (xA g k)), (1, .int x)] [] (I, L, R0, 305) Q := by
    intro h1
    refine V_iconst (pc1 := 17) d3_has_16 vc_0 rfl ?_
    exact key6 _ (by first | rfl | (simp only [if_pos h1]; done) | (simp only [if_pos h1]; rfl)) _ (lvsub_p [0, 1] rfl)
  have k3 : ¬ ((x < 0) ∨ (I k 3 ≤ x)) → V g (k3_has, 1, 0, 0) 0 0 12 [(0, .ref (xA g k)), (1, .int x)] [] (I, L, R0, 305) Q := by
    intro h1
    refine V_iconst (pc1 := 13) d3_has_12 vc_1 rfl ?_
    refine V_goto (tgt := 17) d3_has_13 (by decide) ?_
    exact key6 _ (by first | rfl | (simp only [if_neg h1]; done) | (simp only [if_neg h1]; rfl)) _ (lvsub_p [0, 1] rfl)
  refine V_if_lt (tgt := 16) (pc1 := 4) d3_has_1 (by decide) rfl (fun h4 => ?_) (fun h4 => ?_)
  · skip
    exact k2 (Or.inl h4)
  · skip
    refine V_iload_n (pc1 := 5) 1 d3_has_4 rfl rfl ?_
    refine V_aload_n (pc1 := 6) 0 d3_has_5 rfl rfl ?_
    refine V_geti (pc1 := 9) (fl_l0 hk) (fl_b0 hk) f3_27 (fun _ => rfl) rfl d3_has_6 rfl ?_
    refine V_icmp_ge (tgt := 16) (pc1 := 12) d3_has_9 (by decide) rfl (fun h5 => ?_) (fun h5 => ?_)
    · skip
      exact k2 (Or.inr h5)
    · skip
      exact k3 (fun z => z.elim h4 h5)
theorem w3_has (g : GlT) {k : Nat} {c : Nat} (hk : okF k c) (x : Int32) (I : Nat → Nat → Int32) (L : Nat → Nat → Int64) : Call g (k3_has, 1, 0, 0) [.ref (xA g k), .int x] (I, L, R0, 305) (Qi (bI (r3_has k c x I L)) (I) L) := Call.of (by decide) (Nat.le_of_ble_eq_true rfl) rfl (v3_has g hk x  I L  _ (And.intro rfl rfl))

theorem has_p {k c : Nat} {x : Int32} {I : Nat → Nat → Int32} {L : Nat → Nat → Int64} {s : Nat} (hs : I k 3 = nI s) (hc : s ≤ 6) (h : r3_has k c x I L = true) : ∃ p, p < s ∧ x = nI p := by
  unfold r3_has at h
  split at h
  · cases h
  · rename_i h2
    exact has_nat hs (by omega) (fun e => h2 (Or.inl e)) (fun e => h2 (Or.inr e))

def r3_keyAt (k : Nat) (c : Nat) (x : Int32) (I : Nat → Nat → Int32) (L : Nat → Nat → Int64) : Int32 := (if (r3_has k c x I L) = true then I (k + 1) (x.toNatClampNeg) else (-5))
set_option maxRecDepth 4000 in
theorem v3_keyAt (g : GlT) {k : Nat} {c : Nat} (hk : okF k c) (x : Int32) (s : Nat) (hc : s ≤ c) (I : Nat → Nat → Int32) (L : Nat → Nat → Int64) (hs : I k 3 = nI s) (Q : Option Value → MemT → Prop) (hq : Q (some (.int (r3_keyAt k c x I L))) (I, L, R0, 305)) : V g (k3_keyAt, 2, 0, 0) 0 0 0 [(0, .ref (xA g k)), (1, .int x)] [] (I, L, R0, 305) Q := by
  refine V_aload_n (pc1 := 1) 0 d3_keyAt_0 rfl rfl ?_
  refine V_iload_n (pc1 := 2) 1 d3_keyAt_1 rfl rfl ?_
  refine V_vi (pc1 := 5) (w3_has g hk x  I L ) (fl_l0 hk) (fl_b0 hk) s3_has l3_34 rfl rfl ⟨Nat.le_of_ble_eq_true rfl, Nat.le_of_ble_eq_true rfl, Nat.le_refl _, Nat.le_refl _⟩ (Nat.le_of_ble_eq_true rfl) rfl d3_keyAt_2 rfl ?_
  have key2 : ∀ (z19_1 : Int32), z19_1 = (if (r3_has k c x I L) = true then nI (x.toNatClampNeg) else x) → ∀ (y19_0 : Int32), y19_0 = (if (r3_has k c x I L) = true then I (k + 1) (x.toNatClampNeg) else (-5)) → ∀ (lv : List (Nat × Value)), lvsub [(0, .ref (xA g k)), (1, .int z19_1)] lv → V g (k3_keyAt, 2, 0, 0) 0 0 19 lv [.int y19_0] (I, L, R0, 305) Q := by
    intro z19_1 ez19_1 y19_0 ey19_0
    subst ez19_1
    subst ey19_0
    intro lv hlv
    refine V_lv hlv ?_
    refine V_iret rfl d3_keyAt_19 (Nat.zero_le _) (Nat.zero_le _) ?_
    have hq2 := hq
    simp only [r3_keyAt] at hq2
    exact hq2
  refine V_beq (tgt := 17) (pc1 := 8) d3_keyAt_5 (by decide) rfl (fun h1 => ?_) (fun h1 => ?_)
  · skip
    refine V_bipush (pc1 := 19) d3_keyAt_17 vb_m5 rfl ?_
    exact key2 _ (by first | rfl | (simp only [if_neg h1]; done) | (simp only [if_neg h1]; rfl)) _ (by first | rfl | (simp only [if_neg h1]; done) | (simp only [if_neg h1]; rfl)) _ (lvsub_p [0, 1] rfl)
  · skip
    obtain ⟨p, hp, rfl⟩ := has_p hs (by have := fl_cap hk; omega) h1
    have hp3 : (nI p).toNatClampNeg = p := nI_clamp (by have := fl_cap hk; omega)
    refine V_aload_n (pc1 := 9) 0 d3_keyAt_8 rfl rfl ?_
    refine V_getr (pc1 := 12) (fl_l0 hk) (fl_b0 hk) f3_15 (fun _ => rfl) (fl_r0_0 hk) d3_keyAt_9 rfl ?_
    refine V_iload_n (pc1 := 13) 1 d3_keyAt_12 rfl rfl ?_
    refine V_iald2 (pc1 := 14) p (fl_l1 hk) (fl_b1 hk) rfl (by omega) rfl d3_keyAt_13 rfl ?_
    refine V_goto (tgt := 19) d3_keyAt_14 (by decide) ?_
    exact key2 _ (by first | rfl | (simp only [if_pos h1, hp3]; done) | (simp only [if_pos h1, hp3]; rfl)) _ (by first | rfl | (simp only [if_pos h1, hp3]; done) | (simp only [if_pos h1, hp3]; rfl)) _ (lvsub_p [0, 1] rfl)
theorem w3_keyAt (g : GlT) {k : Nat} {c : Nat} (hk : okF k c) (x : Int32) (s : Nat) (hc : s ≤ c) (I : Nat → Nat → Int32) (L : Nat → Nat → Int64) (hs : I k 3 = nI s) : Call g (k3_keyAt, 2, 0, 0) [.ref (xA g k), .int x] (I, L, R0, 305) (Qi (r3_keyAt k c x I L) (I) L) := Call.of (by decide) (Nat.le_of_ble_eq_true rfl) rfl (v3_keyAt g hk x s hc I L hs _ (And.intro rfl rfl))

def r3_lengthAt (k : Nat) (c : Nat) (x : Int32) (I : Nat → Nat → Int32) (L : Nat → Nat → Int64) : Int32 := (if (r3_has k c x I L) = true then I (k + 2) (x.toNatClampNeg) else (-5))
set_option maxRecDepth 4000 in
theorem v3_lengthAt (g : GlT) {k : Nat} {c : Nat} (hk : okF k c) (x : Int32) (s : Nat) (hc : s ≤ c) (I : Nat → Nat → Int32) (L : Nat → Nat → Int64) (hs : I k 3 = nI s) (Q : Option Value → MemT → Prop) (hq : Q (some (.int (r3_lengthAt k c x I L))) (I, L, R0, 305)) : V g (k3_lengthAt, 2, 0, 0) 0 0 0 [(0, .ref (xA g k)), (1, .int x)] [] (I, L, R0, 305) Q := by
  refine V_aload_n (pc1 := 1) 0 d3_lengthAt_0 rfl rfl ?_
  refine V_iload_n (pc1 := 2) 1 d3_lengthAt_1 rfl rfl ?_
  refine V_vi (pc1 := 5) (w3_has g hk x  I L ) (fl_l0 hk) (fl_b0 hk) s3_has l3_34 rfl rfl ⟨Nat.le_of_ble_eq_true rfl, Nat.le_of_ble_eq_true rfl, Nat.le_refl _, Nat.le_refl _⟩ (Nat.le_of_ble_eq_true rfl) rfl d3_lengthAt_2 rfl ?_
  have key2 : ∀ (z19_1 : Int32), z19_1 = (if (r3_has k c x I L) = true then nI (x.toNatClampNeg) else x) → ∀ (y19_0 : Int32), y19_0 = (if (r3_has k c x I L) = true then I (k + 2) (x.toNatClampNeg) else (-5)) → ∀ (lv : List (Nat × Value)), lvsub [(0, .ref (xA g k)), (1, .int z19_1)] lv → V g (k3_lengthAt, 2, 0, 0) 0 0 19 lv [.int y19_0] (I, L, R0, 305) Q := by
    intro z19_1 ez19_1 y19_0 ey19_0
    subst ez19_1
    subst ey19_0
    intro lv hlv
    refine V_lv hlv ?_
    refine V_iret rfl d3_lengthAt_19 (Nat.zero_le _) (Nat.zero_le _) ?_
    have hq2 := hq
    simp only [r3_lengthAt] at hq2
    exact hq2
  refine V_beq (tgt := 17) (pc1 := 8) d3_lengthAt_5 (by decide) rfl (fun h1 => ?_) (fun h1 => ?_)
  · skip
    refine V_bipush (pc1 := 19) d3_lengthAt_17 vb_m5 rfl ?_
    exact key2 _ (by first | rfl | (simp only [if_neg h1]; done) | (simp only [if_neg h1]; rfl)) _ (by first | rfl | (simp only [if_neg h1]; done) | (simp only [if_neg h1]; rfl)) _ (lvsub_p [0, 1] rfl)
  · skip
    obtain ⟨p, hp, rfl⟩ := has_p hs (by have := fl_cap hk; omega) h1
    have hp3 : (nI p).toNatClampNeg = p := nI_clamp (by have := fl_cap hk; omega)
    refine V_aload_n (pc1 := 9) 0 d3_lengthAt_8 rfl rfl ?_
    refine V_getr (pc1 := 12) (fl_l0 hk) (fl_b0 hk) f3_21 (fun _ => rfl) (fl_r0_1 hk) d3_lengthAt_9 rfl ?_
    refine V_iload_n (pc1 := 13) 1 d3_lengthAt_12 rfl rfl ?_
    refine V_iald2 (pc1 := 14) p (fl_l2 hk) (fl_b2 hk) rfl (by omega) rfl d3_lengthAt_13 rfl ?_
    refine V_goto (tgt := 19) d3_lengthAt_14 (by decide) ?_
    exact key2 _ (by first | rfl | (simp only [if_pos h1, hp3]; done) | (simp only [if_pos h1, hp3]; rfl)) _ (by first | rfl | (simp only [if_pos h1, hp3]; done) | (simp only [if_pos h1, hp3]; rfl)) _ (lvsub_p [0, 1] rfl)
theorem w3_lengthAt (g : GlT) {k : Nat} {c : Nat} (hk : okF k c) (x : Int32) (s : Nat) (hc : s ≤ c) (I : Nat → Nat → Int32) (L : Nat → Nat → Int64) (hs : I k 3 = nI s) : Call g (k3_lengthAt, 2, 0, 0) [.ref (xA g k), .int x] (I, L, R0, 305) (Qi (r3_lengthAt k c x I L) (I) L) := Call.of (by decide) (Nat.le_of_ble_eq_true rfl) rfl (v3_lengthAt g hk x s hc I L hs _ (And.intro rfl rfl))

def r3_dataAt (k : Nat) (c : Nat) (x : Int32) (I : Nat → Nat → Int32) (L : Nat → Nat → Int64) : Int32 := (if (r3_has k c x I L) = true then I (k + 3) (x.toNatClampNeg) else 0)
set_option maxRecDepth 4000 in
theorem v3_dataAt (g : GlT) {k : Nat} {c : Nat} (hk : okF k c) (x : Int32) (s : Nat) (hc : s ≤ c) (I : Nat → Nat → Int32) (L : Nat → Nat → Int64) (hs : I k 3 = nI s) (Q : Option Value → MemT → Prop) (hq : Q (some (.int (r3_dataAt k c x I L))) (I, L, R0, 305)) : V g (k3_dataAt, 2, 0, 0) 0 0 0 [(0, .ref (xA g k)), (1, .int x)] [] (I, L, R0, 305) Q := by
  refine V_aload_n (pc1 := 1) 0 d3_dataAt_0 rfl rfl ?_
  refine V_iload_n (pc1 := 2) 1 d3_dataAt_1 rfl rfl ?_
  refine V_vi (pc1 := 5) (w3_has g hk x  I L ) (fl_l0 hk) (fl_b0 hk) s3_has l3_34 rfl rfl ⟨Nat.le_of_ble_eq_true rfl, Nat.le_of_ble_eq_true rfl, Nat.le_refl _, Nat.le_refl _⟩ (Nat.le_of_ble_eq_true rfl) rfl d3_dataAt_2 rfl ?_
  have key2 : ∀ (z18_1 : Int32), z18_1 = (if (r3_has k c x I L) = true then nI (x.toNatClampNeg) else x) → ∀ (y18_0 : Int32), y18_0 = (if (r3_has k c x I L) = true then I (k + 3) (x.toNatClampNeg) else 0) → ∀ (lv : List (Nat × Value)), lvsub [(0, .ref (xA g k)), (1, .int z18_1)] lv → V g (k3_dataAt, 2, 0, 0) 0 0 18 lv [.int y18_0] (I, L, R0, 305) Q := by
    intro z18_1 ez18_1 y18_0 ey18_0
    subst ez18_1
    subst ey18_0
    intro lv hlv
    refine V_lv hlv ?_
    refine V_iret rfl d3_dataAt_18 (Nat.zero_le _) (Nat.zero_le _) ?_
    have hq2 := hq
    simp only [r3_dataAt] at hq2
    exact hq2
  refine V_beq (tgt := 17) (pc1 := 8) d3_dataAt_5 (by decide) rfl (fun h1 => ?_) (fun h1 => ?_)
  · skip
    refine V_iconst (pc1 := 18) d3_dataAt_17 vc_0 rfl ?_
    exact key2 _ (by first | rfl | (simp only [if_neg h1]; done) | (simp only [if_neg h1]; rfl)) _ (by first | rfl | (simp only [if_neg h1]; done) | (simp only [if_neg h1]; rfl)) _ (lvsub_p [0, 1] rfl)
  · skip
    obtain ⟨p, hp, rfl⟩ := has_p hs (by have := fl_cap hk; omega) h1
    have hp3 : (nI p).toNatClampNeg = p := nI_clamp (by have := fl_cap hk; omega)
    refine V_aload_n (pc1 := 9) 0 d3_dataAt_8 rfl rfl ?_
    refine V_getr (pc1 := 12) (fl_l0 hk) (fl_b0 hk) f3_24 (fun _ => rfl) (fl_r0_2 hk) d3_dataAt_9 rfl ?_
    refine V_iload_n (pc1 := 13) 1 d3_dataAt_12 rfl rfl ?_
    refine V_iald2 (pc1 := 14) p (fl_l3 hk) (fl_b3 hk) rfl (by omega) rfl d3_dataAt_13 rfl ?_
    refine V_goto (tgt := 18) d3_dataAt_14 (by decide) ?_
    exact key2 _ (by first | rfl | (simp only [if_pos h1, hp3]; done) | (simp only [if_pos h1, hp3]; rfl)) _ (by first | rfl | (simp only [if_pos h1, hp3]; done) | (simp only [if_pos h1, hp3]; rfl)) _ (lvsub_p [0, 1] rfl)
theorem w3_dataAt (g : GlT) {k : Nat} {c : Nat} (hk : okF k c) (x : Int32) (s : Nat) (hc : s ≤ c) (I : Nat → Nat → Int32) (L : Nat → Nat → Int64) (hs : I k 3 = nI s) : Call g (k3_dataAt, 2, 0, 0) [.ref (xA g k), .int x] (I, L, R0, 305) (Qi (r3_dataAt k c x I L) (I) L) := Call.of (by decide) (Nat.le_of_ble_eq_true rfl) rfl (v3_dataAt g hk x s hc I L hs _ (And.intro rfl rfl))

def r3_indexOf_2 (k : Nat) (c : Nat) (key : Int32) : Nat → Nat → (Nat → Nat → Int32) → (Nat → Nat → Int64) → Int32
  | 0, i, I, L => (-1)
  | n + 1, i, I, L => (if I (k + 1) i = key then nI i else r3_indexOf_2 k c key n (i + 1) I L)
set_option maxRecDepth 4000 in
theorem t3_indexOf_2 (g : GlT) {k : Nat} {c : Nat} (hk : okF k c) (key : Int32) (s : Nat) (hc : s ≤ c) : ∀ (n i : Nat) (I : Nat → Nat → Int32) (L : Nat → Nat → Int64), (hs : I k 3 = nI s) → (hn : i + n = s) → ∀ (Q : Option Value → MemT → Prop), Q (some (.int (r3_indexOf_2 k c key n i I L))) (I, L, R0, 305) → V g (k3_indexOf, 1, 0, 0) 0 0 2 [(0, .ref (xA g k)), (1, .int key), (2, .int (nI i))] [] (I, L, R0, 305) Q := by
  intro n
  induction n with
  | zero =>
    intro i I L hs hn Q hq
    have hs3 : (I k 3).toNatClampNeg = s := by rw [hs]; exact nI_clamp (by have := fl_cap hk; omega)
    refine V_iload_n (pc1 := 3) 2 d3_indexOf_2 rfl rfl ?_
    refine V_aload_n (pc1 := 4) 0 d3_indexOf_3 rfl rfl ?_
    refine V_geti (pc1 := 7) (fl_l0 hk) (fl_b0 hk) f3_27 (fun _ => rfl) hs d3_indexOf_4 rfl ?_
    refine V_icmp_ge (tgt := 28) (pc1 := 10) d3_indexOf_7 (by decide) rfl (fun _ => ?_) (fun h1 => absurd (by have := fl_cap hk; exact nI_le (by omega) (by omega)) h1)
    refine V_iconst (pc1 := 29) d3_indexOf_28 vc_m1 rfl ?_
    refine V_iret rfl d3_indexOf_29 (Nat.zero_le _) (Nat.zero_le _) ?_
    have hq2 := hq
    simp only [r3_indexOf_2, hs3] at hq2
    exact hq2
  | succ n ih =>
    intro i I L hs hn Q hq
    have hs3 : (I k 3).toNatClampNeg = s := by rw [hs]; exact nI_clamp (by have := fl_cap hk; omega)
    refine V_iload_n (pc1 := 3) 2 d3_indexOf_2 rfl rfl ?_
    refine V_aload_n (pc1 := 4) 0 d3_indexOf_3 rfl rfl ?_
    refine V_geti (pc1 := 7) (fl_l0 hk) (fl_b0 hk) f3_27 (fun _ => rfl) hs d3_indexOf_4 rfl ?_
    refine V_icmp_ge (tgt := 28) (pc1 := 10) d3_indexOf_7 (by decide) rfl (fun h1 => absurd h1 (by have := fl_cap hk; exact nI_ge (by omega) (by omega))) (fun _ => ?_)
    refine V_aload_n (pc1 := 11) 0 d3_indexOf_10 rfl rfl ?_
    refine V_getr (pc1 := 14) (fl_l0 hk) (fl_b0 hk) f3_15 (fun _ => rfl) (fl_r0_0 hk) d3_indexOf_11 rfl ?_
    refine V_iload_n (pc1 := 15) 2 d3_indexOf_14 rfl rfl ?_
    refine V_iald2 (pc1 := 16) i (fl_l1 hk) (fl_b1 hk) rfl (by omega) rfl d3_indexOf_15 rfl ?_
    refine V_iload_n (pc1 := 17) 1 d3_indexOf_16 rfl rfl ?_
    refine V_icmp_ne (tgt := 22) (pc1 := 20) d3_indexOf_17 (by decide) rfl (fun h2 => ?_) (fun h2 => ?_)
    · skip
      refine V_iinc (pc1 := 25) 2 (v := nI (i + 1)) d3_indexOf_22 rfl (nI_1 _) (Nat.le_of_ble_eq_true rfl) rfl rfl ?_
      refine V_goto (tgt := 2) d3_indexOf_25 (by decide) ?_
      refine V_lv (lv1 := [(0, .ref (xA g k)), (1, .int key), (2, .int (nI (i + 1)))]) (lvsub_p [1, 2, 0] rfl) ?_
      have hq2 := hq
      simp only [r3_indexOf_2, hs3, if_neg h2] at hq2
      exact ih (i + 1) I L hs (by omega) Q hq2
    · skip
      refine V_iload_n (pc1 := 21) 2 d3_indexOf_20 rfl rfl ?_
      refine V_iret rfl d3_indexOf_21 (Nat.zero_le _) (Nat.zero_le _) ?_
      have hq2 := hq
      simp only [r3_indexOf_2, hs3, if_pos h2] at hq2
      exact hq2
def r3_indexOf (k : Nat) (c : Nat) (key : Int32) (I : Nat → Nat → Int32) (L : Nat → Nat → Int64) : Int32 := r3_indexOf_2 k c key ((I k 3).toNatClampNeg) 0 I L
set_option maxRecDepth 4000 in
theorem v3_indexOf (g : GlT) {k : Nat} {c : Nat} (hk : okF k c) (key : Int32) (s : Nat) (hc : s ≤ c) (I : Nat → Nat → Int32) (L : Nat → Nat → Int64) (hs : I k 3 = nI s) (Q : Option Value → MemT → Prop) (hq : Q (some (.int (r3_indexOf k c key I L))) (I, L, R0, 305)) : V g (k3_indexOf, 1, 0, 0) 0 0 0 [(0, .ref (xA g k)), (1, .int key)] [] (I, L, R0, 305) Q := by
  have hs3 : (I k 3).toNatClampNeg = s := by rw [hs]; exact nI_clamp (by have := fl_cap hk; omega)
  refine V_iconst (pc1 := 1) d3_indexOf_0 vc_0 rfl ?_
  refine V_istore_n (pc1 := 2) d3_indexOf_1 (Nat.le_of_ble_eq_true rfl) rfl rfl ?_
  refine V_lv (lv1 := [(0, .ref (xA g k)), (1, .int key), (2, .int (nI 0))]) (lvsub_p [1, 2, 0] rfl) ?_
  have hq2 := hq
  simp only [r3_indexOf, hs3] at hq2
  exact t3_indexOf_2 g hk _ _ hc s 0 I L hs (by omega) Q hq2
theorem w3_indexOf (g : GlT) {k : Nat} {c : Nat} (hk : okF k c) (key : Int32) (s : Nat) (hc : s ≤ c) (I : Nat → Nat → Int32) (L : Nat → Nat → Int64) (hs : I k 3 = nI s) : Call g (k3_indexOf, 1, 0, 0) [.ref (xA g k), .int key] (I, L, R0, 305) (Qi (r3_indexOf k c key I L) (I) L) := Call.of (by decide) (Nat.le_of_ble_eq_true rfl) rfl (v3_indexOf g hk key s hc I L hs _ (And.intro rfl rfl))

def r3_placeFor_2 (k : Nat) (c : Nat) (key : Int32) : Nat → Nat → (Nat → Nat → Int32) → (Nat → Nat → Int64) → Int32
  | 0, i, I, L => nI ((I k 3).toNatClampNeg)
  | n + 1, i, I, L => (if I (k + 1) i ≤ key then r3_placeFor_2 k c key n (i + 1) I L else nI i)
set_option maxRecDepth 4000 in
theorem t3_placeFor_2 (g : GlT) {k : Nat} {c : Nat} (hk : okF k c) (key : Int32) (s : Nat) (hc : s ≤ c) : ∀ (n i : Nat) (I : Nat → Nat → Int32) (L : Nat → Nat → Int64), (hs : I k 3 = nI s) → (hn : i + n = s) → ∀ (Q : Option Value → MemT → Prop), Q (some (.int (r3_placeFor_2 k c key n i I L))) (I, L, R0, 305) → V g (k3_placeFor, 1, 0, 0) 0 0 2 [(0, .ref (xA g k)), (1, .int key), (2, .int (nI i))] [] (I, L, R0, 305) Q := by
  intro n
  induction n with
  | zero =>
    intro i I L hs hn Q hq
    have hs3 : (I k 3).toNatClampNeg = s := by rw [hs]; exact nI_clamp (by have := fl_cap hk; omega)
    refine V_iload_n (pc1 := 3) 2 d3_placeFor_2 rfl rfl ?_
    refine V_aload_n (pc1 := 4) 0 d3_placeFor_3 rfl rfl ?_
    refine V_geti (pc1 := 7) (fl_l0 hk) (fl_b0 hk) f3_27 (fun _ => rfl) hs d3_placeFor_4 rfl ?_
    refine V_icmp_ge (tgt := 28) (pc1 := 10) d3_placeFor_7 (by decide) rfl (fun _ => ?_) (fun h1 => absurd (by have := fl_cap hk; exact nI_le (by omega) (by omega)) h1)
    refine V_aload_n (pc1 := 29) 0 d3_placeFor_28 rfl rfl ?_
    refine V_geti (pc1 := 32) (fl_l0 hk) (fl_b0 hk) f3_27 (fun _ => rfl) hs d3_placeFor_29 rfl ?_
    refine V_iret rfl d3_placeFor_32 (Nat.zero_le _) (Nat.zero_le _) ?_
    have hq2 := hq
    simp only [r3_placeFor_2, hs3] at hq2
    exact hq2
  | succ n ih =>
    intro i I L hs hn Q hq
    have hs3 : (I k 3).toNatClampNeg = s := by rw [hs]; exact nI_clamp (by have := fl_cap hk; omega)
    refine V_iload_n (pc1 := 3) 2 d3_placeFor_2 rfl rfl ?_
    refine V_aload_n (pc1 := 4) 0 d3_placeFor_3 rfl rfl ?_
    refine V_geti (pc1 := 7) (fl_l0 hk) (fl_b0 hk) f3_27 (fun _ => rfl) hs d3_placeFor_4 rfl ?_
    refine V_icmp_ge (tgt := 28) (pc1 := 10) d3_placeFor_7 (by decide) rfl (fun h1 => absurd h1 (by have := fl_cap hk; exact nI_ge (by omega) (by omega))) (fun _ => ?_)
    refine V_aload_n (pc1 := 11) 0 d3_placeFor_10 rfl rfl ?_
    refine V_getr (pc1 := 14) (fl_l0 hk) (fl_b0 hk) f3_15 (fun _ => rfl) (fl_r0_0 hk) d3_placeFor_11 rfl ?_
    refine V_iload_n (pc1 := 15) 2 d3_placeFor_14 rfl rfl ?_
    refine V_iald2 (pc1 := 16) i (fl_l1 hk) (fl_b1 hk) rfl (by omega) rfl d3_placeFor_15 rfl ?_
    refine V_iload_n (pc1 := 17) 1 d3_placeFor_16 rfl rfl ?_
    refine V_icmp_le (tgt := 22) (pc1 := 20) d3_placeFor_17 (by decide) rfl (fun h2 => ?_) (fun h2 => ?_)
    · skip
      refine V_iinc (pc1 := 25) 2 (v := nI (i + 1)) d3_placeFor_22 rfl (nI_1 _) (Nat.le_of_ble_eq_true rfl) rfl rfl ?_
      refine V_goto (tgt := 2) d3_placeFor_25 (by decide) ?_
      refine V_lv (lv1 := [(0, .ref (xA g k)), (1, .int key), (2, .int (nI (i + 1)))]) (lvsub_p [1, 2, 0] rfl) ?_
      have hq2 := hq
      simp only [r3_placeFor_2, hs3, if_pos h2] at hq2
      exact ih (i + 1) I L hs (by omega) Q hq2
    · skip
      refine V_iload_n (pc1 := 21) 2 d3_placeFor_20 rfl rfl ?_
      refine V_iret rfl d3_placeFor_21 (Nat.zero_le _) (Nat.zero_le _) ?_
      have hq2 := hq
      simp only [r3_placeFor_2, hs3, if_neg h2] at hq2
      exact hq2
def r3_placeFor (k : Nat) (c : Nat) (key : Int32) (I : Nat → Nat → Int32) (L : Nat → Nat → Int64) : Int32 := r3_placeFor_2 k c key ((I k 3).toNatClampNeg) 0 I L
set_option maxRecDepth 4000 in
theorem v3_placeFor (g : GlT) {k : Nat} {c : Nat} (hk : okF k c) (key : Int32) (s : Nat) (hc : s ≤ c) (I : Nat → Nat → Int32) (L : Nat → Nat → Int64) (hs : I k 3 = nI s) (Q : Option Value → MemT → Prop) (hq : Q (some (.int (r3_placeFor k c key I L))) (I, L, R0, 305)) : V g (k3_placeFor, 1, 0, 0) 0 0 0 [(0, .ref (xA g k)), (1, .int key)] [] (I, L, R0, 305) Q := by
  have hs3 : (I k 3).toNatClampNeg = s := by rw [hs]; exact nI_clamp (by have := fl_cap hk; omega)
  refine V_iconst (pc1 := 1) d3_placeFor_0 vc_0 rfl ?_
  refine V_istore_n (pc1 := 2) d3_placeFor_1 (Nat.le_of_ble_eq_true rfl) rfl rfl ?_
  refine V_lv (lv1 := [(0, .ref (xA g k)), (1, .int key), (2, .int (nI 0))]) (lvsub_p [1, 2, 0] rfl) ?_
  have hq2 := hq
  simp only [r3_placeFor, hs3] at hq2
  exact t3_placeFor_2 g hk _ _ hc s 0 I L hs (by omega) Q hq2
theorem w3_placeFor (g : GlT) {k : Nat} {c : Nat} (hk : okF k c) (key : Int32) (s : Nat) (hc : s ≤ c) (I : Nat → Nat → Int32) (L : Nat → Nat → Int64) (hs : I k 3 = nI s) : Call g (k3_placeFor, 1, 0, 0) [.ref (xA g k), .int key] (I, L, R0, 305) (Qi (r3_placeFor k c key I L) (I) L) := Call.of (by decide) (Nat.le_of_ble_eq_true rfl) rfl (v3_placeFor g hk key s hc I L hs _ (And.intro rfl rfl))

def i3_insertAt_31 (k : Nat) (c : Nat) (p : Nat) (key : Int32) (ln : Int32) (dt : Int32) : Nat → Nat → (Nat → Nat → Int32) → (Nat → Nat → Int64) → (Nat → Nat → Int32)
  | 0, i, I, L => uI (uI (uI (uI I (k + 1) p key) (k + 2) p ln) (k + 3) p dt) k 3 ((I k 3) + 1)
  | n + 1, i, I, L => i3_insertAt_31 k c p key ln dt n (i - 1) (uI (uI (uI I (k + 1) i (I (k + 1) (i - 1))) (k + 2) i (I (k + 2) (i - 1))) (k + 3) i (I (k + 3) (i - 1))) L
set_option maxRecDepth 4000 in
theorem t3_insertAt_31 (g : GlT) {k : Nat} {c : Nat} (hk : okF k c) (p : Nat) (key : Int32) (ln : Int32) (dt : Int32) (s : Nat) (hc : s < c) (hp : p ≤ s) : ∀ (n i : Nat) (I : Nat → Nat → Int32) (L : Nat → Nat → Int64), (hs : I k 3 = nI s) → (hn : i = p + n) → (hi : i ≤ s) → ∀ (Q : Option Value → MemT → Prop), Q (none) (i3_insertAt_31 k c p key ln dt n i I L, L, R0, 305) → V g (k3_insertAt, 1, 0, 0) 0 0 31 [(0, .ref (xA g k)), (1, .int (nI p)), (2, .int key), (3, .int ln), (4, .int dt), (5, .int (nI i))] [] (I, L, R0, 305) Q := by
  intro n
  induction n with
  | zero =>
    intro i I L hs hn hi Q hq
    have hs3 : (I k 3).toNatClampNeg = s := by rw [hs]; exact nI_clamp (by have := fl_cap hk; omega)
    refine V_iload (pc1 := 33) 5 d3_insertAt_31 rfl rfl ?_
    refine V_iload_n (pc1 := 34) 1 d3_insertAt_33 rfl rfl ?_
    refine V_icmp_le (tgt := 91) (pc1 := 37) d3_insertAt_34 (by decide) rfl (fun _ => ?_) (fun h1 => absurd (by have := fl_cap hk; exact nI_le (by omega) (by omega)) h1)
    refine V_aload_n (pc1 := 92) 0 d3_insertAt_91 rfl rfl ?_
    refine V_getr (pc1 := 95) (fl_l0 hk) (fl_b0 hk) f3_15 (fun _ => rfl) (fl_r0_0 hk) d3_insertAt_92 rfl ?_
    refine V_iload_n (pc1 := 96) 1 d3_insertAt_95 rfl rfl ?_
    refine V_iload_n (pc1 := 97) 2 d3_insertAt_96 rfl rfl ?_
    refine V_iast (pc1 := 98) p (fl_l1 hk) (fl_b1 hk) rfl (by omega) d3_insertAt_97 rfl ?_
    refine V_aload_n (pc1 := 99) 0 d3_insertAt_98 rfl rfl ?_
    refine V_getr (pc1 := 102) (fl_l0 hk) (fl_b0 hk) f3_21 (fun _ => rfl) (fl_r0_1 hk) d3_insertAt_99 rfl ?_
    refine V_iload_n (pc1 := 103) 1 d3_insertAt_102 rfl rfl ?_
    refine V_iload_n (pc1 := 104) 3 d3_insertAt_103 rfl rfl ?_
    refine V_iast (pc1 := 105) p (fl_l2 hk) (fl_b2 hk) rfl (by omega) d3_insertAt_104 rfl ?_
    refine V_aload_n (pc1 := 106) 0 d3_insertAt_105 rfl rfl ?_
    refine V_getr (pc1 := 109) (fl_l0 hk) (fl_b0 hk) f3_24 (fun _ => rfl) (fl_r0_2 hk) d3_insertAt_106 rfl ?_
    refine V_iload_n (pc1 := 110) 1 d3_insertAt_109 rfl rfl ?_
    refine V_iload (pc1 := 112) 4 d3_insertAt_110 rfl rfl ?_
    refine V_iast (pc1 := 113) p (fl_l3 hk) (fl_b3 hk) rfl (by omega) d3_insertAt_112 rfl ?_
    refine V_aload_n (pc1 := 114) 0 d3_insertAt_113 rfl rfl ?_
    refine V_dup (pc1 := 115) d3_insertAt_114 rfl rfl ?_
    refine V_geti (pc1 := 118) (fl_l0 hk) (fl_b0 hk) f3_27 (fun _ => rfl) ((congrFun (uI_off _ _ _ (show (k : Nat) ≠ k + 3 by omega)) _).trans ((congrFun (uI_off _ _ _ (show (k : Nat) ≠ k + 2 by omega)) _).trans (congrFun (uI_off _ _ _ (show (k : Nat) ≠ k + 1 by omega)) _))) d3_insertAt_115 rfl ?_
    refine V_iconst (pc1 := 119) d3_insertAt_118 vc_1 rfl ?_
    refine V_iadd (pc1 := 120) d3_insertAt_119 rfl ?_
    refine V_puti (pc1 := 123) (fl_l0 hk) (fl_b0 hk) f3_27 rfl rfl d3_insertAt_120 rfl ?_
    refine V_vret rfl d3_insertAt_123 (Nat.zero_le _) (Nat.zero_le _) ?_
    have hq2 := hq
    simp only [i3_insertAt_31, hs3] at hq2
    exact hq2
  | succ n ih =>
    intro i I L hs hn hi Q hq
    have hs3 : (I k 3).toNatClampNeg = s := by rw [hs]; exact nI_clamp (by have := fl_cap hk; omega)
    refine V_iload (pc1 := 33) 5 d3_insertAt_31 rfl rfl ?_
    refine V_iload_n (pc1 := 34) 1 d3_insertAt_33 rfl rfl ?_
    refine V_icmp_le (tgt := 91) (pc1 := 37) d3_insertAt_34 (by decide) rfl (fun h1 => absurd h1 (by have := fl_cap hk; exact nI_ge (by omega) (by omega))) (fun _ => ?_)
    refine V_aload_n (pc1 := 38) 0 d3_insertAt_37 rfl rfl ?_
    refine V_getr (pc1 := 41) (fl_l0 hk) (fl_b0 hk) f3_15 (fun _ => rfl) (fl_r0_0 hk) d3_insertAt_38 rfl ?_
    refine V_iload (pc1 := 43) 5 d3_insertAt_41 rfl rfl ?_
    refine V_aload_n (pc1 := 44) 0 d3_insertAt_43 rfl rfl ?_
    refine V_getr (pc1 := 47) (fl_l0 hk) (fl_b0 hk) f3_15 (fun _ => rfl) (fl_r0_0 hk) d3_insertAt_44 rfl ?_
    refine V_iload (pc1 := 49) 5 d3_insertAt_47 rfl rfl ?_
    refine V_iconst (pc1 := 50) d3_insertAt_49 vc_1 rfl ?_
    refine V_isub (pc1 := 51) d3_insertAt_50 rfl ?_
    refine V_iald2 (pc1 := 52) (i - 1) (fl_l1 hk) (fl_b1 hk) (nI_dec (by omega)) (by omega) rfl d3_insertAt_51 rfl ?_
    refine V_iast (pc1 := 53) i (fl_l1 hk) (fl_b1 hk) rfl (by omega) d3_insertAt_52 rfl ?_
    refine V_aload_n (pc1 := 54) 0 d3_insertAt_53 rfl rfl ?_
    refine V_getr (pc1 := 57) (fl_l0 hk) (fl_b0 hk) f3_21 (fun _ => rfl) (fl_r0_1 hk) d3_insertAt_54 rfl ?_
    refine V_iload (pc1 := 59) 5 d3_insertAt_57 rfl rfl ?_
    refine V_aload_n (pc1 := 60) 0 d3_insertAt_59 rfl rfl ?_
    refine V_getr (pc1 := 63) (fl_l0 hk) (fl_b0 hk) f3_21 (fun _ => rfl) (fl_r0_1 hk) d3_insertAt_60 rfl ?_
    refine V_iload (pc1 := 65) 5 d3_insertAt_63 rfl rfl ?_
    refine V_iconst (pc1 := 66) d3_insertAt_65 vc_1 rfl ?_
    refine V_isub (pc1 := 67) d3_insertAt_66 rfl ?_
    refine V_iald2 (pc1 := 68) (i - 1) (fl_l2 hk) (fl_b2 hk) (nI_dec (by omega)) (by omega) (congrFun (uI_off _ _ _ (show (k + 2 : Nat) ≠ k + 1 by omega)) _) d3_insertAt_67 rfl ?_
    refine V_iast (pc1 := 69) i (fl_l2 hk) (fl_b2 hk) rfl (by omega) d3_insertAt_68 rfl ?_
    refine V_aload_n (pc1 := 70) 0 d3_insertAt_69 rfl rfl ?_
    refine V_getr (pc1 := 73) (fl_l0 hk) (fl_b0 hk) f3_24 (fun _ => rfl) (fl_r0_2 hk) d3_insertAt_70 rfl ?_
    refine V_iload (pc1 := 75) 5 d3_insertAt_73 rfl rfl ?_
    refine V_aload_n (pc1 := 76) 0 d3_insertAt_75 rfl rfl ?_
    refine V_getr (pc1 := 79) (fl_l0 hk) (fl_b0 hk) f3_24 (fun _ => rfl) (fl_r0_2 hk) d3_insertAt_76 rfl ?_
    refine V_iload (pc1 := 81) 5 d3_insertAt_79 rfl rfl ?_
    refine V_iconst (pc1 := 82) d3_insertAt_81 vc_1 rfl ?_
    refine V_isub (pc1 := 83) d3_insertAt_82 rfl ?_
    refine V_iald2 (pc1 := 84) (i - 1) (fl_l3 hk) (fl_b3 hk) (nI_dec (by omega)) (by omega) ((congrFun (uI_off _ _ _ (show (k + 3 : Nat) ≠ k + 2 by omega)) _).trans (congrFun (uI_off _ _ _ (show (k + 3 : Nat) ≠ k + 1 by omega)) _)) d3_insertAt_83 rfl ?_
    refine V_iast (pc1 := 85) i (fl_l3 hk) (fl_b3 hk) rfl (by omega) d3_insertAt_84 rfl ?_
    refine V_iinc (pc1 := 88) 5 (v := nI (i - 1)) d3_insertAt_85 rfl (nI_dec2 (by omega)) (Nat.le_of_ble_eq_true rfl) rfl rfl ?_
    refine V_goto (tgt := 31) d3_insertAt_88 (by decide) ?_
    refine V_lv (lv1 := [(0, .ref (xA g k)), (1, .int (nI p)), (2, .int key), (3, .int ln), (4, .int dt), (5, .int (nI (i - 1)))]) (lvsub_p [1, 2, 3, 4, 5, 0] rfl) ?_
    have hq2 := hq
    simp only [i3_insertAt_31, hs3] at hq2
    exact ih (i - 1) (uI (uI (uI I (k + 1) i (I (k + 1) (i - 1))) (k + 2) i (I (k + 2) (i - 1))) (k + 3) i (I (k + 3) (i - 1))) L (((congrFun (uI_off _ _ _ (show (k : Nat) ≠ k + 3 by omega)) _).trans ((congrFun (uI_off _ _ _ (show (k : Nat) ≠ k + 2 by omega)) _).trans (congrFun (uI_off _ _ _ (show (k : Nat) ≠ k + 1 by omega)) _))).trans hs) (by omega) (by omega) Q hq2
def i3_insertAt (k : Nat) (c : Nat) (p : Nat) (key : Int32) (ln : Int32) (dt : Int32) (I : Nat → Nat → Int32) (L : Nat → Nat → Int64) : Nat → Nat → Int32 := i3_insertAt_31 k c p key ln dt (((I k 3).toNatClampNeg) - p) ((I k 3).toNatClampNeg) I L
set_option maxRecDepth 4000 in
theorem v3_insertAt (g : GlT) {k : Nat} {c : Nat} (hk : okF k c) (p : Nat) (key : Int32) (ln : Int32) (dt : Int32) (s : Nat) (hc : s < c) (hp : p ≤ s) (I : Nat → Nat → Int32) (L : Nat → Nat → Int64) (hs : I k 3 = nI s) (Q : Option Value → MemT → Prop) (hq : Q (none) (i3_insertAt k c p key ln dt I L, L, R0, 305)) : V g (k3_insertAt, 1, 0, 0) 0 0 0 [(0, .ref (xA g k)), (1, .int (nI p)), (2, .int key), (3, .int ln), (4, .int dt)] [] (I, L, R0, 305) Q := by
  have hs3 : (I k 3).toNatClampNeg = s := by rw [hs]; exact nI_clamp (by have := fl_cap hk; omega)
  refine V_aload_n (pc1 := 1) 0 d3_insertAt_0 rfl rfl ?_
  refine V_geti (pc1 := 4) (fl_l0 hk) (fl_b0 hk) f3_27 (fun _ => rfl) hs d3_insertAt_1 rfl ?_
  refine V_aload_n (pc1 := 5) 0 d3_insertAt_4 rfl rfl ?_
  refine V_getr (pc1 := 8) (fl_l0 hk) (fl_b0 hk) f3_15 (fun _ => rfl) (fl_r0_0 hk) d3_insertAt_5 rfl ?_
  refine V_alen (pc1 := 9) (a := 0) (v := nI c) (fl_l1 hk) (fl_b1 hk) rfl d3_insertAt_8 rfl ?_
  refine V_icmp_ge (tgt := 24) (pc1 := 12) d3_insertAt_9 (by decide) rfl (fun h1 => absurd h1 (by have := fl_cap hk; exact nI_ge (by omega) (by omega))) (fun _ => ?_)
  refine V_iload_n (pc1 := 13) 1 d3_insertAt_12 rfl rfl ?_
  refine V_if_lt (tgt := 24) (pc1 := 16) d3_insertAt_13 (by decide) rfl (fun h2 => absurd h2 (by have := fl_cap hk; exact nI_pos (by omega))) (fun _ => ?_)
  refine V_iload_n (pc1 := 17) 1 d3_insertAt_16 rfl rfl ?_
  refine V_aload_n (pc1 := 18) 0 d3_insertAt_17 rfl rfl ?_
  refine V_geti (pc1 := 21) (fl_l0 hk) (fl_b0 hk) f3_27 (fun _ => rfl) hs d3_insertAt_18 rfl ?_
  refine V_icmp_le (tgt := 25) (pc1 := 24) d3_insertAt_21 (by decide) rfl (fun _ => ?_) (fun h3 => absurd (by have := fl_cap hk; exact nI_le (by omega) (by omega)) h3)
  refine V_aload_n (pc1 := 26) 0 d3_insertAt_25 rfl rfl ?_
  refine V_geti (pc1 := 29) (fl_l0 hk) (fl_b0 hk) f3_27 (fun _ => rfl) hs d3_insertAt_26 rfl ?_
  refine V_istore (pc1 := 31) d3_insertAt_29 (Nat.le_of_ble_eq_true rfl) rfl rfl ?_
  refine V_lv (lv1 := [(0, .ref (xA g k)), (1, .int (nI p)), (2, .int key), (3, .int ln), (4, .int dt), (5, .int (nI s))]) (lvsub_p [1, 2, 3, 4, 5, 0] rfl) ?_
  have hq2 := hq
  simp only [i3_insertAt, hs3] at hq2
  exact t3_insertAt_31 g hk _ _ _ _ _ hc hp (s - p) s I L hs (by omega) (by omega) Q hq2
theorem w3_insertAt (g : GlT) {k : Nat} {c : Nat} (hk : okF k c) (p : Nat) (key : Int32) (ln : Int32) (dt : Int32) (s : Nat) (hc : s < c) (hp : p ≤ s) (I : Nat → Nat → Int32) (L : Nat → Nat → Int64) (hs : I k 3 = nI s) : Call g (k3_insertAt, 1, 0, 0) [.ref (xA g k), .int (nI p), .int key, .int ln, .int dt] (I, L, R0, 305) (Qv (i3_insertAt k c p key ln dt I L) L) := Call.of (by decide) (Nat.le_of_ble_eq_true rfl) rfl (v3_insertAt g hk p key ln dt s hc hp I L hs _ (And.intro rfl rfl))
theorem x3_insertAt_31 {k : Nat} {c : Nat} {p : Nat} {key : Int32} {ln : Int32} {dt : Int32} {aa : Nat} (h0 : aa ≠ k) (h1 : aa ≠ k + 1) (h2 : aa ≠ k + 2) (h3 : aa ≠ k + 3) : ∀ (n i : Nat) (I : Nat → Nat → Int32) (L : Nat → Nat → Int64), i3_insertAt_31 k c p key ln dt n i I L aa = I aa := by
  intro n
  induction n with
  | zero => intros; first | (simp only [i3_insertAt_31]; done) | (simp only [i3_insertAt_31]; (try (repeat' split)) <;> first | rfl | (simp [uI_off, h0, h1, h2, h3]; done))
  | succ n ih => intros; first | (simp only [i3_insertAt_31]; done) | (simp only [i3_insertAt_31]; (try (repeat' split)) <;> first | rfl | (simp [ih, uI_off, h0, h1, h2, h3]; done))
theorem x3_insertAt {k : Nat} {c : Nat} {p : Nat} {key : Int32} {ln : Int32} {dt : Int32} {I : Nat → Nat → Int32} {L : Nat → Nat → Int64} {aa : Nat} (h0 : aa ≠ k) (h1 : aa ≠ k + 1) (h2 : aa ≠ k + 2) (h3 : aa ≠ k + 3) : i3_insertAt k c p key ln dt I L aa = I aa := by
  first | (simp only [i3_insertAt]; done) | (simp only [i3_insertAt]; (try (repeat' split)) <;> first | rfl | (simp [uI_off, h0, h1, h2, h3, x3_insertAt_31 h0 h1 h2 h3]; done))

def i3_removeAt_21 (k : Nat) (c : Nat) (x : Int32) : Nat → Nat → Nat → (Nat → Nat → Int32) → (Nat → Nat → Int64) → (Nat → Nat → Int32)
  | 0, i, t, I, L => I
  | n + 1, i, t, I, L => i3_removeAt_21 k c x n (i + 1) t (uI (uI (uI I (k + 1) i (I (k + 1) (i + 1))) (k + 2) i (I (k + 2) (i + 1))) (k + 3) i (I (k + 3) (i + 1))) L
set_option maxRecDepth 4000 in
theorem t3_removeAt_21 (g : GlT) {k : Nat} {c : Nat} (hk : okF k c) (x : Int32) (s : Nat) (hc : s ≤ c) : ∀ (n i : Nat) (t : Nat) (I : Nat → Nat → Int32) (L : Nat → Nat → Int64), (hs : I k 3 = nI t) → (hn : i + n = t) → (ht : t < c) → ∀ (Q : Option Value → MemT → Prop), Q (none) (i3_removeAt_21 k c x n i t I L, L, R0, 305) → V g (k3_removeAt, 2, 0, 0) 0 0 21 [(0, .ref (xA g k)), (2, .int (nI i))] [] (I, L, R0, 305) Q := by
  intro n
  induction n with
  | zero =>
    intro i t I L hs hn ht Q hq
    refine V_iload_n (pc1 := 22) 1 d3_removeAt_21 rfl rfl ?_
    refine V_aload_n (pc1 := 23) 0 d3_removeAt_22 rfl rfl ?_
    refine V_geti (pc1 := 26) (fl_l0 hk) (fl_b0 hk) f3_27 (fun _ => rfl) hs d3_removeAt_23 rfl ?_
    refine V_icmp_ge (tgt := 77) (pc1 := 29) d3_removeAt_26 (by decide) rfl (fun _ => ?_) (fun h1 => absurd (by have := fl_cap hk; exact nI_le (by omega) (by omega)) h1)
    refine V_vret rfl d3_removeAt_77 (Nat.zero_le _) (Nat.zero_le _) ?_
    have hq2 := hq
    simp only [i3_removeAt_21] at hq2
    exact hq2
  | succ n ih =>
    intro i t I L hs hn ht Q hq
    refine V_iload_n (pc1 := 22) 1 d3_removeAt_21 rfl rfl ?_
    refine V_aload_n (pc1 := 23) 0 d3_removeAt_22 rfl rfl ?_
    refine V_geti (pc1 := 26) (fl_l0 hk) (fl_b0 hk) f3_27 (fun _ => rfl) hs d3_removeAt_23 rfl ?_
    refine V_icmp_ge (tgt := 77) (pc1 := 29) d3_removeAt_26 (by decide) rfl (fun h1 => absurd h1 (by have := fl_cap hk; exact nI_ge (by omega) (by omega))) (fun _ => ?_)
    refine V_aload_n (pc1 := 30) 0 d3_removeAt_29 rfl rfl ?_
    refine V_getr (pc1 := 33) (fl_l0 hk) (fl_b0 hk) f3_15 (fun _ => rfl) (fl_r0_0 hk) d3_removeAt_30 rfl ?_
    refine V_iload_n (pc1 := 34) 1 d3_removeAt_33 rfl rfl ?_
    refine V_aload_n (pc1 := 35) 0 d3_removeAt_34 rfl rfl ?_
    refine V_getr (pc1 := 38) (fl_l0 hk) (fl_b0 hk) f3_15 (fun _ => rfl) (fl_r0_0 hk) d3_removeAt_35 rfl ?_
    refine V_iload_n (pc1 := 39) 1 d3_removeAt_38 rfl rfl ?_
    refine V_iconst (pc1 := 40) d3_removeAt_39 vc_1 rfl ?_
    refine V_iadd (pc1 := 41) d3_removeAt_40 rfl ?_
    refine V_iald2 (pc1 := 42) (i + 1) (fl_l1 hk) (fl_b1 hk) (nI_1 _) (by omega) rfl d3_removeAt_41 rfl ?_
    refine V_iast (pc1 := 43) i (fl_l1 hk) (fl_b1 hk) rfl (by omega) d3_removeAt_42 rfl ?_
    refine V_aload_n (pc1 := 44) 0 d3_removeAt_43 rfl rfl ?_
    refine V_getr (pc1 := 47) (fl_l0 hk) (fl_b0 hk) f3_21 (fun _ => rfl) (fl_r0_1 hk) d3_removeAt_44 rfl ?_
    refine V_iload_n (pc1 := 48) 1 d3_removeAt_47 rfl rfl ?_
    refine V_aload_n (pc1 := 49) 0 d3_removeAt_48 rfl rfl ?_
    refine V_getr (pc1 := 52) (fl_l0 hk) (fl_b0 hk) f3_21 (fun _ => rfl) (fl_r0_1 hk) d3_removeAt_49 rfl ?_
    refine V_iload_n (pc1 := 53) 1 d3_removeAt_52 rfl rfl ?_
    refine V_iconst (pc1 := 54) d3_removeAt_53 vc_1 rfl ?_
    refine V_iadd (pc1 := 55) d3_removeAt_54 rfl ?_
    refine V_iald2 (pc1 := 56) (i + 1) (fl_l2 hk) (fl_b2 hk) (nI_1 _) (by omega) (congrFun (uI_off _ _ _ (show (k + 2 : Nat) ≠ k + 1 by omega)) _) d3_removeAt_55 rfl ?_
    refine V_iast (pc1 := 57) i (fl_l2 hk) (fl_b2 hk) rfl (by omega) d3_removeAt_56 rfl ?_
    refine V_aload_n (pc1 := 58) 0 d3_removeAt_57 rfl rfl ?_
    refine V_getr (pc1 := 61) (fl_l0 hk) (fl_b0 hk) f3_24 (fun _ => rfl) (fl_r0_2 hk) d3_removeAt_58 rfl ?_
    refine V_iload_n (pc1 := 62) 1 d3_removeAt_61 rfl rfl ?_
    refine V_aload_n (pc1 := 63) 0 d3_removeAt_62 rfl rfl ?_
    refine V_getr (pc1 := 66) (fl_l0 hk) (fl_b0 hk) f3_24 (fun _ => rfl) (fl_r0_2 hk) d3_removeAt_63 rfl ?_
    refine V_iload_n (pc1 := 67) 1 d3_removeAt_66 rfl rfl ?_
    refine V_iconst (pc1 := 68) d3_removeAt_67 vc_1 rfl ?_
    refine V_iadd (pc1 := 69) d3_removeAt_68 rfl ?_
    refine V_iald2 (pc1 := 70) (i + 1) (fl_l3 hk) (fl_b3 hk) (nI_1 _) (by omega) ((congrFun (uI_off _ _ _ (show (k + 3 : Nat) ≠ k + 2 by omega)) _).trans (congrFun (uI_off _ _ _ (show (k + 3 : Nat) ≠ k + 1 by omega)) _)) d3_removeAt_69 rfl ?_
    refine V_iast (pc1 := 71) i (fl_l3 hk) (fl_b3 hk) rfl (by omega) d3_removeAt_70 rfl ?_
    refine V_iinc (pc1 := 74) 1 (v := nI (i + 1)) d3_removeAt_71 rfl (nI_1 _) (Nat.le_of_ble_eq_true rfl) rfl rfl ?_
    refine V_goto (tgt := 21) d3_removeAt_74 (by decide) ?_
    refine V_lv (lv1 := [(0, .ref (xA g k)), (2, .int (nI (i + 1)))]) (lvsub_p [1, 0] rfl) ?_
    have hq2 := hq
    simp only [i3_removeAt_21] at hq2
    exact ih (i + 1) t (uI (uI (uI I (k + 1) i (I (k + 1) (i + 1))) (k + 2) i (I (k + 2) (i + 1))) (k + 3) i (I (k + 3) (i + 1))) L (((congrFun (uI_off _ _ _ (show (k : Nat) ≠ k + 3 by omega)) _).trans ((congrFun (uI_off _ _ _ (show (k : Nat) ≠ k + 2 by omega)) _).trans (congrFun (uI_off _ _ _ (show (k : Nat) ≠ k + 1 by omega)) _))).trans hs) (by omega) (by omega) Q hq2
def i3_removeAt (k : Nat) (c : Nat) (x : Int32) (I : Nat → Nat → Int32) (L : Nat → Nat → Int64) : Nat → Nat → Int32 := (if (r3_has k c x I L) = true then i3_removeAt_21 k c x (((I k 3).toNatClampNeg) - 1 - (x.toNatClampNeg)) (x.toNatClampNeg) (((I k 3).toNatClampNeg) - 1) (uI I k 3 ((nI ((I k 3).toNatClampNeg)) - 1)) L else I)
set_option maxRecDepth 4000 in
theorem v3_removeAt (g : GlT) {k : Nat} {c : Nat} (hk : okF k c) (x : Int32) (s : Nat) (hc : s ≤ c) (I : Nat → Nat → Int32) (L : Nat → Nat → Int64) (hs : I k 3 = nI s) (Q : Option Value → MemT → Prop) (hq : Q (none) (i3_removeAt k c x I L, L, R0, 305)) : V g (k3_removeAt, 2, 0, 0) 0 0 0 [(0, .ref (xA g k)), (1, .int x)] [] (I, L, R0, 305) Q := by
  have hs3 : (I k 3).toNatClampNeg = s := by rw [hs]; exact nI_clamp (by have := fl_cap hk; omega)
  refine V_aload_n (pc1 := 1) 0 d3_removeAt_0 rfl rfl ?_
  refine V_iload_n (pc1 := 2) 1 d3_removeAt_1 rfl rfl ?_
  refine V_vi (pc1 := 5) (w3_has g hk x  I L ) (fl_l0 hk) (fl_b0 hk) s3_has l3_34 rfl rfl ⟨Nat.le_of_ble_eq_true rfl, Nat.le_of_ble_eq_true rfl, Nat.le_refl _, Nat.le_refl _⟩ (Nat.le_of_ble_eq_true rfl) rfl d3_removeAt_2 rfl ?_
  refine V_bne (tgt := 9) (pc1 := 8) d3_removeAt_5 (by decide) rfl (fun h1 => ?_) (fun h1 => ?_)
  · skip
    obtain ⟨p, hp, rfl⟩ := has_p hs (by have := fl_cap hk; omega) h1
    have hp3 : (nI p).toNatClampNeg = p := nI_clamp (by have := fl_cap hk; omega)
    refine V_aload_n (pc1 := 10) 0 d3_removeAt_9 rfl rfl ?_
    refine V_dup (pc1 := 11) d3_removeAt_10 rfl rfl ?_
    refine V_geti (pc1 := 14) (fl_l0 hk) (fl_b0 hk) f3_27 (fun _ => rfl) hs d3_removeAt_11 rfl ?_
    refine V_iconst (pc1 := 15) d3_removeAt_14 vc_1 rfl ?_
    refine V_isub (pc1 := 16) d3_removeAt_15 rfl ?_
    refine V_puti (pc1 := 19) (fl_l0 hk) (fl_b0 hk) f3_27 rfl rfl d3_removeAt_16 rfl ?_
    refine V_iload_n (pc1 := 20) 1 d3_removeAt_19 rfl rfl ?_
    refine V_istore_n (pc1 := 21) d3_removeAt_20 (Nat.le_of_ble_eq_true rfl) rfl rfl ?_
    refine V_lv (lv1 := [(0, .ref (xA g k)), (2, .int (nI p))]) (lvsub_p [1, 0] rfl) ?_
    have hq2 := hq
    simp only [i3_removeAt, hs3, if_pos h1, hp3] at hq2
    exact t3_removeAt_21 g hk _ _ hc (s - 1 - p) p (s - 1) (uI I k 3 ((nI s) - 1)) L ((uI_self _ _ _ _).trans (nI_dec (by omega))) (by omega) (by omega) Q hq2
  · skip
    refine V_vret rfl d3_removeAt_8 (Nat.zero_le _) (Nat.zero_le _) ?_
    have hq2 := hq
    simp only [i3_removeAt, hs3, if_neg h1] at hq2
    exact hq2
theorem w3_removeAt (g : GlT) {k : Nat} {c : Nat} (hk : okF k c) (x : Int32) (s : Nat) (hc : s ≤ c) (I : Nat → Nat → Int32) (L : Nat → Nat → Int64) (hs : I k 3 = nI s) : Call g (k3_removeAt, 2, 0, 0) [.ref (xA g k), .int x] (I, L, R0, 305) (Qv (i3_removeAt k c x I L) L) := Call.of (by decide) (Nat.le_of_ble_eq_true rfl) rfl (v3_removeAt g hk x s hc I L hs _ (And.intro rfl rfl))
theorem x3_removeAt_21 {k : Nat} {c : Nat} {x : Int32} {aa : Nat} (h0 : aa ≠ k) (h1 : aa ≠ k + 1) (h2 : aa ≠ k + 2) (h3 : aa ≠ k + 3) : ∀ (n i : Nat) (t : Nat) (I : Nat → Nat → Int32) (L : Nat → Nat → Int64), i3_removeAt_21 k c x n i t I L aa = I aa := by
  intro n
  induction n with
  | zero => intros; first | (simp only [i3_removeAt_21]; done) | (simp only [i3_removeAt_21]; (try (repeat' split)) <;> first | rfl | (simp [uI_off, h0, h1, h2, h3]; done))
  | succ n ih => intros; first | (simp only [i3_removeAt_21]; done) | (simp only [i3_removeAt_21]; (try (repeat' split)) <;> first | rfl | (simp [ih, uI_off, h0, h1, h2, h3]; done))
theorem x3_removeAt {k : Nat} {c : Nat} {x : Int32} {I : Nat → Nat → Int32} {L : Nat → Nat → Int64} {aa : Nat} (h0 : aa ≠ k) (h1 : aa ≠ k + 1) (h2 : aa ≠ k + 2) (h3 : aa ≠ k + 3) : i3_removeAt k c x I L aa = I aa := by
  first | (simp only [i3_removeAt]; done) | (simp only [i3_removeAt]; (try (repeat' split)) <;> first | rfl | (simp [uI_off, h0, h1, h2, h3, x3_removeAt_21 h0 h1 h2 h3]; done))

def i3_copyFrom_18 (k : Nat) (c : Nat) (k2 : Nat) (c2 : Nat) : Nat → Nat → (Nat → Nat → Int32) → (Nat → Nat → Int64) → (Nat → Nat → Int32)
  | 0, i, I, L => I
  | n + 1, i, I, L => i3_copyFrom_18 k c k2 c2 n (i + 1) (uI (uI (uI I (k + 1) i (I (k2 + 1) i)) (k + 2) i (I (k2 + 2) i)) (k + 3) i (I (k2 + 3) i)) L
set_option maxRecDepth 4000 in
theorem t3_copyFrom_18 (g : GlT) {k : Nat} {c : Nat} {k2 : Nat} {c2 : Nat} (hk : okF k c) (hk2 : okF k2 c2) (hcc : c2 = c) (hap : k + 4 ≤ k2 ∨ k2 + 4 ≤ k) (s : Nat) (hc : s ≤ c) : ∀ (n i : Nat) (I : Nat → Nat → Int32) (L : Nat → Nat → Int64), (hs1 : I k 3 = nI s) → (hn : i + n = s) → ∀ (Q : Option Value → MemT → Prop), Q (none) (i3_copyFrom_18 k c k2 c2 n i I L, L, R0, 305) → V g (k3_copyFrom, 1, 0, 0) 0 0 18 [(0, .ref (xA g k)), (1, .ref (xA g k2)), (2, .int (nI i))] [] (I, L, R0, 305) Q := by
  intro n
  induction n with
  | zero =>
    intro i I L hs1 hn Q hq
    refine V_iload_n (pc1 := 19) 2 d3_copyFrom_18 rfl rfl ?_
    refine V_aload_n (pc1 := 20) 0 d3_copyFrom_19 rfl rfl ?_
    refine V_geti (pc1 := 23) (fl_l0 hk) (fl_b0 hk) f3_27 (fun _ => rfl) hs1 d3_copyFrom_20 rfl ?_
    refine V_icmp_ge (tgt := 68) (pc1 := 26) d3_copyFrom_23 (by decide) rfl (fun _ => ?_) (fun h1 => absurd (by have := fl_cap hk; exact nI_le (by omega) (by omega)) h1)
    refine V_vret rfl d3_copyFrom_68 (Nat.zero_le _) (Nat.zero_le _) ?_
    have hq2 := hq
    simp only [i3_copyFrom_18] at hq2
    exact hq2
  | succ n ih =>
    intro i I L hs1 hn Q hq
    refine V_iload_n (pc1 := 19) 2 d3_copyFrom_18 rfl rfl ?_
    refine V_aload_n (pc1 := 20) 0 d3_copyFrom_19 rfl rfl ?_
    refine V_geti (pc1 := 23) (fl_l0 hk) (fl_b0 hk) f3_27 (fun _ => rfl) hs1 d3_copyFrom_20 rfl ?_
    refine V_icmp_ge (tgt := 68) (pc1 := 26) d3_copyFrom_23 (by decide) rfl (fun h1 => absurd h1 (by have := fl_cap hk; exact nI_ge (by omega) (by omega))) (fun _ => ?_)
    refine V_aload_n (pc1 := 27) 0 d3_copyFrom_26 rfl rfl ?_
    refine V_getr (pc1 := 30) (fl_l0 hk) (fl_b0 hk) f3_15 (fun _ => rfl) (fl_r0_0 hk) d3_copyFrom_27 rfl ?_
    refine V_iload_n (pc1 := 31) 2 d3_copyFrom_30 rfl rfl ?_
    refine V_aload_n (pc1 := 32) 1 d3_copyFrom_31 rfl rfl ?_
    refine V_getr (pc1 := 35) (fl_l0 hk2) (fl_b0 hk2) f3_15 (fun _ => rfl) (fl_r0_0 hk2) d3_copyFrom_32 rfl ?_
    refine V_iload_n (pc1 := 36) 2 d3_copyFrom_35 rfl rfl ?_
    refine V_iald2 (pc1 := 37) i (fl_l1 hk2) (fl_b1 hk2) rfl (by omega) rfl d3_copyFrom_36 rfl ?_
    refine V_iast (pc1 := 38) i (fl_l1 hk) (fl_b1 hk) rfl (by omega) d3_copyFrom_37 rfl ?_
    refine V_aload_n (pc1 := 39) 0 d3_copyFrom_38 rfl rfl ?_
    refine V_getr (pc1 := 42) (fl_l0 hk) (fl_b0 hk) f3_21 (fun _ => rfl) (fl_r0_1 hk) d3_copyFrom_39 rfl ?_
    refine V_iload_n (pc1 := 43) 2 d3_copyFrom_42 rfl rfl ?_
    refine V_aload_n (pc1 := 44) 1 d3_copyFrom_43 rfl rfl ?_
    refine V_getr (pc1 := 47) (fl_l0 hk2) (fl_b0 hk2) f3_21 (fun _ => rfl) (fl_r0_1 hk2) d3_copyFrom_44 rfl ?_
    refine V_iload_n (pc1 := 48) 2 d3_copyFrom_47 rfl rfl ?_
    refine V_iald2 (pc1 := 49) i (fl_l2 hk2) (fl_b2 hk2) rfl (by omega) (congrFun (uI_off _ _ _ (show (k2 + 2 : Nat) ≠ k + 1 by omega)) _) d3_copyFrom_48 rfl ?_
    refine V_iast (pc1 := 50) i (fl_l2 hk) (fl_b2 hk) rfl (by omega) d3_copyFrom_49 rfl ?_
    refine V_aload_n (pc1 := 51) 0 d3_copyFrom_50 rfl rfl ?_
    refine V_getr (pc1 := 54) (fl_l0 hk) (fl_b0 hk) f3_24 (fun _ => rfl) (fl_r0_2 hk) d3_copyFrom_51 rfl ?_
    refine V_iload_n (pc1 := 55) 2 d3_copyFrom_54 rfl rfl ?_
    refine V_aload_n (pc1 := 56) 1 d3_copyFrom_55 rfl rfl ?_
    refine V_getr (pc1 := 59) (fl_l0 hk2) (fl_b0 hk2) f3_24 (fun _ => rfl) (fl_r0_2 hk2) d3_copyFrom_56 rfl ?_
    refine V_iload_n (pc1 := 60) 2 d3_copyFrom_59 rfl rfl ?_
    refine V_iald2 (pc1 := 61) i (fl_l3 hk2) (fl_b3 hk2) rfl (by omega) ((congrFun (uI_off _ _ _ (show (k2 + 3 : Nat) ≠ k + 2 by omega)) _).trans (congrFun (uI_off _ _ _ (show (k2 + 3 : Nat) ≠ k + 1 by omega)) _)) d3_copyFrom_60 rfl ?_
    refine V_iast (pc1 := 62) i (fl_l3 hk) (fl_b3 hk) rfl (by omega) d3_copyFrom_61 rfl ?_
    refine V_iinc (pc1 := 65) 2 (v := nI (i + 1)) d3_copyFrom_62 rfl (nI_1 _) (Nat.le_of_ble_eq_true rfl) rfl rfl ?_
    refine V_goto (tgt := 18) d3_copyFrom_65 (by decide) ?_
    refine V_lv (lv1 := [(0, .ref (xA g k)), (1, .ref (xA g k2)), (2, .int (nI (i + 1)))]) (lvsub_p [1, 2, 0] rfl) ?_
    have hq2 := hq
    simp only [i3_copyFrom_18] at hq2
    exact ih (i + 1) (uI (uI (uI I (k + 1) i (I (k2 + 1) i)) (k + 2) i (I (k2 + 2) i)) (k + 3) i (I (k2 + 3) i)) L (((congrFun (uI_off _ _ _ (show (k : Nat) ≠ k + 3 by omega)) _).trans ((congrFun (uI_off _ _ _ (show (k : Nat) ≠ k + 2 by omega)) _).trans (congrFun (uI_off _ _ _ (show (k : Nat) ≠ k + 1 by omega)) _))).trans hs1) (by omega) Q hq2
def i3_copyFrom (k : Nat) (c : Nat) (k2 : Nat) (c2 : Nat) (I : Nat → Nat → Int32) (L : Nat → Nat → Int64) : Nat → Nat → Int32 := i3_copyFrom_18 k c k2 c2 ((I k2 3).toNatClampNeg) 0 (uI I k 3 (if nI c < nI ((I k2 3).toNatClampNeg) then nI c else nI ((I k2 3).toNatClampNeg))) L
set_option maxRecDepth 4000 in
theorem v3_copyFrom (g : GlT) {k : Nat} {c : Nat} {k2 : Nat} {c2 : Nat} (hk : okF k c) (hk2 : okF k2 c2) (hcc : c2 = c) (hap : k + 4 ≤ k2 ∨ k2 + 4 ≤ k) (s : Nat) (hc : s ≤ c) (I : Nat → Nat → Int32) (L : Nat → Nat → Int64) (hs : I k2 3 = nI s) (Q : Option Value → MemT → Prop) (hq : Q (none) (i3_copyFrom k c k2 c2 I L, L, R0, 305)) : V g (k3_copyFrom, 1, 0, 0) 0 0 0 [(0, .ref (xA g k)), (1, .ref (xA g k2))] [] (I, L, R0, 305) Q := by
  have hs3 : (I k2 3).toNatClampNeg = s := by rw [hs]; exact nI_clamp (by have := fl_cap hk; omega)
  refine V_aload_n (pc1 := 1) 0 d3_copyFrom_0 rfl rfl ?_
  refine V_aload_n (pc1 := 2) 1 d3_copyFrom_1 rfl rfl ?_
  refine V_geti (pc1 := 5) (fl_l0 hk2) (fl_b0 hk2) f3_27 (fun _ => rfl) hs d3_copyFrom_2 rfl ?_
  refine V_aload_n (pc1 := 6) 0 d3_copyFrom_5 rfl rfl ?_
  refine V_getr (pc1 := 9) (fl_l0 hk) (fl_b0 hk) f3_15 (fun _ => rfl) (fl_r0_0 hk) d3_copyFrom_6 rfl ?_
  refine V_alen (pc1 := 10) (a := 0) (v := nI c) (fl_l1 hk) (fl_b1 hk) rfl d3_copyFrom_9 rfl ?_
  refine V_min (pc1 := 13) l3_31 jminS jmthI jminC (Nat.le_of_ble_eq_true rfl) (Nat.zero_le _) (Nat.zero_le _) (Nat.le_of_ble_eq_true rfl) d3_copyFrom_10 rfl ?_
  refine V_puti (pc1 := 16) (fl_l0 hk) (fl_b0 hk) f3_27 rfl rfl d3_copyFrom_13 rfl ?_
  refine V_iconst (pc1 := 17) d3_copyFrom_16 vc_0 rfl ?_
  refine V_istore_n (pc1 := 18) d3_copyFrom_17 (Nat.le_of_ble_eq_true rfl) rfl rfl ?_
  refine V_lv (lv1 := [(0, .ref (xA g k)), (1, .ref (xA g k2)), (2, .int (nI 0))]) (lvsub_p [1, 2, 0] rfl) ?_
  have hq2 := hq
  simp only [i3_copyFrom, hs3] at hq2
  exact t3_copyFrom_18 g hk hk2  hcc hap _ hc s 0 (uI I k 3 (if nI c < nI s then nI c else nI s)) L ((uI_self _ _ _ _).trans (if_neg (by have := fl_cap hk; exact nI_nlt hc (by omega)))) (by omega) Q hq2
theorem w3_copyFrom (g : GlT) {k : Nat} {c : Nat} {k2 : Nat} {c2 : Nat} (hk : okF k c) (hk2 : okF k2 c2) (hcc : c2 = c) (hap : k + 4 ≤ k2 ∨ k2 + 4 ≤ k) (s : Nat) (hc : s ≤ c) (I : Nat → Nat → Int32) (L : Nat → Nat → Int64) (hs : I k2 3 = nI s) : Call g (k3_copyFrom, 1, 0, 0) [.ref (xA g k), .ref (xA g k2)] (I, L, R0, 305) (Qv (i3_copyFrom k c k2 c2 I L) L) := Call.of (by decide) (Nat.le_of_ble_eq_true rfl) rfl (v3_copyFrom g hk hk2  hcc hap s hc I L hs _ (And.intro rfl rfl))
theorem x3_copyFrom_18 {k : Nat} {c : Nat} {k2 : Nat} {c2 : Nat} {aa : Nat} (h0 : aa ≠ k) (h1 : aa ≠ k + 1) (h2 : aa ≠ k + 2) (h3 : aa ≠ k + 3) : ∀ (n i : Nat) (I : Nat → Nat → Int32) (L : Nat → Nat → Int64), i3_copyFrom_18 k c k2 c2 n i I L aa = I aa := by
  intro n
  induction n with
  | zero => intros; first | (simp only [i3_copyFrom_18]; done) | (simp only [i3_copyFrom_18]; (try (repeat' split)) <;> first | rfl | (simp [uI_off, h0, h1, h2, h3]; done))
  | succ n ih => intros; first | (simp only [i3_copyFrom_18]; done) | (simp only [i3_copyFrom_18]; (try (repeat' split)) <;> first | rfl | (simp [ih, uI_off, h0, h1, h2, h3]; done))
theorem x3_copyFrom {k : Nat} {c : Nat} {k2 : Nat} {c2 : Nat} {I : Nat → Nat → Int32} {L : Nat → Nat → Int64} {aa : Nat} (h0 : aa ≠ k) (h1 : aa ≠ k + 1) (h2 : aa ≠ k + 2) (h3 : aa ≠ k + 3) : i3_copyFrom k c k2 c2 I L aa = I aa := by
  first | (simp only [i3_copyFrom]; done) | (simp only [i3_copyFrom]; (try (repeat' split)) <;> first | rfl | (simp [uI_off, h0, h1, h2, h3, x3_copyFrom_18 h0 h1 h2 h3]; done))
