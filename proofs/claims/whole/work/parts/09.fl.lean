theorem has_nat {f x : Int32} {s : Nat} (hf : f = nI s) (hs : s < 2 ^ 31) (h1 : ¬ x < 0) (h2 : ¬ f ≤ x) : ∃ p, p < s ∧ x = nI p := by
  subst hf
  obtain ⟨j, hj, rfl⟩ := nI_of h1
  refine ⟨j, ?_, rfl⟩
  rcases Nat.lt_or_ge j s with h | h
  · exact h
  · exact absurd (nI_le h (by omega)) h2

def r3_isFull (k : Nat) (c : Nat) (I : Nat → Nat → Int32) (L : Nat → Nat → Int64) : Bool := (if I k 3 < nI c then false else true)
set_option maxRecDepth 4000 in
theorem v3_isFull (g : GlT) {k : Nat} {c : Nat} (hk : okF k c) (I : Nat → Nat → Int32) (L : Nat → Nat → Int64) (Q : Option Value → MemT → Prop) (hq : Q (some (.int (bI (r3_isFull k c I L)))) (I, L, R0, 305)) : V g (k3_isFull, 1, 0, 0) 0 0 0 [(0, .ref (xA g k))] [] (I, L, R0, 305) Q := by
  refine V_aload_n 0 d3_isFull_0 rfl rfl ?_
  refine V_geti (fl_l0 hk) (fl_b0 hk) f3_27 rfl rfl d3_isFull_1 rfl ?_
  refine V_aload_n 0 d3_isFull_4 rfl rfl ?_
  refine V_getr (fl_l0 hk) (fl_b0 hk) f3_15 rfl (fl_r0_0 hk) d3_isFull_5 rfl ?_
  refine V_alen (a := 0) (v := nI c) (fl_l1 hk) (fl_b1 hk) rfl d3_isFull_8 rfl ?_
  have key2 : ∀ (y17_0 : Int32), y17_0 = bI (if I k 3 < nI c then false else true) → ∀ (lv : List (Nat × Value)), lvsub [(0, .ref (xA g k))] lv → V g (k3_isFull, 1, 0, 0) 0 0 17 lv [.int y17_0] (I, L, R0, 305) Q := by
    intro y17_0 ey17_0
    subst ey17_0
    intro lv hlv
    refine V_lv hlv ?_
    refine V_zret rfl (bI_or _) d3_isFull_17 (Nat.zero_le _) (Nat.zero_le _) ?_
    have hq2 := hq
    simp only [r3_isFull] at hq2
    exact hq2
  refine V_icmp_lt (tgt := 16) d3_isFull_9 (by decide) rfl (fun h1 => ?_) (fun h1 => ?_)
  · skip
    refine V_iconst d3_isFull_16 vc_0 rfl ?_
    exact key2 _ (by first | rfl | (simp only [if_pos h1]; done) | (simp only [if_pos h1]; rfl)) _ (lvsub_p [0] rfl)
  · skip
    refine V_iconst d3_isFull_12 vc_1 rfl ?_
    refine V_goto (tgt := 17) d3_isFull_13 (by decide) ?_
    exact key2 _ (by first | rfl | (simp only [if_neg h1]; done) | (simp only [if_neg h1]; rfl)) _ (lvsub_p [0] rfl)
theorem w3_isFull (g : GlT) {k : Nat} {c : Nat} (hk : okF k c) (I : Nat → Nat → Int32) (L : Nat → Nat → Int64) : Call g (k3_isFull, 1, 0, 0) [.ref (xA g k)] (I, L, R0, 305) (Qi (bI (r3_isFull k c I L)) (I) L) := Call.of (by decide) (Nat.le_of_ble_eq_true rfl) rfl (v3_isFull g hk   I L  _ (And.intro rfl rfl))

def r3_has (k : Nat) (c : Nat) (x : Int32) (I : Nat → Nat → Int32) (L : Nat → Nat → Int64) : Bool := (if (x < 0) ∨ (I k 3 ≤ x) then false else true)
set_option maxRecDepth 4000 in
theorem v3_has (g : GlT) {k : Nat} {c : Nat} (hk : okF k c) (x : Int32) (I : Nat → Nat → Int32) (L : Nat → Nat → Int64) (Q : Option Value → MemT → Prop) (hq : Q (some (.int (bI (r3_has k c x I L)))) (I, L, R0, 305)) : V g (k3_has, 1, 0, 0) 0 0 0 [(0, .ref (xA g k)), (1, .int x)] [] (I, L, R0, 305) Q := by
  refine V_iload_n 1 d3_has_0 rfl rfl ?_
  have key6 : ∀ (y17_0 : Int32), y17_0 = bI (if (x < 0) ∨ (I k 3 ≤ x) then false else true) → ∀ (lv : List (Nat × Value)), lvsub [(0, .ref (xA g k)), (1, .int x)] lv → V g (k3_has, 1, 0, 0) 0 0 17 lv [.int y17_0] (I, L, R0, 305) Q := by
    intro y17_0 ey17_0
    subst ey17_0
    intro lv hlv
    refine V_lv hlv ?_
    refine V_zret rfl (bI_or _) d3_has_17 (Nat.zero_le _) (Nat.zero_le _) ?_
    have hq2 := hq
    simp only [r3_has] at hq2
    exact hq2
  have k2 : ((x < 0) ∨ (I k 3 ≤ x)) → V g (k3_has, 1, 0, 0) 0 0 16 [(0, .ref (xA g k)), (1, .int x)] [] (I, L, R0, 305) Q := by
    intro h1
    refine V_iconst d3_has_16 vc_0 rfl ?_
    exact key6 _ (by first | rfl | (simp only [if_pos h1]; done) | (simp only [if_pos h1]; rfl)) _ (lvsub_p [0, 1] rfl)
  have k3 : ¬ ((x < 0) ∨ (I k 3 ≤ x)) → V g (k3_has, 1, 0, 0) 0 0 12 [(0, .ref (xA g k)), (1, .int x)] [] (I, L, R0, 305) Q := by
    intro h1
    refine V_iconst d3_has_12 vc_1 rfl ?_
    refine V_goto (tgt := 17) d3_has_13 (by decide) ?_
    exact key6 _ (by first | rfl | (simp only [if_neg h1]; done) | (simp only [if_neg h1]; rfl)) _ (lvsub_p [0, 1] rfl)
  refine V_if_lt (tgt := 16) d3_has_1 (by decide) rfl (fun h4 => ?_) (fun h4 => ?_)
  · skip
    exact k2 (Or.inl h4)
  · skip
    refine V_iload_n 1 d3_has_4 rfl rfl ?_
    refine V_aload_n 0 d3_has_5 rfl rfl ?_
    refine V_geti (fl_l0 hk) (fl_b0 hk) f3_27 rfl rfl d3_has_6 rfl ?_
    refine V_icmp_ge (tgt := 16) d3_has_9 (by decide) rfl (fun h5 => ?_) (fun h5 => ?_)
    · skip
      exact k2 (Or.inr h5)
    · skip
      exact k3 (fun z => z.elim h4 h5)
theorem w3_has (g : GlT) {k : Nat} {c : Nat} (hk : okF k c) (x : Int32) (I : Nat → Nat → Int32) (L : Nat → Nat → Int64) : Call g (k3_has, 1, 0, 0) [.ref (xA g k), .int x] (I, L, R0, 305) (Qi (bI (r3_has k c x I L)) (I) L) := Call.of (by decide) (Nat.le_of_ble_eq_true rfl) rfl (v3_has g hk x  I L  _ (And.intro rfl rfl))

theorem has_p {k c : Nat} {x : Int32} {I : Nat → Nat → Int32} {L : Nat → Nat → Int64} {s : Nat} (hs : I k 3 = nI s) (hc : s ≤ 6) (h : r3_has k c x I L = true) : ∃ p, p < s ∧ x = nI p := by
  unfold r3_has at h
  split at h
  · cases h
  · rename_i h2
    exact has_nat hs (by omega) (fun e => h2 (Or.inl e)) (fun e => h2 (Or.inr e))

def r3_keyAt (k : Nat) (c : Nat) (x : Int32) (I : Nat → Nat → Int32) (L : Nat → Nat → Int64) : Int32 := (if (r3_has k c x I L) = true then I (k + 1) (x.toNatClampNeg) else (-5))
set_option maxRecDepth 4000 in
theorem v3_keyAt (g : GlT) {k : Nat} {c : Nat} (hk : okF k c) (x : Int32) (s : Nat) (hc : s ≤ c) (I : Nat → Nat → Int32) (L : Nat → Nat → Int64) (hs : I k 3 = nI s) (Q : Option Value → MemT → Prop) (hq : Q (some (.int (r3_keyAt k c x I L))) (I, L, R0, 305)) : V g (k3_keyAt, 2, 0, 0) 0 0 0 [(0, .ref (xA g k)), (1, .int x)] [] (I, L, R0, 305) Q := by
  refine V_aload_n 0 d3_keyAt_0 rfl rfl ?_
  refine V_iload_n 1 d3_keyAt_1 rfl rfl ?_
  refine V_vi (w3_has g hk x  I L ) (fl_l0 hk) (fl_b0 hk) s3_has l3_34 rfl rfl ⟨Nat.le_of_ble_eq_true rfl, Nat.le_of_ble_eq_true rfl, Nat.le_refl _, Nat.le_refl _⟩ (Nat.le_of_ble_eq_true rfl) rfl d3_keyAt_2 rfl ?_
  have key2 : ∀ (z19_1 : Int32), z19_1 = (if (r3_has k c x I L) = true then nI (x.toNatClampNeg) else x) → ∀ (y19_0 : Int32), y19_0 = (if (r3_has k c x I L) = true then I (k + 1) (x.toNatClampNeg) else (-5)) → ∀ (lv : List (Nat × Value)), lvsub [(0, .ref (xA g k)), (1, .int z19_1)] lv → V g (k3_keyAt, 2, 0, 0) 0 0 19 lv [.int y19_0] (I, L, R0, 305) Q := by
    intro z19_1 ez19_1 y19_0 ey19_0
    subst ez19_1
    subst ey19_0
    intro lv hlv
    refine V_lv hlv ?_
    refine V_iret rfl d3_keyAt_19 (Nat.zero_le _) (Nat.zero_le _) ?_
    have hq2 := hq
    simp only [r3_keyAt] at hq2
    exact hq2
  refine V_beq (tgt := 17) d3_keyAt_5 (by decide) rfl (fun h1 => ?_) (fun h1 => ?_)
  · skip
    refine V_bipush d3_keyAt_17 vb_m5 rfl ?_
    exact key2 _ (by first | rfl | (simp only [if_neg h1]; done) | (simp only [if_neg h1]; rfl)) _ (by first | rfl | (simp only [if_neg h1]; done) | (simp only [if_neg h1]; rfl)) _ (lvsub_p [0, 1] rfl)
  · skip
    obtain ⟨p, hp, rfl⟩ := has_p hs (by have := fl_cap hk; omega) h1
    have hp3 : (nI p).toNatClampNeg = p := nI_clamp (by have := fl_cap hk; omega)
    refine V_aload_n 0 d3_keyAt_8 rfl rfl ?_
    refine V_getr (fl_l0 hk) (fl_b0 hk) f3_15 rfl (fl_r0_0 hk) d3_keyAt_9 rfl ?_
    refine V_iload_n 1 d3_keyAt_12 rfl rfl ?_
    refine V_iald p (fl_l1 hk) (fl_b1 hk) rfl (by omega) rfl d3_keyAt_13 rfl ?_
    refine V_goto (tgt := 19) d3_keyAt_14 (by decide) ?_
    exact key2 _ (by first | rfl | (simp only [if_pos h1, hp3]; done) | (simp only [if_pos h1, hp3]; rfl)) _ (by first | rfl | (simp only [if_pos h1, hp3]; done) | (simp only [if_pos h1, hp3]; rfl)) _ (lvsub_p [0, 1] rfl)
theorem w3_keyAt (g : GlT) {k : Nat} {c : Nat} (hk : okF k c) (x : Int32) (s : Nat) (hc : s ≤ c) (I : Nat → Nat → Int32) (L : Nat → Nat → Int64) (hs : I k 3 = nI s) : Call g (k3_keyAt, 2, 0, 0) [.ref (xA g k), .int x] (I, L, R0, 305) (Qi (r3_keyAt k c x I L) (I) L) := Call.of (by decide) (Nat.le_of_ble_eq_true rfl) rfl (v3_keyAt g hk x s hc I L hs _ (And.intro rfl rfl))

def r3_lengthAt (k : Nat) (c : Nat) (x : Int32) (I : Nat → Nat → Int32) (L : Nat → Nat → Int64) : Int32 := (if (r3_has k c x I L) = true then I (k + 2) (x.toNatClampNeg) else (-5))
set_option maxRecDepth 4000 in
theorem v3_lengthAt (g : GlT) {k : Nat} {c : Nat} (hk : okF k c) (x : Int32) (s : Nat) (hc : s ≤ c) (I : Nat → Nat → Int32) (L : Nat → Nat → Int64) (hs : I k 3 = nI s) (Q : Option Value → MemT → Prop) (hq : Q (some (.int (r3_lengthAt k c x I L))) (I, L, R0, 305)) : V g (k3_lengthAt, 2, 0, 0) 0 0 0 [(0, .ref (xA g k)), (1, .int x)] [] (I, L, R0, 305) Q := by
  refine V_aload_n 0 d3_lengthAt_0 rfl rfl ?_
  refine V_iload_n 1 d3_lengthAt_1 rfl rfl ?_
  refine V_vi (w3_has g hk x  I L ) (fl_l0 hk) (fl_b0 hk) s3_has l3_34 rfl rfl ⟨Nat.le_of_ble_eq_true rfl, Nat.le_of_ble_eq_true rfl, Nat.le_refl _, Nat.le_refl _⟩ (Nat.le_of_ble_eq_true rfl) rfl d3_lengthAt_2 rfl ?_
  have key2 : ∀ (z19_1 : Int32), z19_1 = (if (r3_has k c x I L) = true then nI (x.toNatClampNeg) else x) → ∀ (y19_0 : Int32), y19_0 = (if (r3_has k c x I L) = true then I (k + 2) (x.toNatClampNeg) else (-5)) → ∀ (lv : List (Nat × Value)), lvsub [(0, .ref (xA g k)), (1, .int z19_1)] lv → V g (k3_lengthAt, 2, 0, 0) 0 0 19 lv [.int y19_0] (I, L, R0, 305) Q := by
    intro z19_1 ez19_1 y19_0 ey19_0
    subst ez19_1
    subst ey19_0
    intro lv hlv
    refine V_lv hlv ?_
    refine V_iret rfl d3_lengthAt_19 (Nat.zero_le _) (Nat.zero_le _) ?_
    have hq2 := hq
    simp only [r3_lengthAt] at hq2
    exact hq2
  refine V_beq (tgt := 17) d3_lengthAt_5 (by decide) rfl (fun h1 => ?_) (fun h1 => ?_)
  · skip
    refine V_bipush d3_lengthAt_17 vb_m5 rfl ?_
    exact key2 _ (by first | rfl | (simp only [if_neg h1]; done) | (simp only [if_neg h1]; rfl)) _ (by first | rfl | (simp only [if_neg h1]; done) | (simp only [if_neg h1]; rfl)) _ (lvsub_p [0, 1] rfl)
  · skip
    obtain ⟨p, hp, rfl⟩ := has_p hs (by have := fl_cap hk; omega) h1
    have hp3 : (nI p).toNatClampNeg = p := nI_clamp (by have := fl_cap hk; omega)
    refine V_aload_n 0 d3_lengthAt_8 rfl rfl ?_
    refine V_getr (fl_l0 hk) (fl_b0 hk) f3_21 rfl (fl_r0_1 hk) d3_lengthAt_9 rfl ?_
    refine V_iload_n 1 d3_lengthAt_12 rfl rfl ?_
    refine V_iald p (fl_l2 hk) (fl_b2 hk) rfl (by omega) rfl d3_lengthAt_13 rfl ?_
    refine V_goto (tgt := 19) d3_lengthAt_14 (by decide) ?_
    exact key2 _ (by first | rfl | (simp only [if_pos h1, hp3]; done) | (simp only [if_pos h1, hp3]; rfl)) _ (by first | rfl | (simp only [if_pos h1, hp3]; done) | (simp only [if_pos h1, hp3]; rfl)) _ (lvsub_p [0, 1] rfl)
theorem w3_lengthAt (g : GlT) {k : Nat} {c : Nat} (hk : okF k c) (x : Int32) (s : Nat) (hc : s ≤ c) (I : Nat → Nat → Int32) (L : Nat → Nat → Int64) (hs : I k 3 = nI s) : Call g (k3_lengthAt, 2, 0, 0) [.ref (xA g k), .int x] (I, L, R0, 305) (Qi (r3_lengthAt k c x I L) (I) L) := Call.of (by decide) (Nat.le_of_ble_eq_true rfl) rfl (v3_lengthAt g hk x s hc I L hs _ (And.intro rfl rfl))

def r3_dataAt (k : Nat) (c : Nat) (x : Int32) (I : Nat → Nat → Int32) (L : Nat → Nat → Int64) : Int32 := (if (r3_has k c x I L) = true then I (k + 3) (x.toNatClampNeg) else 0)
set_option maxRecDepth 4000 in
theorem v3_dataAt (g : GlT) {k : Nat} {c : Nat} (hk : okF k c) (x : Int32) (s : Nat) (hc : s ≤ c) (I : Nat → Nat → Int32) (L : Nat → Nat → Int64) (hs : I k 3 = nI s) (Q : Option Value → MemT → Prop) (hq : Q (some (.int (r3_dataAt k c x I L))) (I, L, R0, 305)) : V g (k3_dataAt, 2, 0, 0) 0 0 0 [(0, .ref (xA g k)), (1, .int x)] [] (I, L, R0, 305) Q := by
  refine V_aload_n 0 d3_dataAt_0 rfl rfl ?_
  refine V_iload_n 1 d3_dataAt_1 rfl rfl ?_
  refine V_vi (w3_has g hk x  I L ) (fl_l0 hk) (fl_b0 hk) s3_has l3_34 rfl rfl ⟨Nat.le_of_ble_eq_true rfl, Nat.le_of_ble_eq_true rfl, Nat.le_refl _, Nat.le_refl _⟩ (Nat.le_of_ble_eq_true rfl) rfl d3_dataAt_2 rfl ?_
  have key2 : ∀ (z18_1 : Int32), z18_1 = (if (r3_has k c x I L) = true then nI (x.toNatClampNeg) else x) → ∀ (y18_0 : Int32), y18_0 = (if (r3_has k c x I L) = true then I (k + 3) (x.toNatClampNeg) else 0) → ∀ (lv : List (Nat × Value)), lvsub [(0, .ref (xA g k)), (1, .int z18_1)] lv → V g (k3_dataAt, 2, 0, 0) 0 0 18 lv [.int y18_0] (I, L, R0, 305) Q := by
    intro z18_1 ez18_1 y18_0 ey18_0
    subst ez18_1
    subst ey18_0
    intro lv hlv
    refine V_lv hlv ?_
    refine V_iret rfl d3_dataAt_18 (Nat.zero_le _) (Nat.zero_le _) ?_
    have hq2 := hq
    simp only [r3_dataAt] at hq2
    exact hq2
  refine V_beq (tgt := 17) d3_dataAt_5 (by decide) rfl (fun h1 => ?_) (fun h1 => ?_)
  · skip
    refine V_iconst d3_dataAt_17 vc_0 rfl ?_
    exact key2 _ (by first | rfl | (simp only [if_neg h1]; done) | (simp only [if_neg h1]; rfl)) _ (by first | rfl | (simp only [if_neg h1]; done) | (simp only [if_neg h1]; rfl)) _ (lvsub_p [0, 1] rfl)
  · skip
    obtain ⟨p, hp, rfl⟩ := has_p hs (by have := fl_cap hk; omega) h1
    have hp3 : (nI p).toNatClampNeg = p := nI_clamp (by have := fl_cap hk; omega)
    refine V_aload_n 0 d3_dataAt_8 rfl rfl ?_
    refine V_getr (fl_l0 hk) (fl_b0 hk) f3_24 rfl (fl_r0_2 hk) d3_dataAt_9 rfl ?_
    refine V_iload_n 1 d3_dataAt_12 rfl rfl ?_
    refine V_iald p (fl_l3 hk) (fl_b3 hk) rfl (by omega) rfl d3_dataAt_13 rfl ?_
    refine V_goto (tgt := 18) d3_dataAt_14 (by decide) ?_
    exact key2 _ (by first | rfl | (simp only [if_pos h1, hp3]; done) | (simp only [if_pos h1, hp3]; rfl)) _ (by first | rfl | (simp only [if_pos h1, hp3]; done) | (simp only [if_pos h1, hp3]; rfl)) _ (lvsub_p [0, 1] rfl)
theorem w3_dataAt (g : GlT) {k : Nat} {c : Nat} (hk : okF k c) (x : Int32) (s : Nat) (hc : s ≤ c) (I : Nat → Nat → Int32) (L : Nat → Nat → Int64) (hs : I k 3 = nI s) : Call g (k3_dataAt, 2, 0, 0) [.ref (xA g k), .int x] (I, L, R0, 305) (Qi (r3_dataAt k c x I L) (I) L) := Call.of (by decide) (Nat.le_of_ble_eq_true rfl) rfl (v3_dataAt g hk x s hc I L hs _ (And.intro rfl rfl))

def r3_indexOf_2 (k : Nat) (c : Nat) (key : Int32) : Nat → Nat → (Nat → Nat → Int32) → (Nat → Nat → Int64) → Int32
  | 0, i, I, L => (-1)
  | n + 1, i, I, L => (if I (k + 1) i = key then nI i else r3_indexOf_2 k c key n (i + 1) I L)
set_option maxRecDepth 4000 in
theorem t3_indexOf_2 (g : GlT) {k : Nat} {c : Nat} (hk : okF k c) (key : Int32) (s : Nat) (hc : s ≤ c) : ∀ (n i : Nat) (I : Nat → Nat → Int32) (L : Nat → Nat → Int64), (hs : I k 3 = nI s) → (hn : i + n = s) → ∀ (Q : Option Value → MemT → Prop), Q (some (.int (r3_indexOf_2 k c key n i I L))) (I, L, R0, 305) → V g (k3_indexOf, 1, 0, 0) 0 0 2 [(0, .ref (xA g k)), (1, .int key), (2, .int (nI i))] [] (I, L, R0, 305) Q := by
  intro n
  induction n with
  | zero =>
    intro i I L hs hn Q hq
    have hs3 : (I k 3).toNatClampNeg = s := by rw [hs]; exact nI_clamp (by have := fl_cap hk; omega)
    refine V_iload_n 2 d3_indexOf_2 rfl rfl ?_
    refine V_aload_n 0 d3_indexOf_3 rfl rfl ?_
    refine V_geti (fl_l0 hk) (fl_b0 hk) f3_27 rfl hs d3_indexOf_4 rfl ?_
    refine V_icmp_ge (tgt := 28) d3_indexOf_7 (by decide) rfl (fun _ => ?_) (fun h1 => absurd (by have := fl_cap hk; exact nI_le (by omega) (by omega)) h1)
    refine V_iconst d3_indexOf_28 vc_m1 rfl ?_
    refine V_iret rfl d3_indexOf_29 (Nat.zero_le _) (Nat.zero_le _) ?_
    have hq2 := hq
    simp only [r3_indexOf_2, hs3] at hq2
    exact hq2
  | succ n ih =>
    intro i I L hs hn Q hq
    have hs3 : (I k 3).toNatClampNeg = s := by rw [hs]; exact nI_clamp (by have := fl_cap hk; omega)
    refine V_iload_n 2 d3_indexOf_2 rfl rfl ?_
    refine V_aload_n 0 d3_indexOf_3 rfl rfl ?_
    refine V_geti (fl_l0 hk) (fl_b0 hk) f3_27 rfl hs d3_indexOf_4 rfl ?_
    refine V_icmp_ge (tgt := 28) d3_indexOf_7 (by decide) rfl (fun h1 => absurd h1 (by have := fl_cap hk; exact nI_ge (by omega) (by omega))) (fun _ => ?_)
    refine V_aload_n 0 d3_indexOf_10 rfl rfl ?_
    refine V_getr (fl_l0 hk) (fl_b0 hk) f3_15 rfl (fl_r0_0 hk) d3_indexOf_11 rfl ?_
    refine V_iload_n 2 d3_indexOf_14 rfl rfl ?_
    refine V_iald i (fl_l1 hk) (fl_b1 hk) rfl (by omega) rfl d3_indexOf_15 rfl ?_
    refine V_iload_n 1 d3_indexOf_16 rfl rfl ?_
    refine V_icmp_ne (tgt := 22) d3_indexOf_17 (by decide) rfl (fun h2 => ?_) (fun h2 => ?_)
    · skip
      refine V_iinc 2 (v := nI (i + 1)) d3_indexOf_22 rfl (nI_1 _) (Nat.le_of_ble_eq_true rfl) rfl rfl ?_
      refine V_goto (tgt := 2) d3_indexOf_25 (by decide) ?_
      refine V_lv (lv1 := [(0, .ref (xA g k)), (1, .int key), (2, .int (nI (i + 1)))]) (lvsub_p [1, 2, 0] rfl) ?_
      have hq2 := hq
      simp only [r3_indexOf_2, hs3, if_neg h2] at hq2
      exact ih (i + 1) I L hs (by omega) Q hq2
    · skip
      refine V_iload_n 2 d3_indexOf_20 rfl rfl ?_
      refine V_iret rfl d3_indexOf_21 (Nat.zero_le _) (Nat.zero_le _) ?_
      have hq2 := hq
      simp only [r3_indexOf_2, hs3, if_pos h2] at hq2
      exact hq2
def r3_indexOf (k : Nat) (c : Nat) (key : Int32) (I : Nat → Nat → Int32) (L : Nat → Nat → Int64) : Int32 := r3_indexOf_2 k c key ((I k 3).toNatClampNeg) 0 I L
set_option maxRecDepth 4000 in
theorem v3_indexOf (g : GlT) {k : Nat} {c : Nat} (hk : okF k c) (key : Int32) (s : Nat) (hc : s ≤ c) (I : Nat → Nat → Int32) (L : Nat → Nat → Int64) (hs : I k 3 = nI s) (Q : Option Value → MemT → Prop) (hq : Q (some (.int (r3_indexOf k c key I L))) (I, L, R0, 305)) : V g (k3_indexOf, 1, 0, 0) 0 0 0 [(0, .ref (xA g k)), (1, .int key)] [] (I, L, R0, 305) Q := by
  have hs3 : (I k 3).toNatClampNeg = s := by rw [hs]; exact nI_clamp (by have := fl_cap hk; omega)
  refine V_iconst d3_indexOf_0 vc_0 rfl ?_
  refine V_istore_n d3_indexOf_1 (Nat.le_of_ble_eq_true rfl) rfl rfl ?_
  refine V_lv (lv1 := [(0, .ref (xA g k)), (1, .int key), (2, .int (nI 0))]) (lvsub_p [1, 2, 0] rfl) ?_
  have hq2 := hq
  simp only [r3_indexOf, hs3] at hq2
  exact t3_indexOf_2 g hk key s hc s 0 I L hs (by omega) Q hq2
theorem w3_indexOf (g : GlT) {k : Nat} {c : Nat} (hk : okF k c) (key : Int32) (s : Nat) (hc : s ≤ c) (I : Nat → Nat → Int32) (L : Nat → Nat → Int64) (hs : I k 3 = nI s) : Call g (k3_indexOf, 1, 0, 0) [.ref (xA g k), .int key] (I, L, R0, 305) (Qi (r3_indexOf k c key I L) (I) L) := Call.of (by decide) (Nat.le_of_ble_eq_true rfl) rfl (v3_indexOf g hk key s hc I L hs _ (And.intro rfl rfl))

def r3_placeFor_2 (k : Nat) (c : Nat) (key : Int32) : Nat → Nat → (Nat → Nat → Int32) → (Nat → Nat → Int64) → Int32
  | 0, i, I, L => nI ((I k 3).toNatClampNeg)
  | n + 1, i, I, L => (if I (k + 1) i ≤ key then r3_placeFor_2 k c key n (i + 1) I L else nI i)
set_option maxRecDepth 4000 in
theorem t3_placeFor_2 (g : GlT) {k : Nat} {c : Nat} (hk : okF k c) (key : Int32) (s : Nat) (hc : s ≤ c) : ∀ (n i : Nat) (I : Nat → Nat → Int32) (L : Nat → Nat → Int64), (hs : I k 3 = nI s) → (hn : i + n = s) → ∀ (Q : Option Value → MemT → Prop), Q (some (.int (r3_placeFor_2 k c key n i I L))) (I, L, R0, 305) → V g (k3_placeFor, 1, 0, 0) 0 0 2 [(0, .ref (xA g k)), (1, .int key), (2, .int (nI i))] [] (I, L, R0, 305) Q := by
  intro n
  induction n with
  | zero =>
    intro i I L hs hn Q hq
    have hs3 : (I k 3).toNatClampNeg = s := by rw [hs]; exact nI_clamp (by have := fl_cap hk; omega)
    refine V_iload_n 2 d3_placeFor_2 rfl rfl ?_
    refine V_aload_n 0 d3_placeFor_3 rfl rfl ?_
    refine V_geti (fl_l0 hk) (fl_b0 hk) f3_27 rfl hs d3_placeFor_4 rfl ?_
    refine V_icmp_ge (tgt := 28) d3_placeFor_7 (by decide) rfl (fun _ => ?_) (fun h1 => absurd (by have := fl_cap hk; exact nI_le (by omega) (by omega)) h1)
    refine V_aload_n 0 d3_placeFor_28 rfl rfl ?_
    refine V_geti (fl_l0 hk) (fl_b0 hk) f3_27 rfl hs d3_placeFor_29 rfl ?_
    refine V_iret rfl d3_placeFor_32 (Nat.zero_le _) (Nat.zero_le _) ?_
    have hq2 := hq
    simp only [r3_placeFor_2, hs3] at hq2
    exact hq2
  | succ n ih =>
    intro i I L hs hn Q hq
    have hs3 : (I k 3).toNatClampNeg = s := by rw [hs]; exact nI_clamp (by have := fl_cap hk; omega)
    refine V_iload_n 2 d3_placeFor_2 rfl rfl ?_
    refine V_aload_n 0 d3_placeFor_3 rfl rfl ?_
    refine V_geti (fl_l0 hk) (fl_b0 hk) f3_27 rfl hs d3_placeFor_4 rfl ?_
    refine V_icmp_ge (tgt := 28) d3_placeFor_7 (by decide) rfl (fun h1 => absurd h1 (by have := fl_cap hk; exact nI_ge (by omega) (by omega))) (fun _ => ?_)
    refine V_aload_n 0 d3_placeFor_10 rfl rfl ?_
    refine V_getr (fl_l0 hk) (fl_b0 hk) f3_15 rfl (fl_r0_0 hk) d3_placeFor_11 rfl ?_
    refine V_iload_n 2 d3_placeFor_14 rfl rfl ?_
    refine V_iald i (fl_l1 hk) (fl_b1 hk) rfl (by omega) rfl d3_placeFor_15 rfl ?_
    refine V_iload_n 1 d3_placeFor_16 rfl rfl ?_
    refine V_icmp_le (tgt := 22) d3_placeFor_17 (by decide) rfl (fun h2 => ?_) (fun h2 => ?_)
    · skip
      refine V_iinc 2 (v := nI (i + 1)) d3_placeFor_22 rfl (nI_1 _) (Nat.le_of_ble_eq_true rfl) rfl rfl ?_
      refine V_goto (tgt := 2) d3_placeFor_25 (by decide) ?_
      refine V_lv (lv1 := [(0, .ref (xA g k)), (1, .int key), (2, .int (nI (i + 1)))]) (lvsub_p [1, 2, 0] rfl) ?_
      have hq2 := hq
      simp only [r3_placeFor_2, hs3, if_pos h2] at hq2
      exact ih (i + 1) I L hs (by omega) Q hq2
    · skip
      refine V_iload_n 2 d3_placeFor_20 rfl rfl ?_
      refine V_iret rfl d3_placeFor_21 (Nat.zero_le _) (Nat.zero_le _) ?_
      have hq2 := hq
      simp only [r3_placeFor_2, hs3, if_neg h2] at hq2
      exact hq2
def r3_placeFor (k : Nat) (c : Nat) (key : Int32) (I : Nat → Nat → Int32) (L : Nat → Nat → Int64) : Int32 := r3_placeFor_2 k c key ((I k 3).toNatClampNeg) 0 I L
set_option maxRecDepth 4000 in
theorem v3_placeFor (g : GlT) {k : Nat} {c : Nat} (hk : okF k c) (key : Int32) (s : Nat) (hc : s ≤ c) (I : Nat → Nat → Int32) (L : Nat → Nat → Int64) (hs : I k 3 = nI s) (Q : Option Value → MemT → Prop) (hq : Q (some (.int (r3_placeFor k c key I L))) (I, L, R0, 305)) : V g (k3_placeFor, 1, 0, 0) 0 0 0 [(0, .ref (xA g k)), (1, .int key)] [] (I, L, R0, 305) Q := by
  have hs3 : (I k 3).toNatClampNeg = s := by rw [hs]; exact nI_clamp (by have := fl_cap hk; omega)
  refine V_iconst d3_placeFor_0 vc_0 rfl ?_
  refine V_istore_n d3_placeFor_1 (Nat.le_of_ble_eq_true rfl) rfl rfl ?_
  refine V_lv (lv1 := [(0, .ref (xA g k)), (1, .int key), (2, .int (nI 0))]) (lvsub_p [1, 2, 0] rfl) ?_
  have hq2 := hq
  simp only [r3_placeFor, hs3] at hq2
  exact t3_placeFor_2 g hk key s hc s 0 I L hs (by omega) Q hq2
theorem w3_placeFor (g : GlT) {k : Nat} {c : Nat} (hk : okF k c) (key : Int32) (s : Nat) (hc : s ≤ c) (I : Nat → Nat → Int32) (L : Nat → Nat → Int64) (hs : I k 3 = nI s) : Call g (k3_placeFor, 1, 0, 0) [.ref (xA g k), .int key] (I, L, R0, 305) (Qi (r3_placeFor k c key I L) (I) L) := Call.of (by decide) (Nat.le_of_ble_eq_true rfl) rfl (v3_placeFor g hk key s hc I L hs _ (And.intro rfl rfl))
