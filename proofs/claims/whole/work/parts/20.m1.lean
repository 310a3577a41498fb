section VN
variable {g : GlT} {X : XT} {kc ks pc pc1 : Nat} {lv : List (Nat × Value)} {st : List Value} {M : MemT} {Q : Option Value → MemT → Prop}
theorem V_addN {x y : Int32} {a b c : Nat} (hx : x = nI a) (hy : y = nI b) (hc : a + b = c) (hd : decode X.1.2.1 pc = .ok (.iadd, 1)) (hp : pc + 1 = pc1) (k : V g X kc ks pc1 lv (.int (nI c) :: st) M Q) : V g X kc ks pc lv (.int y :: .int x :: st) M Q := by
  subst hx; subst hy; subst hc
  refine V_iadd hd hp ?_
  rw [nI_add]
  exact k
theorem V_mulN {x y : Int32} {a b c : Nat} (hx : x = nI a) (hy : y = nI b) (hc : a * b = c) (hd : decode X.1.2.1 pc = .ok (.imul, 1)) (hp : pc + 1 = pc1) (k : V g X kc ks pc1 lv (.int (nI c) :: st) M Q) : V g X kc ks pc lv (.int y :: .int x :: st) M Q := by
  subst hx; subst hy; subst hc
  refine V_imul hd hp ?_
  rw [pk_mul]
  exact k
theorem V_subN {x y : Int32} {a b c : Nat} (hx : x = nI a) (hy : y = nI b) (hc : c + b = a) (hd : decode X.1.2.1 pc = .ok (.isub, 1)) (hp : pc + 1 = pc1) (k : V g X kc ks pc1 lv (.int (nI c) :: st) M Q) : V g X kc ks pc lv (.int y :: .int x :: st) M Q := by
  subst hx; subst hy; subst hc
  refine V_isub hd hp ?_
  rw [pk_sub (Nat.le_add_left _ _), Nat.add_sub_cancel]
  exact k
end VN
theorem ite_get {α : Type} {c : Prop} [Decidable c] {A B : Nat → Nat → α} {k j : Nat} {v : α} (hA : A k j = v) (hB : B k j = v) : (if c then A else B) k j = v := by split <;> assumption

def r11_at (a : Nat) (b : Nat) : Int32 := nI (256 * a + b)
set_option maxRecDepth 4000 in
theorem v11_at (g : GlT)  (a : Nat) (b : Nat) (I : Nat → Nat → Int32) (L : Nat → Nat → Int64) (Q : Option Value → MemT → Prop) (hq : Q (some (.int (nI (256 * a + b)))) (I, L, R0, 305)) : V g (k11_at, 1, 0, 0) 0 0 0 [(0, .int (nI a)), (1, .int (nI b))] [] (I, L, R0, 305) Q := by
  refine V_sipush (pc1 := 3) d11_at_0 vs_256 rfl ?_
  refine V_iload_n (pc1 := 4) 0 d11_at_3 rfl rfl ?_
  refine V_mulN (pc1 := 5) (a := 256) (b := a) (c := 256 * a) rfl rfl (by omega) d11_at_4 rfl ?_
  refine V_iload_n (pc1 := 6) 1 d11_at_5 rfl rfl ?_
  refine V_addN (pc1 := 7) (a := 256 * a) (b := b) (c := 256 * a + b) rfl rfl (by omega) d11_at_6 rfl ?_
  refine V_iret rfl d11_at_7 (Nat.zero_le _) (Nat.zero_le _) ?_
  exact hq
theorem w11_at (g : GlT)  (a : Nat) (b : Nat) (I : Nat → Nat → Int32) (L : Nat → Nat → Int64) : Call g (k11_at, 1, 0, 0) [.int (nI a), .int (nI b)] (I, L, R0, 305) (Qi (nI (256 * a + b)) (I) L) := Call.of (by decide) (Nat.le_of_ble_eq_true rfl) rfl (v11_at g  a b  I L  _ (And.intro rfl rfl))

def r11_wait (a : Nat) (b : Nat) (c : Nat) : Int32 := nI (256 * a + 5 * b + c + 30)
set_option maxRecDepth 4000 in
theorem v11_wait (g : GlT)  (a : Nat) (b : Nat) (c : Nat) (I : Nat → Nat → Int32) (L : Nat → Nat → Int64) (Q : Option Value → MemT → Prop) (hq : Q (some (.int (nI (256 * a + 5 * b + c + 30)))) (I, L, R0, 305)) : V g (k11_wait, 1, 0, 0) 0 0 0 [(0, .int (nI a)), (1, .int (nI b)), (2, .int (nI c))] [] (I, L, R0, 305) Q := by
  refine V_sipush (pc1 := 3) d11_wait_0 vs_256 rfl ?_
  refine V_iload_n (pc1 := 4) 0 d11_wait_3 rfl rfl ?_
  refine V_mulN (pc1 := 5) (a := 256) (b := a) (c := 256 * a) rfl rfl (by omega) d11_wait_4 rfl ?_
  refine V_bipush (pc1 := 7) d11_wait_5 vb_30 rfl ?_
  refine V_addN (pc1 := 8) (a := 256 * a) (b := 30) (c := 256 * a + 30) rfl rfl (by omega) d11_wait_7 rfl ?_
  refine V_iconst (pc1 := 9) d11_wait_8 vc_5 rfl ?_
  refine V_iload_n (pc1 := 10) 1 d11_wait_9 rfl rfl ?_
  refine V_mulN (pc1 := 11) (a := 5) (b := b) (c := 5 * b) rfl rfl (by omega) d11_wait_10 rfl ?_
  refine V_addN (pc1 := 12) (a := 256 * a + 30) (b := 5 * b) (c := 256 * a + 5 * b + 30) rfl rfl (by omega) d11_wait_11 rfl ?_
  refine V_iload_n (pc1 := 13) 2 d11_wait_12 rfl rfl ?_
  refine V_addN (pc1 := 14) (a := 256 * a + 5 * b + 30) (b := c) (c := 256 * a + 5 * b + c + 30) rfl rfl (by omega) d11_wait_13 rfl ?_
  refine V_iret rfl d11_wait_14 (Nat.zero_le _) (Nat.zero_le _) ?_
  exact hq
theorem w11_wait (g : GlT)  (a : Nat) (b : Nat) (c : Nat) (I : Nat → Nat → Int32) (L : Nat → Nat → Int64) : Call g (k11_wait, 1, 0, 0) [.int (nI a), .int (nI b), .int (nI c)] (I, L, R0, 305) (Qi (nI (256 * a + 5 * b + c + 30)) (I) L) := Call.of (by decide) (Nat.le_of_ble_eq_true rfl) rfl (v11_wait g  a b c  I L  _ (And.intro rfl rfl))

def r11_got (a : Nat) (b : Nat) (c : Nat) : Int32 := nI (256 * a + 4 * b + c + 50)
set_option maxRecDepth 4000 in
theorem v11_got (g : GlT)  (a : Nat) (b : Nat) (c : Nat) (I : Nat → Nat → Int32) (L : Nat → Nat → Int64) (Q : Option Value → MemT → Prop) (hq : Q (some (.int (nI (256 * a + 4 * b + c + 50)))) (I, L, R0, 305)) : V g (k11_got, 1, 0, 0) 0 0 0 [(0, .int (nI a)), (1, .int (nI b)), (2, .int (nI c))] [] (I, L, R0, 305) Q := by
  refine V_sipush (pc1 := 3) d11_got_0 vs_256 rfl ?_
  refine V_iload_n (pc1 := 4) 0 d11_got_3 rfl rfl ?_
  refine V_mulN (pc1 := 5) (a := 256) (b := a) (c := 256 * a) rfl rfl (by omega) d11_got_4 rfl ?_
  refine V_bipush (pc1 := 7) d11_got_5 vb_50 rfl ?_
  refine V_addN (pc1 := 8) (a := 256 * a) (b := 50) (c := 256 * a + 50) rfl rfl (by omega) d11_got_7 rfl ?_
  refine V_iconst (pc1 := 9) d11_got_8 vc_4 rfl ?_
  refine V_iload_n (pc1 := 10) 1 d11_got_9 rfl rfl ?_
  refine V_mulN (pc1 := 11) (a := 4) (b := b) (c := 4 * b) rfl rfl (by omega) d11_got_10 rfl ?_
  refine V_addN (pc1 := 12) (a := 256 * a + 50) (b := 4 * b) (c := 256 * a + 4 * b + 50) rfl rfl (by omega) d11_got_11 rfl ?_
  refine V_iload_n (pc1 := 13) 2 d11_got_12 rfl rfl ?_
  refine V_addN (pc1 := 14) (a := 256 * a + 4 * b + 50) (b := c) (c := 256 * a + 4 * b + c + 50) rfl rfl (by omega) d11_got_13 rfl ?_
  refine V_iret rfl d11_got_14 (Nat.zero_le _) (Nat.zero_le _) ?_
  exact hq
theorem w11_got (g : GlT)  (a : Nat) (b : Nat) (c : Nat) (I : Nat → Nat → Int32) (L : Nat → Nat → Int64) : Call g (k11_got, 1, 0, 0) [.int (nI a), .int (nI b), .int (nI c)] (I, L, R0, 305) (Qi (nI (256 * a + 4 * b + c + 50)) (I) L) := Call.of (by decide) (Nat.le_of_ble_eq_true rfl) rfl (v11_got g  a b c  I L  _ (And.intro rfl rfl))

def r11_answer (a : Nat) (b : Nat) (c : Nat) : Int32 := nI (256 * a + 3 * b + c + 74)
set_option maxRecDepth 4000 in
theorem v11_answer (g : GlT)  (a : Nat) (b : Nat) (c : Nat) (I : Nat → Nat → Int32) (L : Nat → Nat → Int64) (Q : Option Value → MemT → Prop) (hq : Q (some (.int (nI (256 * a + 3 * b + c + 74)))) (I, L, R0, 305)) : V g (k11_answer, 1, 0, 0) 0 0 0 [(0, .int (nI a)), (1, .int (nI b)), (2, .int (nI c))] [] (I, L, R0, 305) Q := by
  refine V_sipush (pc1 := 3) d11_answer_0 vs_256 rfl ?_
  refine V_iload_n (pc1 := 4) 0 d11_answer_3 rfl rfl ?_
  refine V_mulN (pc1 := 5) (a := 256) (b := a) (c := 256 * a) rfl rfl (by omega) d11_answer_4 rfl ?_
  refine V_bipush (pc1 := 7) d11_answer_5 vb_74 rfl ?_
  refine V_addN (pc1 := 8) (a := 256 * a) (b := 74) (c := 256 * a + 74) rfl rfl (by omega) d11_answer_7 rfl ?_
  refine V_iconst (pc1 := 9) d11_answer_8 vc_3 rfl ?_
  refine V_iload_n (pc1 := 10) 1 d11_answer_9 rfl rfl ?_
  refine V_mulN (pc1 := 11) (a := 3) (b := b) (c := 3 * b) rfl rfl (by omega) d11_answer_10 rfl ?_
  refine V_addN (pc1 := 12) (a := 256 * a + 74) (b := 3 * b) (c := 256 * a + 3 * b + 74) rfl rfl (by omega) d11_answer_11 rfl ?_
  refine V_iload_n (pc1 := 13) 2 d11_answer_12 rfl rfl ?_
  refine V_addN (pc1 := 14) (a := 256 * a + 3 * b + 74) (b := c) (c := 256 * a + 3 * b + c + 74) rfl rfl (by omega) d11_answer_13 rfl ?_
  refine V_iret rfl d11_answer_14 (Nat.zero_le _) (Nat.zero_le _) ?_
  exact hq
theorem w11_answer (g : GlT)  (a : Nat) (b : Nat) (c : Nat) (I : Nat → Nat → Int32) (L : Nat → Nat → Int64) : Call g (k11_answer, 1, 0, 0) [.int (nI a), .int (nI b), .int (nI c)] (I, L, R0, 305) (Qi (nI (256 * a + 3 * b + c + 74)) (I) L) := Call.of (by decide) (Nat.le_of_ble_eq_true rfl) rfl (v11_answer g  a b c  I L  _ (And.intro rfl rfl))

theorem w11_at2 (g : GlT) (a b e : Nat) (he : 256 * a + b = e) (I : Nat → Nat → Int32) (L : Nat → Nat → Int64) : Call g (k11_at, 1, 0, 0) [.int (nI a), .int (nI b)] (I, L, R0, 305) (Qi (nI e) I L) := he ▸ w11_at g a b I L
theorem w11_wait2 (g : GlT) (a b c e : Nat) (he : 256 * a + 5 * b + c + 30 = e) (I : Nat → Nat → Int32) (L : Nat → Nat → Int64) : Call g (k11_wait, 1, 0, 0) [.int (nI a), .int (nI b), .int (nI c)] (I, L, R0, 305) (Qi (nI e) I L) := he ▸ w11_wait g a b c I L
theorem w11_got2 (g : GlT) (a b c e : Nat) (he : 256 * a + 4 * b + c + 50 = e) (I : Nat → Nat → Int32) (L : Nat → Nat → Int64) : Call g (k11_got, 1, 0, 0) [.int (nI a), .int (nI b), .int (nI c)] (I, L, R0, 305) (Qi (nI e) I L) := he ▸ w11_got g a b c I L
theorem w11_answer2 (g : GlT) (a b c e : Nat) (he : 256 * a + 3 * b + c + 74 = e) (I : Nat → Nat → Int32) (L : Nat → Nat → Int64) : Call g (k11_answer, 1, 0, 0) [.int (nI a), .int (nI b), .int (nI c)] (I, L, R0, 305) (Qi (nI e) I L) := he ▸ w11_answer g a b c I L
def r11_in (x : Int32) (a : Int32) (b : Int32) : Bool := (if (x < a) ∨ (b < x) then false else true)
set_option maxRecDepth 4000 in
theorem v11_in (g : GlT)  (x : Int32) (a : Int32) (b : Int32) (I : Nat → Nat → Int32) (L : Nat → Nat → Int64) (Q : Option Value → MemT → Prop) (hq : Q (some (.int (bI (r11_in x a b)))) (I, L, R0, 305)) : V g (k11_in, 1, 0, 0) 0 0 0 [(0, .int x), (1, .int a), (2, .int b)] [] (I, L, R0, 305) Q := by
  refine V_iload_n (pc1 := 1) 0 d11_in_0 rfl rfl ?_
  refine V_iload_n (pc1 := 2) 1 d11_in_1 rfl rfl ?_
  have key6 : ∀ (y15_0 : Int32), y15_0 = bI (if (x < a) ∨ (b < x) then false else true) → ∀ (lv : List (Nat × Value)), lvsub [(0, .int x), (1, .int a), (2, .int b)] lv → V g (k11_in, 1, 0, 0) 0 0 15 lv [.int y15_0] (I, L, R0, 305) Q := by
    intro y15_0 ey15_0
    subst ey15_0
    intro lv hlv
    refine V_lv hlv ?_
    refine V_zret rfl (bI_or _) d11_in_15 (Nat.zero_le _) (Nat.zero_le _) ?_
    have hq2 := hq
    simp only [r11_in] at hq2
    exact hq2
  have k2 : ((x < a) ∨ (b < x)) → V g (k11_in, 1, 0, 0) 0 0 14 [(0, .int x), (1, .int a), (2, .int b)] [] (I, L, R0, 305) Q := by
    intro h1
    refine V_iconst (pc1 := 15) d11_in_14 vc_0 rfl ?_
    exact key6 _ (by first | rfl | (simp only [if_pos h1]; done) | (simp only [if_pos h1]; rfl)) _ (lvsub_p [0, 1, 2] rfl)
  have k3 : ¬ ((x < a) ∨ (b < x)) → V g (k11_in, 1, 0, 0) 0 0 10 [(0, .int x), (1, .int a), (2, .int b)] [] (I, L, R0, 305) Q := by
    intro h1
    refine V_iconst (pc1 := 11) d11_in_10 vc_1 rfl ?_
    refine V_goto (tgt := 15) d11_in_11 (by decide) ?_
    exact key6 _ (by first | rfl | (simp only [if_neg h1]; done) | (simp only [if_neg h1]; rfl)) _ (lvsub_p [0, 1, 2] rfl)
  refine V_icmp_lt (tgt := 14) (pc1 := 5) d11_in_2 (by decide) rfl (fun h4 => ?_) (fun h4 => ?_)
  · skip
    exact k2 (Or.inl h4)
  · skip
    refine V_iload_n (pc1 := 6) 0 d11_in_5 rfl rfl ?_
    refine V_iload_n (pc1 := 7) 2 d11_in_6 rfl rfl ?_
    refine V_icmp_gt (tgt := 14) (pc1 := 10) d11_in_7 (by decide) rfl (fun h5 => ?_) (fun h5 => ?_)
    · skip
      exact k2 (Or.inr h5)
    · skip
      exact k3 (fun z => z.elim h4 h5)
theorem w11_in (g : GlT)  (x : Int32) (a : Int32) (b : Int32) (I : Nat → Nat → Int32) (L : Nat → Nat → Int64) : Call g (k11_in, 1, 0, 0) [.int x, .int a, .int b] (I, L, R0, 305) (Qi (bI (r11_in x a b)) (I) L) := Call.of (by decide) (Nat.le_of_ble_eq_true rfl) rfl (v11_in g  x a b  I L  _ (And.intro rfl rfl))

def r11_isNode (x : Int32) : Bool := r11_in x 0 3
set_option maxRecDepth 4000 in
theorem v11_isNode (g : GlT)  (x : Int32) (I : Nat → Nat → Int32) (L : Nat → Nat → Int64) (Q : Option Value → MemT → Prop) (hq : Q (some (.int (bI (r11_isNode x)))) (I, L, R0, 305)) : V g (k11_isNode, 2, 0, 0) 0 0 0 [(0, .int x)] [] (I, L, R0, 305) Q := by
  refine V_iload_n (pc1 := 1) 0 d11_isNode_0 rfl rfl ?_
  refine V_iconst (pc1 := 2) d11_isNode_1 vc_0 rfl ?_
  refine V_iconst (pc1 := 3) d11_isNode_2 vc_3 rfl ?_
  refine V_si (pc1 := 6) (w11_in g  x 0 3  I L ) s11_in l11_39 rfl rfl ⟨Nat.le_of_ble_eq_true rfl, Nat.le_of_ble_eq_true rfl, Nat.le_refl _, Nat.le_refl _⟩ (Nat.le_of_ble_eq_true rfl) rfl d11_isNode_3 rfl ?_
  refine V_zret rfl (bI_or _) d11_isNode_6 (Nat.zero_le _) (Nat.zero_le _) ?_
  have hq2 := hq
  simp only [r11_isNode] at hq2
  exact hq2
theorem w11_isNode (g : GlT)  (x : Int32) (I : Nat → Nat → Int32) (L : Nat → Nat → Int64) : Call g (k11_isNode, 2, 0, 0) [.int x] (I, L, R0, 305) (Qi (bI (r11_isNode x)) (I) L) := Call.of (by decide) (Nat.le_of_ble_eq_true rfl) rfl (v11_isNode g  x  I L  _ (And.intro rfl rfl))

def r11_isFrame (idn : Int32) (rm : Int32) (ln : Int32) (dt : Int32) : Bool := (if (¬ ((if (¬ ((r11_in idn 0 2047) = true)) ∨ ((¬ ((r11_in ln 0 4) = true)) ∨ ((¬ (rm = 0)) ∧ (¬ (dt = 0)))) then false else true) = true)) ∨ ((¬ (ln = 4)) ∧ (¬ ((dt.toUInt32 >>> (((8 : Int32) * ln).toUInt32 &&& Int32.toUInt32 31)).toInt32 = 0))) then false else true)
set_option maxRecDepth 4000 in
theorem v11_isFrame (g : GlT)  (idn : Int32) (rm : Int32) (ln : Int32) (dt : Int32) (I : Nat → Nat → Int32) (L : Nat → Nat → Int64) (Q : Option Value → MemT → Prop) (hq : Q (some (.int (bI (r11_isFrame idn rm ln dt)))) (I, L, R0, 305)) : V g (k11_isFrame, 2, 0, 0) 0 0 0 [(0, .int idn), (1, .int rm), (2, .int ln), (3, .int dt)] [] (I, L, R0, 305) Q := by
  refine V_iload_n (pc1 := 1) 0 d11_isFrame_0 rfl rfl ?_
  refine V_iconst (pc1 := 2) d11_isFrame_1 vc_0 rfl ?_
  refine V_sipush (pc1 := 5) d11_isFrame_2 vs_2047 rfl ?_
  refine V_si (pc1 := 8) (w11_in g  idn 0 2047  I L ) s11_in l11_39 rfl rfl ⟨Nat.le_of_ble_eq_true rfl, Nat.le_of_ble_eq_true rfl, Nat.le_refl _, Nat.le_refl _⟩ (Nat.le_of_ble_eq_true rfl) rfl d11_isFrame_5 rfl ?_
  have key8 : ∀ (y33_0 : Int32), y33_0 = bI (if (¬ ((r11_in idn 0 2047) = true)) ∨ ((¬ ((r11_in ln 0 4) = true)) ∨ ((¬ (rm = 0)) ∧ (¬ (dt = 0)))) then false else true) → ∀ (lv : List (Nat × Value)), lvsub [(0, .int idn), (1, .int rm), (2, .int ln), (3, .int dt)] lv → V g (k11_isFrame, 2, 0, 0) 0 0 33 lv [.int y33_0] (I, L, R0, 305) Q := by
    intro y33_0 ey33_0
    subst ey33_0
    intro lv hlv
    refine V_lv hlv ?_
    refine V_istore (pc1 := 35) d11_isFrame_33 (Nat.le_of_ble_eq_true rfl) rfl rfl ?_
    refine V_iload (pc1 := 37) 0 d11_isFrame_35 rfl rfl ?_
    have key15 : ∀ (y59_0 : Int32), y59_0 = bI (if (¬ ((if (¬ ((r11_in idn 0 2047) = true)) ∨ ((¬ ((r11_in ln 0 4) = true)) ∨ ((¬ (rm = 0)) ∧ (¬ (dt = 0)))) then false else true) = true)) ∨ ((¬ (ln = 4)) ∧ (¬ ((dt.toUInt32 >>> (((8 : Int32) * ln).toUInt32 &&& Int32.toUInt32 31)).toInt32 = 0))) then false else true) → ∀ (lv : List (Nat × Value)), lvsub [(4, .int (bI (if (¬ ((r11_in idn 0 2047) = true)) ∨ ((¬ ((r11_in ln 0 4) = true)) ∨ ((¬ (rm = 0)) ∧ (¬ (dt = 0)))) then false else true))), (0, .int idn), (1, .int rm), (2, .int ln), (3, .int dt)] lv → V g (k11_isFrame, 2, 0, 0) 0 0 59 lv [.int y59_0] (I, L, R0, 305) Q := by
      intro y59_0 ey59_0
      subst ey59_0
      intro lv hlv
      refine V_lv hlv ?_
      refine V_zret rfl (bI_or _) d11_isFrame_59 (Nat.zero_le _) (Nat.zero_le _) ?_
      have hq2 := hq
      simp only [r11_isFrame] at hq2
      exact hq2
    have k10 : ((¬ ((if (¬ ((r11_in idn 0 2047) = true)) ∨ ((¬ ((r11_in ln 0 4) = true)) ∨ ((¬ (rm = 0)) ∧ (¬ (dt = 0)))) then false else true) = true)) ∨ ((¬ (ln = 4)) ∧ (¬ ((dt.toUInt32 >>> (((8 : Int32) * ln).toUInt32 &&& Int32.toUInt32 31)).toInt32 = 0)))) → V g (k11_isFrame, 2, 0, 0) 0 0 58 [(4, .int (bI (if (¬ ((r11_in idn 0 2047) = true)) ∨ ((¬ ((r11_in ln 0 4) = true)) ∨ ((¬ (rm = 0)) ∧ (¬ (dt = 0)))) then false else true))), (0, .int idn), (1, .int rm), (2, .int ln), (3, .int dt)] [] (I, L, R0, 305) Q := by
      intro h9
      refine V_iconst (pc1 := 59) d11_isFrame_58 vc_0 rfl ?_
      exact key15 _ (by first | rfl | (simp only [if_pos h9]; done) | (simp only [if_pos h9]; rfl)) _ (lvsub_p [0, 1, 2, 3, 4] rfl)
    have k11 : ¬ ((¬ ((if (¬ ((r11_in idn 0 2047) = true)) ∨ ((¬ ((r11_in ln 0 4) = true)) ∨ ((¬ (rm = 0)) ∧ (¬ (dt = 0)))) then false else true) = true)) ∨ ((¬ (ln = 4)) ∧ (¬ ((dt.toUInt32 >>> (((8 : Int32) * ln).toUInt32 &&& Int32.toUInt32 31)).toInt32 = 0)))) → V g (k11_isFrame, 2, 0, 0) 0 0 54 [(4, .int (bI (if (¬ ((r11_in idn 0 2047) = true)) ∨ ((¬ ((r11_in ln 0 4) = true)) ∨ ((¬ (rm = 0)) ∧ (¬ (dt = 0)))) then false else true))), (0, .int idn), (1, .int rm), (2, .int ln), (3, .int dt)] [] (I, L, R0, 305) Q := by
      intro h9
      refine V_iconst (pc1 := 55) d11_isFrame_54 vc_1 rfl ?_
      refine V_goto (tgt := 59) d11_isFrame_55 (by decide) ?_
      exact key15 _ (by first | rfl | (simp only [if_neg h9]; done) | (simp only [if_neg h9]; rfl)) _ (lvsub_p [0, 1, 2, 3, 4] rfl)
    refine V_beq (tgt := 58) (pc1 := 40) d11_isFrame_37 (by decide) rfl (fun h12 => ?_) (fun h12 => ?_)
    · skip
      exact k10 (Or.inl h12)
    · skip
      refine V_iload_n (pc1 := 41) 3 d11_isFrame_40 rfl rfl ?_
      refine V_iconst (pc1 := 42) d11_isFrame_41 vc_4 rfl ?_
      refine V_icmp_eq (tgt := 54) (pc1 := 45) d11_isFrame_42 (by decide) rfl (fun h13 => ?_) (fun h13 => ?_)
      · skip
        exact k11 (fun z => z.elim (fun z => z h12) (fun z => (fun z => z h13) z.1))
      · skip
        refine V_iload_n (pc1 := 46) 4 d11_isFrame_45 rfl rfl ?_
        refine V_bipush (pc1 := 48) d11_isFrame_46 vb_8 rfl ?_
        refine V_iload_n (pc1 := 49) 3 d11_isFrame_48 rfl rfl ?_
        refine V_imul (pc1 := 50) d11_isFrame_49 rfl ?_
        refine V_iushr (pc1 := 51) d11_isFrame_50 rfl ?_
        refine V_if_ne (tgt := 58) (pc1 := 54) d11_isFrame_51 (by decide) rfl (fun h14 => ?_) (fun h14 => ?_)
        · skip
          exact k10 (Or.inr ⟨h13, h14⟩)
        · skip
          exact k11 (fun z => z.elim (fun z => z h12) (fun z => (fun z => z h14) z.2))
  have k2 : ((¬ ((r11_in idn 0 2047) = true)) ∨ ((¬ ((r11_in ln 0 4) = true)) ∨ ((¬ (rm = 0)) ∧ (¬ (dt = 0))))) → V g (k11_isFrame, 2, 0, 0) 0 0 32 [(0, .int idn), (1, .int rm), (2, .int ln), (3, .int dt)] [] (I, L, R0, 305) Q := by
    intro h1
    refine V_iconst (pc1 := 33) d11_isFrame_32 vc_0 rfl ?_
    exact key8 _ (by first | rfl | (simp only [if_pos h1]; done) | (simp only [if_pos h1]; rfl)) _ (lvsub_p [0, 1, 2, 3] rfl)
  have k3 : ¬ ((¬ ((r11_in idn 0 2047) = true)) ∨ ((¬ ((r11_in ln 0 4) = true)) ∨ ((¬ (rm = 0)) ∧ (¬ (dt = 0))))) → V g (k11_isFrame, 2, 0, 0) 0 0 28 [(0, .int idn), (1, .int rm), (2, .int ln), (3, .int dt)] [] (I, L, R0, 305) Q := by
    intro h1
    refine V_iconst (pc1 := 29) d11_isFrame_28 vc_1 rfl ?_
    refine V_goto (tgt := 33) d11_isFrame_29 (by decide) ?_
    exact key8 _ (by first | rfl | (simp only [if_neg h1]; done) | (simp only [if_neg h1]; rfl)) _ (lvsub_p [0, 1, 2, 3] rfl)
  refine V_beq (tgt := 32) (pc1 := 11) d11_isFrame_8 (by decide) rfl (fun h4 => ?_) (fun h4 => ?_)
  · skip
    exact k2 (Or.inl h4)
  · skip
    refine V_iload_n (pc1 := 12) 2 d11_isFrame_11 rfl rfl ?_
    refine V_iconst (pc1 := 13) d11_isFrame_12 vc_0 rfl ?_
    refine V_iconst (pc1 := 14) d11_isFrame_13 vc_4 rfl ?_
    refine V_si (pc1 := 17) (w11_in g  ln 0 4  I L ) s11_in l11_39 rfl rfl ⟨Nat.le_of_ble_eq_true rfl, Nat.le_of_ble_eq_true rfl, Nat.le_refl _, Nat.le_refl _⟩ (Nat.le_of_ble_eq_true rfl) rfl d11_isFrame_14 rfl ?_
    refine V_beq (tgt := 32) (pc1 := 20) d11_isFrame_17 (by decide) rfl (fun h5 => ?_) (fun h5 => ?_)
    · skip
      exact k2 (Or.inr (Or.inl h5))
    · skip
      refine V_iload_n (pc1 := 21) 1 d11_isFrame_20 rfl rfl ?_
      refine V_if_eq (tgt := 28) (pc1 := 24) d11_isFrame_21 (by decide) rfl (fun h6 => ?_) (fun h6 => ?_)
      · skip
        exact k3 (fun z => z.elim (fun z => z h4) (fun z => z.elim (fun z => z h5) (fun z => (fun z => z h6) z.1)))
      · skip
        refine V_iload_n (pc1 := 25) 3 d11_isFrame_24 rfl rfl ?_
        refine V_if_ne (tgt := 32) (pc1 := 28) d11_isFrame_25 (by decide) rfl (fun h7 => ?_) (fun h7 => ?_)
        · skip
          exact k2 (Or.inr (Or.inr ⟨h6, h7⟩))
        · skip
          exact k3 (fun z => z.elim (fun z => z h4) (fun z => z.elim (fun z => z h5) (fun z => (fun z => z h7) z.2)))
theorem w11_isFrame (g : GlT)  (idn : Int32) (rm : Int32) (ln : Int32) (dt : Int32) (I : Nat → Nat → Int32) (L : Nat → Nat → Int64) : Call g (k11_isFrame, 2, 0, 0) [.int idn, .int rm, .int ln, .int dt] (I, L, R0, 305) (Qi (bI (r11_isFrame idn rm ln dt)) (I) L) := Call.of (by decide) (Nat.le_of_ble_eq_true rfl) rfl (v11_isFrame g  idn rm ln dt  I L  _ (And.intro rfl rfl))

def r11_worst (ln : Int32) : Int32 := ((47 : Int32) + ((8 : Int32) * ln)) + (((33 : Int32) + ((8 : Int32) * ln)) / 4)
set_option maxRecDepth 4000 in
theorem v11_worst (g : GlT)  (ln : Int32) (I : Nat → Nat → Int32) (L : Nat → Nat → Int64) (Q : Option Value → MemT → Prop) (hq : Q (some (.int (r11_worst ln))) (I, L, R0, 305)) : V g (k11_worst, 1, 0, 0) 0 0 0 [(0, .int ln)] [] (I, L, R0, 305) Q := by
  refine V_bipush (pc1 := 2) d11_worst_0 vb_47 rfl ?_
  refine V_bipush (pc1 := 4) d11_worst_2 vb_8 rfl ?_
  refine V_iload_n (pc1 := 5) 0 d11_worst_4 rfl rfl ?_
  refine V_imul (pc1 := 6) d11_worst_5 rfl ?_
  refine V_iadd (pc1 := 7) d11_worst_6 rfl ?_
  refine V_bipush (pc1 := 9) d11_worst_7 vb_33 rfl ?_
  refine V_bipush (pc1 := 11) d11_worst_9 vb_8 rfl ?_
  refine V_iload_n (pc1 := 12) 0 d11_worst_11 rfl rfl ?_
  refine V_imul (pc1 := 13) d11_worst_12 rfl ?_
  refine V_iadd (pc1 := 14) d11_worst_13 rfl ?_
  refine V_iconst (pc1 := 15) d11_worst_14 vc_4 rfl ?_
  refine V_idiv (pc1 := 16) d11_worst_15 (by decide) rfl ?_
  refine V_iadd (pc1 := 17) d11_worst_16 rfl ?_
  refine V_iret rfl d11_worst_17 (Nat.zero_le _) (Nat.zero_le _) ?_
  have hq2 := hq
  simp only [r11_worst] at hq2
  exact hq2
theorem w11_worst (g : GlT)  (ln : Int32) (I : Nat → Nat → Int32) (L : Nat → Nat → Int64) : Call g (k11_worst, 1, 0, 0) [.int ln] (I, L, R0, 305) (Qi (r11_worst ln) (I) L) := Call.of (by decide) (Nat.le_of_ble_eq_true rfl) rfl (v11_worst g  ln  I L  _ (And.intro rfl rfl))

def r11_hex (x : Int32) : Int32 := (if (r11_in x 48 57) = true then x - 48 else (if (r11_in x 97 102) = true then (x - 97) + 10 else (-1)))
set_option maxRecDepth 4000 in
theorem v11_hex (g : GlT)  (x : Int32) (I : Nat → Nat → Int32) (L : Nat → Nat → Int64) (Q : Option Value → MemT → Prop) (hq : Q (some (.int (r11_hex x))) (I, L, R0, 305)) : V g (k11_hex, 2, 0, 0) 0 0 0 [(0, .int x)] [] (I, L, R0, 305) Q := by
  refine V_iload_n (pc1 := 1) 0 d11_hex_0 rfl rfl ?_
  refine V_bipush (pc1 := 3) d11_hex_1 vb_48 rfl ?_
  refine V_bipush (pc1 := 5) d11_hex_3 vb_57 rfl ?_
  refine V_si (pc1 := 8) (w11_in g  x 48 57  I L ) s11_in l11_39 rfl rfl ⟨Nat.le_of_ble_eq_true rfl, Nat.le_of_ble_eq_true rfl, Nat.le_refl _, Nat.le_refl _⟩ (Nat.le_of_ble_eq_true rfl) rfl d11_hex_5 rfl ?_
  have key3 : ∀ (y40_0 : Int32), y40_0 = (if (r11_in x 48 57) = true then x - 48 else (if (r11_in x 97 102) = true then (x - 97) + 10 else (-1))) → ∀ (lv : List (Nat × Value)), lvsub [(0, .int x)] lv → V g (k11_hex, 2, 0, 0) 0 0 40 lv [.int y40_0] (I, L, R0, 305) Q := by
    intro y40_0 ey40_0
    subst ey40_0
    intro lv hlv
    refine V_lv hlv ?_
    refine V_iret rfl d11_hex_40 (Nat.zero_le _) (Nat.zero_le _) ?_
    have hq2 := hq
    simp only [r11_hex] at hq2
    exact hq2
  refine V_beq (tgt := 18) (pc1 := 11) d11_hex_8 (by decide) rfl (fun h1 => ?_) (fun h1 => ?_)
  · skip
    refine V_iload_n (pc1 := 19) 0 d11_hex_18 rfl rfl ?_
    refine V_bipush (pc1 := 21) d11_hex_19 vb_97 rfl ?_
    refine V_bipush (pc1 := 23) d11_hex_21 vb_102 rfl ?_
    refine V_si (pc1 := 26) (w11_in g  x 97 102  I L ) s11_in l11_39 rfl rfl ⟨Nat.le_of_ble_eq_true rfl, Nat.le_of_ble_eq_true rfl, Nat.le_refl _, Nat.le_refl _⟩ (Nat.le_of_ble_eq_true rfl) rfl d11_hex_23 rfl ?_
    refine V_beq (tgt := 39) (pc1 := 29) d11_hex_26 (by decide) rfl (fun h2 => ?_) (fun h2 => ?_)
    · skip
      refine V_iconst (pc1 := 40) d11_hex_39 vc_m1 rfl ?_
      exact key3 _ (by first | rfl | (simp only [if_neg h1, if_neg h2]; done) | (simp only [if_neg h1, if_neg h2]; rfl)) _ (lvsub_p [0] rfl)
    · skip
      refine V_iload_n (pc1 := 30) 0 d11_hex_29 rfl rfl ?_
      refine V_bipush (pc1 := 32) d11_hex_30 vb_97 rfl ?_
      refine V_isub (pc1 := 33) d11_hex_32 rfl ?_
      refine V_bipush (pc1 := 35) d11_hex_33 vb_10 rfl ?_
      refine V_iadd (pc1 := 36) d11_hex_35 rfl ?_
      refine V_goto (tgt := 40) d11_hex_36 (by decide) ?_
      exact key3 _ (by first | rfl | (simp only [if_neg h1, if_pos h2]; done) | (simp only [if_neg h1, if_pos h2]; rfl)) _ (lvsub_p [0] rfl)
  · skip
    refine V_iload_n (pc1 := 12) 0 d11_hex_11 rfl rfl ?_
    refine V_bipush (pc1 := 14) d11_hex_12 vb_48 rfl ?_
    refine V_isub (pc1 := 15) d11_hex_14 rfl ?_
    refine V_goto (tgt := 40) d11_hex_15 (by decide) ?_
    exact key3 _ (by first | rfl | (simp only [if_pos h1]; done) | (simp only [if_pos h1]; rfl)) _ (lvsub_p [0] rfl)
theorem w11_hex (g : GlT)  (x : Int32) (I : Nat → Nat → Int32) (L : Nat → Nat → Int64) : Call g (k11_hex, 2, 0, 0) [.int x] (I, L, R0, 305) (Qi (r11_hex x) (I) L) := Call.of (by decide) (Nat.le_of_ble_eq_true rfl) rfl (v11_hex g  x  I L  _ (And.intro rfl rfl))

def r11_more (h : Int64) (x : Int32) : Int64 := ((31 : Int64) * h) + x.toInt64
set_option maxRecDepth 4000 in
theorem v11_more (g : GlT)  (h : Int64) (x : Int32) (I : Nat → Nat → Int32) (L : Nat → Nat → Int64) (Q : Option Value → MemT → Prop) (hq : Q (some (.long (r11_more h x))) (I, L, R0, 305)) : V g (k11_more, 1, 0, 0) 0 0 0 [(0, .long h), (2, .int x)] [] (I, L, R0, 305) Q := by
  refine V_ldc2 (pc1 := 3) d11_more_0 q11_230 rfl ?_
  refine V_lload_n (pc1 := 4) 0 d11_more_3 rfl rfl ?_
  refine V_lmul (pc1 := 5) d11_more_4 rfl ?_
  refine V_iload_n (pc1 := 6) 1 d11_more_5 rfl rfl ?_
  refine V_i2l (pc1 := 7) d11_more_6 rfl ?_
  refine V_ladd (pc1 := 8) d11_more_7 rfl ?_
  refine V_lret rfl d11_more_8 (Nat.zero_le _) (Nat.zero_le _) ?_
  have hq2 := hq
  simp only [r11_more] at hq2
  exact hq2
theorem w11_more (g : GlT)  (h : Int64) (x : Int32) (I : Nat → Nat → Int32) (L : Nat → Nat → Int64) : Call g (k11_more, 1, 0, 0) [.long h, .int x] (I, L, R0, 305) (Ql (r11_more h x) (I) L) := Call.of (by decide) (Nat.le_of_ble_eq_true rfl) rfl (v11_more g  h x  I L  _ (And.intro rfl rfl))

def r11_isRoom (i : Nat) (I : Nat → Nat → Int32) (L : Nat → Nat → Int64) : Bool := (if 4 ≤ I 297 (256 * i + 23) then false else true)
set_option maxRecDepth 4000 in
theorem v11_isRoom (g : GlT)  (i : Nat) (hi : i < 4) (I : Nat → Nat → Int32) (L : Nat → Nat → Int64) (Q : Option Value → MemT → Prop) (hq : Q (some (.int (bI (r11_isRoom i I L)))) (I, L, R0, 305)) : V g (k11_isRoom, 2, 0, 0) 0 0 0 [(0, .ref (xA g 296)), (1, .int (nI i))] [] (I, L, R0, 305) Q := by
  refine V_aload_n (pc1 := 1) 0 d11_isRoom_0 rfl rfl ?_
  refine V_getr (pc1 := 4) ly296 (lt305 rfl) f11_7 (fun _ => rfl) rf296_0 d11_isRoom_1 rfl ?_
  refine V_iload_n (pc1 := 5) 1 d11_isRoom_4 rfl rfl ?_
  refine V_bipush (pc1 := 7) d11_isRoom_5 vb_23 rfl ?_
  refine V_si (pc1 := 10) (w11_at2 g  i 23 (256 * i + 23) (by omega) I L ) s11_at l11_35 rfl rfl ⟨Nat.le_of_ble_eq_true rfl, Nat.le_of_ble_eq_true rfl, Nat.le_refl _, Nat.le_refl _⟩ (Nat.le_of_ble_eq_true rfl) rfl d11_isRoom_7 rfl ?_
  refine V_iald2 (pc1 := 11) (256 * i + 23) ly297 (lt305 rfl) rfl (by omega) rfl d11_isRoom_10 rfl ?_
  refine V_iconst (pc1 := 12) d11_isRoom_11 vc_4 rfl ?_
  have key2 : ∀ (y20_0 : Int32), y20_0 = bI (if 4 ≤ I 297 (256 * i + 23) then false else true) → ∀ (lv : List (Nat × Value)), lvsub [(0, .ref (xA g 296)), (1, .int (nI i))] lv → V g (k11_isRoom, 2, 0, 0) 0 0 20 lv [.int y20_0] (I, L, R0, 305) Q := by
    intro y20_0 ey20_0
    subst ey20_0
    intro lv hlv
    refine V_lv hlv ?_
    refine V_zret rfl (bI_or _) d11_isRoom_20 (Nat.zero_le _) (Nat.zero_le _) ?_
    have hq2 := hq
    simp only [r11_isRoom] at hq2
    exact hq2
  refine V_icmp_ge (tgt := 19) (pc1 := 15) d11_isRoom_12 (by decide) rfl (fun h1 => ?_) (fun h1 => ?_)
  · skip
    refine V_iconst (pc1 := 20) d11_isRoom_19 vc_0 rfl ?_
    exact key2 _ (by first | rfl | (simp only [if_pos h1]; done) | (simp only [if_pos h1]; rfl)) _ (lvsub_p [0, 1] rfl)
  · skip
    refine V_iconst (pc1 := 16) d11_isRoom_15 vc_1 rfl ?_
    refine V_goto (tgt := 20) d11_isRoom_16 (by decide) ?_
    exact key2 _ (by first | rfl | (simp only [if_neg h1]; done) | (simp only [if_neg h1]; rfl)) _ (lvsub_p [0, 1] rfl)
theorem w11_isRoom (g : GlT)  (i : Nat) (hi : i < 4) (I : Nat → Nat → Int32) (L : Nat → Nat → Int64) : Call g (k11_isRoom, 2, 0, 0) [.ref (xA g 296), .int (nI i)] (I, L, R0, 305) (Qi (bI (r11_isRoom i I L)) (I) L) := Call.of (by decide) (Nat.le_of_ble_eq_true rfl) rfl (v11_isRoom g  i hi I L  _ (And.intro rfl rfl))


def r11_isTransmitting (i : Nat) (I : Nat → Nat → Int32) (L : Nat → Nat → Int64) : Bool := (if I 297 (256 * i + 1) = 1 then true else false)
set_option maxRecDepth 4000 in
theorem v11_isTransmitting (g : GlT)  (i : Nat) (hi : i < 4) (I : Nat → Nat → Int32) (L : Nat → Nat → Int64) (Q : Option Value → MemT → Prop) (hq : Q (some (.int (bI (r11_isTransmitting i I L)))) (I, L, R0, 305)) : V g (k11_isTransmitting, 2, 0, 0) 0 0 0 [(0, .ref (xA g 296)), (1, .int (nI i))] [] (I, L, R0, 305) Q := by
  refine V_aload_n (pc1 := 1) 0 d11_isTransmitting_0 rfl rfl ?_
  refine V_getr (pc1 := 4) ly296 (lt305 rfl) f11_7 (fun _ => rfl) rf296_0 d11_isTransmitting_1 rfl ?_
  refine V_iload_n (pc1 := 5) 1 d11_isTransmitting_4 rfl rfl ?_
  refine V_iconst (pc1 := 6) d11_isTransmitting_5 vc_1 rfl ?_
  refine V_si (pc1 := 9) (w11_at2 g  i 1 (256 * i + 1) (by omega) I L ) s11_at l11_35 rfl rfl ⟨Nat.le_of_ble_eq_true rfl, Nat.le_of_ble_eq_true rfl, Nat.le_refl _, Nat.le_refl _⟩ (Nat.le_of_ble_eq_true rfl) rfl d11_isTransmitting_6 rfl ?_
  refine V_iald2 (pc1 := 10) (256 * i + 1) ly297 (lt305 rfl) rfl (by omega) rfl d11_isTransmitting_9 rfl ?_
  refine V_iconst (pc1 := 11) d11_isTransmitting_10 vc_1 rfl ?_
  have key2 : ∀ (y19_0 : Int32), y19_0 = bI (if I 297 (256 * i + 1) = 1 then true else false) → ∀ (lv : List (Nat × Value)), lvsub [(0, .ref (xA g 296)), (1, .int (nI i))] lv → V g (k11_isTransmitting, 2, 0, 0) 0 0 19 lv [.int y19_0] (I, L, R0, 305) Q := by
    intro y19_0 ey19_0
    subst ey19_0
    intro lv hlv
    refine V_lv hlv ?_
    refine V_zret rfl (bI_or _) d11_isTransmitting_19 (Nat.zero_le _) (Nat.zero_le _) ?_
    have hq2 := hq
    simp only [r11_isTransmitting] at hq2
    exact hq2
  refine V_icmp_ne (tgt := 18) (pc1 := 14) d11_isTransmitting_11 (by decide) rfl (fun h1 => ?_) (fun h1 => ?_)
  · skip
    refine V_iconst (pc1 := 19) d11_isTransmitting_18 vc_0 rfl ?_
    exact key2 _ (by first | rfl | (simp only [if_neg h1]; done) | (simp only [if_neg h1]; rfl)) _ (lvsub_p [0, 1] rfl)
  · skip
    refine V_iconst (pc1 := 15) d11_isTransmitting_14 vc_1 rfl ?_
    refine V_goto (tgt := 19) d11_isTransmitting_15 (by decide) ?_
    exact key2 _ (by first | rfl | (simp only [if_pos h1]; done) | (simp only [if_pos h1]; rfl)) _ (lvsub_p [0, 1] rfl)
theorem w11_isTransmitting (g : GlT)  (i : Nat) (hi : i < 4) (I : Nat → Nat → Int32) (L : Nat → Nat → Int64) : Call g (k11_isTransmitting, 2, 0, 0) [.ref (xA g 296), .int (nI i)] (I, L, R0, 305) (Qi (bI (r11_isTransmitting i I L)) (I) L) := Call.of (by decide) (Nat.le_of_ble_eq_true rfl) rfl (v11_isTransmitting g  i hi I L  _ (And.intro rfl rfl))


def r11_isPassiveNow (i : Nat) (I : Nat → Nat → Int32) (L : Nat → Nat → Int64) : Bool := (if (I 297 1025 ≤ I 297 (256 * i + 4)) ∨ (¬ (I 297 (256 * i + 5) < I 297 1025)) then true else false)
set_option maxRecDepth 4000 in
theorem v11_isPassiveNow (g : GlT)  (i : Nat) (hi : i < 4) (I : Nat → Nat → Int32) (L : Nat → Nat → Int64) (Q : Option Value → MemT → Prop) (hq : Q (some (.int (bI (r11_isPassiveNow i I L)))) (I, L, R0, 305)) : V g (k11_isPassiveNow, 2, 0, 0) 0 0 0 [(0, .ref (xA g 296)), (1, .int (nI i))] [] (I, L, R0, 305) Q := by
  refine V_aload_n (pc1 := 1) 0 d11_isPassiveNow_0 rfl rfl ?_
  refine V_getr (pc1 := 4) ly296 (lt305 rfl) f11_7 (fun _ => rfl) rf296_0 d11_isPassiveNow_1 rfl ?_
  refine V_iload_n (pc1 := 5) 1 d11_isPassiveNow_4 rfl rfl ?_
  refine V_iconst (pc1 := 6) d11_isPassiveNow_5 vc_4 rfl ?_
  refine V_si (pc1 := 9) (w11_at2 g  i 4 (256 * i + 4) (by omega) I L ) s11_at l11_35 rfl rfl ⟨Nat.le_of_ble_eq_true rfl, Nat.le_of_ble_eq_true rfl, Nat.le_refl _, Nat.le_refl _⟩ (Nat.le_of_ble_eq_true rfl) rfl d11_isPassiveNow_6 rfl ?_
  refine V_iald2 (pc1 := 10) (256 * i + 4) ly297 (lt305 rfl) rfl (by omega) rfl d11_isPassiveNow_9 rfl ?_
  refine V_aload_n (pc1 := 11) 0 d11_isPassiveNow_10 rfl rfl ?_
  refine V_getr (pc1 := 14) ly296 (lt305 rfl) f11_7 (fun _ => rfl) rf296_0 d11_isPassiveNow_11 rfl ?_
  refine V_sipush (pc1 := 17) d11_isPassiveNow_14 vs_1025 rfl ?_
  refine V_iald2 (pc1 := 18) 1025 ly297 (lt305 rfl) rfl (Nat.le_of_ble_eq_true rfl) rfl d11_isPassiveNow_17 rfl ?_
  have key6 : ∀ (y47_0 : Int32), y47_0 = bI (if (I 297 1025 ≤ I 297 (256 * i + 4)) ∨ (¬ (I 297 (256 * i + 5) < I 297 1025)) then true else false) → ∀ (lv : List (Nat × Value)), lvsub [(0, .ref (xA g 296)), (1, .int (nI i))] lv → V g (k11_isPassiveNow, 2, 0, 0) 0 0 47 lv [.int y47_0] (I, L, R0, 305) Q := by
    intro y47_0 ey47_0
    subst ey47_0
    intro lv hlv
    refine V_lv hlv ?_
    refine V_zret rfl (bI_or _) d11_isPassiveNow_47 (Nat.zero_le _) (Nat.zero_le _) ?_
    have hq2 := hq
    simp only [r11_isPassiveNow] at hq2
    exact hq2
  have k2 : ((I 297 1025 ≤ I 297 (256 * i + 4)) ∨ (¬ (I 297 (256 * i + 5) < I 297 1025))) → V g (k11_isPassiveNow, 2, 0, 0) 0 0 42 [(0, .ref (xA g 296)), (1, .int (nI i))] [] (I, L, R0, 305) Q := by
    intro h1
    refine V_iconst (pc1 := 43) d11_isPassiveNow_42 vc_1 rfl ?_
    refine V_goto (tgt := 47) d11_isPassiveNow_43 (by decide) ?_
    exact key6 _ (by first | rfl | (simp only [if_pos h1]; done) | (simp only [if_pos h1]; rfl)) _ (lvsub_p [0, 1] rfl)
  have k3 : ¬ ((I 297 1025 ≤ I 297 (256 * i + 4)) ∨ (¬ (I 297 (256 * i + 5) < I 297 1025))) → V g (k11_isPassiveNow, 2, 0, 0) 0 0 46 [(0, .ref (xA g 296)), (1, .int (nI i))] [] (I, L, R0, 305) Q := by
    intro h1
    refine V_iconst (pc1 := 47) d11_isPassiveNow_46 vc_0 rfl ?_
    exact key6 _ (by first | rfl | (simp only [if_neg h1]; done) | (simp only [if_neg h1]; rfl)) _ (lvsub_p [0, 1] rfl)
  refine V_icmp_ge (tgt := 42) (pc1 := 21) d11_isPassiveNow_18 (by decide) rfl (fun h4 => ?_) (fun h4 => ?_)
  · skip
    exact k2 (Or.inl h4)
  · skip
    refine V_aload_n (pc1 := 22) 0 d11_isPassiveNow_21 rfl rfl ?_
    refine V_getr (pc1 := 25) ly296 (lt305 rfl) f11_7 (fun _ => rfl) rf296_0 d11_isPassiveNow_22 rfl ?_
    refine V_iload_n (pc1 := 26) 1 d11_isPassiveNow_25 rfl rfl ?_
    refine V_iconst (pc1 := 27) d11_isPassiveNow_26 vc_5 rfl ?_
    refine V_si (pc1 := 30) (w11_at2 g  i 5 (256 * i + 5) (by omega) I L ) s11_at l11_35 rfl rfl ⟨Nat.le_of_ble_eq_true rfl, Nat.le_of_ble_eq_true rfl, Nat.le_refl _, Nat.le_refl _⟩ (Nat.le_of_ble_eq_true rfl) rfl d11_isPassiveNow_27 rfl ?_
    refine V_iald2 (pc1 := 31) (256 * i + 5) ly297 (lt305 rfl) rfl (by omega) rfl d11_isPassiveNow_30 rfl ?_
    refine V_aload_n (pc1 := 32) 0 d11_isPassiveNow_31 rfl rfl ?_
    refine V_getr (pc1 := 35) ly296 (lt305 rfl) f11_7 (fun _ => rfl) rf296_0 d11_isPassiveNow_32 rfl ?_
    refine V_sipush (pc1 := 38) d11_isPassiveNow_35 vs_1025 rfl ?_
    refine V_iald2 (pc1 := 39) 1025 ly297 (lt305 rfl) rfl (Nat.le_of_ble_eq_true rfl) rfl d11_isPassiveNow_38 rfl ?_
    refine V_icmp_lt (tgt := 46) (pc1 := 42) d11_isPassiveNow_39 (by decide) rfl (fun h5 => ?_) (fun h5 => ?_)
    · skip
      exact k3 (fun z => z.elim h4 (fun z => z h5))
    · skip
      exact k2 (Or.inr h5)
theorem w11_isPassiveNow (g : GlT)  (i : Nat) (hi : i < 4) (I : Nat → Nat → Int32) (L : Nat → Nat → Int64) : Call g (k11_isPassiveNow, 2, 0, 0) [.ref (xA g 296), .int (nI i)] (I, L, R0, 305) (Qi (bI (r11_isPassiveNow i I L)) (I) L) := Call.of (by decide) (Nat.le_of_ble_eq_true rfl) rfl (v11_isPassiveNow g  i hi I L  _ (And.intro rfl rfl))


def i11_receives (i : Nat) (x : Int32) (I : Nat → Nat → Int32) (L : Nat → Nat → Int64) : Nat → Nat → Int32 := uI I 297 (256 * i + 5) (if (I 297 (256 * i + 5)) + x ≤ 255 then (I 297 (256 * i + 5)) + x else 255)
set_option maxRecDepth 4000 in
theorem v11_receives (g : GlT)  (i : Nat) (x : Int32) (hi : i < 4) (I : Nat → Nat → Int32) (L : Nat → Nat → Int64) (Q : Option Value → MemT → Prop) (hq : Q (none) (i11_receives i x I L, L, R0, 305)) : V g (k11_receives, 2, 0, 0) 0 0 0 [(0, .ref (xA g 296)), (1, .int (nI i)), (2, .int x)] [] (I, L, R0, 305) Q := by
  refine V_aload_n (pc1 := 1) 0 d11_receives_0 rfl rfl ?_
  refine V_getr (pc1 := 4) ly296 (lt305 rfl) f11_7 (fun _ => rfl) rf296_0 d11_receives_1 rfl ?_
  refine V_iload_n (pc1 := 5) 1 d11_receives_4 rfl rfl ?_
  refine V_iconst (pc1 := 6) d11_receives_5 vc_5 rfl ?_
  refine V_si (pc1 := 9) (w11_at2 g  i 5 (256 * i + 5) (by omega) I L ) s11_at l11_35 rfl rfl ⟨Nat.le_of_ble_eq_true rfl, Nat.le_of_ble_eq_true rfl, Nat.le_refl _, Nat.le_refl _⟩ (Nat.le_of_ble_eq_true rfl) rfl d11_receives_6 rfl ?_
  refine V_iald2 (pc1 := 10) (256 * i + 5) ly297 (lt305 rfl) rfl (by omega) rfl d11_receives_9 rfl ?_
  refine V_iload_n (pc1 := 11) 2 d11_receives_10 rfl rfl ?_
  refine V_iadd (pc1 := 12) d11_receives_11 rfl ?_
  refine V_istore_n (pc1 := 13) d11_receives_12 (Nat.le_of_ble_eq_true rfl) rfl rfl ?_
  refine V_aload_n (pc1 := 14) 1 d11_receives_13 rfl rfl ?_
  refine V_getr (pc1 := 17) ly296 (lt305 rfl) f11_7 (fun _ => rfl) rf296_0 d11_receives_14 rfl ?_
  refine V_iload_n (pc1 := 18) 2 d11_receives_17 rfl rfl ?_
  refine V_iconst (pc1 := 19) d11_receives_18 vc_5 rfl ?_
  refine V_si (pc1 := 22) (w11_at2 g  i 5 (256 * i + 5) (by omega) I L ) s11_at l11_35 rfl rfl ⟨Nat.le_of_ble_eq_true rfl, Nat.le_of_ble_eq_true rfl, Nat.le_refl _, Nat.le_refl _⟩ (Nat.le_of_ble_eq_true rfl) rfl d11_receives_19 rfl ?_
  refine V_iload_n (pc1 := 23) 0 d11_receives_22 rfl rfl ?_
  refine V_sipush (pc1 := 26) d11_receives_23 vs_255 rfl ?_
  have key2 : ∀ (y36_0 : Int32), y36_0 = (if (I 297 (256 * i + 5)) + x ≤ 255 then (I 297 (256 * i + 5)) + x else 255) → ∀ (lv : List (Nat × Value)), lvsub [(3, .int ((I 297 (256 * i + 5)) + x)), (0, .ref (xA g 296)), (1, .int (nI i)), (2, .int x)] lv → V g (k11_receives, 2, 0, 0) 0 0 36 lv [.int y36_0, .int (nI (256 * i + 5)), .ref (xA g 297)] (I, L, R0, 305) Q := by
    intro y36_0 ey36_0
    subst ey36_0
    intro lv hlv
    refine V_lv hlv ?_
    refine V_iast (pc1 := 37) (256 * i + 5) ly297 (lt305 rfl) rfl (by omega) d11_receives_36 rfl ?_
    refine V_vret rfl d11_receives_37 (Nat.zero_le _) (Nat.zero_le _) ?_
    have hq2 := hq
    simp only [i11_receives] at hq2
    exact hq2
  refine V_icmp_le (tgt := 35) (pc1 := 29) d11_receives_26 (by decide) rfl (fun h1 => ?_) (fun h1 => ?_)
  · skip
    refine V_iload_n (pc1 := 36) 0 d11_receives_35 rfl rfl ?_
    exact key2 _ (by first | rfl | (simp only [if_pos h1]; done) | (simp only [if_pos h1]; rfl)) _ (lvsub_p [0, 1, 2, 3] rfl)
  · skip
    refine V_sipush (pc1 := 32) d11_receives_29 vs_255 rfl ?_
    refine V_goto (tgt := 36) d11_receives_32 (by decide) ?_
    exact key2 _ (by first | rfl | (simp only [if_neg h1]; done) | (simp only [if_neg h1]; rfl)) _ (lvsub_p [0, 1, 2, 3] rfl)
theorem w11_receives (g : GlT)  (i : Nat) (x : Int32) (hi : i < 4) (I : Nat → Nat → Int32) (L : Nat → Nat → Int64) : Call g (k11_receives, 2, 0, 0) [.ref (xA g 296), .int (nI i), .int x] (I, L, R0, 305) (Qv (i11_receives i x I L) L) := Call.of (by decide) (Nat.le_of_ble_eq_true rfl) rfl (v11_receives g  i x hi I L  _ (And.intro rfl rfl))

theorem xs11_receives {i : Nat} {x : Int32} {I : Nat → Nat → Int32} {L : Nat → Nat → Int64} {s0 : Nat} (h0 : s0 ≠ 256 * i + 5) : i11_receives i x I L 297 s0 = I 297 s0 := by
  first | (simp only [i11_receives]; done) | (simp only [i11_receives]; (try (repeat' split)) <;> first | rfl | (simp [uI_eq, h0]; done))

def i11_releases (i : Nat) (I : Nat → Nat → Int32) (L : Nat → Nat → Int64) : Nat → Nat → Int32 := uI (uI (uI (uI I 297 (256 * i + 34) 0) 297 (256 * i + 39) 0) 297 (256 * i + 44) 0) 297 (256 * i + 49) 0
set_option maxRecDepth 4000 in
theorem v11_releases (g : GlT)  (i : Nat) (hi : i < 4) (I : Nat → Nat → Int32) (L : Nat → Nat → Int64) (Q : Option Value → MemT → Prop) (hq : Q (none) (i11_releases i I L, L, R0, 305)) : V g (k11_releases, 2, 0, 0) 0 0 0 [(0, .ref (xA g 296)), (1, .int (nI i))] [] (I, L, R0, 305) Q := by
  refine V_iconst (pc1 := 1) d11_releases_0 vc_0 rfl ?_
  refine V_istore_n (pc1 := 2) d11_releases_1 (Nat.le_of_ble_eq_true rfl) rfl rfl ?_
  refine V_iload_n (pc1 := 3) 0 d11_releases_2 rfl rfl ?_
  refine V_iconst (pc1 := 4) d11_releases_3 vc_4 rfl ?_
  refine V_icmp_ge (tgt := 25) (pc1 := 7) d11_releases_4 (by decide) rfl (fun h1 => absurd h1 (by decide)) (fun _ => ?_)
  refine V_aload_n (pc1 := 8) 1 d11_releases_7 rfl rfl ?_
  refine V_getr (pc1 := 11) ly296 (lt305 rfl) f11_7 (fun _ => rfl) rf296_0 d11_releases_8 rfl ?_
  refine V_iload_n (pc1 := 12) 2 d11_releases_11 rfl rfl ?_
  refine V_iload_n (pc1 := 13) 0 d11_releases_12 rfl rfl ?_
  refine V_iconst (pc1 := 14) d11_releases_13 vc_4 rfl ?_
  refine V_si (pc1 := 17) (w11_wait2 g  i 0 4 (256 * i + 34) (by omega) I L ) s11_wait l11_81 rfl rfl ⟨Nat.le_of_ble_eq_true rfl, Nat.le_of_ble_eq_true rfl, Nat.le_refl _, Nat.le_refl _⟩ (Nat.le_of_ble_eq_true rfl) rfl d11_releases_14 rfl ?_
  refine V_iconst (pc1 := 18) d11_releases_17 vc_0 rfl ?_
  refine V_iast (pc1 := 19) (256 * i + 34) ly297 (lt305 rfl) rfl (by omega) d11_releases_18 rfl ?_
  refine V_iinc (pc1 := 22) 0 (v := 1) d11_releases_19 rfl (by decide) (Nat.le_of_ble_eq_true rfl) rfl rfl ?_
  refine V_goto (tgt := 2) d11_releases_22 (by decide) ?_
  refine V_iload_n (pc1 := 3) 0 d11_releases_2 rfl rfl ?_
  refine V_iconst (pc1 := 4) d11_releases_3 vc_4 rfl ?_
  refine V_icmp_ge (tgt := 25) (pc1 := 7) d11_releases_4 (by decide) rfl (fun h2 => absurd h2 (by decide)) (fun _ => ?_)
  refine V_aload_n (pc1 := 8) 1 d11_releases_7 rfl rfl ?_
  refine V_getr (pc1 := 11) ly296 (lt305 rfl) f11_7 (fun _ => rfl) rf296_0 d11_releases_8 rfl ?_
  refine V_iload_n (pc1 := 12) 2 d11_releases_11 rfl rfl ?_
  refine V_iload_n (pc1 := 13) 0 d11_releases_12 rfl rfl ?_
  refine V_iconst (pc1 := 14) d11_releases_13 vc_4 rfl ?_
  refine V_si (pc1 := 17) (w11_wait2 g  i 1 4 (256 * i + 39) (by omega) (uI I 297 (256 * i + 34) 0) L ) s11_wait l11_81 rfl rfl ⟨Nat.le_of_ble_eq_true rfl, Nat.le_of_ble_eq_true rfl, Nat.le_refl _, Nat.le_refl _⟩ (Nat.le_of_ble_eq_true rfl) rfl d11_releases_14 rfl ?_
  refine V_iconst (pc1 := 18) d11_releases_17 vc_0 rfl ?_
  refine V_iast (pc1 := 19) (256 * i + 39) ly297 (lt305 rfl) rfl (by omega) d11_releases_18 rfl ?_
  refine V_iinc (pc1 := 22) 0 (v := 2) d11_releases_19 rfl (by decide) (Nat.le_of_ble_eq_true rfl) rfl rfl ?_
  refine V_goto (tgt := 2) d11_releases_22 (by decide) ?_
  refine V_iload_n (pc1 := 3) 0 d11_releases_2 rfl rfl ?_
  refine V_iconst (pc1 := 4) d11_releases_3 vc_4 rfl ?_
  refine V_icmp_ge (tgt := 25) (pc1 := 7) d11_releases_4 (by decide) rfl (fun h3 => absurd h3 (by decide)) (fun _ => ?_)
  refine V_aload_n (pc1 := 8) 1 d11_releases_7 rfl rfl ?_
  refine V_getr (pc1 := 11) ly296 (lt305 rfl) f11_7 (fun _ => rfl) rf296_0 d11_releases_8 rfl ?_
  refine V_iload_n (pc1 := 12) 2 d11_releases_11 rfl rfl ?_
  refine V_iload_n (pc1 := 13) 0 d11_releases_12 rfl rfl ?_
  refine V_iconst (pc1 := 14) d11_releases_13 vc_4 rfl ?_
  refine V_si (pc1 := 17) (w11_wait2 g  i 2 4 (256 * i + 44) (by omega) (uI (uI I 297 (256 * i + 34) 0) 297 (256 * i + 39) 0) L ) s11_wait l11_81 rfl rfl ⟨Nat.le_of_ble_eq_true rfl, Nat.le_of_ble_eq_true rfl, Nat.le_refl _, Nat.le_refl _⟩ (Nat.le_of_ble_eq_true rfl) rfl d11_releases_14 rfl ?_
  refine V_iconst (pc1 := 18) d11_releases_17 vc_0 rfl ?_
  refine V_iast (pc1 := 19) (256 * i + 44) ly297 (lt305 rfl) rfl (by omega) d11_releases_18 rfl ?_
  refine V_iinc (pc1 := 22) 0 (v := 3) d11_releases_19 rfl (by decide) (Nat.le_of_ble_eq_true rfl) rfl rfl ?_
  refine V_goto (tgt := 2) d11_releases_22 (by decide) ?_
  refine V_iload_n (pc1 := 3) 0 d11_releases_2 rfl rfl ?_
  refine V_iconst (pc1 := 4) d11_releases_3 vc_4 rfl ?_
  refine V_icmp_ge (tgt := 25) (pc1 := 7) d11_releases_4 (by decide) rfl (fun h4 => absurd h4 (by decide)) (fun _ => ?_)
  refine V_aload_n (pc1 := 8) 1 d11_releases_7 rfl rfl ?_
  refine V_getr (pc1 := 11) ly296 (lt305 rfl) f11_7 (fun _ => rfl) rf296_0 d11_releases_8 rfl ?_
  refine V_iload_n (pc1 := 12) 2 d11_releases_11 rfl rfl ?_
  refine V_iload_n (pc1 := 13) 0 d11_releases_12 rfl rfl ?_
  refine V_iconst (pc1 := 14) d11_releases_13 vc_4 rfl ?_
  refine V_si (pc1 := 17) (w11_wait2 g  i 3 4 (256 * i + 49) (by omega) (uI (uI (uI I 297 (256 * i + 34) 0) 297 (256 * i + 39) 0) 297 (256 * i + 44) 0) L ) s11_wait l11_81 rfl rfl ⟨Nat.le_of_ble_eq_true rfl, Nat.le_of_ble_eq_true rfl, Nat.le_refl _, Nat.le_refl _⟩ (Nat.le_of_ble_eq_true rfl) rfl d11_releases_14 rfl ?_
  refine V_iconst (pc1 := 18) d11_releases_17 vc_0 rfl ?_
  refine V_iast (pc1 := 19) (256 * i + 49) ly297 (lt305 rfl) rfl (by omega) d11_releases_18 rfl ?_
  refine V_iinc (pc1 := 22) 0 (v := 4) d11_releases_19 rfl (by decide) (Nat.le_of_ble_eq_true rfl) rfl rfl ?_
  refine V_goto (tgt := 2) d11_releases_22 (by decide) ?_
  refine V_iload_n (pc1 := 3) 0 d11_releases_2 rfl rfl ?_
  refine V_iconst (pc1 := 4) d11_releases_3 vc_4 rfl ?_
  refine V_icmp_ge (tgt := 25) (pc1 := 7) d11_releases_4 (by decide) rfl (fun _ => ?_) (fun h5 => absurd (by decide) h5)
  refine V_vret rfl d11_releases_25 (Nat.zero_le _) (Nat.zero_le _) ?_
  have hq2 := hq
  simp only [i11_releases] at hq2
  exact hq2
theorem w11_releases (g : GlT)  (i : Nat) (hi : i < 4) (I : Nat → Nat → Int32) (L : Nat → Nat → Int64) : Call g (k11_releases, 2, 0, 0) [.ref (xA g 296), .int (nI i)] (I, L, R0, 305) (Qv (i11_releases i I L) L) := Call.of (by decide) (Nat.le_of_ble_eq_true rfl) rfl (v11_releases g  i hi I L  _ (And.intro rfl rfl))

theorem xs11_releases {i : Nat} {I : Nat → Nat → Int32} {L : Nat → Nat → Int64} {s0 : Nat} (h0 : s0 ≠ 256 * i + 34) (h1 : s0 ≠ 256 * i + 39) (h2 : s0 ≠ 256 * i + 44) (h3 : s0 ≠ 256 * i + 49) : i11_releases i I L 297 s0 = I 297 s0 := by
  first | (simp only [i11_releases]; done) | (simp only [i11_releases]; (try (repeat' split)) <;> first | rfl | (simp [uI_eq, h0, h1, h2, h3]; done))

def i11_goes (i : Nat) (x : Int32) (I : Nat → Nat → Int32) (L : Nat → Nat → Int64) : Nat → Nat → Int32 := uI (if x = 4 then (if (r11_in x 4 8) = true then uI (uI (uI I 297 (256 * i) x) 297 (256 * i + 2) 0) 297 (256 * i + 3) 0 else uI (uI (uI (uI I 297 (256 * i) x) 297 (256 * i + 2) 0) 297 (256 * i + 3) 0) 297 (256 * i + 1) 0) else i11_releases i (if (r11_in x 4 8) = true then uI (uI (uI I 297 (256 * i) x) 297 (256 * i + 2) 0) 297 (256 * i + 3) 0 else uI (uI (uI (uI I 297 (256 * i) x) 297 (256 * i + 2) 0) 297 (256 * i + 3) 0) 297 (256 * i + 1) 0) L) 297 (256 * i + 13) ((I 297 (256 * i + 13)) + (bI (if x = 6 then true else false)))
set_option maxRecDepth 4000 in
theorem v11_goes (g : GlT)  (i : Nat) (x : Int32) (hi : i < 4) (I : Nat → Nat → Int32) (L : Nat → Nat → Int64) (Q : Option Value → MemT → Prop) (hq : Q (none) (i11_goes i x I L, L, R0, 305)) : V g (k11_goes, 3, 0, 0) 0 0 0 [(0, .ref (xA g 296)), (1, .int (nI i)), (2, .int x)] [] (I, L, R0, 305) Q := by
  refine V_aload_n (pc1 := 1) 0 d11_goes_0 rfl rfl ?_
  refine V_getr (pc1 := 4) ly296 (lt305 rfl) f11_7 (fun _ => rfl) rf296_0 d11_goes_1 rfl ?_
  refine V_iload_n (pc1 := 5) 1 d11_goes_4 rfl rfl ?_
  refine V_iconst (pc1 := 6) d11_goes_5 vc_0 rfl ?_
  refine V_si (pc1 := 9) (w11_at2 g  i 0 (256 * i) (by omega) I L ) s11_at l11_35 rfl rfl ⟨Nat.le_of_ble_eq_true rfl, Nat.le_of_ble_eq_true rfl, Nat.le_refl _, Nat.le_refl _⟩ (Nat.le_of_ble_eq_true rfl) rfl d11_goes_6 rfl ?_
  refine V_iload_n (pc1 := 10) 2 d11_goes_9 rfl rfl ?_
  refine V_iast (pc1 := 11) (256 * i) ly297 (lt305 rfl) rfl (by omega) d11_goes_10 rfl ?_
  refine V_aload_n (pc1 := 12) 0 d11_goes_11 rfl rfl ?_
  refine V_getr (pc1 := 15) ly296 (lt305 rfl) f11_7 (fun _ => rfl) rf296_0 d11_goes_12 rfl ?_
  refine V_iload_n (pc1 := 16) 1 d11_goes_15 rfl rfl ?_
  refine V_iconst (pc1 := 17) d11_goes_16 vc_2 rfl ?_
  refine V_si (pc1 := 20) (w11_at2 g  i 2 (256 * i + 2) (by omega) (uI I 297 (256 * i) x) L ) s11_at l11_35 rfl rfl ⟨Nat.le_of_ble_eq_true rfl, Nat.le_of_ble_eq_true rfl, Nat.le_refl _, Nat.le_refl _⟩ (Nat.le_of_ble_eq_true rfl) rfl d11_goes_17 rfl ?_
  refine V_iconst (pc1 := 21) d11_goes_20 vc_0 rfl ?_
  refine V_iast (pc1 := 22) (256 * i + 2) ly297 (lt305 rfl) rfl (by omega) d11_goes_21 rfl ?_
  refine V_aload_n (pc1 := 23) 0 d11_goes_22 rfl rfl ?_
  refine V_getr (pc1 := 26) ly296 (lt305 rfl) f11_7 (fun _ => rfl) rf296_0 d11_goes_23 rfl ?_
  refine V_iload_n (pc1 := 27) 1 d11_goes_26 rfl rfl ?_
  refine V_iconst (pc1 := 28) d11_goes_27 vc_3 rfl ?_
  refine V_si (pc1 := 31) (w11_at2 g  i 3 (256 * i + 3) (by omega) (uI (uI I 297 (256 * i) x) 297 (256 * i + 2) 0) L ) s11_at l11_35 rfl rfl ⟨Nat.le_of_ble_eq_true rfl, Nat.le_of_ble_eq_true rfl, Nat.le_refl _, Nat.le_refl _⟩ (Nat.le_of_ble_eq_true rfl) rfl d11_goes_28 rfl ?_
  refine V_iconst (pc1 := 32) d11_goes_31 vc_0 rfl ?_
  refine V_iast (pc1 := 33) (256 * i + 3) ly297 (lt305 rfl) rfl (by omega) d11_goes_32 rfl ?_
  refine V_iload_n (pc1 := 34) 2 d11_goes_33 rfl rfl ?_
  refine V_iconst (pc1 := 35) d11_goes_34 vc_4 rfl ?_
  refine V_bipush (pc1 := 37) d11_goes_35 vb_8 rfl ?_
  refine V_si (pc1 := 40) (w11_in g  x 4 8  (uI (uI (uI I 297 (256 * i) x) 297 (256 * i + 2) 0) 297 (256 * i + 3) 0) L ) s11_in l11_39 rfl rfl ⟨Nat.le_of_ble_eq_true rfl, Nat.le_of_ble_eq_true rfl, Nat.le_refl _, Nat.le_refl _⟩ (Nat.le_of_ble_eq_true rfl) rfl d11_goes_37 rfl ?_
  have key2 : ∀ (zI54 : Nat → Nat → Int32), zI54 = (if (r11_in x 4 8) = true then uI (uI (uI I 297 (256 * i) x) 297 (256 * i + 2) 0) 297 (256 * i + 3) 0 else uI (uI (uI (uI I 297 (256 * i) x) 297 (256 * i + 2) 0) 297 (256 * i + 3) 0) 297 (256 * i + 1) 0) → ∀ (lv : List (Nat × Value)), lvsub [(0, .ref (xA g 296)), (1, .int (nI i)), (2, .int x)] lv → V g (k11_goes, 3, 0, 0) 0 0 54 lv [] (zI54, L, R0, 305) Q := by
    intro zI54 ezI54
    subst ezI54
    intro lv hlv
    refine V_lv hlv ?_
    refine V_iload_n (pc1 := 55) 2 d11_goes_54 rfl rfl ?_
    refine V_iconst (pc1 := 56) d11_goes_55 vc_4 rfl ?_
    have key4 : ∀ (zI64 : Nat → Nat → Int32), zI64 = (if x = 4 then (if (r11_in x 4 8) = true then uI (uI (uI I 297 (256 * i) x) 297 (256 * i + 2) 0) 297 (256 * i + 3) 0 else uI (uI (uI (uI I 297 (256 * i) x) 297 (256 * i + 2) 0) 297 (256 * i + 3) 0) 297 (256 * i + 1) 0) else i11_releases i (if (r11_in x 4 8) = true then uI (uI (uI I 297 (256 * i) x) 297 (256 * i + 2) 0) 297 (256 * i + 3) 0 else uI (uI (uI (uI I 297 (256 * i) x) 297 (256 * i + 2) 0) 297 (256 * i + 3) 0) 297 (256 * i + 1) 0) L) → ∀ (lv : List (Nat × Value)), lvsub [(0, .ref (xA g 296)), (1, .int (nI i)), (2, .int x)] lv → V g (k11_goes, 3, 0, 0) 0 0 64 lv [] (zI64, L, R0, 305) Q := by
      intro zI64 ezI64
      subst ezI64
      intro lv hlv
      refine V_lv hlv ?_
      refine V_aload_n (pc1 := 65) 0 d11_goes_64 rfl rfl ?_
      refine V_getr (pc1 := 68) ly296 (lt305 rfl) f11_7 (fun _ => rfl) rf296_0 d11_goes_65 rfl ?_
      refine V_iload_n (pc1 := 69) 1 d11_goes_68 rfl rfl ?_
      refine V_bipush (pc1 := 71) d11_goes_69 vb_13 rfl ?_
      refine V_si (pc1 := 74) (w11_at2 g  i 13 (256 * i + 13) (by omega) (if x = 4 then (if (r11_in x 4 8) = true then uI (uI (uI I 297 (256 * i) x) 297 (256 * i + 2) 0) 297 (256 * i + 3) 0 else uI (uI (uI (uI I 297 (256 * i) x) 297 (256 * i + 2) 0) 297 (256 * i + 3) 0) 297 (256 * i + 1) 0) else i11_releases i (if (r11_in x 4 8) = true then uI (uI (uI I 297 (256 * i) x) 297 (256 * i + 2) 0) 297 (256 * i + 3) 0 else uI (uI (uI (uI I 297 (256 * i) x) 297 (256 * i + 2) 0) 297 (256 * i + 3) 0) 297 (256 * i + 1) 0) L) L ) s11_at l11_35 rfl rfl ⟨Nat.le_of_ble_eq_true rfl, Nat.le_of_ble_eq_true rfl, Nat.le_refl _, Nat.le_refl _⟩ (Nat.le_of_ble_eq_true rfl) rfl d11_goes_71 rfl ?_
      refine V_dup2 (pc1 := 75) d11_goes_74 rfl rfl rfl ?_
      refine V_iald2 (pc1 := 76) (256 * i + 13) ly297 (lt305 rfl) rfl (by omega) (ite_get (ite_get ((uI_ne (uI (uI I 297 (256 * i) x) 297 (256 * i + 2) 0) 297 0 (show (256 * i + 13 : Nat) ≠ 256 * i + 3 by omega)).trans ((uI_ne (uI I 297 (256 * i) x) 297 0 (show (256 * i + 13 : Nat) ≠ 256 * i + 2 by omega)).trans (uI_ne I 297 x (show (256 * i + 13 : Nat) ≠ 256 * i by omega)))) ((uI_ne (uI (uI (uI I 297 (256 * i) x) 297 (256 * i + 2) 0) 297 (256 * i + 3) 0) 297 0 (show (256 * i + 13 : Nat) ≠ 256 * i + 1 by omega)).trans ((uI_ne (uI (uI I 297 (256 * i) x) 297 (256 * i + 2) 0) 297 0 (show (256 * i + 13 : Nat) ≠ 256 * i + 3 by omega)).trans ((uI_ne (uI I 297 (256 * i) x) 297 0 (show (256 * i + 13 : Nat) ≠ 256 * i + 2 by omega)).trans (uI_ne I 297 x (show (256 * i + 13 : Nat) ≠ 256 * i by omega)))))) ((xs11_releases (I := (if (r11_in x 4 8) = true then uI (uI (uI I 297 (256 * i) x) 297 (256 * i + 2) 0) 297 (256 * i + 3) 0 else uI (uI (uI (uI I 297 (256 * i) x) 297 (256 * i + 2) 0) 297 (256 * i + 3) 0) 297 (256 * i + 1) 0)) (L := L) (show (256 * i + 13 : Nat) ≠ 256 * i + 34 by omega) (show (256 * i + 13 : Nat) ≠ 256 * i + 39 by omega) (show (256 * i + 13 : Nat) ≠ 256 * i + 44 by omega) (show (256 * i + 13 : Nat) ≠ 256 * i + 49 by omega)).trans (ite_get ((uI_ne (uI (uI I 297 (256 * i) x) 297 (256 * i + 2) 0) 297 0 (show (256 * i + 13 : Nat) ≠ 256 * i + 3 by omega)).trans ((uI_ne (uI I 297 (256 * i) x) 297 0 (show (256 * i + 13 : Nat) ≠ 256 * i + 2 by omega)).trans (uI_ne I 297 x (show (256 * i + 13 : Nat) ≠ 256 * i by omega)))) ((uI_ne (uI (uI (uI I 297 (256 * i) x) 297 (256 * i + 2) 0) 297 (256 * i + 3) 0) 297 0 (show (256 * i + 13 : Nat) ≠ 256 * i + 1 by omega)).trans ((uI_ne (uI (uI I 297 (256 * i) x) 297 (256 * i + 2) 0) 297 0 (show (256 * i + 13 : Nat) ≠ 256 * i + 3 by omega)).trans ((uI_ne (uI I 297 (256 * i) x) 297 0 (show (256 * i + 13 : Nat) ≠ 256 * i + 2 by omega)).trans (uI_ne I 297 x (show (256 * i + 13 : Nat) ≠ 256 * i by omega)))))))) d11_goes_75 rfl ?_
      refine V_iload_n (pc1 := 77) 2 d11_goes_76 rfl rfl ?_
      refine V_bipush (pc1 := 79) d11_goes_77 vb_6 rfl ?_
      have key6 : ∀ (y87_0 : Int32), y87_0 = bI (if x = 6 then true else false) → ∀ (lv : List (Nat × Value)), lvsub [(0, .ref (xA g 296)), (1, .int (nI i)), (2, .int x)] lv → V g (k11_goes, 3, 0, 0) 0 0 87 lv [.int y87_0, .int (I 297 (256 * i + 13)), .int (nI (256 * i + 13)), .ref (xA g 297)] ((if x = 4 then (if (r11_in x 4 8) = true then uI (uI (uI I 297 (256 * i) x) 297 (256 * i + 2) 0) 297 (256 * i + 3) 0 else uI (uI (uI (uI I 297 (256 * i) x) 297 (256 * i + 2) 0) 297 (256 * i + 3) 0) 297 (256 * i + 1) 0) else i11_releases i (if (r11_in x 4 8) = true then uI (uI (uI I 297 (256 * i) x) 297 (256 * i + 2) 0) 297 (256 * i + 3) 0 else uI (uI (uI (uI I 297 (256 * i) x) 297 (256 * i + 2) 0) 297 (256 * i + 3) 0) 297 (256 * i + 1) 0) L), L, R0, 305) Q := by
        intro y87_0 ey87_0
        subst ey87_0
        intro lv hlv
        refine V_lv hlv ?_
        refine V_iadd (pc1 := 88) d11_goes_87 rfl ?_
        refine V_iast (pc1 := 89) (256 * i + 13) ly297 (lt305 rfl) rfl (by omega) d11_goes_88 rfl ?_
        refine V_vret rfl d11_goes_89 (Nat.zero_le _) (Nat.zero_le _) ?_
        have hq2 := hq
        simp only [i11_goes] at hq2
        exact hq2
      refine V_icmp_ne (tgt := 86) (pc1 := 82) d11_goes_79 (by decide) rfl (fun h5 => ?_) (fun h5 => ?_)
      · skip
        refine V_iconst (pc1 := 87) d11_goes_86 vc_0 rfl ?_
        exact key6 _ (by first | rfl | (simp only [if_neg h5]; done) | (simp only [if_neg h5]; rfl)) _ (lvsub_p [0, 1, 2] rfl)
      · skip
        refine V_iconst (pc1 := 83) d11_goes_82 vc_1 rfl ?_
        refine V_goto (tgt := 87) d11_goes_83 (by decide) ?_
        exact key6 _ (by first | rfl | (simp only [if_pos h5]; done) | (simp only [if_pos h5]; rfl)) _ (lvsub_p [0, 1, 2] rfl)
    refine V_icmp_eq (tgt := 64) (pc1 := 59) d11_goes_56 (by decide) rfl (fun h3 => ?_) (fun h3 => ?_)
    · skip
      exact key4 _ (by first | rfl | (simp only [if_pos h3]; done) | (simp only [if_pos h3]; rfl)) _ (lvsub_p [0, 1, 2] rfl)
    · skip
      refine V_aload_n (pc1 := 60) 0 d11_goes_59 rfl rfl ?_
      refine V_iload_n (pc1 := 61) 1 d11_goes_60 rfl rfl ?_
      refine V_vv (pc1 := 64) (w11_releases g  i hi (if (r11_in x 4 8) = true then uI (uI (uI I 297 (256 * i) x) 297 (256 * i + 2) 0) 297 (256 * i + 3) 0 else uI (uI (uI (uI I 297 (256 * i) x) 297 (256 * i + 2) 0) 297 (256 * i + 3) 0) 297 (256 * i + 1) 0) L ) ly296 (lt305 rfl) s11_releases l11_77 rfl rfl ⟨Nat.le_of_ble_eq_true rfl, Nat.le_of_ble_eq_true rfl, Nat.le_refl _, Nat.le_refl _⟩ (Nat.le_of_ble_eq_true rfl) rfl d11_goes_61 rfl ?_
      exact key4 _ (by first | rfl | (simp only [if_neg h3]; done) | (simp only [if_neg h3]; rfl)) _ (lvsub_p [0, 1, 2] rfl)
  refine V_bne (tgt := 54) (pc1 := 43) d11_goes_40 (by decide) rfl (fun h1 => ?_) (fun h1 => ?_)
  · skip
    exact key2 _ (by first | rfl | (simp only [if_pos h1]; done) | (simp only [if_pos h1]; rfl)) _ (lvsub_p [0, 1, 2] rfl)
  · skip
    refine V_aload_n (pc1 := 44) 0 d11_goes_43 rfl rfl ?_
    refine V_getr (pc1 := 47) ly296 (lt305 rfl) f11_7 (fun _ => rfl) rf296_0 d11_goes_44 rfl ?_
    refine V_iload_n (pc1 := 48) 1 d11_goes_47 rfl rfl ?_
    refine V_iconst (pc1 := 49) d11_goes_48 vc_1 rfl ?_
    refine V_si (pc1 := 52) (w11_at2 g  i 1 (256 * i + 1) (by omega) (uI (uI (uI I 297 (256 * i) x) 297 (256 * i + 2) 0) 297 (256 * i + 3) 0) L ) s11_at l11_35 rfl rfl ⟨Nat.le_of_ble_eq_true rfl, Nat.le_of_ble_eq_true rfl, Nat.le_refl _, Nat.le_refl _⟩ (Nat.le_of_ble_eq_true rfl) rfl d11_goes_49 rfl ?_
    refine V_iconst (pc1 := 53) d11_goes_52 vc_0 rfl ?_
    refine V_iast (pc1 := 54) (256 * i + 1) ly297 (lt305 rfl) rfl (by omega) d11_goes_53 rfl ?_
    exact key2 _ (by first | rfl | (simp only [if_neg h1]; done) | (simp only [if_neg h1]; rfl)) _ (lvsub_p [0, 1, 2] rfl)
theorem w11_goes (g : GlT)  (i : Nat) (x : Int32) (hi : i < 4) (I : Nat → Nat → Int32) (L : Nat → Nat → Int64) : Call g (k11_goes, 3, 0, 0) [.ref (xA g 296), .int (nI i), .int x] (I, L, R0, 305) (Qv (i11_goes i x I L) L) := Call.of (by decide) (Nat.le_of_ble_eq_true rfl) rfl (v11_goes g  i x hi I L  _ (And.intro rfl rfl))

theorem xs11_goes {i : Nat} {x : Int32} {I : Nat → Nat → Int32} {L : Nat → Nat → Int64} {s0 : Nat} (h0 : s0 ≠ 256 * i) (h1 : s0 ≠ 256 * i + 1) (h2 : s0 ≠ 256 * i + 13) (h3 : s0 ≠ 256 * i + 2) (h4 : s0 ≠ 256 * i + 3) (h5 : s0 ≠ 256 * i + 34) (h6 : s0 ≠ 256 * i + 39) (h7 : s0 ≠ 256 * i + 44) (h8 : s0 ≠ 256 * i + 49) : i11_goes i x I L 297 s0 = I 297 s0 := by
  first | (simp only [i11_goes]; done) | (simp only [i11_goes]; (try (repeat' split)) <;> first | rfl | (simp [uI_eq, h0, h1, h2, h3, h4, h5, h6, h7, h8, xs11_releases]; done))
