def r11_crcOf_5 (a : Nat) (f : Nat) (m : Nat) : Nat → Nat → Int32 → (Nat → Nat → Int32) → (Nat → Nat → Int64) → Int32
  | 0, j, z, I, L => z
  | n + 1, j, z, I, L => r11_crcOf_5 a f m n (j + 1) (if (I a (f + j)) ^^^ ((z >>> (14 &&& 31)) &&& 1) = 1 then ((z <<< (1 &&& 31)) &&& 32767) ^^^ 17817 else (z <<< (1 &&& 31)) &&& 32767) I L
set_option maxRecDepth 4000 in
theorem t11_crcOf_5 (g : GlT) {a : Nat} {na : Nat} (hla : lay a = (1, na)) (hba : a < 305) (f : Nat) (m : Nat) (hfm : f + m ≤ na) (hm3 : m < 1000) : ∀ (n j : Nat) (z : Int32) (I : Nat → Nat → Int32) (L : Nat → Nat → Int64), (hn : j + n = m) → ∀ (Q : Option Value → MemT → Prop), Q (some (.int (r11_crcOf_5 a f m n j z I L))) (I, L, R0, 305) → V g (k11_crcOf, 1, 0, 0) 0 0 5 [(0, .ref (xA g a)), (1, .int (nI f)), (2, .int (nI m)), (3, .int z), (4, .int (nI j))] [] (I, L, R0, 305) Q := by
  intro n
  induction n with
  | zero =>
    intro j z I L hn Q hq
    refine V_iload (pc1 := 7) 4 d11_crcOf_5 rfl rfl ?_
    refine V_iload_n (pc1 := 8) 2 d11_crcOf_7 rfl rfl ?_
    refine V_icmp_ge (tgt := 56) (pc1 := 11) d11_crcOf_8 (by decide) rfl (fun _ => ?_) (fun h1 => absurd (nI_le (by omega) (by omega)) h1)
    refine V_iload_n (pc1 := 57) 3 d11_crcOf_56 rfl rfl ?_
    refine V_iret rfl d11_crcOf_57 (Nat.zero_le _) (Nat.zero_le _) ?_
    have hq2 := hq
    simp only [r11_crcOf_5] at hq2
    exact hq2
  | succ n ih =>
    intro j z I L hn Q hq
    refine V_iload (pc1 := 7) 4 d11_crcOf_5 rfl rfl ?_
    refine V_iload_n (pc1 := 8) 2 d11_crcOf_7 rfl rfl ?_
    refine V_icmp_ge (tgt := 56) (pc1 := 11) d11_crcOf_8 (by decide) rfl (fun h1 => absurd h1 (nI_ge (by omega) (by omega))) (fun _ => ?_)
    refine V_aload_n (pc1 := 12) 0 d11_crcOf_11 rfl rfl ?_
    refine V_iload_n (pc1 := 13) 1 d11_crcOf_12 rfl rfl ?_
    refine V_iload (pc1 := 15) 4 d11_crcOf_13 rfl rfl ?_
    refine V_addN (pc1 := 16) (a := f) (b := j) (c := f + j) rfl rfl (by omega) d11_crcOf_15 rfl ?_
    refine V_iald2 (pc1 := 17) (f + j) hla hba rfl (by omega) rfl d11_crcOf_16 rfl ?_
    refine V_iload_n (pc1 := 18) 3 d11_crcOf_17 rfl rfl ?_
    refine V_bipush (pc1 := 20) d11_crcOf_18 vb_14 rfl ?_
    refine V_ishr (pc1 := 21) d11_crcOf_20 rfl ?_
    refine V_iconst (pc1 := 22) d11_crcOf_21 vc_1 rfl ?_
    refine V_iand (pc1 := 23) d11_crcOf_22 rfl ?_
    refine V_ixor (pc1 := 24) d11_crcOf_23 rfl ?_
    refine V_istore (pc1 := 26) d11_crcOf_24 (Nat.le_of_ble_eq_true rfl) rfl rfl ?_
    refine V_iload_n (pc1 := 27) 4 d11_crcOf_26 rfl rfl ?_
    refine V_iconst (pc1 := 28) d11_crcOf_27 vc_1 rfl ?_
    refine V_ishl (pc1 := 29) d11_crcOf_28 rfl ?_
    refine V_sipush (pc1 := 32) d11_crcOf_29 vs_32767 rfl ?_
    refine V_iand (pc1 := 33) d11_crcOf_32 rfl ?_
    refine V_istore_n (pc1 := 34) d11_crcOf_33 (Nat.le_of_ble_eq_true rfl) rfl rfl ?_
    refine V_iload (pc1 := 36) 1 d11_crcOf_34 rfl rfl ?_
    refine V_iconst (pc1 := 37) d11_crcOf_36 vc_1 rfl ?_
    have key3 : ∀ (y49_0 : Int32), y49_0 = (if (I a (f + j)) ^^^ ((z >>> (14 &&& 31)) &&& 1) = 1 then ((z <<< (1 &&& 31)) &&& 32767) ^^^ 17817 else (z <<< (1 &&& 31)) &&& 32767) → ∀ (lv : List (Nat × Value)), lvsub [(3, .int ((z <<< (1 &&& 31)) &&& 32767)), (5, .int ((I a (f + j)) ^^^ ((z >>> (14 &&& 31)) &&& 1))), (0, .ref (xA g a)), (1, .int (nI f)), (2, .int (nI m)), (4, .int (nI j))] lv → V g (k11_crcOf, 1, 0, 0) 0 0 49 lv [.int y49_0] (I, L, R0, 305) Q := by
      intro y49_0 ey49_0
      subst ey49_0
      intro lv hlv
      refine V_lv hlv ?_
      refine V_istore_n (pc1 := 50) d11_crcOf_49 (Nat.le_of_ble_eq_true rfl) rfl rfl ?_
      refine V_iinc (pc1 := 53) 5 (v := nI (j + 1)) d11_crcOf_50 rfl (nI_1 _) (Nat.le_of_ble_eq_true rfl) rfl rfl ?_
      refine V_goto (tgt := 5) d11_crcOf_53 (by decide) ?_
      refine V_lv (lv1 := [(0, .ref (xA g a)), (1, .int (nI f)), (2, .int (nI m)), (3, .int (if (I a (f + j)) ^^^ ((z >>> (14 &&& 31)) &&& 1) = 1 then ((z <<< (1 &&& 31)) &&& 32767) ^^^ 17817 else (z <<< (1 &&& 31)) &&& 32767)), (4, .int (nI (j + 1)))]) (lvsub_p [3, 4, 5, 1, 0] rfl) ?_
      have hq2 := hq
      simp only [r11_crcOf_5] at hq2
      exact ih (j + 1) (if (I a (f + j)) ^^^ ((z >>> (14 &&& 31)) &&& 1) = 1 then ((z <<< (1 &&& 31)) &&& 32767) ^^^ 17817 else (z <<< (1 &&& 31)) &&& 32767) I L (by omega) Q hq2
    refine V_icmp_ne (tgt := 48) (pc1 := 40) d11_crcOf_37 (by decide) rfl (fun h2 => ?_) (fun h2 => ?_)
    · skip
      refine V_iload_n (pc1 := 49) 0 d11_crcOf_48 rfl rfl ?_
      exact key3 _ (by first | rfl | (simp only [if_neg h2]; done) | (simp only [if_neg h2]; rfl)) _ (lvsub_p [0, 1, 2, 3, 4, 5] rfl)
    · skip
      refine V_iload_n (pc1 := 41) 0 d11_crcOf_40 rfl rfl ?_
      refine V_sipush (pc1 := 44) d11_crcOf_41 vs_17817 rfl ?_
      refine V_ixor (pc1 := 45) d11_crcOf_44 rfl ?_
      refine V_goto (tgt := 49) d11_crcOf_45 (by decide) ?_
      exact key3 _ (by first | rfl | (simp only [if_pos h2]; done) | (simp only [if_pos h2]; rfl)) _ (lvsub_p [0, 1, 2, 3, 4, 5] rfl)
def r11_crcOf (a : Nat) (f : Nat) (m : Nat) (I : Nat → Nat → Int32) (L : Nat → Nat → Int64) : Int32 := r11_crcOf_5 a f m m 0 0 I L
set_option maxRecDepth 4000 in
theorem v11_crcOf (g : GlT) {a : Nat} {na : Nat} (hla : lay a = (1, na)) (hba : a < 305) (f : Nat) (m : Nat) (hfm : f + m ≤ na) (hm3 : m < 1000) (I : Nat → Nat → Int32) (L : Nat → Nat → Int64) (Q : Option Value → MemT → Prop) (hq : Q (some (.int (r11_crcOf a f m I L))) (I, L, R0, 305)) : V g (k11_crcOf, 1, 0, 0) 0 0 0 [(0, .ref (xA g a)), (1, .int (nI f)), (2, .int (nI m))] [] (I, L, R0, 305) Q := by
  refine V_iconst (pc1 := 1) d11_crcOf_0 vc_0 rfl ?_
  refine V_istore_n (pc1 := 2) d11_crcOf_1 (Nat.le_of_ble_eq_true rfl) rfl rfl ?_
  refine V_iconst (pc1 := 3) d11_crcOf_2 vc_0 rfl ?_
  refine V_istore (pc1 := 5) d11_crcOf_3 (Nat.le_of_ble_eq_true rfl) rfl rfl ?_
  refine V_lv (lv1 := [(0, .ref (xA g a)), (1, .int (nI f)), (2, .int (nI m)), (3, .int 0), (4, .int (nI 0))]) (lvsub_p [2, 3, 4, 1, 0] rfl) ?_
  have hq2 := hq
  simp only [r11_crcOf] at hq2
  exact t11_crcOf_5 g hla hba _ _ hfm hm3 m 0 0 I L (by omega) Q hq2
theorem w11_crcOf (g : GlT) {a : Nat} {na : Nat} (hla : lay a = (1, na)) (hba : a < 305) (f : Nat) (m : Nat) (hfm : f + m ≤ na) (hm3 : m < 1000) (I : Nat → Nat → Int32) (L : Nat → Nat → Int64) : Call g (k11_crcOf, 1, 0, 0) [.ref (xA g a), .int (nI f), .int (nI m)] (I, L, R0, 305) (Qi (r11_crcOf a f m I L) (I) L) := Call.of (by decide) (Nat.le_of_ble_eq_true rfl) rfl (v11_crcOf g hla hba f m hfm hm3 I L  _ (And.intro rfl rfl))


def i11_bits_3 (a : Nat) (f : Nat) (x : Int32) (m : Nat) : Nat → Nat → (Nat → Nat → Int32) → (Nat → Nat → Int64) → (Nat → Nat → Int32)
  | 0, j, I, L => I
  | n + 1, j, I, L => i11_bits_3 a f x m n (j + 1) (uI I a (f + j) ((x >>> ((((nI m) - 1) - (nI j)) &&& 31)) &&& 1)) L
set_option maxRecDepth 4000 in
theorem t11_bits_3 (g : GlT) {a : Nat} {na : Nat} (hla : lay a = (1, na)) (hba : a < 305) (f : Nat) (x : Int32) (m : Nat) (hfm : f + m ≤ na) (hm3 : m < 1000) : ∀ (n j : Nat) (I : Nat → Nat → Int32) (L : Nat → Nat → Int64), (hn : j + n = m) → ∀ (Q : Option Value → MemT → Prop), Q (none) (i11_bits_3 a f x m n j I L, L, R0, 305) → V g (k11_bits, 1, 0, 0) 0 0 3 [(0, .ref (xA g a)), (1, .int (nI f)), (2, .int x), (3, .int (nI m)), (4, .int (nI j))] [] (I, L, R0, 305) Q := by
  intro n
  induction n with
  | zero =>
    intro j I L hn Q hq
    refine V_iload (pc1 := 5) 4 d11_bits_3 rfl rfl ?_
    refine V_iload_n (pc1 := 6) 3 d11_bits_5 rfl rfl ?_
    refine V_icmp_ge (tgt := 31) (pc1 := 9) d11_bits_6 (by decide) rfl (fun _ => ?_) (fun h1 => absurd (nI_le (by omega) (by omega)) h1)
    refine V_vret rfl d11_bits_31 (Nat.zero_le _) (Nat.zero_le _) ?_
    have hq2 := hq
    simp only [i11_bits_3] at hq2
    exact hq2
  | succ n ih =>
    intro j I L hn Q hq
    refine V_iload (pc1 := 5) 4 d11_bits_3 rfl rfl ?_
    refine V_iload_n (pc1 := 6) 3 d11_bits_5 rfl rfl ?_
    refine V_icmp_ge (tgt := 31) (pc1 := 9) d11_bits_6 (by decide) rfl (fun h1 => absurd h1 (nI_ge (by omega) (by omega))) (fun _ => ?_)
    refine V_aload_n (pc1 := 10) 0 d11_bits_9 rfl rfl ?_
    refine V_iload_n (pc1 := 11) 1 d11_bits_10 rfl rfl ?_
    refine V_iload (pc1 := 13) 4 d11_bits_11 rfl rfl ?_
    refine V_addN (pc1 := 14) (a := f) (b := j) (c := f + j) rfl rfl (by omega) d11_bits_13 rfl ?_
    refine V_iload_n (pc1 := 15) 2 d11_bits_14 rfl rfl ?_
    refine V_iload_n (pc1 := 16) 3 d11_bits_15 rfl rfl ?_
    refine V_iconst (pc1 := 17) d11_bits_16 vc_1 rfl ?_
    refine V_isub (pc1 := 18) d11_bits_17 rfl ?_
    refine V_iload (pc1 := 20) 4 d11_bits_18 rfl rfl ?_
    refine V_isub (pc1 := 21) d11_bits_20 rfl ?_
    refine V_ishr (pc1 := 22) d11_bits_21 rfl ?_
    refine V_iconst (pc1 := 23) d11_bits_22 vc_1 rfl ?_
    refine V_iand (pc1 := 24) d11_bits_23 rfl ?_
    refine V_iast (pc1 := 25) (f + j) hla hba rfl (by omega) d11_bits_24 rfl ?_
    refine V_iinc (pc1 := 28) 4 (v := nI (j + 1)) d11_bits_25 rfl (nI_1 _) (Nat.le_of_ble_eq_true rfl) rfl rfl ?_
    refine V_goto (tgt := 3) d11_bits_28 (by decide) ?_
    refine V_lv (lv1 := [(0, .ref (xA g a)), (1, .int (nI f)), (2, .int x), (3, .int (nI m)), (4, .int (nI (j + 1)))]) (lvsub_p [1, 2, 3, 4, 0] rfl) ?_
    have hq2 := hq
    simp only [i11_bits_3] at hq2
    exact ih (j + 1) (uI I a (f + j) ((x >>> ((((nI m) - 1) - (nI j)) &&& 31)) &&& 1)) L (by omega) Q hq2
def i11_bits (a : Nat) (f : Nat) (x : Int32) (m : Nat) (I : Nat → Nat → Int32) (L : Nat → Nat → Int64) : Nat → Nat → Int32 := i11_bits_3 a f x m m 0 I L
set_option maxRecDepth 4000 in
theorem v11_bits (g : GlT) {a : Nat} {na : Nat} (hla : lay a = (1, na)) (hba : a < 305) (f : Nat) (x : Int32) (m : Nat) (hfm : f + m ≤ na) (hm3 : m < 1000) (I : Nat → Nat → Int32) (L : Nat → Nat → Int64) (Q : Option Value → MemT → Prop) (hq : Q (none) (i11_bits a f x m I L, L, R0, 305)) : V g (k11_bits, 1, 0, 0) 0 0 0 [(0, .ref (xA g a)), (1, .int (nI f)), (2, .int x), (3, .int (nI m))] [] (I, L, R0, 305) Q := by
  refine V_iconst (pc1 := 1) d11_bits_0 vc_0 rfl ?_
  refine V_istore (pc1 := 3) d11_bits_1 (Nat.le_of_ble_eq_true rfl) rfl rfl ?_
  refine V_lv (lv1 := [(0, .ref (xA g a)), (1, .int (nI f)), (2, .int x), (3, .int (nI m)), (4, .int (nI 0))]) (lvsub_p [1, 2, 3, 4, 0] rfl) ?_
  have hq2 := hq
  simp only [i11_bits] at hq2
  exact t11_bits_3 g hla hba _ _ _ hfm hm3 m 0 I L (by omega) Q hq2
theorem w11_bits (g : GlT) {a : Nat} {na : Nat} (hla : lay a = (1, na)) (hba : a < 305) (f : Nat) (x : Int32) (m : Nat) (hfm : f + m ≤ na) (hm3 : m < 1000) (I : Nat → Nat → Int32) (L : Nat → Nat → Int64) : Call g (k11_bits, 1, 0, 0) [.ref (xA g a), .int (nI f), .int x, .int (nI m)] (I, L, R0, 305) (Qv (i11_bits a f x m I L) L) := Call.of (by decide) (Nat.le_of_ble_eq_true rfl) rfl (v11_bits g hla hba f x m hfm hm3 I L  _ (And.intro rfl rfl))
theorem x11_bits_3 {a : Nat} {f : Nat} {x : Int32} {m : Nat} {aa : Nat} (h0 : aa ≠ a) : ∀ (n j : Nat) (I : Nat → Nat → Int32) (L : Nat → Nat → Int64), i11_bits_3 a f x m n j I L aa = I aa := by
  intro n
  induction n with
  | zero => intros; first | (simp only [i11_bits_3]; done) | (simp only [i11_bits_3]; (try (repeat' split)) <;> first | rfl | (simp [uI_off, h0]; done))
  | succ n ih => intros; first | (simp only [i11_bits_3]; done) | (simp only [i11_bits_3]; (try (repeat' split)) <;> first | rfl | (simp [ih, uI_off, h0]; done))
theorem x11_bits {a : Nat} {f : Nat} {x : Int32} {m : Nat} {I : Nat → Nat → Int32} {L : Nat → Nat → Int64} {aa : Nat} (h0 : aa ≠ a) : i11_bits a f x m I L aa = I aa := by
  first | (simp only [i11_bits]; done) | (simp only [i11_bits]; (try (repeat' split)) <;> first | rfl | (simp [uI_off, h0, x11_bits_3 h0]; done))

def r11_lays (a : Nat) (f : Nat) (idn : Int32) (rm : Int32) (ln : Nat) (dt : Int32) (I : Nat → Nat → Int32) (L : Nat → Nat → Int64) : Int32 := nI ((if rm = 1 then 0 else 8 * ln) + 34)
def i11_lays (a : Nat) (f : Nat) (idn : Int32) (rm : Int32) (ln : Nat) (dt : Int32) (I : Nat → Nat → Int32) (L : Nat → Nat → Int64) : Nat → Nat → Int32 := i11_bits a ((if rm = 1 then 0 else 8 * ln) + f + 19) (r11_crcOf a f ((if rm = 1 then 0 else 8 * ln) + 19) (i11_bits a (f + 19) dt (if rm = 1 then 0 else 8 * ln) (i11_bits a (f + 15) (nI ln) 4 (uI (uI (uI (i11_bits a (f + 1) idn 11 (uI I a f 0) L) a (f + 12) rm) a (f + 13) 0) a (f + 14) 0) L) L) L) 15 (i11_bits a (f + 19) dt (if rm = 1 then 0 else 8 * ln) (i11_bits a (f + 15) (nI ln) 4 (uI (uI (uI (i11_bits a (f + 1) idn 11 (uI I a f 0) L) a (f + 12) rm) a (f + 13) 0) a (f + 14) 0) L) L) L
set_option maxRecDepth 4000 in
theorem v11_lays (g : GlT) {a : Nat} {na : Nat} (hla : lay a = (1, na)) (hba : a < 305) (f : Nat) (idn : Int32) (rm : Int32) (ln : Nat) (dt : Int32) (hf : f + 66 ≤ na) (hln : ln ≤ 4) (I : Nat → Nat → Int32) (L : Nat → Nat → Int64) (Q : Option Value → MemT → Prop) (hq : Q (some (.int (r11_lays a f idn rm ln dt I L))) (i11_lays a f idn rm ln dt I L, L, R0, 305)) : V g (k11_lays, 2, 0, 0) 0 0 0 [(0, .ref (xA g a)), (1, .int (nI f)), (2, .int idn), (3, .int rm), (4, .int (nI ln)), (5, .int dt)] [] (I, L, R0, 305) Q := by
  refine V_aload_n (pc1 := 1) 0 d11_lays_0 rfl rfl ?_
  refine V_iload_n (pc1 := 2) 1 d11_lays_1 rfl rfl ?_
  refine V_iconst (pc1 := 3) d11_lays_2 vc_0 rfl ?_
  refine V_iast (pc1 := 4) f hla hba rfl (by omega) d11_lays_3 rfl ?_
  refine V_aload_n (pc1 := 5) 0 d11_lays_4 rfl rfl ?_
  refine V_iload_n (pc1 := 6) 1 d11_lays_5 rfl rfl ?_
  refine V_iconst (pc1 := 7) d11_lays_6 vc_1 rfl ?_
  refine V_addN (pc1 := 8) (a := f) (b := 1) (c := f + 1) rfl rfl (by omega) d11_lays_7 rfl ?_
  refine V_iload_n (pc1 := 9) 2 d11_lays_8 rfl rfl ?_
  refine V_bipush (pc1 := 11) d11_lays_9 vb_11 rfl ?_
  refine V_sv (pc1 := 14) (w11_bits g hla hba (f + 1) idn 11 (by omega) (by omega) (uI I a f 0) L ) s11_bits l11_43 rfl rfl ⟨Nat.le_of_ble_eq_true rfl, Nat.le_of_ble_eq_true rfl, Nat.le_refl _, Nat.le_refl _⟩ (Nat.le_of_ble_eq_true rfl) rfl d11_lays_11 rfl ?_
  refine V_aload_n (pc1 := 15) 0 d11_lays_14 rfl rfl ?_
  refine V_iload_n (pc1 := 16) 1 d11_lays_15 rfl rfl ?_
  refine V_bipush (pc1 := 18) d11_lays_16 vb_12 rfl ?_
  refine V_addN (pc1 := 19) (a := f) (b := 12) (c := f + 12) rfl rfl (by omega) d11_lays_18 rfl ?_
  refine V_iload_n (pc1 := 20) 3 d11_lays_19 rfl rfl ?_
  refine V_iast (pc1 := 21) (f + 12) hla hba rfl (by omega) d11_lays_20 rfl ?_
  refine V_aload_n (pc1 := 22) 0 d11_lays_21 rfl rfl ?_
  refine V_iload_n (pc1 := 23) 1 d11_lays_22 rfl rfl ?_
  refine V_bipush (pc1 := 25) d11_lays_23 vb_13 rfl ?_
  refine V_addN (pc1 := 26) (a := f) (b := 13) (c := f + 13) rfl rfl (by omega) d11_lays_25 rfl ?_
  refine V_iconst (pc1 := 27) d11_lays_26 vc_0 rfl ?_
  refine V_iast (pc1 := 28) (f + 13) hla hba rfl (by omega) d11_lays_27 rfl ?_
  refine V_aload_n (pc1 := 29) 0 d11_lays_28 rfl rfl ?_
  refine V_iload_n (pc1 := 30) 1 d11_lays_29 rfl rfl ?_
  refine V_bipush (pc1 := 32) d11_lays_30 vb_14 rfl ?_
  refine V_addN (pc1 := 33) (a := f) (b := 14) (c := f + 14) rfl rfl (by omega) d11_lays_32 rfl ?_
  refine V_iconst (pc1 := 34) d11_lays_33 vc_0 rfl ?_
  refine V_iast (pc1 := 35) (f + 14) hla hba rfl (by omega) d11_lays_34 rfl ?_
  refine V_aload_n (pc1 := 36) 0 d11_lays_35 rfl rfl ?_
  refine V_iload_n (pc1 := 37) 1 d11_lays_36 rfl rfl ?_
  refine V_bipush (pc1 := 39) d11_lays_37 vb_15 rfl ?_
  refine V_addN (pc1 := 40) (a := f) (b := 15) (c := f + 15) rfl rfl (by omega) d11_lays_39 rfl ?_
  refine V_iload (pc1 := 42) 4 d11_lays_40 rfl rfl ?_
  refine V_iconst (pc1 := 43) d11_lays_42 vc_4 rfl ?_
  refine V_sv (pc1 := 46) (w11_bits g hla hba (f + 15) (nI ln) 4 (by omega) (by omega) (uI (uI (uI (i11_bits a (f + 1) idn 11 (uI I a f 0) L) a (f + 12) rm) a (f + 13) 0) a (f + 14) 0) L ) s11_bits l11_43 rfl rfl ⟨Nat.le_of_ble_eq_true rfl, Nat.le_of_ble_eq_true rfl, Nat.le_refl _, Nat.le_refl _⟩ (Nat.le_of_ble_eq_true rfl) rfl d11_lays_43 rfl ?_
  refine V_iload_n (pc1 := 47) 3 d11_lays_46 rfl rfl ?_
  refine V_iconst (pc1 := 48) d11_lays_47 vc_1 rfl ?_
  have key2 : ∀ (y60_0 : Int32), y60_0 = nI (if rm = 1 then 0 else 8 * ln) → ∀ (lv : List (Nat × Value)), lvsub [(0, .ref (xA g a)), (1, .int (nI f)), (2, .int idn), (3, .int rm), (4, .int (nI ln)), (5, .int dt)] lv → V g (k11_lays, 2, 0, 0) 0 0 60 lv [.int y60_0] (i11_bits a (f + 15) (nI ln) 4 (uI (uI (uI (i11_bits a (f + 1) idn 11 (uI I a f 0) L) a (f + 12) rm) a (f + 13) 0) a (f + 14) 0) L, L, R0, 305) Q := by
    intro y60_0 ey60_0
    subst ey60_0
    intro lv hlv
    refine V_lv hlv ?_
    obtain ⟨bn, hbn, hbe⟩ : ∃ b, b ≤ 32 ∧ (if rm = 1 then 0 else 8 * ln) = b := ⟨_, by split <;> omega, rfl⟩
    rw [hbe]
    refine V_istore (pc1 := 62) d11_lays_60 (Nat.le_of_ble_eq_true rfl) rfl rfl ?_
    refine V_aload_n (pc1 := 63) 1 d11_lays_62 rfl rfl ?_
    refine V_iload_n (pc1 := 64) 2 d11_lays_63 rfl rfl ?_
    refine V_bipush (pc1 := 66) d11_lays_64 vb_19 rfl ?_
    refine V_addN (pc1 := 67) (a := f) (b := 19) (c := f + 19) rfl rfl (by omega) d11_lays_66 rfl ?_
    refine V_iload (pc1 := 69) 6 d11_lays_67 rfl rfl ?_
    refine V_iload (pc1 := 71) 0 d11_lays_69 rfl rfl ?_
    refine V_sv (pc1 := 74) (w11_bits g hla hba (f + 19) dt bn (by omega) (by omega) (i11_bits a (f + 15) (nI ln) 4 (uI (uI (uI (i11_bits a (f + 1) idn 11 (uI I a f 0) L) a (f + 12) rm) a (f + 13) 0) a (f + 14) 0) L) L ) s11_bits l11_43 rfl rfl ⟨Nat.le_of_ble_eq_true rfl, Nat.le_of_ble_eq_true rfl, Nat.le_refl _, Nat.le_refl _⟩ (Nat.le_of_ble_eq_true rfl) rfl d11_lays_71 rfl ?_
    refine V_aload_n (pc1 := 75) 1 d11_lays_74 rfl rfl ?_
    refine V_iload_n (pc1 := 76) 2 d11_lays_75 rfl rfl ?_
    refine V_bipush (pc1 := 78) d11_lays_76 vb_19 rfl ?_
    refine V_addN (pc1 := 79) (a := f) (b := 19) (c := f + 19) rfl rfl (by omega) d11_lays_78 rfl ?_
    refine V_iload (pc1 := 81) 0 d11_lays_79 rfl rfl ?_
    refine V_addN (pc1 := 82) (a := f + 19) (b := bn) (c := bn + f + 19) rfl rfl (by omega) d11_lays_81 rfl ?_
    refine V_aload_n (pc1 := 83) 1 d11_lays_82 rfl rfl ?_
    refine V_iload_n (pc1 := 84) 2 d11_lays_83 rfl rfl ?_
    refine V_bipush (pc1 := 86) d11_lays_84 vb_19 rfl ?_
    refine V_iload (pc1 := 88) 0 d11_lays_86 rfl rfl ?_
    refine V_addN (pc1 := 89) (a := 19) (b := bn) (c := bn + 19) rfl rfl (by omega) d11_lays_88 rfl ?_
    refine V_si (pc1 := 92) (w11_crcOf g hla hba f (bn + 19) (by omega) (by omega) (i11_bits a (f + 19) dt bn (i11_bits a (f + 15) (nI ln) 4 (uI (uI (uI (i11_bits a (f + 1) idn 11 (uI I a f 0) L) a (f + 12) rm) a (f + 13) 0) a (f + 14) 0) L) L) L ) s11_crcOf l11_47 rfl rfl ⟨Nat.le_of_ble_eq_true rfl, Nat.le_of_ble_eq_true rfl, Nat.le_refl _, Nat.le_refl _⟩ (Nat.le_of_ble_eq_true rfl) rfl d11_lays_89 rfl ?_
    refine V_bipush (pc1 := 94) d11_lays_92 vb_15 rfl ?_
    refine V_sv (pc1 := 97) (w11_bits g hla hba (bn + f + 19) (r11_crcOf a f (bn + 19) (i11_bits a (f + 19) dt bn (i11_bits a (f + 15) (nI ln) 4 (uI (uI (uI (i11_bits a (f + 1) idn 11 (uI I a f 0) L) a (f + 12) rm) a (f + 13) 0) a (f + 14) 0) L) L) L) 15 (by omega) (by omega) (i11_bits a (f + 19) dt bn (i11_bits a (f + 15) (nI ln) 4 (uI (uI (uI (i11_bits a (f + 1) idn 11 (uI I a f 0) L) a (f + 12) rm) a (f + 13) 0) a (f + 14) 0) L) L) L ) s11_bits l11_43 rfl rfl ⟨Nat.le_of_ble_eq_true rfl, Nat.le_of_ble_eq_true rfl, Nat.le_refl _, Nat.le_refl _⟩ (Nat.le_of_ble_eq_true rfl) rfl d11_lays_94 rfl ?_
    refine V_bipush (pc1 := 99) d11_lays_97 vb_34 rfl ?_
    refine V_iload (pc1 := 101) 0 d11_lays_99 rfl rfl ?_
    refine V_addN (pc1 := 102) (a := 34) (b := bn) (c := bn + 34) rfl rfl (by omega) d11_lays_101 rfl ?_
    refine V_iret rfl d11_lays_102 (Nat.zero_le _) (Nat.zero_le _) ?_
    have hq2 := hq
    simp only [r11_lays, i11_lays, hbe] at hq2
    exact hq2
  refine V_icmp_ne (tgt := 55) (pc1 := 51) d11_lays_48 (by decide) rfl (fun h1 => ?_) (fun h1 => ?_)
  · skip
    refine V_bipush (pc1 := 57) d11_lays_55 vb_8 rfl ?_
    refine V_iload (pc1 := 59) 4 d11_lays_57 rfl rfl ?_
    refine V_mulN (pc1 := 60) (a := 8) (b := ln) (c := 8 * ln) rfl rfl (by omega) d11_lays_59 rfl ?_
    exact key2 _ (by first | rfl | (simp only [if_neg h1]; done) | (simp only [if_neg h1]; rfl)) _ (lvsub_p [0, 1, 2, 3, 4, 5] rfl)
  · skip
    refine V_iconst (pc1 := 52) d11_lays_51 vc_0 rfl ?_
    refine V_goto (tgt := 60) d11_lays_52 (by decide) ?_
    exact key2 _ (by first | rfl | (simp only [if_pos h1]; done) | (simp only [if_pos h1]; rfl)) _ (lvsub_p [0, 1, 2, 3, 4, 5] rfl)
theorem w11_lays (g : GlT) {a : Nat} {na : Nat} (hla : lay a = (1, na)) (hba : a < 305) (f : Nat) (idn : Int32) (rm : Int32) (ln : Nat) (dt : Int32) (hf : f + 66 ≤ na) (hln : ln ≤ 4) (I : Nat → Nat → Int32) (L : Nat → Nat → Int64) : Call g (k11_lays, 2, 0, 0) [.ref (xA g a), .int (nI f), .int idn, .int rm, .int (nI ln), .int dt] (I, L, R0, 305) (Qi (r11_lays a f idn rm ln dt I L) (i11_lays a f idn rm ln dt I L) L) := Call.of (by decide) (Nat.le_of_ble_eq_true rfl) rfl (v11_lays g hla hba f idn rm ln dt hf hln I L  _ (And.intro rfl rfl))
theorem x11_lays {a : Nat} {f : Nat} {idn : Int32} {rm : Int32} {ln : Nat} {dt : Int32} {I : Nat → Nat → Int32} {L : Nat → Nat → Int64} {aa : Nat} (h0 : aa ≠ a) : i11_lays a f idn rm ln dt I L aa = I aa := by
  first | (simp only [i11_lays]; done) | (simp only [i11_lays]; (try (repeat' split)) <;> first | rfl | (simp [uI_off, h0, x11_bits]; done))

def r11_answerFor_2 (i : Nat) (idn : Int32) : Nat → Nat → (Nat → Nat → Int32) → (Nat → Nat → Int64) → Int32
  | 0, j, I, L => (-1)
  | n + 1, j, I, L => (if I 297 (256 * i + 3 * j + 74) = idn then nI j else r11_answerFor_2 i idn n (j + 1) I L)
set_option maxRecDepth 4000 in
theorem t11_answerFor_2 (g : GlT)  (i : Nat) (idn : Int32) (hi : i < 4) (q : Nat) (hq4 : q ≤ 4) : ∀ (n j : Nat) (I : Nat → Nat → Int32) (L : Nat → Nat → Int64), (hq0 : I 297 (256 * i + 25) = nI q) → (hn : j + n = q) → ∀ (Q : Option Value → MemT → Prop), Q (some (.int (r11_answerFor_2 i idn n j I L))) (I, L, R0, 305) → V g (k11_answerFor, 2, 0, 0) 0 0 2 [(0, .ref (xA g 296)), (1, .int (nI i)), (2, .int idn), (3, .int (nI j))] [] (I, L, R0, 305) Q := by
  intro n
  induction n with
  | zero =>
    intro j I L hq0 hn Q hq
    refine V_iload_n (pc1 := 3) 3 d11_answerFor_2 rfl rfl ?_
    refine V_aload_n (pc1 := 4) 0 d11_answerFor_3 rfl rfl ?_
    refine V_getr (pc1 := 7) ly296 (lt305 rfl) f11_7 (fun _ => rfl) rf296_0 d11_answerFor_4 rfl ?_
    refine V_iload_n (pc1 := 8) 1 d11_answerFor_7 rfl rfl ?_
    refine V_bipush (pc1 := 10) d11_answerFor_8 vb_25 rfl ?_
    refine V_si (pc1 := 13) (w11_at2 g  i 25 (256 * i + 25) (by omega) I L ) s11_at l11_35 rfl rfl ⟨Nat.le_of_ble_eq_true rfl, Nat.le_of_ble_eq_true rfl, Nat.le_refl _, Nat.le_refl _⟩ (Nat.le_of_ble_eq_true rfl) rfl d11_answerFor_10 rfl ?_
    refine V_iald2 (pc1 := 14) (256 * i + 25) ly297 (lt305 rfl) rfl (by omega) hq0 d11_answerFor_13 rfl ?_
    refine V_icmp_ge (tgt := 40) (pc1 := 17) d11_answerFor_14 (by decide) rfl (fun _ => ?_) (fun h1 => absurd (nI_le (by omega) (by omega)) h1)
    refine V_iconst (pc1 := 41) d11_answerFor_40 vc_m1 rfl ?_
    refine V_iret rfl d11_answerFor_41 (Nat.zero_le _) (Nat.zero_le _) ?_
    have hq2 := hq
    simp only [r11_answerFor_2] at hq2
    exact hq2
  | succ n ih =>
    intro j I L hq0 hn Q hq
    refine V_iload_n (pc1 := 3) 3 d11_answerFor_2 rfl rfl ?_
    refine V_aload_n (pc1 := 4) 0 d11_answerFor_3 rfl rfl ?_
    refine V_getr (pc1 := 7) ly296 (lt305 rfl) f11_7 (fun _ => rfl) rf296_0 d11_answerFor_4 rfl ?_
    refine V_iload_n (pc1 := 8) 1 d11_answerFor_7 rfl rfl ?_
    refine V_bipush (pc1 := 10) d11_answerFor_8 vb_25 rfl ?_
    refine V_si (pc1 := 13) (w11_at2 g  i 25 (256 * i + 25) (by omega) I L ) s11_at l11_35 rfl rfl ⟨Nat.le_of_ble_eq_true rfl, Nat.le_of_ble_eq_true rfl, Nat.le_refl _, Nat.le_refl _⟩ (Nat.le_of_ble_eq_true rfl) rfl d11_answerFor_10 rfl ?_
    refine V_iald2 (pc1 := 14) (256 * i + 25) ly297 (lt305 rfl) rfl (by omega) hq0 d11_answerFor_13 rfl ?_
    refine V_icmp_ge (tgt := 40) (pc1 := 17) d11_answerFor_14 (by decide) rfl (fun h1 => absurd h1 (nI_ge (by omega) (by omega))) (fun _ => ?_)
    refine V_aload_n (pc1 := 18) 0 d11_answerFor_17 rfl rfl ?_
    refine V_getr (pc1 := 21) ly296 (lt305 rfl) f11_7 (fun _ => rfl) rf296_0 d11_answerFor_18 rfl ?_
    refine V_iload_n (pc1 := 22) 1 d11_answerFor_21 rfl rfl ?_
    refine V_iload_n (pc1 := 23) 3 d11_answerFor_22 rfl rfl ?_
    refine V_iconst (pc1 := 24) d11_answerFor_23 vc_0 rfl ?_
    refine V_si (pc1 := 27) (w11_answer2 g  i j 0 (256 * i + 3 * j + 74) (by omega) I L ) s11_answer l11_70 rfl rfl ⟨Nat.le_of_ble_eq_true rfl, Nat.le_of_ble_eq_true rfl, Nat.le_refl _, Nat.le_refl _⟩ (Nat.le_of_ble_eq_true rfl) rfl d11_answerFor_24 rfl ?_
    refine V_iald2 (pc1 := 28) (256 * i + 3 * j + 74) ly297 (lt305 rfl) rfl (by omega) rfl d11_answerFor_27 rfl ?_
    refine V_iload_n (pc1 := 29) 2 d11_answerFor_28 rfl rfl ?_
    refine V_icmp_ne (tgt := 34) (pc1 := 32) d11_answerFor_29 (by decide) rfl (fun h2 => ?_) (fun h2 => ?_)
    · skip
      refine V_iinc (pc1 := 37) 3 (v := nI (j + 1)) d11_answerFor_34 rfl (nI_1 _) (Nat.le_of_ble_eq_true rfl) rfl rfl ?_
      refine V_goto (tgt := 2) d11_answerFor_37 (by decide) ?_
      refine V_lv (lv1 := [(0, .ref (xA g 296)), (1, .int (nI i)), (2, .int idn), (3, .int (nI (j + 1)))]) (lvsub_p [1, 2, 3, 0] rfl) ?_
      have hq2 := hq
      simp only [r11_answerFor_2, if_neg h2] at hq2
      exact ih (j + 1) I L hq0 (by omega) Q hq2
    · skip
      refine V_iload_n (pc1 := 33) 3 d11_answerFor_32 rfl rfl ?_
      refine V_iret rfl d11_answerFor_33 (Nat.zero_le _) (Nat.zero_le _) ?_
      have hq2 := hq
      simp only [r11_answerFor_2, if_pos h2] at hq2
      exact hq2
def r11_answerFor (i : Nat) (idn : Int32) (I : Nat → Nat → Int32) (L : Nat → Nat → Int64) : Int32 := r11_answerFor_2 i idn ((I 297 (256 * i + 25)).toNatClampNeg) 0 I L
set_option maxRecDepth 4000 in
theorem v11_answerFor (g : GlT)  (i : Nat) (idn : Int32) (hi : i < 4) (q : Nat) (hq4 : q ≤ 4) (I : Nat → Nat → Int32) (L : Nat → Nat → Int64) (hq0 : I 297 (256 * i + 25) = nI q) (Q : Option Value → MemT → Prop) (hq : Q (some (.int (r11_answerFor i idn I L))) (I, L, R0, 305)) : V g (k11_answerFor, 2, 0, 0) 0 0 0 [(0, .ref (xA g 296)), (1, .int (nI i)), (2, .int idn)] [] (I, L, R0, 305) Q := by
  have hq3 : (I 297 (256 * i + 25)).toNatClampNeg = q := by rw [hq0]; exact nI_clamp (by omega)
  refine V_iconst (pc1 := 1) d11_answerFor_0 vc_0 rfl ?_
  refine V_istore_n (pc1 := 2) d11_answerFor_1 (Nat.le_of_ble_eq_true rfl) rfl rfl ?_
  refine V_lv (lv1 := [(0, .ref (xA g 296)), (1, .int (nI i)), (2, .int idn), (3, .int (nI 0))]) (lvsub_p [1, 2, 3, 0] rfl) ?_
  have hq2 := hq
  simp only [r11_answerFor, hq3] at hq2
  exact t11_answerFor_2 g  _ _ hi _ hq4 q 0 I L hq0 (by omega) Q hq2
theorem w11_answerFor (g : GlT)  (i : Nat) (idn : Int32) (hi : i < 4) (q : Nat) (hq4 : q ≤ 4) (I : Nat → Nat → Int32) (L : Nat → Nat → Int64) (hq0 : I 297 (256 * i + 25) = nI q) : Call g (k11_answerFor, 2, 0, 0) [.ref (xA g 296), .int (nI i), .int idn] (I, L, R0, 305) (Qi (r11_answerFor i idn I L) (I) L) := Call.of (by decide) (Nat.le_of_ble_eq_true rfl) rfl (v11_answerFor g  i idn hi q hq4 I L hq0 _ (And.intro rfl rfl))


def r11_sampled_6 (i : Nat) (f : Nat) (m : Nat) : Nat → Nat → Int32 → (Nat → Nat → Int32) → (Nat → Nat → Int64) → Int32
  | 0, j, z, I, L => z
  | n + 1, j, z, I, L => r11_sampled_6 i f m n (j + 1) ((z <<< (1 &&& 31)) ||| (I 297 (256 * i + j + 90))) I L
set_option maxRecDepth 4000 in
theorem t11_sampled_6 (g : GlT)  (i : Nat) (f : Nat) (m : Nat) (hi : i < 4) (hfm : f + m ≤ 70) : ∀ (n j : Nat) (z : Int32) (I : Nat → Nat → Int32) (L : Nat → Nat → Int64), (hn : j + n = f + m) → ∀ (Q : Option Value → MemT → Prop), Q (some (.int (r11_sampled_6 i f m n j z I L))) (I, L, R0, 305) → V g (k11_sampled, 2, 0, 0) 0 0 6 [(0, .ref (xA g 296)), (1, .int (nI i)), (2, .int (nI f)), (3, .int (nI m)), (4, .int z), (5, .int (nI j))] [] (I, L, R0, 305) Q := by
  intro n
  induction n with
  | zero =>
    intro j z I L hn Q hq
    refine V_iload (pc1 := 8) 5 d11_sampled_6 rfl rfl ?_
    refine V_iload_n (pc1 := 9) 2 d11_sampled_8 rfl rfl ?_
    refine V_iload_n (pc1 := 10) 3 d11_sampled_9 rfl rfl ?_
    refine V_addN (pc1 := 11) (a := f) (b := m) (c := f + m) rfl rfl (by omega) d11_sampled_10 rfl ?_
    refine V_icmp_ge (tgt := 41) (pc1 := 14) d11_sampled_11 (by decide) rfl (fun _ => ?_) (fun h1 => absurd (nI_le (by omega) (by omega)) h1)
    refine V_iload (pc1 := 43) 4 d11_sampled_41 rfl rfl ?_
    refine V_iret rfl d11_sampled_43 (Nat.zero_le _) (Nat.zero_le _) ?_
    have hq2 := hq
    simp only [r11_sampled_6] at hq2
    exact hq2
  | succ n ih =>
    intro j z I L hn Q hq
    refine V_iload (pc1 := 8) 5 d11_sampled_6 rfl rfl ?_
    refine V_iload_n (pc1 := 9) 2 d11_sampled_8 rfl rfl ?_
    refine V_iload_n (pc1 := 10) 3 d11_sampled_9 rfl rfl ?_
    refine V_addN (pc1 := 11) (a := f) (b := m) (c := f + m) rfl rfl (by omega) d11_sampled_10 rfl ?_
    refine V_icmp_ge (tgt := 41) (pc1 := 14) d11_sampled_11 (by decide) rfl (fun h1 => absurd h1 (nI_ge (by omega) (by omega))) (fun _ => ?_)
    refine V_iload (pc1 := 16) 4 d11_sampled_14 rfl rfl ?_
    refine V_iconst (pc1 := 17) d11_sampled_16 vc_1 rfl ?_
    refine V_ishl (pc1 := 18) d11_sampled_17 rfl ?_
    refine V_aload_n (pc1 := 19) 0 d11_sampled_18 rfl rfl ?_
    refine V_getr (pc1 := 22) ly296 (lt305 rfl) f11_7 (fun _ => rfl) rf296_0 d11_sampled_19 rfl ?_
    refine V_iload_n (pc1 := 23) 1 d11_sampled_22 rfl rfl ?_
    refine V_bipush (pc1 := 25) d11_sampled_23 vb_90 rfl ?_
    refine V_iload (pc1 := 27) 5 d11_sampled_25 rfl rfl ?_
    refine V_addN (pc1 := 28) (a := 90) (b := j) (c := j + 90) rfl rfl (by omega) d11_sampled_27 rfl ?_
    refine V_si (pc1 := 31) (w11_at2 g  i (j + 90) (256 * i + j + 90) (by omega) I L ) s11_at l11_35 rfl rfl ⟨Nat.le_of_ble_eq_true rfl, Nat.le_of_ble_eq_true rfl, Nat.le_refl _, Nat.le_refl _⟩ (Nat.le_of_ble_eq_true rfl) rfl d11_sampled_28 rfl ?_
    refine V_iald2 (pc1 := 32) (256 * i + j + 90) ly297 (lt305 rfl) rfl (by omega) rfl d11_sampled_31 rfl ?_
    refine V_ior (pc1 := 33) d11_sampled_32 rfl ?_
    refine V_istore (pc1 := 35) d11_sampled_33 (Nat.le_of_ble_eq_true rfl) rfl rfl ?_
    refine V_iinc (pc1 := 38) 5 (v := nI (j + 1)) d11_sampled_35 rfl (nI_1 _) (Nat.le_of_ble_eq_true rfl) rfl rfl ?_
    refine V_goto (tgt := 6) d11_sampled_38 (by decide) ?_
    refine V_lv (lv1 := [(0, .ref (xA g 296)), (1, .int (nI i)), (2, .int (nI f)), (3, .int (nI m)), (4, .int ((z <<< (1 &&& 31)) ||| (I 297 (256 * i + j + 90)))), (5, .int (nI (j + 1)))]) (lvsub_p [2, 3, 4, 5, 1, 0] rfl) ?_
    have hq2 := hq
    simp only [r11_sampled_6] at hq2
    exact ih (j + 1) ((z <<< (1 &&& 31)) ||| (I 297 (256 * i + j + 90))) I L (by omega) Q hq2
def r11_sampled (i : Nat) (f : Nat) (m : Nat) (I : Nat → Nat → Int32) (L : Nat → Nat → Int64) : Int32 := r11_sampled_6 i f m m f 0 I L
set_option maxRecDepth 4000 in
theorem v11_sampled (g : GlT)  (i : Nat) (f : Nat) (m : Nat) (hi : i < 4) (hfm : f + m ≤ 70) (I : Nat → Nat → Int32) (L : Nat → Nat → Int64) (Q : Option Value → MemT → Prop) (hq : Q (some (.int (r11_sampled i f m I L))) (I, L, R0, 305)) : V g (k11_sampled, 2, 0, 0) 0 0 0 [(0, .ref (xA g 296)), (1, .int (nI i)), (2, .int (nI f)), (3, .int (nI m))] [] (I, L, R0, 305) Q := by
  refine V_iconst (pc1 := 1) d11_sampled_0 vc_0 rfl ?_
  refine V_istore (pc1 := 3) d11_sampled_1 (Nat.le_of_ble_eq_true rfl) rfl rfl ?_
  refine V_iload_n (pc1 := 4) 3 d11_sampled_3 rfl rfl ?_
  refine V_istore (pc1 := 6) d11_sampled_4 (Nat.le_of_ble_eq_true rfl) rfl rfl ?_
  refine V_lv (lv1 := [(0, .ref (xA g 296)), (1, .int (nI i)), (2, .int (nI f)), (3, .int (nI m)), (4, .int 0), (5, .int (nI f))]) (lvsub_p [2, 3, 4, 5, 1, 0] rfl) ?_
  have hq2 := hq
  simp only [r11_sampled] at hq2
  exact t11_sampled_6 g  _ _ _ hi hfm m f 0 I L (by omega) Q hq2
theorem w11_sampled (g : GlT)  (i : Nat) (f : Nat) (m : Nat) (hi : i < 4) (hfm : f + m ≤ 70) (I : Nat → Nat → Int32) (L : Nat → Nat → Int64) : Call g (k11_sampled, 2, 0, 0) [.ref (xA g 296), .int (nI i), .int (nI f), .int (nI m)] (I, L, R0, 305) (Qi (r11_sampled i f m I L) (I) L) := Call.of (by decide) (Nat.le_of_ble_eq_true rfl) rfl (v11_sampled g  i f m hi hfm I L  _ (And.intro rfl rfl))


def r11_sampledLength (i : Nat) (I : Nat → Nat → Int32) (L : Nat → Nat → Int64) : Int32 := r11_sampled i 15 4 I L
set_option maxRecDepth 4000 in
theorem v11_sampledLength (g : GlT)  (i : Nat) (hi : i < 4) (I : Nat → Nat → Int32) (L : Nat → Nat → Int64) (Q : Option Value → MemT → Prop) (hq : Q (some (.int (r11_sampledLength i I L))) (I, L, R0, 305)) : V g (k11_sampledLength, 3, 0, 0) 0 0 0 [(0, .ref (xA g 296)), (1, .int (nI i))] [] (I, L, R0, 305) Q := by
  refine V_aload_n (pc1 := 1) 0 d11_sampledLength_0 rfl rfl ?_
  refine V_iload_n (pc1 := 2) 1 d11_sampledLength_1 rfl rfl ?_
  refine V_bipush (pc1 := 4) d11_sampledLength_2 vb_15 rfl ?_
  refine V_iconst (pc1 := 5) d11_sampledLength_4 vc_4 rfl ?_
  refine V_vi (pc1 := 8) (w11_sampled g  i 15 4 hi (by omega) I L ) ly296 (lt305 rfl) s11_sampled l11_101 rfl rfl ⟨Nat.le_of_ble_eq_true rfl, Nat.le_of_ble_eq_true rfl, Nat.le_refl _, Nat.le_refl _⟩ (Nat.le_of_ble_eq_true rfl) rfl d11_sampledLength_5 rfl ?_
  refine V_iret rfl d11_sampledLength_8 (Nat.zero_le _) (Nat.zero_le _) ?_
  have hq2 := hq
  simp only [r11_sampledLength] at hq2
  exact hq2
theorem w11_sampledLength (g : GlT)  (i : Nat) (hi : i < 4) (I : Nat → Nat → Int32) (L : Nat → Nat → Int64) : Call g (k11_sampledLength, 3, 0, 0) [.ref (xA g 296), .int (nI i)] (I, L, R0, 305) (Qi (r11_sampledLength i I L) (I) L) := Call.of (by decide) (Nat.le_of_ble_eq_true rfl) rfl (v11_sampledLength g  i hi I L  _ (And.intro rfl rfl))


def r11_total (i : Nat) (I : Nat → Nat → Int32) (L : Nat → Nat → Int64) : Int32 := (if 19 ≤ I 297 (256 * i + 19) then (34 : Int32) + (if I 297 (256 * i + 102) = 1 then 0 else (8 : Int32) * (r11_sampledLength i I L)) else 1000)
set_option maxRecDepth 4000 in
theorem v11_total (g : GlT)  (i : Nat) (hi : i < 4) (I : Nat → Nat → Int32) (L : Nat → Nat → Int64) (Q : Option Value → MemT → Prop) (hq : Q (some (.int (r11_total i I L))) (I, L, R0, 305)) : V g (k11_total, 4, 0, 0) 0 0 0 [(0, .ref (xA g 296)), (1, .int (nI i))] [] (I, L, R0, 305) Q := by
  refine V_aload_n (pc1 := 1) 0 d11_total_0 rfl rfl ?_
  refine V_getr (pc1 := 4) ly296 (lt305 rfl) f11_7 (fun _ => rfl) rf296_0 d11_total_1 rfl ?_
  refine V_iload_n (pc1 := 5) 1 d11_total_4 rfl rfl ?_
  refine V_bipush (pc1 := 7) d11_total_5 vb_19 rfl ?_
  refine V_si (pc1 := 10) (w11_at2 g  i 19 (256 * i + 19) (by omega) I L ) s11_at l11_35 rfl rfl ⟨Nat.le_of_ble_eq_true rfl, Nat.le_of_ble_eq_true rfl, Nat.le_refl _, Nat.le_refl _⟩ (Nat.le_of_ble_eq_true rfl) rfl d11_total_7 rfl ?_
  refine V_iald2 (pc1 := 11) (256 * i + 19) ly297 (lt305 rfl) rfl (by omega) rfl d11_total_10 rfl ?_
  refine V_bipush (pc1 := 13) d11_total_11 vb_19 rfl ?_
  refine V_icmp_ge (tgt := 20) (pc1 := 16) d11_total_13 (by decide) rfl (fun h1 => ?_) (fun h1 => ?_)
  · skip
    refine V_bipush (pc1 := 22) d11_total_20 vb_34 rfl ?_
    refine V_aload_n (pc1 := 23) 0 d11_total_22 rfl rfl ?_
    refine V_getr (pc1 := 26) ly296 (lt305 rfl) f11_7 (fun _ => rfl) rf296_0 d11_total_23 rfl ?_
    refine V_iload_n (pc1 := 27) 1 d11_total_26 rfl rfl ?_
    refine V_bipush (pc1 := 29) d11_total_27 vb_102 rfl ?_
    refine V_si (pc1 := 32) (w11_at2 g  i 102 (256 * i + 102) (by omega) I L ) s11_at l11_35 rfl rfl ⟨Nat.le_of_ble_eq_true rfl, Nat.le_of_ble_eq_true rfl, Nat.le_refl _, Nat.le_refl _⟩ (Nat.le_of_ble_eq_true rfl) rfl d11_total_29 rfl ?_
    refine V_iald2 (pc1 := 33) (256 * i + 102) ly297 (lt305 rfl) rfl (by omega) rfl d11_total_32 rfl ?_
    refine V_iconst (pc1 := 34) d11_total_33 vc_1 rfl ?_
    have key3 : ∀ (y49_0 : Int32), y49_0 = (if I 297 (256 * i + 102) = 1 then 0 else (8 : Int32) * (r11_sampledLength i I L)) → ∀ (lv : List (Nat × Value)), lvsub [(0, .ref (xA g 296)), (1, .int (nI i))] lv → V g (k11_total, 4, 0, 0) 0 0 49 lv [.int y49_0, .int 34] (I, L, R0, 305) Q := by
      intro y49_0 ey49_0
      subst ey49_0
      intro lv hlv
      refine V_lv hlv ?_
      refine V_iadd (pc1 := 50) d11_total_49 rfl ?_
      refine V_iret rfl d11_total_50 (Nat.zero_le _) (Nat.zero_le _) ?_
      have hq2 := hq
      simp only [r11_total, if_pos h1] at hq2
      exact hq2
    refine V_icmp_ne (tgt := 41) (pc1 := 37) d11_total_34 (by decide) rfl (fun h2 => ?_) (fun h2 => ?_)
    · skip
      refine V_bipush (pc1 := 43) d11_total_41 vb_8 rfl ?_
      refine V_aload_n (pc1 := 44) 0 d11_total_43 rfl rfl ?_
      refine V_iload_n (pc1 := 45) 1 d11_total_44 rfl rfl ?_
      refine V_vi (pc1 := 48) (w11_sampledLength g  i hi I L ) ly296 (lt305 rfl) s11_sampledLength l11_98 rfl rfl ⟨Nat.le_of_ble_eq_true rfl, Nat.le_of_ble_eq_true rfl, Nat.le_refl _, Nat.le_refl _⟩ (Nat.le_of_ble_eq_true rfl) rfl d11_total_45 rfl ?_
      refine V_imul (pc1 := 49) d11_total_48 rfl ?_
      exact key3 _ (by first | rfl | (simp only [if_neg h2]; done) | (simp only [if_neg h2]; rfl)) _ (lvsub_p [0, 1] rfl)
    · skip
      refine V_iconst (pc1 := 38) d11_total_37 vc_0 rfl ?_
      refine V_goto (tgt := 49) d11_total_38 (by decide) ?_
      exact key3 _ (by first | rfl | (simp only [if_pos h2]; done) | (simp only [if_pos h2]; rfl)) _ (lvsub_p [0, 1] rfl)
  · skip
    refine V_sipush (pc1 := 19) d11_total_16 vs_1000 rfl ?_
    refine V_iret rfl d11_total_19 (Nat.zero_le _) (Nat.zero_le _) ?_
    have hq2 := hq
    simp only [r11_total, if_neg h1] at hq2
    exact hq2
theorem w11_total (g : GlT)  (i : Nat) (hi : i < 4) (I : Nat → Nat → Int32) (L : Nat → Nat → Int64) : Call g (k11_total, 4, 0, 0) [.ref (xA g 296), .int (nI i)] (I, L, R0, 305) (Qi (r11_total i I L) (I) L) := Call.of (by decide) (Nat.le_of_ble_eq_true rfl) rfl (v11_total g  i hi I L  _ (And.intro rfl rfl))

