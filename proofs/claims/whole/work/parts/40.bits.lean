/-! ===== lN n to 2^64: shifts, and, or, masks, one bit ===== -/
theorem wb_tb (n : Nat) : (lN n).toBitVec = BitVec.ofNat 64 n := rfl
theorem wb_inj {a b : Int64} (h : a.toBitVec = b.toBitVec) : a = b := Int64.toBitVec_inj.mp h
theorem wb_tn {n : Nat} (h : n < 2 ^ 64) : (lN n).toBitVec.toNat = n := by rw [wb_tb, BitVec.toNat_ofNat, Nat.mod_eq_of_lt h]
theorem wb_of (x : Int64) : ∃ n, n < 2 ^ 64 ∧ x = lN n := ⟨x.toBitVec.toNat, x.toBitVec.isLt, wb_inj (by rw [wb_tb]; simp)⟩
theorem wb_of32 (x : Int32) : ∃ n, n < 2 ^ 32 ∧ x = nI n := ⟨x.toBitVec.toNat, x.toBitVec.isLt, Int32.toBitVec_inj.mp (by show _ = BitVec.ofNat 32 _; simp)⟩
theorem wb_c : ∀ k, k < 64 → ((nI k).toInt64 &&& 63) = lN k := by decide +kernel
theorem wb_cu : ∀ k, k < 64 → ((nI k).toInt64.toUInt64 &&& Int64.toUInt64 63) = UInt64.ofNat k := by decide +kernel
theorem wb_sm : ∀ k, k < 64 → (BitVec.ofNat 64 k).smod 64 = BitVec.ofNat 64 k := by decide +kernel
theorem wb_pw {a b : Nat} (h : a ≤ b) : 2 ^ b = 2 ^ a * 2 ^ (b - a) := by rw [← Nat.pow_add]; congr 1; omega
theorem wb_lt2 {a b : Nat} (h : a < b) : 2 ^ a < 2 ^ b := Nat.pow_lt_pow_right (by decide) h
theorem wb_mod (n : Nat) : lN n = lN (n % 2 ^ 64) := wb_inj (by rw [wb_tb, wb_tb]; apply BitVec.eq_of_toNat_eq; rw [BitVec.toNat_ofNat, BitVec.toNat_ofNat, Nat.mod_mod])
theorem wb_shr {n k : Nat} (hn : n < 2 ^ 64) (hk : k < 64) : ((lN n).toUInt64 >>> ((nI k).toInt64.toUInt64 &&& Int64.toUInt64 63)).toInt64 = lN (n / 2 ^ k) := by
  rw [wb_cu k hk]
  apply wb_inj
  apply BitVec.eq_of_toNat_eq
  show ((lN n).toUInt64 >>> UInt64.ofNat k).toNat = (BitVec.ofNat 64 _).toNat
  have h1 : (UInt64.ofNat k).toNat = k := by
    show (BitVec.ofNat 64 k).toNat = k
    rw [BitVec.toNat_ofNat, Nat.mod_eq_of_lt (by omega)]
  have h2 : (lN n).toUInt64.toNat = n := wb_tn hn
  rw [UInt64.toNat_shiftRight, h1, h2, Nat.mod_eq_of_lt hk, Nat.shiftRight_eq_div_pow, BitVec.toNat_ofNat, Nat.mod_eq_of_lt (Nat.lt_of_le_of_lt (Nat.div_le_self _ _) hn)]
theorem wb_shl (n : Nat) {k : Nat} (hk : k < 64) : lN n <<< ((nI k).toInt64 &&& 63) = lN (n * 2 ^ k) := by
  rw [wb_c k hk]
  apply wb_inj
  rw [Int64.toBitVec_shiftLeft, wb_tb, wb_tb, wb_tb, wb_sm k hk]
  apply BitVec.eq_of_toNat_eq
  rw [BitVec.shiftLeft_eq', BitVec.toNat_shiftLeft, BitVec.toNat_ofNat, BitVec.toNat_ofNat, BitVec.toNat_ofNat, Nat.mod_eq_of_lt (show k < 2 ^ 64 by omega), Nat.shiftLeft_eq, Nat.mul_mod, Nat.mod_mod, ← Nat.mul_mod]
theorem wb_and {a b : Nat} (ha : a < 2 ^ 64) (hb : b < 2 ^ 64) : lN a &&& lN b = lN (a &&& b) := by
  apply wb_inj
  rw [Int64.toBitVec_and, wb_tb, wb_tb, wb_tb]
  apply BitVec.eq_of_toNat_eq
  rw [BitVec.toNat_and, BitVec.toNat_ofNat, BitVec.toNat_ofNat, BitVec.toNat_ofNat, Nat.mod_eq_of_lt ha, Nat.mod_eq_of_lt hb, Nat.mod_eq_of_lt (Nat.and_lt_two_pow _ hb)]
theorem wb_or {a b : Nat} (ha : a < 2 ^ 64) (hb : b < 2 ^ 64) : lN a ||| lN b = lN (a ||| b) := by
  apply wb_inj
  rw [Int64.toBitVec_or, wb_tb, wb_tb, wb_tb]
  apply BitVec.eq_of_toNat_eq
  rw [BitVec.toNat_or, BitVec.toNat_ofNat, BitVec.toNat_ofNat, BitVec.toNat_ofNat, Nat.mod_eq_of_lt ha, Nat.mod_eq_of_lt hb, Nat.mod_eq_of_lt (Nat.or_lt_two_pow ha hb)]
theorem wb_mask {n k : Nat} (hn : n < 2 ^ 64) (hk : k < 64) : lN n &&& lN (2 ^ k - 1) = lN (n % 2 ^ k) := by
  rw [wb_and hn (by have := wb_lt2 hk; omega), Nat.and_two_pow_sub_one_eq_mod]
theorem wb_a1 {n : Nat} (hn : n < 2 ^ 64) : lN n &&& 1 = lN (n % 2) := wb_mask (k := 1) hn (by decide)
theorem wb_bit {n k : Nat} (hn : n < 2 ^ 64) (hk : k < 64) : ((lN n).toUInt64 >>> ((nI k).toInt64.toUInt64 &&& Int64.toUInt64 63)).toInt64 &&& 1 = lN (n / 2 ^ k % 2) := by
  rw [wb_shr hn hk, wb_a1 (Nat.lt_of_le_of_lt (Nat.div_le_self _ _) hn)]
theorem wb_xor {q k : Nat} (hk : k < 63) (h : 2 ^ k ≤ q) (h2 : q < 2 ^ (k + 1)) : lN q ^^^ lN (2 ^ k) = lN (q - 2 ^ k) := by
  obtain ⟨r, rfl⟩ : ∃ r, q = 2 ^ k + r := ⟨q - 2 ^ k, by omega⟩
  have hr : r < 2 ^ k := by rw [Nat.pow_succ] at h2; omega
  have hx : (2 ^ k + r) ^^^ 2 ^ k = r := by
    apply Nat.eq_of_testBit_eq
    intro i
    rw [Nat.testBit_xor, Nat.testBit_two_pow]
    rcases Nat.lt_trichotomy i k with h | h | h
    · rw [Nat.testBit_two_pow_add_gt h]
      simp [show ¬ k = i by omega]
    · subst h
      rw [Nat.testBit_two_pow_add_eq]
      simp
    · have a1 : 2 ^ (k + 1) ≤ 2 ^ i := Nat.pow_le_pow_right (by decide) h
      rw [Nat.testBit_lt_two_pow (show 2 ^ k + r < 2 ^ i by omega), Nat.testBit_lt_two_pow (show r < 2 ^ i by omega)]
      simp [show ¬ k = i by omega]
  have b1 := wb_lt2 (show k + 1 < 64 by omega)
  have b2 := wb_lt2 (show k < 64 by omega)
  apply wb_inj
  rw [Int64.toBitVec_xor, wb_tb, wb_tb, wb_tb]
  apply BitVec.eq_of_toNat_eq
  rw [BitVec.toNat_xor, BitVec.toNat_ofNat, BitVec.toNat_ofNat, BitVec.toNat_ofNat, Nat.mod_eq_of_lt (by omega : 2 ^ k + r < 2 ^ 64), Nat.mod_eq_of_lt b2, hx, Nat.add_sub_cancel_left, Nat.mod_eq_of_lt (by omega)]
/-! numbers out of bits -/
def numN (f : Nat → Nat) : Nat → Nat
  | 0 => 0
  | n + 1 => 2 * numN f n + f n
theorem numN_lt {f : Nat → Nat} : ∀ n, (∀ j, j < n → f j ≤ 1) → numN f n < 2 ^ n := by
  intro n
  induction n with
  | zero => intro _; simp [numN]
  | succ n ih =>
    intro h
    have h1 := ih (fun j hj => h j (by omega))
    have h2 := h n (by omega)
    simp only [numN]
    rw [Nat.pow_succ]
    omega
theorem numN_congr {f g : Nat → Nat} : ∀ n, (∀ j, j < n → f j = g j) → numN f n = numN g n := by
  intro n
  induction n with
  | zero => intro _; rfl
  | succ n ih =>
    intro h
    simp only [numN]
    rw [ih (fun j hj => h j (by omega)), h n (by omega)]
theorem numN_add (f : Nat → Nat) (a : Nat) : ∀ b, numN f (a + b) = numN f a * 2 ^ b + numN (fun j => f (a + j)) b := by
  intro b
  induction b with
  | zero => simp [numN]
  | succ b ih =>
    rw [← Nat.add_assoc]
    simp only [numN]
    rw [ih, Nat.pow_succ, ← Nat.mul_assoc]
    omega
theorem nI_tn (n : Nat) : (nI n).toBitVec.toNat = n % 2 ^ 32 := by
  show (BitVec.ofNat 32 n).toNat = _
  exact BitVec.toNat_ofNat _ _
theorem i32_tn {x y : Int32} (h : x.toBitVec.toNat = y.toBitVec.toNat) : x = y := Int32.toBitVec_inj.mp (BitVec.eq_of_toNat_eq h)
theorem or_even {q b : Nat} (hb : b ≤ 1) : 2 * q ||| b = 2 * q + b := (Nat.two_pow_add_eq_or_of_lt (i := 1) (b := b) (show b < 2 ^ 1 by omega) q).symm
theorem or1 {a b : Nat} (hb : b ≤ 1) : (nI a <<< (1 &&& 31)) ||| nI b = nI (2 * a + b) := by
  apply i32_tn
  rw [Int32.toBitVec_or, BitVec.toNat_or, pk_shl _ _ 1 (by decide), nI_tn, nI_tn, nI_tn, show b % 2 ^ 32 = b by omega, show a % 2 ^ 32 * 2 ^ 1 % 2 ^ 32 = 2 * (a % 2 ^ 31) by omega, or_even hb]
  omega
theorem orL {a b : Nat} (ha : a < 2 ^ 62) (hb : b ≤ 1) : (lN a <<< ((1 : Int32).toInt64 &&& 63)) ||| (nI b).toInt64 = lN (2 * a + b) := by
  rw [show (1 : Int32) = nI 1 from rfl, wb_shl a (k := 1) (by omega), nI_l (by omega), wb_or (by omega) (by omega), Nat.mul_comm a, show 2 ^ 1 * a = 2 * a by omega, or_even hb]
theorem bit_eq {a b : Nat} (h : decide (a % 2 = 1) = decide (b % 2 = 1)) : a % 2 = b % 2 := by
  by_cases h1 : a % 2 = 1
  · rw [decide_eq_true h1] at h
    have := of_decide_eq_true h.symm
    omega
  · rw [decide_eq_false h1] at h
    have := of_decide_eq_false h.symm
    omega
theorem sm31 : ∀ s, s < 32 → ((nI s &&& 31).toBitVec.smod 32).toNat = s := by decide +kernel
theorem shr1 (x : Int32) {s : Nat} (hs : s < 32) : (x >>> (nI s &&& 31)) &&& 1 = nI (x.toBitVec.toNat / 2 ^ s % 2) := by
  rw [pk_and _ 1 (by decide), Int32.toBitVec_shiftRight]
  congr 1
  show _ % 2 = _ % 2
  apply bit_eq
  rw [← Nat.testBit_zero, ← Nat.testBit_eq_decide_div_mod_eq]
  show (BitVec.sshiftRight' x.toBitVec _).getLsbD 0 = x.toBitVec.getLsbD s
  rw [BitVec.sshiftRight', sm31 s hs, BitVec.getLsbD_sshiftRight]
  simp [hs]
theorem shr1N {n s : Nat} (hn : n < 2 ^ 32) (hs : s < 32) : (nI n >>> (nI s &&& 31)) &&& 1 = nI (n / 2 ^ s % 2) := by
  rw [shr1 _ hs, nI_tn, Nat.mod_eq_of_lt hn]
theorem out_bit {n s : Nat} (hn : n < 2 ^ 64) (hs : s < 64) : (((lN n).toUInt64 >>> ((nI s).toInt64.toUInt64 &&& Int64.toUInt64 63)).toInt64).toInt32 &&& 1 = nI (n / 2 ^ s % 2) := by
  rw [wb_shr hn hs, lN_i, pk_and _ 1 (by decide), nI_tn]
  congr 1
  show n / 2 ^ s % 2 ^ 32 % 2 = _
  omega
/-! the sum of bits -/
def crcS (z x : Int32) : Int32 := if x ^^^ ((z >>> (14 &&& 31)) &&& 1) = 1 then ((z <<< (1 &&& 31)) &&& 32767) ^^^ 17817 else (z <<< (1 &&& 31)) &&& 32767
def crcF (f : Nat → Int32) : Nat → Int32
  | 0 => 0
  | n + 1 => crcS (crcF f n) (f n)
theorem crc5 {a f m : Nat} {I : Nat → Nat → Int32} {L : Nat → Nat → Int64} : ∀ n j, j + n = m → r11_crcOf_5 a f m n j (crcF (fun t => I a (f + t)) j) I L = crcF (fun t => I a (f + t)) m := by
  intro n
  induction n with
  | zero => intro j hj; simp only [r11_crcOf_5]; rw [show j = m by omega]
  | succ n ih =>
    intro j hj
    simp only [r11_crcOf_5]
    exact ih (j + 1) (by omega)
theorem crcOf_F {a f m : Nat} {I : Nat → Nat → Int32} {L : Nat → Nat → Int64} : r11_crcOf a f m I L = crcF (fun t => I a (f + t)) m := by
  unfold r11_crcOf
  exact crc5 m 0 (by omega)
theorem crcF_congr {f g : Nat → Int32} : ∀ n, (∀ j, j < n → f j = g j) → crcF f n = crcF g n := by
  intro n
  induction n with
  | zero => intro _; rfl
  | succ n ih =>
    intro h
    simp only [crcF]
    rw [ih (fun j hj => h j (by omega)), h n (by omega)]
theorem crc_cls (z x : Int32) : ((z <<< (1 &&& 31)) &&& 32767) ^^^ (nI (if x ^^^ ((z >>> (14 &&& 31)) &&& 1) = 1 then 17817 else 0)) = crcS z x := by
  unfold crcS
  split
  · rfl
  · exact Int32.xor_zero
/-! what a node has sampled -/
theorem smp_N {i f m : Nat} {I : Nat → Nat → Int32} {L : Nat → Nat → Int64} {bf : Nat → Nat} (h : ∀ j, f ≤ j → j < f + m → bf j ≤ 1 ∧ I 297 (256 * i + j + 90) = nI (bf j)) : ∀ n j, j + n = m → r11_sampled_6 i f m n (f + j) (nI (numN (fun t => bf (f + t)) j)) I L = nI (numN (fun t => bf (f + t)) m) := by
  intro n
  induction n with
  | zero => intro j hj; simp only [r11_sampled_6]; rw [show j = m by omega]
  | succ n ih =>
    intro j hj
    have h1 := h (f + j) (by omega) (by omega)
    simp only [r11_sampled_6]
    rw [h1.2, or1 h1.1]
    exact ih (j + 1) (by omega)
theorem sampled_N {i f m : Nat} {I : Nat → Nat → Int32} {L : Nat → Nat → Int64} {bf : Nat → Nat} (h : ∀ j, f ≤ j → j < f + m → bf j ≤ 1 ∧ I 297 (256 * i + j + 90) = nI (bf j)) : r11_sampled i f m I L = nI (numN (fun t => bf (f + t)) m) := by
  unfold r11_sampled
  exact smp_N h m 0 (by omega)
/-! the bits that are laid -/
theorem bits_get {a f m : Nat} {x : Int32} {L : Nat → Nat → Int64} {a' b' : Nat} : ∀ n j (I : Nat → Nat → Int32), j + n = m → i11_bits_3 a f x m n j I L a' b' = if a' = a ∧ f + j ≤ b' ∧ b' < f + m then (x >>> ((((nI m) - 1) - (nI (b' - f))) &&& 31)) &&& 1 else I a' b' := by
  intro n
  induction n with
  | zero =>
    intro j I hj
    simp only [i11_bits_3]
    rw [if_neg (by omega)]
  | succ n ih =>
    intro j I hj
    simp only [i11_bits_3]
    rw [ih _ _ (by omega), uI_eq]
    by_cases h1 : a' = a ∧ f + (j + 1) ≤ b' ∧ b' < f + m
    · rw [if_pos h1, if_pos ⟨h1.1, by omega, h1.2.2⟩]
    · rw [if_neg h1]
      by_cases h2 : a' = a ∧ b' = f + j
      · obtain ⟨rfl, rfl⟩ := h2
        rw [if_pos ⟨rfl, rfl⟩, if_pos ⟨rfl, by omega, by omega⟩, Nat.add_sub_cancel_left]
      · rw [if_neg h2, if_neg (by omega)]
theorem bitsG {a f m : Nat} {x : Int32} {I : Nat → Nat → Int32} {L : Nat → Nat → Int64} {a' b' : Nat} : i11_bits a f x m I L a' b' = if a' = a ∧ f ≤ b' ∧ b' < f + m then (x >>> ((((nI m) - 1) - (nI (b' - f))) &&& 31)) &&& 1 else I a' b' := by
  unfold i11_bits
  exact bits_get m 0 I (by omega)
def layH (idn rm : Int32) (ln : Nat) (d : Int32) (by_ j : Nat) : Int32 :=
  if j = 0 then 0 else if j < 12 then (idn >>> ((((nI 11) - 1) - (nI (j - 1))) &&& 31)) &&& 1 else if j = 12 then rm else if j < 15 then 0 else if j < 19 then (nI ln >>> ((((nI 4) - 1) - (nI (j - 15))) &&& 31)) &&& 1 else (d >>> ((((nI by_) - 1) - (nI (j - 19))) &&& 31)) &&& 1
def layV (idn rm : Int32) (ln : Nat) (d : Int32) (by_ j : Nat) : Int32 := if j < 19 + by_ then layH idn rm ln d by_ j else (crcF (layH idn rm ln d by_) (19 + by_) >>> ((((nI 15) - 1) - (nI (j - (19 + by_)))) &&& 31)) &&& 1
theorem bodyG {a f ln by_ : Nat} {idn rm d : Int32} {I : Nat → Nat → Int32} {L : Nat → Nat → Int64} {a' b' : Nat} : (i11_bits a (f + 19) d by_ (i11_bits a (f + 15) (nI ln) 4 (uI (uI (uI (i11_bits a (f + 1) idn 11 (uI I a f 0) L) a (f + 12) rm) a (f + 13) 0) a (f + 14) 0) L) L) a' b' = if a' = a ∧ f ≤ b' ∧ b' < f + 19 + by_ then layH idn rm ln d by_ (b' - f) else I a' b' := by
  by_cases ha : a' = a
  · subst ha
    by_cases h0 : f ≤ b' ∧ b' < f + 19 + by_
    · obtain ⟨j, rfl⟩ : ∃ j, b' = f + j := ⟨b' - f, by omega⟩
      rw [if_pos ⟨rfl, h0⟩, Nat.add_sub_cancel_left, bitsG]
      unfold layH
      rcases Nat.lt_or_ge j 19 with h19 | h19
      · rw [if_neg (by omega), bitsG]
        rcases Nat.lt_or_ge j 15 with h15 | h15
        · rw [if_neg (by omega), uI_eq, uI_eq, uI_eq, bitsG, uI_eq]
          rcases Nat.lt_or_ge j 12 with h12 | h12
          · rw [if_neg (by omega), if_neg (by omega), if_neg (by omega)]
            rcases Nat.eq_zero_or_pos j with hz | hz
            · subst hz
              rw [if_neg (by omega), if_pos ⟨rfl, by omega⟩, if_pos rfl]
            · rw [if_pos ⟨rfl, by omega, by omega⟩, if_neg (by omega), if_pos h12, show f + j - (f + 1) = j - 1 by omega]
          · rcases (show j = 12 ∨ j = 13 ∨ j = 14 by omega) with rfl | rfl | rfl
            · rw [if_neg (by omega), if_neg (by omega), if_pos ⟨rfl, rfl⟩]
              rfl
            · rw [if_neg (by omega), if_pos ⟨rfl, rfl⟩]
              rfl
            · rw [if_pos ⟨rfl, rfl⟩]
              rfl
        · rw [if_pos ⟨rfl, by omega, by omega⟩, if_neg (by omega), if_neg (by omega), if_neg (by omega), if_neg (by omega), if_pos h19, show f + j - (f + 15) = j - 15 by omega]
      · rw [if_pos ⟨rfl, by omega, by omega⟩, if_neg (by omega), if_neg (by omega), if_neg (by omega), if_neg (by omega), if_neg (by omega), show f + j - (f + 19) = j - 19 by omega]
    · rw [if_neg (fun h => h0 h.2), bitsG, if_neg (by omega), bitsG, if_neg (by omega), uI_eq, if_neg (by omega), uI_eq, if_neg (by omega), uI_eq, if_neg (by omega), bitsG, if_neg (by omega), uI_eq, if_neg (by omega)]
  · rw [if_neg (fun h => ha h.1), bitsG, if_neg (fun h => ha h.1), bitsG, if_neg (fun h => ha h.1), uI_eq, if_neg (fun h => ha h.1), uI_eq, if_neg (fun h => ha h.1), uI_eq, if_neg (fun h => ha h.1), bitsG, if_neg (fun h => ha h.1), uI_eq, if_neg (fun h => ha h.1)]
theorem laysG {a f ln by_ : Nat} {idn rm d : Int32} {I : Nat → Nat → Int32} {L : Nat → Nat → Int64} {a' b' : Nat} (hb : (if rm = 1 then 0 else 8 * ln) = by_) : (i11_lays a f idn rm ln d I L) a' b' = if a' = a ∧ f ≤ b' ∧ b' < f + 34 + by_ then layV idn rm ln d by_ (b' - f) else I a' b' := by
  unfold i11_lays
  rw [hb, bitsG, bodyG, crcOf_F]
  rw [crcF_congr (g := layH idn rm ln d by_) (by_ + 19) (fun j hj => by rw [bodyG, if_pos ⟨rfl, by omega, by omega⟩, Nat.add_sub_cancel_left])]
  unfold layV
  by_cases ha : a' = a
  · subst ha
    by_cases h1 : f ≤ b' ∧ b' < f + 34 + by_
    · rw [if_pos (show a' = a' ∧ f ≤ b' ∧ b' < f + 34 + by_ from ⟨rfl, h1⟩)]
      by_cases h2 : b' < f + 19 + by_
      · rw [if_neg (by omega), if_pos ⟨rfl, h1.1, h2⟩, if_pos (by omega)]
      · rw [if_pos ⟨rfl, by omega, by omega⟩, if_neg (by omega), show b' - (by_ + f + 19) = b' - f - (19 + by_) by omega, Nat.add_comm by_ 19]
    · rw [if_neg (by omega), if_neg (by omega), if_neg (by omega)]
  · rw [if_neg (fun h => ha h.1), if_neg (fun h => ha h.1), if_neg (fun h => ha h.1)]
