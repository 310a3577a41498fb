/-! the bits of a frame as numbers -/
def bodN (idn rm ln by_ dn : Nat) : Nat := ((2 * idn + rm) * 64 + ln) * 2 ^ by_ + dn
def byN (rm ln : Nat) : Nat := if rm = 1 then 0 else 8 * ln
/-- the data of a frame: no bit beyond its length -/
def dOK (rm ln : Nat) (d : Int32) : Prop := d.toBitVec.toNat < 2 ^ (byN rm ln)
theorem byN_le {rm ln : Nat} (h : ln ≤ 4) : byN rm ln ≤ 32 := by
  unfold byN
  split <;> omega
theorem bod_hi {h by_ dn s : Nat} (hd : dn < 2 ^ by_) : (h * 2 ^ by_ + dn) / 2 ^ (s + by_) = h / 2 ^ s := by
  rw [Nat.add_comm s, Nat.pow_add, ← Nat.div_div_eq_div_mul, Nat.mul_comm h, Nat.mul_add_div (Nat.two_pow_pos _), Nat.div_eq_of_lt hd, Nat.add_zero]
theorem bod_lo {h by_ dn s : Nat} (hs : s < by_) : (h * 2 ^ by_ + dn) / 2 ^ s % 2 = dn / 2 ^ s % 2 := by
  obtain ⟨c, rfl⟩ : ∃ c, by_ = s + 1 + c := ⟨by_ - s - 1, by omega⟩
  rw [show h * 2 ^ (s + 1 + c) = 2 ^ s * (2 * (h * 2 ^ c)) by rw [Nat.pow_add, Nat.pow_succ]; simp [Nat.mul_comm, Nat.mul_left_comm, Nat.mul_assoc], Nat.mul_add_div (Nat.two_pow_pos _)]
  omega
theorem hdr_bit {idn rm ln : Nat} {d : Int32} {by_ : Nat} (hid : idn ≤ 2047) (hrm : rm ≤ 1) (hln : ln ≤ 15) : ∀ j, j < 19 → layH (nI idn) (nI rm) ln d by_ j = nI (((2 * idn + rm) * 64 + ln) / 2 ^ (18 - j) % 2) := by
  intro j hj
  unfold layH
  rcases (show j = 0 ∨ j = 1 ∨ j = 2 ∨ j = 3 ∨ j = 4 ∨ j = 5 ∨ j = 6 ∨ j = 7 ∨ j = 8 ∨ j = 9 ∨ j = 10 ∨ j = 11 ∨ j = 12 ∨ j = 13 ∨ j = 14 ∨ j = 15 ∨ j = 16 ∨ j = 17 ∨ j = 18 by omega) with rfl | rfl | rfl | rfl | rfl | rfl | rfl | rfl | rfl | rfl | rfl | rfl | rfl | rfl | rfl | rfl | rfl | rfl | rfl
  · rw [if_pos rfl]; show nI 0 = _; congr 1; omega
  · rw [if_neg (by omega), if_pos (by omega), show ((nI 11) - 1) - (nI (1 - 1)) = nI 10 from rfl, shr1N (by omega) (by omega)]; congr 1; omega
  · rw [if_neg (by omega), if_pos (by omega), show ((nI 11) - 1) - (nI (2 - 1)) = nI 9 from rfl, shr1N (by omega) (by omega)]; congr 1; omega
  · rw [if_neg (by omega), if_pos (by omega), show ((nI 11) - 1) - (nI (3 - 1)) = nI 8 from rfl, shr1N (by omega) (by omega)]; congr 1; omega
  · rw [if_neg (by omega), if_pos (by omega), show ((nI 11) - 1) - (nI (4 - 1)) = nI 7 from rfl, shr1N (by omega) (by omega)]; congr 1; omega
  · rw [if_neg (by omega), if_pos (by omega), show ((nI 11) - 1) - (nI (5 - 1)) = nI 6 from rfl, shr1N (by omega) (by omega)]; congr 1; omega
  · rw [if_neg (by omega), if_pos (by omega), show ((nI 11) - 1) - (nI (6 - 1)) = nI 5 from rfl, shr1N (by omega) (by omega)]; congr 1; omega
  · rw [if_neg (by omega), if_pos (by omega), show ((nI 11) - 1) - (nI (7 - 1)) = nI 4 from rfl, shr1N (by omega) (by omega)]; congr 1; omega
  · rw [if_neg (by omega), if_pos (by omega), show ((nI 11) - 1) - (nI (8 - 1)) = nI 3 from rfl, shr1N (by omega) (by omega)]; congr 1; omega
  · rw [if_neg (by omega), if_pos (by omega), show ((nI 11) - 1) - (nI (9 - 1)) = nI 2 from rfl, shr1N (by omega) (by omega)]; congr 1; omega
  · rw [if_neg (by omega), if_pos (by omega), show ((nI 11) - 1) - (nI (10 - 1)) = nI 1 from rfl, shr1N (by omega) (by omega)]; congr 1; omega
  · rw [if_neg (by omega), if_pos (by omega), show ((nI 11) - 1) - (nI (11 - 1)) = nI 0 from rfl, shr1N (by omega) (by omega)]; congr 1; omega
  · rw [if_neg (by omega), if_neg (by omega), if_pos rfl]; congr 1; omega
  · rw [if_neg (by omega), if_neg (by omega), if_neg (by omega), if_pos (by omega)]; show nI 0 = _; congr 1; omega
  · rw [if_neg (by omega), if_neg (by omega), if_neg (by omega), if_pos (by omega)]; show nI 0 = _; congr 1; omega
  · rw [if_neg (by omega), if_neg (by omega), if_neg (by omega), if_neg (by omega), if_pos (by omega), show ((nI 4) - 1) - (nI (15 - 15)) = nI 3 from rfl, shr1N (by omega) (by omega)]; congr 1; omega
  · rw [if_neg (by omega), if_neg (by omega), if_neg (by omega), if_neg (by omega), if_pos (by omega), show ((nI 4) - 1) - (nI (16 - 15)) = nI 2 from rfl, shr1N (by omega) (by omega)]; congr 1; omega
  · rw [if_neg (by omega), if_neg (by omega), if_neg (by omega), if_neg (by omega), if_pos (by omega), show ((nI 4) - 1) - (nI (17 - 15)) = nI 1 from rfl, shr1N (by omega) (by omega)]; congr 1; omega
  · rw [if_neg (by omega), if_neg (by omega), if_neg (by omega), if_neg (by omega), if_pos (by omega), show ((nI 4) - 1) - (nI (18 - 15)) = nI 0 from rfl, shr1N (by omega) (by omega)]; congr 1; omega
theorem layH_N {idn rm ln by_ : Nat} {d : Int32} (hid : idn ≤ 2047) (hrm : rm ≤ 1) (hln : ln ≤ 4) (hby : by_ ≤ 32) (hd : d.toBitVec.toNat < 2 ^ by_) {j : Nat} (hj : j < 19 + by_) : layH (nI idn) (nI rm) ln d by_ j = nI (bodN idn rm ln by_ d.toBitVec.toNat / 2 ^ (18 + by_ - j) % 2) := by
  unfold bodN
  rcases Nat.lt_or_ge j 19 with h | h
  · rw [hdr_bit hid hrm (by omega) j h, show 18 + by_ - j = 18 - j + by_ by omega, bod_hi hd]
  · unfold layH
    rw [if_neg (by omega), if_neg (by omega), if_neg (by omega), if_neg (by omega), if_neg (by omega), show ((nI by_) - 1) - (nI (j - 19)) = nI (18 + by_ - j) by rw [nI_dec (by omega), pk_sub (by omega)]; congr 1; omega, shr1 _ (by omega), bod_lo (by omega)]
/-! the outgoing long -/
theorem m32_bit : ∀ i, i < 64 → (4294967295#64).getLsbD i = decide (i < 32) := by decide +kernel
theorem low32 (x : Int32) : x.toInt64 &&& 4294967295 = lN x.toBitVec.toNat := by
  apply wb_inj
  rw [Int64.toBitVec_and, wb_tb]
  apply BitVec.eq_of_getLsbD_eq
  intro i hi
  rw [BitVec.getLsbD_and, show (4294967295 : Int64).toBitVec = 4294967295#64 from rfl, m32_bit i hi, show x.toInt64.toBitVec = x.toBitVec.signExtend 64 from rfl, BitVec.getLsbD_signExtend, BitVec.getLsbD_ofNat]
  by_cases h : i < 32
  · simp [h, hi, BitVec.getLsbD]
  · simp [h, hi]
    exact Nat.testBit_lt_two_pow (Nat.lt_of_lt_of_le x.toBitVec.isLt (Nat.pow_le_pow_right (by decide) (by omega)))
theorem dbits_N {idn rm ln : Nat} (hid : idn ≤ 2047) (hrm : rm ≤ 1) (hln : ln ≤ 15) : r2_dataBitsOf (nI (2 * idn + rm)) (nI ln) = nI (byN rm ln) := by
  unfold r2_dataBitsOf byN
  rw [pk_andN (by omega) 1 (by decide), show (2 * idn + rm) % 2 ^ 1 = rm by omega]
  rcases (show rm = 0 ∨ rm = 1 by omega) with rfl | rfl
  · rw [if_neg (by decide), if_neg (by decide)]
    exact pk_mul 8 ln
  · rw [if_pos (by decide), if_pos rfl]
    rfl
theorem or_part {q b k : Nat} (hb : b < 2 ^ k) : q * 2 ^ k ||| b = q * 2 ^ k + b := by
  rw [Nat.mul_comm]
  exact (Nat.two_pow_add_eq_or_of_lt hb q).symm
theorem out_N {idn rm ln : Nat} {d : Int32} (hid : idn ≤ 2047) (hrm : rm ≤ 1) (hln : ln ≤ 4) (hd : dOK rm ln d) : r2_outgoingBits (nI (2 * idn + rm)) (nI ln) d = lN (bodN idn rm ln (byN rm ln) d.toBitVec.toNat * 2 ^ (45 - byN rm ln)) ∧ bodN idn rm ln (byN rm ln) d.toBitVec.toNat * 2 ^ (45 - byN rm ln) < 2 ^ 64 := by
  have hby := byN_le (rm := rm) hln
  unfold dOK at hd
  have h1 : (2 * idn + rm) * 64 + ln < 2 ^ 19 := by omega
  have h2 : bodN idn rm ln (byN rm ln) d.toBitVec.toNat < 2 ^ (19 + byN rm ln) := by
    unfold bodN
    rw [Nat.pow_add]
    have : ((2 * idn + rm) * 64 + ln + 1) * 2 ^ byN rm ln ≤ 2 ^ 19 * 2 ^ byN rm ln := Nat.mul_le_mul_right _ h1
    rw [Nat.succ_mul] at this
    omega
  have h3 : bodN idn rm ln (byN rm ln) d.toBitVec.toNat * 2 ^ (45 - byN rm ln) < 2 ^ 64 := by
    have := Nat.mul_lt_mul_of_pos_right h2 (Nat.two_pow_pos (45 - byN rm ln))
    rw [← Nat.pow_add, show 19 + byN rm ln + (45 - byN rm ln) = 64 by omega] at this
    exact this
  have h4 : bodN idn rm ln (byN rm ln) d.toBitVec.toNat < 2 ^ 64 := Nat.lt_of_lt_of_le h2 (Nat.pow_le_pow_right (by decide) (by omega))
  refine ⟨?_, h3⟩
  unfold r2_outgoingBits
  rw [dbits_N hid hrm (by omega), low32, nI_l (by omega), nI_l (by omega), show (6 : Int32) = nI 6 from rfl, wb_shl _ (k := 6) (by omega), wb_or (by omega) (by omega), or_part (k := 6) (by omega), wb_shl _ (by omega), show (45 : Int32) - nI (byN rm ln) = nI (45 - byN rm ln) from pk_sub (a := 45) (by omega)]
  have h5 : ((2 * idn + rm) * 2 ^ 6 + ln) * 2 ^ byN rm ln < 2 ^ 64 := by
    unfold bodN at h4
    show ((2 * idn + rm) * 64 + ln) * 2 ^ byN rm ln < 2 ^ 64
    exact Nat.lt_of_le_of_lt (Nat.le_add_right _ _) h4
  rw [wb_or h5 (Nat.lt_of_lt_of_le d.toBitVec.isLt (by decide)), or_part hd, wb_shl _ (by omega)]
  rfl
/-- the next bit out of the outgoing long is the one that the reference laid -/
theorem out_lay {idn rm ln b : Nat} {d : Int32} (hid : idn ≤ 2047) (hrm : rm ≤ 1) (hln : ln ≤ 4) (hd : dOK rm ln d) (hb : b < 19 + byN rm ln) : (((r2_outgoingBits (nI (2 * idn + rm)) (nI ln) d).toUInt64 >>> (((63 : Int32) - nI b).toInt64.toUInt64 &&& Int64.toUInt64 63)).toInt64).toInt32 &&& 1 = layH (nI idn) (nI rm) ln d (byN rm ln) b := by
  have hby := byN_le (rm := rm) hln
  obtain ⟨e, h⟩ := out_N hid hrm hln hd
  rw [e, show (63 : Int32) - nI b = nI (63 - b) from pk_sub (a := 63) (by omega), out_bit h (by omega), layH_N hid hrm hln hby hd hb, show 63 - b = 18 + byN rm ln - b + (45 - byN rm ln) by omega, Nat.pow_add, Nat.mul_div_mul_right _ _ (Nat.two_pow_pos _)]
