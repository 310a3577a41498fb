/-! a basic bit is taken -/
section BS
variable {t k l i : Nat} {C J : Nat → Nat → Int32} {D L : Nat → Nat → Int64} {x : Int32}
def bfS (bf : Nat → Nat) (b xb : Nat) : Nat → Nat := fun j => if j = b then xb else bf j
theorem bfS_s (bf : Nat → Nat) (b xb : Nat) : bfS bf b xb b = xb := if_pos rfl
theorem bfS_n {bf : Nat → Nat} {b xb j : Nat} (h : j ≠ b) : bfS bf b xb j = bf j := if_neg h
theorem num_S {bf : Nat → Nat} {b xb : Nat} : numN (bfS bf b xb) (b + 1) = 2 * numN bf b + xb := by
  simp only [numN]
  rw [bfS_s, numN_congr b (fun j hj => bfS_n (bf := bf) (xb := xb) (show j ≠ b by omega))]
theorem num_lo {bf : Nat → Nat} {b xb n : Nat} (h : n ≤ b) : numN (bfS bf b xb) n = numN bf n := numN_congr n (fun j hj => bfS_n (by omega))
theorem crc_S {bf : Nat → Nat} {b xb : Nat} : crcF (fun j => nI (bfS bf b xb j)) (b + 1) = crcS (crcF (fun j => nI (bf j)) b) (nI xb) := by
  simp only [crcF]
  rw [bfS_s, crcF_congr b (fun j hj => by rw [bfS_n (bf := bf) (xb := xb) (show j ≠ b by omega)])]
theorem crc_lo {bf : Nat → Nat} {b xb n : Nat} (h : n ≤ b) : crcF (fun j => nI (bfS bf b xb j)) n = crcF (fun j => nI (bf j)) n := crcF_congr n (fun j hj => by rw [bfS_n (by omega)])
theorem bd_hi {bf : Nat → Nat} {b xb : Nat} (h : 19 ≤ b) : bdN (b + 1) (bfS bf b xb) = bdN b bf := by
  unfold bdN
  rw [if_neg (by omega), if_neg (by omega), bfS_n (by omega), numN_congr 4 (fun j hj => bfS_n (bf := bf) (xb := xb) (show 15 + j ≠ b by omega))]
/-- the reference's row with the bit -/
def basJ (i b : Nat) (x : Int32) (J : Nat → Nat → Int32) : Nat → Nat → Int32 := uI (uI J 297 (b + 256 * i + 90) x) 297 (256 * i + 19) (nI (b + 1))
theorem basJ_off {b c : Nat} (h : c ≠ 256 * i + b + 90 ∧ c ≠ 256 * i + 19) : (basJ i b x J) 297 c = J 297 c := by
  unfold basJ
  rw [uI_ne _ _ _ h.2, uI_ne _ _ _ (by omega)]
theorem basJ_19 {b : Nat} : (basJ i b x J) 297 (256 * i + 19) = nI (b + 1) := by
  unfold basJ
  exact uI_self _ _ _ _
theorem basJ_b {b : Nat} : (basJ i b x J) 297 (256 * i + b + 90) = x := by
  unfold basJ
  rw [uI_ne _ _ _ (by omega), show 256 * i + b + 90 = b + 256 * i + 90 by omega, uI_self]
theorem basJ_bits {b xb : Nat} {bf : Nat → Nat} (hx1 : xb ≤ 1) (hb : ∀ j, j < b → bf j ≤ 1 ∧ J 297 (256 * i + j + 90) = nI (bf j)) : ∀ j, j < b + 1 → bfS bf b xb j ≤ 1 ∧ (basJ i b (nI xb) J) 297 (256 * i + j + 90) = nI (bfS bf b xb j) := by
  intro j hj
  by_cases e : j = b
  · subst e
    rw [bfS_s, basJ_b]
    exact ⟨hx1, rfl⟩
  · rw [bfS_n e, basJ_off (by omega)]
    exact hb j (by omega)
theorem FP.core {b e e' T la xb : Nat} {bf : Nat → Nat} {C' : Nat → Nat → Int32} {D' : Nat → Nat → Int64} (hx1 : xb ≤ 1) (h : FP b e T la bf k i C D J) (he : e ≠ 5) (hbl : b < bdN b bf + 15) (he1 : 1 ≤ e') (he5 : e' ≤ 5) (hbB : b + 1 ≤ bdN (b + 1) (bfS bf b xb) + 15) (hlen : 19 ≤ b + 1 → numN (fun j => bfS bf b xb (15 + j)) 4 ≤ 4)
    (h0 : C' (k + 15) 0 = nI (b + 1)) (h6 : C' (k + 15) 6 = nI xb) (h7 : C' (k + 15) 7 = nI e') (h8 : C' (k + 15) 8 = C (k + 15) 8) (h1 : C' (k + 15) 1 = nI (bdN (b + 1) (bfS bf b xb))) (h2 : D' (k + 15) 2 = lN (numN (bfS bf b xb) (min (b + 1) (bdN (b + 1) (bfS bf b xb))))) (h3 : C' (k + 15) 3 = (if b + 1 < 19 then 0 else nI (numN (bfS bf b xb) 19))) (h4 : C' (k + 15) 4 = crcF (fun j => nI (bfS bf b xb j)) (min (b + 1) (bdN (b + 1) (bfS bf b xb)))) (h5 : C' (k + 15) 5 = nI (numN (fun j => bfS bf b xb (bdN (b + 1) (bfS bf b xb) + j)) (b + 1 - bdN (b + 1) (bfS bf b xb))))
    (h17 : C' k 17 = C k 17) (h18 : D' k 18 = D k 18) (hown : J 297 (256 * i + 1) = 1 → J 297 (256 * i + b + 160) = nI xb) : FP (b + 1) e' 0 xb (bfS bf b xb) k i C' D' (endJ i (nI e') (nI xb) (basJ i b (nI xb) J) L (nI (b + 1))) := by
  obtain ⟨⟨c1, c2, c3, c4, c5, c6, c7, c8⟩, a2, a3, a4, a5, a6, a7, a8⟩ := h
  have hB := bdN_le c8
  have hB2 := bdN_le (b := b + 1) (bf := bfS bf b xb) hlen
  have bits := basJ_bits (i := i) hx1 a2
  have hT := a7.2.1 (Or.inl hbl)
  have e22 := endJ_22 (i := i) (x := nI xb) (L := L) (e := e') (by omega) he5 hbB hB2 basJ_19 bits
  rw [basJ_off (by omega)] at e22
  refine ⟨⟨by omega, hbB, he1, he5, by omega, hx1, ?_, hlen⟩, fun j hj => ⟨(bits j hj).1, ?_⟩, ⟨h0, ?_⟩, ⟨h6, endJ_21⟩, ⟨h7, endJ_20⟩, ⟨h1, h2, h3, h4, h5⟩, ⟨?_, fun g => ⟨rfl, ?_⟩, fun g => ?_⟩, fun g => ?_⟩
  · rw [bfS_n (by omega)]; exact c7
  · rw [endJ_off (by omega)]; exact (bits j hj).2
  · rw [endJ_off (by omega)]; exact basJ_19
  · rw [h8, a7.1, hT.1]
  · rw [e22, if_pos g]; exact hT.2
  · rw [e22, if_neg g]; rfl
  · rw [endJ_off (by omega), basJ_off (by omega)] at g
    obtain ⟨q, idn, rm, ln, d, q1, q2, q3, q4, q5, q6, q7⟩ := a8 g
    have hby := byN_le (rm := rm) q3
    refine ⟨by rw [h17]; exact q, idn, rm, ln, d, q1, q2, q3, q4, h18.trans q5, fun j hj => ?_, fun j hj => ?_⟩
    · rw [endJ_off (by omega), basJ_off (by omega)]; exact q6 j hj
    · rw [endJ_off (by omega), endJ_off (by omega), basJ_off (show 256 * i + j + 160 ≠ 256 * i + b + 90 ∧ _ by omega)]
      by_cases ej : j = b
      · subst ej
        rw [basJ_b]; exact (hown g).symm
      · rw [basJ_off (by omega)]; exact q7 j (by omega)
/-! the class's side -/
def tkS (la xb e : Nat) : Nat := if xb = la then e + 1 else 1
theorem tkS_I {la xb e : Nat} (h1 : la ≤ 1) (h2 : xb ≤ 1) : (if nI xb = nI la then nI e + 1 else 1) = nI (tkS la xb e) := by
  unfold tkS
  by_cases g : xb = la
  · rw [if_pos g, if_pos (by rw [g]), nI_1]
  · rw [if_neg g, if_neg (fun q => g ((nI_eq (by omega) (by omega)).mp q))]
    rfl
theorem hd_len {N : Nat} (hN : N < 2 ^ 31) : nI N &&& 15 = nI (N % 16) := pk_andN (by omega) 4 (by decide)
theorem hd_key {N : Nat} (hN : N < 2 ^ 31) : (nI N >>> (6 &&& 31)) &&& 4095 = nI (N / 64 % 4096) := by
  rw [pk_shrN hN (6 &&& 31) 6 (by decide), pk_andN (by omega) 12 (by decide)]
theorem num19 (bf : Nat → Nat) : numN bf 19 = numN bf 13 * 64 + (2 * bf 13 + bf 14) * 16 + numN (fun j => bf (15 + j)) 4 := by
  have h1 := numN_add bf 15 4
  have h2 : numN bf 15 = 2 * (2 * numN bf 13 + bf 13) + bf 14 := rfl
  rw [show 15 + 4 = 19 from rfl] at h1
  omega
theorem num13 (bf : Nat → Nat) : numN bf 13 = 2 * numN bf 12 + bf 12 := rfl
theorem db19 {bf : Nat → Nat} (hb : ∀ j, j < 19 → bf j ≤ 1) : r2_dataBitsOf ((nI (numN bf 19) >>> (6 &&& 31)) &&& 4095) (nI (numN bf 19) &&& 15) = nI (byN (bf 12) (numN (fun j => bf (15 + j)) 4)) := by
  have h1 := numN_lt 19 hb
  have h2 := numN_lt (f := fun j => bf (15 + j)) 4 (fun j hj => hb (15 + j) (by omega))
  have h3 := hb 13 (by omega)
  have h4 := hb 14 (by omega)
  have h5 := hb 12 (by omega)
  have h6 := num19 bf
  have h7 := num13 bf
  rw [hd_key (by omega), hd_len (by omega), show numN bf 19 % 16 = numN (fun j => bf (15 + j)) 4 by omega]
  unfold r2_dataBitsOf byN
  rw [pk_andN (by omega) 1 (by decide), show numN bf 19 / 64 % 4096 % 2 ^ 1 = bf 12 by omega]
  rcases (show bf 12 = 0 ∨ bf 12 = 1 by omega) with e | e
  · rw [e, if_neg (by decide), if_neg (by decide)]
    exact pk_mul 8 _
  · rw [e, if_pos (by decide), if_pos rfl]
    rfl
theorem FP.step {b e T la xb : Nat} {bf : Nat → Nat} (hx : x = nI xb) (hx1 : xb ≤ 1) (h : FP b e T la bf k i C D J) (he : e ≠ 5) (hbl : b < bdN b bf + 15) (hlen : b + 1 = 19 → numN (fun j => bfS bf b xb (15 + j)) 4 ≤ 4) (hown : J 297 (256 * i + 1) = 1 → J 297 (256 * i + b + 160) = nI xb) :
    FP (b + 1) (tkS la xb e) 0 xb (bfS bf b xb) k i (i2_takeBasicBit (k + 15) x C D) (m2_takeBasicBit (k + 15) x C D) (endJ i (nI (tkS la xb e)) x (basJ i b x J) L (nI (b + 1))) := by
  subst hx
  have h0 := h
  obtain ⟨⟨c1, c2, c3, c4, c5, c6, c7, c8⟩, a2, a3, a4, a5, a6, a7, a8⟩ := h
  have hB := bdN_le c8
  have hB1 : 19 ≤ bdN b bf := by unfold bdN; split <;> omega
  have ht1 : 1 ≤ tkS la xb e ∧ tkS la xb e ≤ 5 := by unfold tkS; split <;> omega
  have bits := basJ_bits (i := i) hx1 a2
  have eS := tkS_I (e := e) c6 hx1
  have hlen2 : 19 ≤ b + 1 → numN (fun j => bfS bf b xb (15 + j)) 4 ≤ 4 := fun g => by
    by_cases q : b + 1 = 19
    · exact hlen q
    · rw [numN_congr 4 (fun j hj => bfS_n (bf := bf) (xb := xb) (show 15 + j ≠ b by omega))]
      exact c8 (by omega)
  have hI0 : C (k + 15) 0 < C (k + 15) 1 ↔ b < bdN b bf := by rw [a3.1, a6.1]; exact nI_ltI (by omega) (by omega)
  by_cases g1 : b < bdN b bf
  · have hmin : min b (bdN b bf) = b := by omega
    rw [hmin] at a6
    have eL : (D (k + 15) 2 <<< ((1 : Int32).toInt64 &&& 63)) ||| (nI xb).toInt64 = lN (numN (bfS bf b xb) (b + 1)) := by
      rw [a6.2.1, orL (Nat.lt_of_lt_of_le (numN_lt b (fun j hj => (a2 j hj).1)) (Nat.pow_le_pow_right (by decide) (by omega))) hx1, num_S]
    have eC : ((C (k + 15) 4 <<< (1 &&& 31)) &&& 32767) ^^^ (nI (if nI xb ^^^ ((C (k + 15) 4 >>> (14 &&& 31)) &&& 1) = 1 then 17817 else 0)) = crcF (fun j => nI (bfS bf b xb j)) (b + 1) := by
      rw [crc_cls, crc_S, a6.2.2.2.1]
    by_cases g2 : b + 1 = 19
    · have eB : bdN (b + 1) (bfS bf b xb) = 19 + byN (bfS bf b xb 12) (numN (fun j => bfS bf b xb (15 + j)) 4) := by unfold bdN; rw [if_neg (by omega)]
      have e18 : b = 18 := by omega
      unfold i2_takeBasicBit m2_takeBasicBit
      rw [if_pos (hI0.mpr g1), if_pos (hI0.mpr g1), if_pos (show C (k + 15) 0 + 1 = 19 by rw [a3.1, nI_1, g2]; rfl)]
      refine FP.core hx1 h0 he hbl ht1.1 ht1.2 (by omega) hlen2 ?_ ?_ ?_ ?_ ?_ ?_ ?_ ?_ ?_ ?_ ?_ hown
      · simp [uI_eq]; rw [a3.1, nI_1]
      · simp [uI_eq]
      · simp [uI_eq]; rw [a4.1, a5.1]; exact eS
      · simp [uI_eq]
      · rw [uI_self, eB]
        unfold r2_sampledKey r2_sampledLength
        rw [uI_self, eL, lN_i, g2, db19 (fun j hj => (bits j (by omega)).1)]
        exact nI_add 19 _
      · rw [uL_self, eL]; congr 2; omega
      · rw [uI_ne _ _ _ (by decide), uI_self, if_neg (by omega), eL, lN_i, g2]
      · simp [uI_eq]; rw [eC]; congr 1; omega
      · simp [uI_eq]; rw [a6.2.2.2.2, show b - bdN b bf = 0 by omega, show b + 1 - bdN (b + 1) (bfS bf b xb) = 0 by omega]; rfl
      · simp [uI_eq]
      · rw [uL_off _ _ _ (by omega)]
    · unfold i2_takeBasicBit m2_takeBasicBit
      rw [if_pos (hI0.mpr g1), if_pos (hI0.mpr g1), if_neg (show ¬ C (k + 15) 0 + 1 = 19 by rw [a3.1, nI_1]; exact fun q => g2 ((nI_eq (b := 19) (by omega) (by omega)).mp q))]
      have eB : bdN (b + 1) (bfS bf b xb) = bdN b bf := by
        rcases Nat.lt_or_ge b 19 with q | q
        · unfold bdN; rw [if_pos (by omega), if_pos q]
        · exact bd_hi q
      refine FP.core hx1 h0 he hbl ht1.1 ht1.2 (by omega) hlen2 ?_ ?_ ?_ ?_ ?_ ?_ ?_ ?_ ?_ ?_ ?_ hown
      · simp [uI_eq]; rw [a3.1, nI_1]
      · simp [uI_eq]
      · simp [uI_eq]; rw [a4.1, a5.1]; exact eS
      · simp [uI_eq]
      · simp [uI_eq]; rw [a6.1, eB]
      · rw [uL_self, eL]; congr 2; omega
      · simp [uI_eq]; rw [a6.2.2.1]
        rcases Nat.lt_or_ge b 19 with q | q
        · rw [if_pos q, if_pos (by omega)]
        · rw [if_neg (by omega), if_neg (by omega), num_lo q]
      · simp [uI_eq]; rw [eC]; congr 1; omega
      · simp [uI_eq]; rw [a6.2.2.2.2, show b - bdN b bf = 0 by omega, show b + 1 - bdN (b + 1) (bfS bf b xb) = 0 by omega]; rfl
      · simp [uI_eq]
      · rw [uL_off _ _ _ (by omega)]
  · have hmin : min b (bdN b bf) = bdN b bf := by omega
    have eB : bdN (b + 1) (bfS bf b xb) = bdN b bf := bd_hi (by omega)
    rw [hmin] at a6
    unfold i2_takeBasicBit m2_takeBasicBit
    rw [if_neg (fun q => g1 (hI0.mp q)), if_neg (fun q => g1 (hI0.mp q))]
    refine FP.core hx1 h0 he hbl ht1.1 ht1.2 (by omega) hlen2 ?_ ?_ ?_ ?_ ?_ ?_ ?_ ?_ ?_ ?_ rfl hown
    · simp [uI_eq]; rw [a3.1, nI_1]
    · simp [uI_eq]
    · simp [uI_eq]; rw [a4.1, a5.1]; exact eS
    · simp [uI_eq]
    · simp [uI_eq]; rw [a6.1, eB]
    · rw [a6.2.1, eB, show min (b + 1) (bdN b bf) = bdN b bf by omega, num_lo (by omega)]
    · simp [uI_eq]; rw [a6.2.2.1, if_neg (by omega), if_neg (by omega), num_lo (by omega)]
    · simp [uI_eq]; rw [a6.2.2.2.1, eB, show min (b + 1) (bdN b bf) = bdN b bf by omega, crc_lo (by omega)]
    · simp [uI_eq]; rw [a6.2.2.2.2, or1 hx1, eB, show b + 1 - bdN b bf = b - bdN b bf + 1 by omega]
      simp only [numN]
      rw [show bdN b bf + (b - bdN b bf) = b by omega, bfS_s, numN_congr (b - bdN b bf) (fun j hj => (bfS_n (bf := bf) (xb := xb) (show bdN b bf + j ≠ b by omega)).symm)]
    · simp [uI_eq]
end BS
