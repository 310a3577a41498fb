/-! what a node drives -/
section DR
variable {t k l i : Nat} {C J : Nat → Nat → Int32} {D L : Nat → Nat → Int64}
theorem FP.b66 {b e T la : Nat} {bf : Nat → Nat} (h : FP b e T la bf k i C D J) : b ≤ 66 := by
  have := bdN_le h.1.2.2.2.2.2.2.2
  have := h.1.2.1
  omega
theorem FP.stuffed {b e T la : Nat} {bf : Nat → Nat} (h : FP b e T la bf k i C D J) : (r2_isInStuffedPart (k + 15) C D) = true ↔ (b < bdN b bf + 15 ∨ e = 5) := by
  have hB := bdN_le h.1.2.2.2.2.2.2.2
  have hb := h.b66
  have he := h.1.2.2.2.1
  unfold r2_isInStuffedPart r2_isStuffBitDue
  rw [h.2.2.1.1, h.2.2.2.2.2.1.1, h.2.2.2.2.1.1]
  have e1 : (nI b < nI (bdN b bf) + 15) ↔ b < bdN b bf + 15 := by
    rw [show nI (bdN b bf) + 15 = nI (bdN b bf + 15) from nI_add _ 15]
    exact nI_ltI (by omega) (by omega)
  have e2 : ((if nI e = 5 then true else false) = true) ↔ e = 5 := by
    have e3 : nI e = 5 ↔ e = 5 := nI_eq (b := 5) (by omega) (by omega)
    by_cases g : e = 5
    · rw [if_pos (e3.mpr g)]; exact ⟨fun _ => g, fun _ => rfl⟩
    · rw [if_neg (fun q => g (e3.mp q))]; exact ⟨fun q => absurd q (by decide), fun q => absurd q g⟩
  by_cases g : b < bdN b bf + 15 ∨ e = 5
  · rw [if_pos (g.imp e1.mpr e2.mpr)]; exact ⟨fun _ => g, fun _ => rfl⟩
  · rw [if_neg (fun q => g (q.imp e1.mp e2.mp))]; exact ⟨fun q => absurd q (by decide), fun q => absurd q g⟩
theorem FP.due {b e T la : Nat} {bf : Nat → Nat} (h : FP b e T la bf k i C D J) : (r2_isStuffBitDue (k + 15) C D) = true ↔ e = 5 := by
  have he := h.1.2.2.2.1
  unfold r2_isStuffBitDue
  rw [h.2.2.2.2.1.1]
  have e3 : nI e = 5 ↔ e = 5 := nI_eq (b := 5) (by omega) (by omega)
  by_cases g : e = 5
  · rw [if_pos (e3.mpr g)]; exact ⟨fun _ => g, fun _ => rfl⟩
  · rw [if_neg (fun q => g (e3.mp q))]; exact ⟨fun q => absurd q (by decide), fun q => absurd q g⟩
theorem nn_m1 : ¬ (0 : Int32) ≤ (-1) := by decide
/-- the sum is right -/
theorem chk_eq {b e T la : Nat} {bf : Nat → Nat} (h : FP b e T la bf k i C D J) (hb : b = bdN b bf + 15) : r11_isChecked i J L = r2_isCrcRight (k + 15) C D := by
  have hB := bdN_le h.1.2.2.2.2.2.2.2
  have hB1 : 19 ≤ bdN b bf := by unfold bdN; split <;> omega
  obtain ⟨c, a2, a3, a4, a5, a6, a7, a8⟩ := h
  have et : r11_total i J L = nI (bdN b bf + 15) := by rw [tot_N (by omega) a3.2 a2, if_neg (by omega)]
  unfold r11_isChecked r2_isCrcRight
  rw [et, nI_clamp (by omega), show bdN b bf + 15 - 15 = bdN b bf by omega, crcOf_F, sampled_N (f := bdN b bf) (m := 15) (bf := bf) (fun j g1 g2 => a2 j (by omega)), a6.2.2.2.1, a6.2.2.2.2, show min b (bdN b bf) = bdN b bf by omega, show b - bdN b bf = 15 by omega]
  have ec : crcF (fun t => J 297 (256 * i + 90 + t)) (bdN b bf) = crcF (fun j => nI (bf j)) (bdN b bf) := crcF_congr _ (fun j hj => by
    rw [show 256 * i + 90 + j = 256 * i + j + 90 by omega]
    exact (a2 j (by omega)).2)
  rw [ec]
  by_cases g : crcF (fun j => nI (bf j)) (bdN b bf) = nI (numN (fun t => bf (bdN b bf + t)) 15)
  · rw [if_pos g, if_pos g.symm]
  · rw [if_neg g, if_neg (fun q => g q.symm)]
/-- a transmitter's own frame -/
theorem own_by {b e T la : Nat} {bf : Nat → Nat} (h : FP b e T la bf k i C D J) {idn rm ln : Nat} {d : Int32} (hid : idn ≤ 2047) (hrm : rm ≤ 1) (hln : ln ≤ 4) (h6 : ∀ j, j < 34 + byN rm ln → J 297 (256 * i + j + 160) = layV (nI idn) (nI rm) ln d (byN rm ln) j) (h7 : ∀ j, j < b → J 297 (256 * i + j + 90) = J 297 (256 * i + j + 160)) (hb : 19 ≤ b) : bf 12 = rm ∧ numN (fun j => bf (15 + j)) 4 = ln := by
  have bit : ∀ j, j < 19 → bf j = ((2 * idn + rm) * 64 + ln) / 2 ^ (18 - j) % 2 := fun j hj => by
    have e1 := (h.2.1 j (by omega)).2
    have e0 := (h.2.1 j (by omega)).1
    rw [h7 j (by omega), h6 j (by omega)] at e1
    unfold layV at e1
    rw [if_pos (by omega), hdr_bit hid hrm (by omega) j hj] at e1
    exact ((nI_eq (by omega) (by omega)).mp e1).symm
  refine ⟨?_, ?_⟩
  · rw [bit 12 (by omega)]; omega
  · simp only [numN]
    rw [show 15 + 0 = 15 from rfl, show 15 + 1 = 16 from rfl, show 15 + 2 = 17 from rfl, show 15 + 3 = 18 from rfl, bit 15 (by omega), bit 16 (by omega), bit 17 (by omega), bit 18 (by omega)]
    omega
/-- the bit that a transmitter sends -/
theorem nxt_own {b e T la : Nat} {bf : Nat → Nat} (h : FP b e T la bf k i C D J) (he : e ≠ 5) (hbl : b < bdN b bf + 15) (hx : XR b k i C D J) : r2_nextOf (k + 15) (D k 18) C D = J 297 (256 * i + b + 160) := by
  have hB := bdN_le h.1.2.2.2.2.2.2.2
  obtain ⟨-, idn, rm, ln, d, q1, q2, q3, q4, q5, q6, q7⟩ := hx
  have hby := byN_le (rm := rm) q3
  unfold r2_nextOf
  rw [if_pos (h.stuffed.mpr (Or.inl hbl)), if_neg (fun g => he (h.due.mp g)), h.2.2.1.1, h.2.2.2.2.2.1.1, q5]
  have hB2 : b < 19 ∨ bdN b bf = 19 + byN rm ln := by
    rcases Nat.lt_or_ge b 19 with g | g
    · exact Or.inl g
    · obtain ⟨o1, o2⟩ := own_by h q1 q2 q3 q6 q7 g
      refine Or.inr ?_
      unfold bdN
      rw [if_neg (by omega), o1, o2]
  have hB3 : b < 19 → bdN b bf = 19 := fun g => by unfold bdN; rw [if_pos g]
  rw [q6 b (by omega)]
  by_cases g : b < bdN b bf
  · rw [if_neg (nI_ge g (by omega)), out_lay q1 q2 q3 q4 (by omega)]
    unfold layV
    rw [if_pos (by omega)]
  · have eB : bdN b bf = 19 + byN rm ln := by omega
    rw [if_pos (nI_le (by omega) (by omega))]
    unfold layV
    rw [if_neg (by omega), h.2.2.2.2.2.1.2.2.2.1, show min b (bdN b bf) = 19 + byN rm ln by omega]
    have ec : crcF (fun j => nI (bf j)) (19 + byN rm ln) = crcF (layH (nI idn) (nI rm) ln d (byN rm ln)) (19 + byN rm ln) := crcF_congr _ (fun j hj => by
      rw [← (h.2.1 j (by omega)).2, q7 j (by omega), q6 j (by omega)]
      unfold layV
      rw [if_pos hj])
    rw [ec, eB, show ((nI (19 + byN rm ln) + 15) - 1) - nI b = nI (33 + byN rm ln - b) by rw [show nI (19 + byN rm ln) + 15 = nI (19 + byN rm ln + 15) from nI_add _ 15, nI_dec (by omega), pk_sub (by omega)]; congr 1; omega, show ((nI 15) - 1) - (nI (b - (19 + byN rm ln))) = nI (33 + byN rm ln - b) by rw [nI_dec (by omega), pk_sub (by omega)]; congr 1; omega]
theorem drv_frame {b e T la : Nat} {bf : Nat → Nat} (hn : NB t k i C J) (h : FP b e T la bf k i C D J) : (if C k 9 = 0 then r2_nextOfReceiver (k + 15) C D else r2_nextOf (k + 15) (D k 18) C D) = r11_drivesFrame i J L := by
  have hB := bdN_le h.1.2.2.2.2.2.2.2
  have hb := h.b66
  have hbB := h.1.2.1
  have hT := h.1.2.2.2.2.1
  have tr := tr_eq (L := L) hn
  unfold r11_drivesFrame
  by_cases g : C k 9 = 0
  · rw [if_pos g, if_neg (fun q => (tr.mp q) g)]
    unfold r2_nextOfReceiver
    rw [h.2.2.2.2.2.2.1.1]
    by_cases s : b < bdN b bf + 15 ∨ e = 5
    · obtain ⟨t1, t2⟩ := h.2.2.2.2.2.2.1.2.1 s
      rw [t1, t2, if_pos (Or.inl (by decide)), if_neg (show ¬ ((-1 : Int32)) = 1 by decide)]
    · have t2 := h.2.2.2.2.2.2.1.2.2 s
      rw [t2]
      by_cases t3 : nI T = 1
      · rw [if_pos t3, chk_eq h (by omega)]
        by_cases c : r2_isCrcRight (k + 15) C D = true
        · rw [if_pos c, if_neg (fun q => q.elim (fun q => q t3) (fun q => q c))]
        · rw [if_neg c, if_pos (Or.inr c)]
      · rw [if_neg t3, if_pos (Or.inl t3)]
  · rw [if_neg g, if_pos (tr.mpr g)]
    have h1 : J 297 (256 * i + 1) = 1 := hn.1.2.resolve_left (fun q => g (hn.1.1.trans q))
    by_cases s : b < bdN b bf + 15 ∨ e = 5
    · obtain ⟨t1, t2⟩ := h.2.2.2.2.2.2.1.2.1 s
      rw [t2, if_pos (show ((-1 : Int32)) < 0 by decide), h.2.2.2.2.1.2, h.2.2.2.1.2, h.2.2.1.2, nI_clamp (by omega)]
      by_cases c : e = 5
      · rw [if_pos (show nI e = 5 by rw [c]; rfl)]
        unfold r2_nextOf
        rw [if_pos (h.stuffed.mpr s), if_pos (h.due.mpr c), h.2.2.2.1.1]
      · rw [if_neg (show ¬ nI e = 5 from fun q => c ((nI_eq (b := 5) (by have := h.1.2.2.2.1; omega) (by omega)).mp q)), nxt_own h c (by omega) (h.2.2.2.2.2.2.2 h1), show b + 256 * i + 160 = 256 * i + b + 160 by omega]
    · rw [h.2.2.2.2.2.2.1.2.2 s, if_neg (nI_pos (by omega))]
      unfold r2_nextOf
      rw [if_neg (fun q => s (h.stuffed.mp q))]
/-- both drive the same -/
theorem drv_eq (h : NR t k i C D J) : r6_levelToDrive k l C D = r11_drives i J L := by
  obtain ⟨hn, a1, a2, a3, a4, a5, a6, a7, a8⟩ := h
  unfold r6_levelToDrive r11_drives
  rw [a1]
  by_cases p3 : J 297 (256 * i) = 3
  · rw [if_pos p3, if_pos p3]
    obtain ⟨w, -, w2, w3, -⟩ := hn.2.2.2.2.2.2.1
    rw [w2, w3]
  · rw [if_neg p3, if_neg p3]
    by_cases p4 : J 297 (256 * i) = 4
    · rw [if_pos p4, if_pos p4]
      obtain ⟨b, e, T, la, bf, hf⟩ := a8 p4
      exact drv_frame hn hf
    · rw [if_neg p4, if_neg p4]
      by_cases p5 : J 297 (256 * i) = 5
      · rw [if_pos p5, if_pos p5, ← a6 p5]
        rcases hn.2.2.2.2.1.1 with q | q <;> rw [q] <;> decide
      · rw [if_neg p5, if_neg p5]
/-- what is driven is a level -/
theorem bI_lv (b : Bool) : bI b = 0 ∨ bI b = 1 := bI_or b
theorem lv_bit (x : Int32) {s : Nat} (hs : s < 32) : (x >>> (nI s &&& 31)) &&& 1 = 0 ∨ (x >>> (nI s &&& 31)) &&& 1 = 1 := by
  rw [shr1 x hs]
  rcases (show x.toBitVec.toNat / 2 ^ s % 2 = 0 ∨ x.toBitVec.toNat / 2 ^ s % 2 = 1 by omega) with q | q <;> rw [q]
  · exact Or.inl rfl
  · exact Or.inr rfl
theorem lay_01 {idn rm ln by_ j : Nat} {d : Int32} (hid : idn ≤ 2047) (hrm : rm ≤ 1) (hln : ln ≤ 4) (hby : by_ ≤ 32) (hd : d.toBitVec.toNat < 2 ^ by_) (hj : j < 34 + by_) : layV (nI idn) (nI rm) ln d by_ j = 0 ∨ layV (nI idn) (nI rm) ln d by_ j = 1 := by
  unfold layV
  by_cases g : j < 19 + by_
  · rw [if_pos g, layH_N hid hrm hln hby hd g]
    rcases (show bodN idn rm ln by_ d.toBitVec.toNat / 2 ^ (18 + by_ - j) % 2 = 0 ∨ bodN idn rm ln by_ d.toBitVec.toNat / 2 ^ (18 + by_ - j) % 2 = 1 by omega) with q | q <;> rw [q]
    · exact Or.inl rfl
    · exact Or.inr rfl
  · rw [if_neg g, show ((nI 15) - 1) - (nI (j - (19 + by_))) = nI (14 - (j - (19 + by_))) by rw [nI_dec (by omega), pk_sub (by omega)]]
    exact lv_bit _ (by omega)
theorem drv_01 (h : NR t k i C D J) : r11_drives i J L = 0 ∨ r11_drives i J L = 1 := by
  obtain ⟨hn, a1, a2, a3, a4, a5, a6, a7, a8⟩ := h
  unfold r11_drives
  split
  · exact bI_lv _
  · split
    · rename_i p4
      obtain ⟨b, e, T, la, bf, hf⟩ := a8 p4
      have hB := bdN_le hf.1.2.2.2.2.2.2.2
      have hbB := hf.1.2.1
      unfold r11_drivesFrame
      split
      · rename_i ht
        have h1 : J 297 (256 * i + 1) = 1 := hn.1.2.resolve_left (fun q => (tr_eq (L := L) hn).mp ht (hn.1.1.trans q))
        split
        · rename_i h22
          have s : b < bdN b bf + 15 ∨ e = 5 := Classical.byContradiction fun s => by
            rw [hf.2.2.2.2.2.2.1.2.2 s] at h22
            exact nI_pos (by have := hf.1.2.2.2.2.1; omega) h22
          split
          · rw [hf.2.2.2.1.2]
            have := hf.1.2.2.2.2.2.1
            rcases (show la = 0 ∨ la = 1 by omega) with q | q <;> rw [q]
            · exact Or.inr (by decide)
            · exact Or.inl (by decide)
          · rename_i he
            have c : e ≠ 5 := fun q => he (by rw [hf.2.2.2.2.1.2, q]; rfl)
            have hx := hf.2.2.2.2.2.2.2 h1
            have e1 := nxt_own hf c (by omega) hx
            rw [hf.2.2.1.2, nI_clamp (by omega), show b + 256 * i + 160 = 256 * i + b + 160 by omega]
            obtain ⟨-, idn, rm, ln, d, q1, q2, q3, q4, q5, q6, q7⟩ := hx
            have hby := byN_le (rm := rm) q3
            have hlt : b < 34 + byN rm ln := by
              rcases Nat.lt_or_ge b 19 with g | g
              · omega
              · obtain ⟨o1, o2⟩ := own_by hf q1 q2 q3 q6 q7 g
                have : bdN b bf = 19 + byN rm ln := by unfold bdN; rw [if_neg (by omega), o1, o2]
                omega
            rw [q6 b hlt]
            exact lay_01 q1 q2 q3 hby q4 hlt
        · exact Or.inr rfl
      · exact bI_lv _
    · split
      · rename_i p5
        rw [← a6 p5]
        rcases hn.2.2.2.2.1.1 with q | q <;> rw [q]
        · exact Or.inr (by decide)
        · exact Or.inl (by decide)
      · split
        · exact Or.inl rfl
        · exact Or.inr rfl
end DR
