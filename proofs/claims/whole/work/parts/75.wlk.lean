/-! a frame asked about: the walker beside the reference's way over the bus -/
section WK
variable {b e la idn rm ln : Nat} {d : Int32} {C M : Nat → Nat → Int32} {D L : Nat → Nat → Int64} {x : Int32}
/-- the laid bits -/
def lvB (idn rm ln : Nat) (d : Int32) (j : Nat) : Int32 := layV (nI idn) (nI rm) ln d (byN rm ln) j
theorem lvB_01 (hid : idn ≤ 2047) (hrm : rm ≤ 1) (hln : ln ≤ 4) (hd : dOK rm ln d) {j : Nat} (hj : j < 34 + byN rm ln) : ∃ y, y ≤ 1 ∧ lvB idn rm ln d j = nI y := by
  rcases lay_01 (by_ := byN rm ln) hid hrm hln (byN_le hln) hd hj with q | q
  · exact ⟨0, by omega, q⟩
  · exact ⟨1, by omega, q⟩
theorem lvB_by {bf : Nat → Nat} (hid : idn ≤ 2047) (hrm : rm ≤ 1) (hln : ln ≤ 4) (h : ∀ j, j < 19 → bf j ≤ 1 ∧ nI (bf j) = lvB idn rm ln d j) : bf 12 = rm ∧ numN (fun j => bf (15 + j)) 4 = ln := by
  have bit : ∀ j, j < 19 → bf j = ((2 * idn + rm) * 64 + ln) / 2 ^ (18 - j) % 2 := fun j hj => by
    obtain ⟨e0, e1⟩ := h j hj
    unfold lvB layV at e1
    rw [if_pos (by omega), hdr_bit hid hrm (by omega) j hj] at e1
    exact (nI_eq (by omega) (by omega)).mp e1
  refine ⟨?_, ?_⟩
  · rw [bit 12 (by omega)]; omega
  · simp only [numN]
    rw [show 15 + 0 = 15 from rfl, show 15 + 1 = 16 from rfl, show 15 + 2 = 17 from rfl, show 15 + 3 = 18 from rfl, bit 15 (by omega), bit 16 (by omega), bit 17 (by omega), bit 18 (by omega)]
    omega
/-- the walker, with b basic bits so far -/
def WI (idn rm ln : Nat) (d : Int32) (b e la : Nat) (C : Nat → Nat → Int32) (D : Nat → Nat → Int64) : Prop := ∃ bf J, FP b e 0 la bf 272 0 C D J ∧ ¬ J 297 1 = 1 ∧ ∀ j, j < b → nI (bf j) = lvB idn rm ln d j
theorem bd_34 {bf : Nat → Nat} (hid : idn ≤ 2047) (hrm : rm ≤ 1) (hln : ln ≤ 4) (h : ∀ j, j < b → bf j ≤ 1 ∧ nI (bf j) = lvB idn rm ln d j) : (b < 19 ∧ bdN b bf = 19) ∨ (19 ≤ b ∧ bdN b bf = 19 + byN rm ln) := by
  rcases Nat.lt_or_ge b 19 with g | g
  · exact Or.inl ⟨g, by unfold bdN; rw [if_pos g]⟩
  · obtain ⟨o1, o2⟩ := lvB_by hid hrm hln (fun j hj => h j (by omega))
    exact Or.inr ⟨g, by unfold bdN; rw [if_neg (by omega), o1, o2]⟩
theorem WI.in_ (hid : idn ≤ 2047) (hrm : rm ≤ 1) (hln : ln ≤ 4) (h : WI idn rm ln d b e la C D) : ((r2_isInStuffedPart 287 C D) = true ↔ (b < 34 + byN rm ln ∨ e = 5)) ∧ ((r2_isStuffBitDue 287 C D) = true ↔ e = 5) ∧ (1 ≤ b ∧ b ≤ 34 + byN rm ln) ∧ (1 ≤ e ∧ e ≤ 5) ∧ la ≤ 1 ∧ C 287 6 = nI la := by
  obtain ⟨bf, J, hf, -, hb⟩ := h
  have q := bd_34 hid hrm hln (fun j hj => ⟨(hf.2.1 j hj).1, hb j hj⟩)
  have s := hf.stuffed
  obtain ⟨⟨c1, c2, c3, c4, c5, c6, -⟩, -, -, a4, -⟩ := id hf
  refine ⟨s.trans ?_, hf.due, ⟨c1, by omega⟩, ⟨c3, c4⟩, c6, a4.1⟩
  rcases q with ⟨q1, q2⟩ | ⟨q1, q2⟩ <;> rw [q2] <;> constructor <;> rintro (z | z) <;> omega
theorem WI.nxt (hid : idn ≤ 2047) (hrm : rm ≤ 1) (hln : ln ≤ 4) (hd : dOK rm ln d) (he : e ≠ 5) (hbl : b < 34 + byN rm ln) (h : WI idn rm ln d b e la C D) : r2_nextOf 287 (r2_outgoingBits (nI (2 * idn + rm)) (nI ln) d) C D = lvB idn rm ln d b := by
  have hw := WI.in_ hid hrm hln h
  obtain ⟨bf, J, hf, -, hb⟩ := h
  have hB := bdN_le hf.1.2.2.2.2.2.2.2
  have hby := byN_le (rm := rm) hln
  have q := bd_34 hid hrm hln (fun j hj => ⟨(hf.2.1 j hj).1, hb j hj⟩)
  unfold r2_nextOf
  rw [if_pos (hw.1.mpr (Or.inl hbl)), if_neg (fun g => he (hw.2.1.mp g)), show C 287 0 = nI b from hf.2.2.1.1, show C 287 1 = nI (bdN b bf) from hf.2.2.2.2.2.1.1]
  unfold lvB
  by_cases g : b < bdN b bf
  · rw [if_neg (nI_ge g (by omega)), out_lay hid hrm hln hd (by omega)]
    unfold layV
    rw [if_pos (by omega)]
  · have eB : bdN b bf = 19 + byN rm ln := by omega
    rw [if_pos (nI_le (by omega) (by omega))]
    unfold layV
    rw [if_neg (by omega), show C 287 4 = _ from hf.2.2.2.2.2.1.2.2.2.1, show min b (bdN b bf) = 19 + byN rm ln by omega]
    have ec : crcF (fun j => nI (bf j)) (19 + byN rm ln) = crcF (layH (nI idn) (nI rm) ln d (byN rm ln)) (19 + byN rm ln) := crcF_congr _ (fun j hj => by
      rw [hb j (by omega)]
      unfold lvB layV
      rw [if_pos hj])
    rw [ec, eB, show ((nI (19 + byN rm ln) + 15) - 1) - nI b = nI (33 + byN rm ln - b) by rw [show nI (19 + byN rm ln) + 15 = nI (19 + byN rm ln + 15) from nI_add _ 15, nI_dec (by omega), pk_sub (by omega)]; congr 1; omega, show ((nI 15) - 1) - (nI (b - (19 + byN rm ln))) = nI (33 + byN rm ln - b) by rw [nI_dec (by omega), pk_sub (by omega)]; congr 1; omega]
theorem WI.basic {xb : Nat} (hid : idn ≤ 2047) (hrm : rm ≤ 1) (hln : ln ≤ 4) (he : e ≠ 5) (hbl : b < 34 + byN rm ln) (hx1 : xb ≤ 1) (hx : lvB idn rm ln d b = nI xb) (h : WI idn rm ln d b e la C D) : WI idn rm ln d (b + 1) (tkS la xb e) xb (i2_takeBasicBit 287 (nI xb) C D) (m2_takeBasicBit 287 (nI xb) C D) := by
  obtain ⟨bf, J, hf, hr, hb⟩ := h
  have q := bd_34 hid hrm hln (fun j hj => ⟨(hf.2.1 j hj).1, hb j hj⟩)
  have hb2 : ∀ j, j < b + 1 → bfS bf b xb j ≤ 1 ∧ nI (bfS bf b xb j) = lvB idn rm ln d j := fun j hj => by
    by_cases ej : j = b
    · subst ej; rw [bfS_s]; exact ⟨hx1, hx.symm⟩
    · rw [bfS_n ej]; exact ⟨(hf.2.1 j (by omega)).1, hb j (by omega)⟩
  have st := FP.step (L := D) (x := nI xb) rfl hx1 hf he (by omega) (fun g => by rw [(lvB_by hid hrm hln (fun j hj => hb2 j (by omega))).2]; exact hln) (fun z => absurd z hr)
  refine ⟨bfS bf b xb, _, st, ?_, fun j hj => (hb2 j hj).2⟩
  rw [endJ_off (i := 0) (b := 1) (by omega), basJ_off (by omega)]
  exact hr
theorem WI.stuff (h : WI idn rm ln d b 5 la C D) (hla : la ≤ 1) : WI idn rm ln d b 1 (1 - la) (i2_takeStuffBit 287 (nI (1 - la)) C D) D := by
  obtain ⟨bf, J, hf, hr, hb⟩ := h
  have st := FP.stuff (L := D) (x := nI (1 - la)) rfl (by omega) hf
  refine ⟨bf, _, st, ?_, hb⟩
  rw [endJ_off (i := 0) (b := 1) (by omega)]
  exact hr
def jW : Nat → Nat → Int32 := fun _ s => if s = 19 then 1 else if s = 20 then 1 else if s = 22 then (-1) else 0
theorem WI.init (hid : idn ≤ 2047) (hrm : rm ≤ 1) (hln : ln ≤ 4) : WI idn rm ln d 1 1 0 (i2_begin 287 C D) (m2_begin 287 C D) := by
  have lz : lvB idn rm ln d 0 = nI 0 := by
    unfold lvB layV
    rw [if_pos (by omega), hdr_bit hid hrm (by omega) 0 (by omega)]
    congr 1
    omega
  have z0 : (i2_begin 287 C D) 287 0 = 1 := by unfold i2_begin; simp [uI_eq]
  have z1 : (i2_begin 287 C D) 287 1 = 19 := by unfold i2_begin; simp [uI_eq]
  have z3 : (i2_begin 287 C D) 287 3 = 0 := by unfold i2_begin; simp [uI_eq]
  have z4 : (i2_begin 287 C D) 287 4 = 0 := by unfold i2_begin; simp [uI_eq]
  have z5 : (i2_begin 287 C D) 287 5 = 0 := by unfold i2_begin; simp [uI_eq]
  have z6 : (i2_begin 287 C D) 287 6 = 0 := by unfold i2_begin; simp [uI_eq]
  have z7 : (i2_begin 287 C D) 287 7 = 1 := by unfold i2_begin; simp [uI_eq]
  have z8 : (i2_begin 287 C D) 287 8 = 0 := by unfold i2_begin; simp [uI_eq]
  refine ⟨fun _ => 0, jW, ⟨⟨by omega, by unfold bdN; omega, by omega, by omega, by omega, by omega, rfl, fun z => absurd z (by omega)⟩, fun j hj => ⟨Nat.zero_le _, ?_⟩, ⟨?_, by decide⟩, ⟨?_, by decide⟩, ⟨?_, by decide⟩, ⟨?_, ?_, ?_, ?_, ?_⟩, ⟨?_, fun _ => ⟨rfl, by decide⟩, fun z => absurd (Or.inl (by decide)) z⟩, fun z => absurd z (by decide)⟩, by decide, fun j hj => ?_⟩
  · rw [show j = 0 by omega]; decide
  · exact z0.trans (by decide)
  · exact z6.trans (by decide)
  · exact z7.trans (by decide)
  · exact z1.trans (by decide)
  · show (uL D 287 2 0) 287 2 = _
    rw [uL_self]; decide
  · exact z3.trans (by decide)
  · exact z4.trans (by decide)
  · exact z5.trans (by decide)
  · exact z8.trans (by decide)
  · rw [show j = 0 by omega]; exact lz.symm
end WK
