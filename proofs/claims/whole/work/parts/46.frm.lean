/-! the bits of a frame, one by one -/
section FM
variable {t k l i : Nat} {C J : Nat → Nat → Int32} {D L : Nat → Nat → Int64} {x : Int32}
theorem len_N {b : Nat} {bf : Nat → Nat} (h19 : 19 ≤ b) (hb : ∀ j, j < b → bf j ≤ 1 ∧ J 297 (256 * i + j + 90) = nI (bf j)) : r11_sampledLength i J L = nI (numN (fun j => bf (15 + j)) 4) := by
  unfold r11_sampledLength
  exact sampled_N (fun j g1 g2 => hb j (by omega))
theorem num4 {bf : Nat → Nat} {b : Nat} (h19 : 19 ≤ b) (hb : ∀ j, j < b → bf j ≤ 1) : numN (fun j => bf (15 + j)) 4 ≤ 15 := by
  have := numN_lt (f := fun j => bf (15 + j)) 4 (fun j hj => hb (15 + j) (by omega))
  omega
theorem tot_N {b : Nat} {bf : Nat → Nat} (hb9 : b < 1000) (h : J 297 (256 * i + 19) = nI b) (hb : ∀ j, j < b → bf j ≤ 1 ∧ J 297 (256 * i + j + 90) = nI (bf j)) : r11_total i J L = if b < 19 then 1000 else nI (bdN b bf + 15) := by
  unfold r11_total
  rw [h]
  by_cases h19 : b < 19
  · rw [if_neg (show ¬ (19 : Int32) ≤ nI b from nI_ge (b := 19) h19 (by omega)), if_pos h19]
  · rw [if_pos (show (19 : Int32) ≤ nI b from nI_le (a := 19) (by omega) (by omega)), if_neg h19, len_N (by omega) hb]
    have h12 := hb 12 (by omega)
    rw [show 256 * i + 12 + 90 = 256 * i + 102 from rfl] at h12
    unfold bdN byN
    rw [h12.2, if_neg h19]
    rcases (show bf 12 = 0 ∨ bf 12 = 1 by omega) with e | e
    · rw [e, if_neg (by decide), if_neg (by decide), show (8 : Int32) * nI (numN (fun j => bf (15 + j)) 4) = nI (8 * numN (fun j => bf (15 + j)) 4) from pk_mul 8 _, show (34 : Int32) + nI (8 * numN (fun j => bf (15 + j)) 4) = nI (34 + 8 * numN (fun j => bf (15 + j)) 4) from nI_add 34 _]
      congr 1
      omega
    · rw [e, if_pos (by decide), if_pos rfl]
      rfl
/-- what the reference does behind a bit that is right -/
def endJ (i : Nat) (s x : Int32) (M : Nat → Nat → Int32) (L : Nat → Nat → Int64) (b1 : Int32) : Nat → Nat → Int32 := if (¬ (b1 = r11_total i (uI (uI M 297 (256 * i + 20) s) 297 (256 * i + 21) x) L)) ∨ (5 ≤ s) then uI (uI M 297 (256 * i + 20) s) 297 (256 * i + 21) x else uI (uI (uI M 297 (256 * i + 20) s) 297 (256 * i + 21) x) 297 (256 * i + 22) 0
theorem endJ_off {s b1 : Int32} {M : Nat → Nat → Int32} {b : Nat} (h : b ≠ 256 * i + 20 ∧ b ≠ 256 * i + 21 ∧ b ≠ 256 * i + 22) : (endJ i s x M L b1) 297 b = M 297 b := by
  unfold endJ
  split
  · rw [uI_ne _ _ _ (by omega), uI_ne _ _ _ (by omega)]
  · rw [uI_ne _ _ _ (by omega), uI_ne _ _ _ (by omega), uI_ne _ _ _ (by omega)]
theorem endJ_20 {s b1 : Int32} {M : Nat → Nat → Int32} : (endJ i s x M L b1) 297 (256 * i + 20) = s := by
  unfold endJ
  split
  · rw [uI_ne _ _ _ (by omega), uI_self]
  · rw [uI_ne _ _ _ (by omega), uI_ne _ _ _ (by omega), uI_self]
theorem endJ_21 {s b1 : Int32} {M : Nat → Nat → Int32} : (endJ i s x M L b1) 297 (256 * i + 21) = x := by
  unfold endJ
  split
  · rw [uI_self]
  · rw [uI_ne _ _ _ (by omega), uI_self]
theorem endJ_22 {b e : Nat} {bf : Nat → Nat} {M : Nat → Nat → Int32} (hb9 : b < 1000) (he : e ≤ 5) (hbB : b ≤ bdN b bf + 15) (hB : bdN b bf ≤ 51) (h19 : M 297 (256 * i + 19) = nI b) (hb : ∀ j, j < b → bf j ≤ 1 ∧ M 297 (256 * i + j + 90) = nI (bf j)) : (endJ i (nI e) x M L (nI b)) 297 (256 * i + 22) = if b < bdN b bf + 15 ∨ e = 5 then M 297 (256 * i + 22) else 0 := by
  unfold endJ
  rw [tot_N (b := b) (bf := bf) hb9 (by rw [uI_ne _ _ _ (by omega), uI_ne _ _ _ (by omega)]; exact h19) (fun j hj => ⟨(hb j hj).1, by rw [uI_ne _ _ _ (by omega), uI_ne _ _ _ (by omega)]; exact (hb j hj).2⟩)]
  have hc : ((¬ (nI b = if b < 19 then 1000 else nI (bdN b bf + 15))) ∨ (5 ≤ nI e)) ↔ (b < bdN b bf + 15 ∨ e = 5) := by
    have h5 : (5 ≤ nI e) ↔ e = 5 := by
      rw [show ((5 : Int32) ≤ nI e) ↔ 5 ≤ e from nI_leI (a := 5) (by omega) (by omega)]
      omega
    rw [h5]
    by_cases g : b < 19
    · rw [if_pos g]
      have e1 : bdN b bf = 19 := by unfold bdN; rw [if_pos g]
      have e2 : ¬ nI b = 1000 := fun q => by
        have := (nI_eq (show b < 2 ^ 31 by omega) (show 1000 < 2 ^ 31 by omega)).mp q
        omega
      exact ⟨fun _ => Or.inl (by omega), fun _ => Or.inl e2⟩
    · rw [if_neg g]
      have e2 : nI b = nI (bdN b bf + 15) ↔ b = bdN b bf + 15 := nI_eq (by omega) (by omega)
      rw [e2]
      omega
  by_cases g : b < bdN b bf + 15 ∨ e = 5
  · rw [if_pos (hc.mpr g), if_pos g, uI_ne _ _ _ (by omega), uI_ne _ _ _ (by omega)]
  · rw [if_neg (fun q => g (hc.mp q)), if_neg g, uI_self]
/-- a stuff bit that is right -/
theorem FP.stuff {b T la xb : Nat} {bf : Nat → Nat} (hx : x = nI xb) (hx1 : xb ≤ 1) (h : FP b 5 T la bf k i C D J) : FP b 1 0 xb bf k i (i2_takeStuffBit (k + 15) x C D) D (endJ i 1 x J L (nI b)) := by
  subst hx
  obtain ⟨⟨c1, c2, c3, c4, c5, c6, c7, c8⟩, a2, a3, a4, a5, a6, a7, a8⟩ := h
  have hB := bdN_le c8
  have hC : ∀ j, j ≠ 6 → j ≠ 7 → (i2_takeStuffBit (k + 15) (nI xb) C D) (k + 15) j = C (k + 15) j := fun j g1 g2 => by
    unfold i2_takeStuffBit
    rw [uI_ne _ _ _ g1, uI_ne _ _ _ g2]
  have hC2 : ∀ a, a ≠ k + 15 → (i2_takeStuffBit (k + 15) (nI xb) C D) a = C a := fun a g => by
    unfold i2_takeStuffBit
    rw [uI_off _ _ _ g, uI_off _ _ _ g]
  have e22 := endJ_22 (i := i) (x := nI xb) (L := L) (e := 1) (by omega) (by omega) c2 hB a3.2 a2
  refine ⟨⟨c1, c2, by omega, by omega, by omega, hx1, c7, c8⟩, fun j hj => ⟨(a2 j hj).1, ?_⟩, ⟨(hC 0 (by decide) (by decide)).trans a3.1, ?_⟩, ⟨?_, endJ_21⟩, ⟨?_, endJ_20⟩, ⟨(hC 1 (by decide) (by decide)).trans a6.1, a6.2.1, (hC 3 (by decide) (by decide)).trans a6.2.2.1, (hC 4 (by decide) (by decide)).trans a6.2.2.2.1, (hC 5 (by decide) (by decide)).trans a6.2.2.2.2⟩, ⟨?_, fun g => ⟨rfl, ?_⟩, fun g => ?_⟩, fun g => ?_⟩
  · rw [endJ_off (by omega)]; exact (a2 j hj).2
  · rw [endJ_off (by omega)]; exact a3.2
  · unfold i2_takeStuffBit; exact uI_self _ _ _ _
  · unfold i2_takeStuffBit; rw [uI_ne _ _ _ (by decide), uI_self]; rfl
  · rw [hC 8 (by decide) (by decide), a7.1, (a7.2.1 (Or.inr rfl)).1]
  · rw [show (1 : Int32) = nI 1 from rfl, e22, if_pos g]; exact (a7.2.1 (Or.inr rfl)).2
  · rw [show (1 : Int32) = nI 1 from rfl, e22, if_neg g]; rfl
  · rw [endJ_off (by omega)] at g
    exact (a8 g).congr (by omega) (by rw [hC2 k (by omega)]) rfl (fun s y e g1 g2 => endJ_off (by omega))
end FM
