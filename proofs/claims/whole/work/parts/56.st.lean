/-! the stuffed part of a frame -/
section SP
variable {t k l i : Nat} {C J : Nat → Nat → Int32} {D L : Nat → Nat → Int64} {x : Int32}
def wrgJ (i bn : Nat) (x : Int32) (B : Nat → Nat → Int32) (L : Nat → Nat → Int64) : Bool := if ((nI bn = 13) ∧ ((x = 1) ∨ ((nI bn = 18) ∧ (¬ (r11_sampledLength i B L ≤ 4))))) ∨ ((¬ (nI bn = 13)) ∧ ((nI bn = 18) ∧ (¬ (r11_sampledLength i B L ≤ 4)))) then true else false
def basG (i bn : Nat) (x v : Int32) (M : Nat → Nat → Int32) : Nat → Nat → Int32 := uI (uI M 297 (bn + 256 * i + 90) x) 297 (256 * i + 19) v
def cntJ (i bn : Nat) (x v s : Int32) (M : Nat → Nat → Int32) (L : Nat → Nat → Int64) : Nat → Nat → Int32 := if ((r11_isTransmitting i (basG i bn x v M) L) = true) ∨ (¬ ((wrgJ i bn x (basG i bn x v M) L) = true)) then endJ i s x (basG i bn x v M) L v else i11_errs i 4 (basG i bn x v M) L
def lstJ (i : Nat) (J : Nat → Nat → Int32) (L : Nat → Nat → Int64) : Nat → Nat → Int32 := i11_releases i (uI (uI J 297 (256 * i + 1) 0) 297 (256 * i + 12) ((J 297 (256 * i + 12)) + 1)) L
def stS (i : Nat) (x : Int32) (J : Nat → Nat → Int32) : Int32 := if ((if J 297 (256 * i + 20) = 5 then true else false) = true) ∨ (¬ (x = J 297 (256 * i + 21))) then 1 else (J 297 (256 * i + 20)) + 1
theorem st_eq : i11_stuffed i x J L = if (if J 297 (256 * i + 20) = 5 then true else false) = true then (if (¬ ((r11_isTransmitting i J L) = true)) ∨ (¬ ((if x = J 297 (256 * i + 26) then false else true) = true)) then (if ((r11_isTransmitting i J L) = true) ∨ (¬ (x = J 297 (256 * i + 21))) then endJ i (stS i x J) x J L (J 297 (256 * i + 19)) else i11_errs i 2 J L) else i11_errs i 1 J L) else (if (¬ ((r11_isTransmitting i J L) = true)) ∨ (¬ ((if x = J 297 (256 * i + 26) then false else true) = true)) then cntJ i ((J 297 (256 * i + 19)).toNatClampNeg) x ((J 297 (256 * i + 19)) + 1) (stS i x J) J L else (if (x = 1) ∨ (¬ ((r11_in (nI ((J 297 (256 * i + 19)).toNatClampNeg)) 1 12) = true)) then i11_errs i 1 J L else cntJ i ((J 297 (256 * i + 19)).toNatClampNeg) x ((J 297 (256 * i + 19)) + 1) (stS i x J) (lstJ i J L) L)) := rfl
theorem tk_vals {b e T la xb : Nat} {bf : Nat → Nat} (hx : x = nI xb) (hx1 : xb ≤ 1) (h : FP b e T la bf k i C D J) : (i2_takeBasicBit (k + 15) x C D) (k + 15) 0 = nI (b + 1) ∧ (i2_takeBasicBit (k + 15) x C D) (k + 15) 6 = x ∧ (b + 1 = 19 → (i2_takeBasicBit (k + 15) x C D) (k + 15) 3 = nI (numN (bfS bf b xb) 19)) := by
  subst hx
  have hB := bdN_le h.1.2.2.2.2.2.2.2
  have hb := h.b66
  obtain ⟨⟨c1, c2, c3, c4, c5, c6, c7, c8⟩, a2, a3, a4, a5, a6, a7, a8⟩ := h
  have hI0 : C (k + 15) 0 < C (k + 15) 1 ↔ b < bdN b bf := by rw [a3.1, a6.1]; exact nI_ltI (by omega) (by omega)
  refine ⟨?_, ?_, fun g2 => ?_⟩
  · unfold i2_takeBasicBit
    (repeat' split) <;> simp [uI_eq] <;> rw [a3.1, nI_1]
  · unfold i2_takeBasicBit
    (repeat' split) <;> simp [uI_eq]
  · have e19 : bdN b bf = 19 := by unfold bdN; rw [if_pos (by omega)]
    have eL : (D (k + 15) 2 <<< ((1 : Int32).toInt64 &&& 63)) ||| (nI xb).toInt64 = lN (numN (bfS bf b xb) (b + 1)) := by
      rw [a6.2.1, show min b (bdN b bf) = b by omega, orL (Nat.lt_of_lt_of_le (numN_lt b (fun j hj => (a2 j hj).1)) (Nat.pow_le_pow_right (by decide) (by omega))) hx1, num_S]
    unfold i2_takeBasicBit
    rw [if_pos (hI0.mpr (by omega)), if_pos (show C (k + 15) 0 + 1 = 19 by rw [a3.1, nI_1, g2]; rfl), uI_ne _ _ _ (by decide), uI_self, eL, lN_i, g2]
theorem tk_row {a : Nat} (h : a ≠ k) : (i2_takeBasicBit k x C D) a = C a := by
  unfold i2_takeBasicBit
  (repeat' split) <;> simp only [uI_off _ _ _ h]
theorem tm_row {a : Nat} (h : a ≠ k) : (m2_takeBasicBit k x C D) a = D a := by
  unfold m2_takeBasicBit
  split
  · rw [uL_off _ _ _ h]
  · rfl
theorem wrg_eq {b e T la xb : Nat} {bf : Nat → Nat} (hx : x = nI xb) (hx1 : xb ≤ 1) (h : FP b e T la bf k i C D J) : r2_hasWrongHeader (k + 15) (i2_takeBasicBit (k + 15) x C D) (m2_takeBasicBit (k + 15) x C D) = wrgJ i b x (basJ i b x J) L ∧ (wrgJ i b x (basJ i b x J) L = false → b + 1 = 19 → numN (fun j => bfS bf b xb (15 + j)) 4 ≤ 4) := by
  have hb := h.b66
  obtain ⟨v0, v6, v3⟩ := tk_vals hx hx1 h
  have bits := basJ_bits (i := i) hx1 h.2.1
  unfold r2_hasWrongHeader wrgJ r2_sampledLength
  rw [v0, v6]
  have E : ∀ m n, m < 2 ^ 31 → n < 2 ^ 31 → m ≠ n → ¬ nI m = nI n := fun m n h1 h2 h3 q => h3 ((nI_eq h1 h2).mp q)
  by_cases g13 : b = 13
  · subst g13
    rw [if_pos (show nI (13 + 1) = 14 from rfl)]
    refine ⟨?_, fun _ q => absurd q (by omega)⟩
    by_cases x1 : x = 1
    · rw [if_pos x1, if_pos (Or.inl ⟨rfl, Or.inl x1⟩)]
    · rw [if_neg x1, if_neg]
      rintro (⟨-, q | ⟨q, -⟩⟩ | ⟨q, -⟩)
      · exact x1 q
      · exact absurd q (by decide)
      · exact q rfl
  · rw [if_neg (show ¬ nI (b + 1) = 14 from E (b + 1) 14 (by omega) (by omega) (by omega))]
    have n13 : ¬ nI b = 13 := E b 13 (by omega) (by omega) g13
    by_cases g18 : b = 18
    · subst g18
      have hlen : r11_sampledLength i (basJ i 18 x J) L = nI (numN (fun j => bfS bf 18 xb (15 + j)) 4) := by
        rw [hx]; exact len_N (by omega) bits
      have hN := numN_lt (f := bfS bf 18 xb) 19 (fun j hj => (bits j (by omega)).1)
      have hN4 := numN_lt (f := fun j => bfS bf 18 xb (15 + j)) 4 (fun j hj => (bits (15 + j) (by omega)).1)
      have e19 := num19 (bfS bf 18 xb)
      rw [v3 rfl, hlen, hd_len (by omega), show numN (bfS bf 18 xb) 19 % 16 = numN (fun j => bfS bf 18 xb (15 + j)) 4 by omega]
      have l4 : nI (numN (fun j => bfS bf 18 xb (15 + j)) 4) ≤ 4 ↔ numN (fun j => bfS bf 18 xb (15 + j)) 4 ≤ 4 := nI_leI (b := 4) (by omega) (by omega)
      by_cases q : numN (fun j => bfS bf 18 xb (15 + j)) 4 ≤ 4
      · rw [if_pos (Or.inr (l4.mpr q)), if_neg]
        · exact ⟨rfl, fun _ _ => q⟩
        · rintro (⟨z, -⟩ | ⟨-, -, z⟩)
          · exact absurd z (by decide)
          · exact z (l4.mpr q)
      · rw [if_neg (fun z => z.elim (fun z => z rfl) (fun z => q (l4.mp z))), if_pos (Or.inr ⟨by decide, rfl, fun z => q (l4.mp z)⟩)]
        exact ⟨rfl, fun z => absurd z (by decide)⟩
    · have n18 : ¬ nI b = 18 := E b 18 (by omega) (by omega) g18
      rw [if_pos (Or.inl (show ¬ nI (b + 1) = 19 from E (b + 1) 19 (by omega) (by omega) (by omega))), if_neg]
      · exact ⟨rfl, fun _ q => absurd q (by omega)⟩
      · rintro (⟨z, -⟩ | ⟨-, z, -⟩)
        · exact n13 z
        · exact n18 z
theorem tk_NB (b : Nat) (h : NB t k i C J) : NB t k i (i2_takeBasicBit (k + 15) x C D) (basJ i b x J) := h.congr (fun a c g => by rw [tk_row (by unfold sC at g; omega)]) (fun s y e g => basJ_off (by unfold sJ at g; omega))
/-- the bit is taken: what follows -/
theorem NR.cnt {b e T la xb : Nat} {bf : Nat → Nat} {s : Int32} (hi : i < 4) (hlk : l < k) (ht : t < 2 ^ 27) (hx : x = nI xb) (hx1 : xb ≤ 1) (hL : LR l C J) (h : NR t k i C D J) (hf : FP b e T la bf k i C D J) (he : e ≠ 5) (hbl : b < bdN b bf + 15) (hown : J 297 (256 * i + 1) = 1 → J 297 (256 * i + b + 160) = x) (hs : s = nI (tkS la xb e)) :
    NR (t + 1) k i (if (¬ (C k 9 = 0)) ∨ (¬ ((r2_hasWrongHeader (k + 15) (i2_takeBasicBit (k + 15) x C D) (m2_takeBasicBit (k + 15) x C D)) = true)) then i2_takeBasicBit (k + 15) x C D else i6_fail k l 4 (i2_takeBasicBit (k + 15) x C D) (m2_takeBasicBit (k + 15) x C D)) (m2_takeBasicBit (k + 15) x C D) (cntJ i b x (nI (b + 1)) s J L) := by
  have hb := h.1
  have hb66 := hf.b66
  have hB := bdN_le hf.1.2.2.2.2.2.2.2
  obtain ⟨w1, w2⟩ := wrg_eq (L := L) hx hx1 hf
  have hNB : NB t k i (i2_takeBasicBit (k + 15) x C D) (basJ i b x J) := tk_NB b h.1
  have tr := tr_eq (L := L) hNB
  rw [show (i2_takeBasicBit (k + 15) x C D) k 9 = C k 9 by rw [tk_row (by omega)]] at tr
  unfold cntJ
  rw [show basG i b x (nI (b + 1)) J = basJ i b x J from rfl, w1]
  by_cases g : (¬ C k 9 = 0) ∨ ¬ (wrgJ i b x (basJ i b x J) L) = true
  · rw [if_pos g, if_pos (g.imp tr.mpr id)]
    have hlen : b + 1 = 19 → numN (fun j => bfS bf b xb (15 + j)) 4 ≤ 4 := fun q => by
      by_cases c : C k 9 = 0
      · have c2 : ¬ (wrgJ i b x (basJ i b x J) L) = true := g.resolve_left (fun z => z c)
        exact w2 (by cases z : wrgJ i b x (basJ i b x J) L; rfl; exact absurd z c2) q
      · have h1 : J 297 (256 * i + 1) = 1 := hb.1.2.resolve_left (fun z => c (hb.1.1.trans z))
        obtain ⟨-, idn, rm, ln, d, q1, q2, q3, q4, q5, q6, q7⟩ := hf.2.2.2.2.2.2.2 h1
        -- the length sampled is the one that is sent
        have bit : ∀ j, j < 19 → bfS bf b xb j = ((2 * idn + rm) * 64 + ln) / 2 ^ (18 - j) % 2 := fun j hj => by
          by_cases ej : j = b
          · subst ej
            rw [bfS_s]
            have e1 := hown h1
            rw [q6 j (by omega)] at e1
            unfold layV at e1
            rw [if_pos (by omega), hdr_bit q1 q2 (by omega) j hj, hx] at e1
            exact ((nI_eq (by omega) (by omega)).mp e1).symm
          · rw [bfS_n ej]
            have e1 := (hf.2.1 j (by omega)).2
            have e0 := (hf.2.1 j (by omega)).1
            rw [q7 j (by omega), q6 j (by omega)] at e1
            unfold layV at e1
            rw [if_pos (by omega), hdr_bit q1 q2 (by omega) j hj] at e1
            exact ((nI_eq (by omega) (by omega)).mp e1).symm
        simp only [numN]
        rw [show 15 + 0 = 15 from rfl, show 15 + 1 = 16 from rfl, show 15 + 2 = 17 from rfl, show 15 + 3 = 18 from rfl, bit 15 (by omega), bit 16 (by omega), bit 17 (by omega), bit 18 (by omega)]
        omega
    have hF := FP.step (L := L) hx hx1 hf he hbl hlen (fun q => (hown q).trans hx)
    rw [hs]
    refine ⟨(hNB.le (by omega)).congr (fun _ _ _ => rfl) (fun s y e g => endJ_off (by unfold sJ at g; omega)), h.2.upd (fun c _ => by rw [tk_row (by omega)]) (fun s y e g => by rw [endJ_off (by omega), basJ_off (by omega)]) (h.2.2.2.2.2.2.2.1.congr (by rw [tk_row (by omega)]) (by rw [tk_row (by omega)]) (fun s y e g => by rw [endJ_off (by omega), basJ_off (by omega)])) ⟨_, _, _, _, _, hF⟩⟩
  · rw [if_neg g, if_neg (fun z => g (z.imp tr.mp id))]
    exact NR.fail hi hlk (by omega) (by omega) ht hNB (hL.congr (tk_row (by omega)) (fun y g1 g2 => basJ_off (by omega)))
end SP
