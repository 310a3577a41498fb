/-! the reader of requests, letter by letter, beside the reference's request -/
section TXT
variable {t p : Nat} {I I' : Nat → Nat → Int32} {D L : Nat → Nat → Int64} {X : Nat → Int32} {x : Int32}
/-- n letters from p on are taken; between them the reader isn't between requests -/
def rn (D : Nat → Nat → Int64) (X : Nat → Int32) : Nat → Nat → (Nat → Nat → Int32) → (Nat → Nat → Int32) → Prop
  | 0, _, I, I' => I' = I
  | n + 1, p, I, I' => r7_take (X p) I D = true ∧ (n ≠ 0 → ¬ (i7_take (X p) I D) 294 0 = 0) ∧ rn D X n (p + 1) (i7_take (X p) I D) I'
/-- a request is read from here on: as told (then P), or with a fault at q -/
def Gd (D : Nat → Nat → Int64) (X : Nat → Int32) (t : Nat) (I : Nat → Nat → Int32) (p : Nat) (ok : Bool) (q : Nat) (P : (Nat → Nat → Int32) → Prop) : Prop :=
  (ok = true ∧ ∃ I', p < q ∧ q ≤ t ∧ rn D X (q - p) p I I' ∧ I' 294 0 = 0 ∧ P I') ∨ (ok = false ∧ ∃ I', p ≤ q ∧ q ≤ t ∧ rn D X (q - p) p I I' ∧ (¬ (q = p) → ¬ I' 294 0 = 0) ∧ (q = p → I' = I) ∧ (q < t → r7_take (X q) I' D = false))
theorem Gd.step {ok : Bool} {q : Nat} {P : (Nat → Nat → Int32) → Prop} (hp : p < t) (ht : r7_take (X p) I D = true) (hs : ¬ (i7_take (X p) I D) 294 0 = 0) (h : Gd D X t (i7_take (X p) I D) (p + 1) ok q P) : Gd D X t I p ok q P := by
  rcases h with ⟨h1, J, h2, h3, h4, h5, h6⟩ | ⟨h1, J, h2, h3, h4, h5, h6, h7⟩
  · refine Or.inl ⟨h1, J, by omega, h3, ?_, h5, h6⟩
    rw [show q - p = (q - (p + 1)) + 1 by omega]
    exact ⟨ht, fun _ => hs, h4⟩
  · refine Or.inr ⟨h1, J, by omega, h3, ?_, fun _ => ?_, fun z => by omega, h7⟩
    · rw [show q - p = (q - (p + 1)) + 1 by omega]
      exact ⟨ht, fun _ => hs, h4⟩
    · by_cases e : q = p + 1
      · rw [h6 e]; exact hs
      · exact h5 e
theorem Gd.no {P : (Nat → Nat → Int32) → Prop} (hp : p ≤ t) (h : p < t → r7_take (X p) I D = false) : Gd D X t I p false p P := Or.inr ⟨rfl, I, Nat.le_refl _, hp, by rw [Nat.sub_self]; exact rfl, fun z => absurd rfl z, fun _ => rfl, h⟩
theorem Gd.yes {P : (Nat → Nat → Int32) → Prop} (hp : p < t) (h : r7_take (X p) I D = true) (h0 : (i7_take (X p) I D) 294 0 = 0) (hP : P (i7_take (X p) I D)) : Gd D X t I p true (p + 1) P := Or.inl ⟨rfl, _, by omega, hp, by rw [show p + 1 - p = 0 + 1 by omega]; exact ⟨h, fun z => absurd rfl z, rfl⟩, h0, hP⟩
/-- the letters -/
def lt127 (t : Nat) (X : Nat → Int32) : Prop := ∀ j, j < t → ∃ c, c < 128 ∧ X j = nI c
theorem tk_of {y : Int32} (h : r7_stateAfter x I D = y) (hy : ¬ y = (-1)) : r7_take x I D = true ∧ i7_take x I D = uI (i7_keepValue x I D) 294 0 y := by
  unfold r7_take i7_take
  rw [h, if_neg hy, if_neg hy]
  exact ⟨rfl, rfl⟩
theorem tk_no (h : r7_stateAfter x I D = (-1)) : r7_take x I D = false := by
  unfold r7_take
  rw [h, if_pos rfl]
theorem hrI {t : Nat} (h : p < t) : hrN t X p = X p := if_pos h
theorem hrO {t : Nat} (h : ¬ p < t) : hrN t X p = (-1) := if_neg h
/-! letters: facts by trying them all -/
theorem q_hex : ∀ c, c < 128 → r11_hex (nI c) < 0 ∨ (r11_hex (nI c)).toNatClampNeg ≤ 15 ∧ r11_hex (nI c) = nI (r11_hex (nI c)).toNatClampNeg := by decide +kernel
theorem q_nd : ∀ c, c < 128 → (r11_in (nI c - 48) 0 3 = r10_isWithin (nI c) 48 51) ∧ (r10_isWithin (nI c) 48 51 = true → (nI c - 48).toNatClampNeg ≤ 3 ∧ nI c - 48 = nI (nI c - 48).toNatClampNeg) := by decide +kernel
theorem q_rl : ∀ c, c < 128 → (r11_in (nI c - 48) 0 4 = r10_isWithin (nI c) 48 52) ∧ (r10_isWithin (nI c) 48 52 = true → (nI c - 48).toNatClampNeg ≤ 4 ∧ nI c - 48 = nI (nI c - 48).toNatClampNeg) := by decide +kernel
theorem q_i0 : ∀ c, c < 128 → (r10_isWithin (nI c) 48 55 = true ↔ ¬ ((r11_hex (nI c) < 0) ∨ ((nI 0 = 0) ∧ (¬ (r11_hex (nI c) ≤ 7))))) := by decide +kernel
theorem q_h7 : ∀ c, c < 128 → r10_isWithin (nI c) 48 55 = true → (r11_hex (nI c)).toNatClampNeg ≤ 7 := by decide +kernel
theorem q_m1 : r11_hex (-1) < 0 ∧ ¬ (r11_in ((-1) - 48) 0 3 = true) ∧ ¬ (r11_in ((-1) - 48) 0 4 = true) ∧ ¬ ((-1 : Int32) = 58) ∧ ¬ ((-1 : Int32) = 35) ∧ ¬ ((-1 : Int32) = 82) ∧ ¬ ((-1 : Int32) = 59) := by decide +kernel
theorem q_sc : r11_hex 59 < 0 ∧ r11_hex 82 < 0 := by decide
/-- four bits more -/
theorem sh4 {m v : Nat} (hm : m < 2 ^ 20) (hv : v ≤ 15) : (nI m <<< (4 &&& 31)) ||| nI v = nI (16 * m + v) := by
  rw [pk_shlN (4 &&& 31) 4 (by decide) (by omega)]
  apply i32_tn
  rw [Int32.toBitVec_or, BitVec.toNat_or, nI_tn, nI_tn, nI_tn, Nat.mod_eq_of_lt (show m * 2 ^ 4 < 2 ^ 32 by omega), Nat.mod_eq_of_lt (show v < 2 ^ 32 by omega), or_part (show v < 2 ^ 4 by omega), Nat.mod_eq_of_lt (by omega)]
  omega
theorem sh4_lt {d : Int32} {v j : Nat} (hj : j ≤ 7) (hd : d.toBitVec.toNat < 2 ^ (4 * j)) (hv : v ≤ 15) : ((d <<< (4 &&& 31)) ||| nI v).toBitVec.toNat < 2 ^ (4 * (j + 1)) := by
  rw [Int32.toBitVec_or, BitVec.toNat_or, pk_shl _ _ 4 (by decide), nI_tn]
  have e1 : 2 ^ (4 * (j + 1)) = 2 ^ (4 * j) * 16 := by rw [show 4 * (j + 1) = 4 * j + 4 by omega, Nat.pow_add]
  have e2 : 16 ≤ 2 ^ (4 * (j + 1)) := by
    have := Nat.two_pow_pos (4 * j)
    omega
  refine Nat.or_lt_two_pow ?_ ?_
  · exact Nat.lt_of_le_of_lt (Nat.mod_le _ _) (by omega)
  · exact Nat.lt_of_le_of_lt (Nat.mod_le _ _) (by omega)
/-! the states -/
theorem sa0 (hs : I 294 0 = 0) : r7_stateAfter x I D = (if (r10_isWithin x 48 51) = true then 1 else (-1)) := by unfold r7_stateAfter; rw [hs]; rfl
theorem sa1 (hs : I 294 0 = 1) : r7_stateAfter x I D = (if x = 58 then 2 else (-1)) := by unfold r7_stateAfter; rw [hs]; rfl
theorem sa2 (hs : I 294 0 = 2) : r7_stateAfter x I D = (if (r10_isWithin x 48 55) = true then 3 else (-1)) := by unfold r7_stateAfter; rw [hs]; rfl
theorem sa3 (hs : I 294 0 = 3) : r7_stateAfter x I D = (if r11_hex x < 0 then (-1) else 4) := by unfold r7_stateAfter; rw [hs]; rfl
theorem sa4 (hs : I 294 0 = 4) : r7_stateAfter x I D = (if r11_hex x < 0 then (-1) else 5) := by unfold r7_stateAfter; rw [hs]; rfl
theorem sa5 (hs : I 294 0 = 5) : r7_stateAfter x I D = (if x = 35 then 6 else (-1)) := by unfold r7_stateAfter; rw [hs]; rfl
theorem sa15 (hs : I 294 0 = 15) : r7_stateAfter x I D = (if (r10_isWithin x 48 52) = true then 16 else (-1)) := by unfold r7_stateAfter; rw [hs]; rfl
theorem sa16 (hs : I 294 0 = 16) : r7_stateAfter x I D = (if x = 59 then 0 else (-1)) := by unfold r7_stateAfter; rw [hs]; rfl
theorem sad0 {j : Nat} (hj : j ≤ 8) (hs : I 294 0 = nI (6 + j)) : r7_stateAfter x I D = r7_stateAfterData x I D := by
  unfold r7_stateAfter
  rw [hs]
  match j, hj with
  | 0, _ => rfl
  | 1, _ => rfl
  | 2, _ => rfl
  | 3, _ => rfl
  | 4, _ => rfl
  | 5, _ => rfl
  | 6, _ => rfl
  | 7, _ => rfl
  | 8, _ => rfl
  | n + 9, h => omega
theorem sad {j : Nat} (hj : j ≤ 8) (hs : I 294 0 = nI (6 + j)) : r7_stateAfter x I D = (if x = 59 then (if nI j - nI j / 2 * 2 = 0 then 0 else (-1)) else (if x = 82 then (if j = 0 then 15 else (-1)) else (if (r11_hex x < 0) ∨ (8 ≤ j) then (-1) else nI (7 + j)))) := by
  rw [sad0 hj hs]
  unfold r7_stateAfterData
  have e : r7_hexValue x = r11_hex x := rfl
  have e6 : nI (6 + j) - 6 = nI j := by rw [show nI (6 + j) - 6 = nI (6 + j - 6) from nI_sub (b := 6) (by omega), Nat.add_sub_cancel_left]
  rw [e, hs, e6, nI_1, show 6 + j + 1 = 7 + j by omega]
  by_cases g1 : x = 59
  · rw [if_pos g1, if_pos g1]
  · rw [if_neg g1, if_neg g1]
    by_cases g2 : x = 82
    · rw [if_pos g2, if_pos g2]
      by_cases g3 : j = 0
      · subst g3; rfl
      · rw [if_neg g3, if_neg (fun z => g3 (by have := (nI_eq (a := 6 + j) (b := 6) (by omega) (by omega)).mp z; omega))]
    · rw [if_neg g2, if_neg g2]
      by_cases g4 : r11_hex x < 0
      · rw [if_pos (Or.inl g4), if_pos (Or.inl g4)]
      · by_cases g5 : 8 ≤ j
        · rw [if_pos (Or.inr g5), if_pos (c := r11_hex x < 0 ∨ (14 : Int32) ≤ nI (6 + j)) (Or.inr (nI_le (a := 14) (b := 6 + j) (by omega) (by omega)))]
        · rw [if_neg (c := r11_hex x < 0 ∨ (14 : Int32) ≤ nI (6 + j)) (fun z => z.elim g4 (nI_ge (a := 6 + j) (b := 14) (by omega) (by omega))), if_neg (fun z => z.elim g4 g5)]
theorem kv0 (hs : I 294 0 = 0) : i7_keepValue x I D = uI (uI (uI (uI (uI I 294 1 (x - 48)) 294 2 0) 294 3 0) 294 4 0) 294 5 0 := by unfold i7_keepValue; rw [hs]; rfl
theorem kvn (hs : I 294 0 = 1 ∨ I 294 0 = 5 ∨ I 294 0 = 16) : i7_keepValue x I D = I := by
  unfold i7_keepValue
  rcases hs with q | q | q <;> rw [q] <;> rfl
theorem kvi (hs : I 294 0 = 2 ∨ I 294 0 = 3 ∨ I 294 0 = 4) : i7_keepValue x I D = uI I 294 2 (((I 294 2) <<< (4 &&& 31)) ||| (r11_hex x)) := by
  unfold i7_keepValue
  rcases hs with q | q | q <;> rw [q] <;> rfl
theorem kv15 (hs : I 294 0 = 15) : i7_keepValue x I D = uI (uI I 294 3 1) 294 4 (x - 48) := by unfold i7_keepValue; rw [hs]; rfl
theorem kvd {j : Nat} (hj : j ≤ 7) (hs : I 294 0 = nI (6 + j)) : i7_keepValue x I D = (if r11_hex x < 0 then I else uI (uI I 294 5 (((I 294 5) <<< (4 &&& 31)) ||| (r11_hex x))) 294 4 (nI (j + 1) / 2)) := by
  unfold i7_keepValue
  rw [hs]
  have e : r7_hexValue x = r11_hex x := rfl
  rw [e]
  match j, hj with
  | 0, _ => by_cases g : r11_hex x < 0 <;> simp only [g] <;> rfl
  | 1, _ => by_cases g : r11_hex x < 0 <;> simp only [g] <;> rfl
  | 2, _ => by_cases g : r11_hex x < 0 <;> simp only [g] <;> rfl
  | 3, _ => by_cases g : r11_hex x < 0 <;> simp only [g] <;> rfl
  | 4, _ => by_cases g : r11_hex x < 0 <;> simp only [g] <;> rfl
  | 5, _ => by_cases g : r11_hex x < 0 <;> simp only [g] <;> rfl
  | 6, _ => by_cases g : r11_hex x < 0 <;> simp only [g] <;> rfl
  | 7, _ => by_cases g : r11_hex x < 0 <;> simp only [g] <;> rfl
  | n + 8, h => omega
theorem kv8 (hs : I 294 0 = 14) : i7_keepValue x I D = I := by unfold i7_keepValue; rw [hs]; rfl
end TXT
