/-! the checksum -/
section SUM
variable {t i : Nat} {C J : Nat → Nat → Int32} {D L : Nat → Nat → Int64} {h0 : Int64}
theorem mx (z : Int64) (x : Int32) : r10_mix z x.toInt64 = r11_more z x := rfl
theorem at_in {k c w j : Nat} (h1 : C k 3 = nI w) (hw : w ≤ 6) (hj : j < w) : r3_keyAt k c (nI j) C D = C (k + 1) j ∧ r3_lengthAt k c (nI j) C D = C (k + 2) j ∧ r3_dataAt k c (nI j) C D = C (k + 3) j := by
  have e : r3_has k c (nI j) C D = true := by
    unfold r3_has
    rw [h1, if_neg (c := nI j < 0 ∨ nI w ≤ nI j) (fun q => q.elim (nI_pos (by omega)) (nI_ge hj (by omega)))]
  unfold r3_keyAt r3_lengthAt r3_dataAt
  rw [if_pos e, if_pos e, if_pos e, nI_clamp (by omega)]
  exact ⟨rfl, rfl, rfl⟩
theorem sm_got {k1 c1 : Nat} {h1 : Int64} (hN : NR t (4 + 16 * i) i C D J) {r : Nat} (r1 : r ≤ 6) (r2 : C (4 + 16 * i + 7) 3 = nI r) (r4 : ∀ j, j < r → C (4 + 16 * i + 8) j = (2 : Int32) * J 297 (256 * i + 4 * j + 50) + J 297 (256 * i + 4 * j + 51) ∧ C (4 + 16 * i + 9) j = J 297 (256 * i + 4 * j + 52) ∧ C (4 + 16 * i + 10) j = J 297 (256 * i + 4 * j + 53)) : ∀ n j z, j + n = r → r10_mixFrames_58 k1 c1 (4 + 16 * i + 7) 6 h1 n j z C D = r11_moreOf_236 h0 i n j z J L := by
  intro n
  induction n with
  | zero => intro j z _; rfl
  | succ n ih =>
    intro j z hj
    simp only [r10_mixFrames_58, r11_moreOf_236]
    obtain ⟨e1, e2, e3⟩ := at_in (D := D) (c := 6) (j := j) r2 r1 (by omega)
    obtain ⟨q1, q2, q3⟩ := r4 j (by omega)
    rw [e1, e2, e3, show C (4 + 16 * i + 7 + 1) j = _ from q1, show C (4 + 16 * i + 7 + 2) j = _ from q2, show C (4 + 16 * i + 7 + 3) j = _ from q3, mx, mx, mx]
    exact ih _ _ (by omega)
theorem sm_node (hN : NR t (4 + 16 * i) i C D J) (z : Int64) : r10_mixNode (4 + 16 * i) 2 z C D = r11_moreOf z i J L := by
  obtain ⟨⟨a1, a2, a3, a4, a5, a6, a7, a8, a9⟩, p1, -⟩ := id hN
  obtain ⟨w, w1, w2, w3, w4, -⟩ := a7
  obtain ⟨r, r1, r2, r3, r4⟩ := a8
  obtain ⟨b1, ⟨m, m1, m2, m3⟩, b2, b3, b4, b5, -⟩ := a6
  have fr : ∀ (h1 : Int64) n j y, j + n = w → r10_mixFrames_14 (4 + 16 * i + 3) 4 (4 + 16 * i + 7) 6 h1 n j y C D = r11_moreOf_179 z i n j y J L := by
    intro h1 n
    induction n with
    | zero =>
      intro j y _
      simp only [r10_mixFrames_14, r11_moreOf_179]
      rw [r2, r3, nI_clamp (by omega), mx]
      exact sm_got hN r1 r2 r4 r 0 _ (by omega)
    | succ n ih =>
      intro j y hj
      simp only [r10_mixFrames_14, r11_moreOf_179]
      obtain ⟨e1, -, -⟩ := at_in (D := D) (c := 4) (j := j) w2 (by omega) (by omega)
      obtain ⟨idn, rm, ln, -, -, -, c4, c5, -, c7, -⟩ := w4 j (by omega)
      have ek : r11_keyOf i j J L = C (4 + 16 * i + 4) j := by unfold r11_keyOf; rw [c4, c5, key2]; exact c7.symm
      rw [e1, show C (4 + 16 * i + 3 + 1) j = r11_keyOf i j J L from ek.symm, mx]
      exact ih _ _ (by omega)
  have la : C (4 + 16 * i + 1) 1 = r11_lastOf i J L := by
    unfold r11_lastOf
    rw [m2, m3]
    by_cases g : m = 0
    · subst g; decide
    · rw [if_neg g, if_neg (nI_ne0 (by omega) (by omega))]
  have nd : ∀ n j y, j + n = 6 → 1 ≤ j → r10_mixNode_58 (4 + 16 * i) 2 z n j y C D = r11_moreOf_58 z i n j y J L := by
    intro n
    induction n with
    | zero =>
      intro j y _ _
      simp only [r10_mixNode_58, r11_moreOf_58]
      unfold r10_mixFrames
      rw [w2, w3, nI_clamp (by omega), la, b2, b3, b5, b4, mx, mx, mx, mx, mx, mx]
      exact fr _ w 0 _ (by omega)
    | succ n ih =>
      intro j y hj h1
      simp only [r10_mixNode_58, r11_moreOf_58]
      rw [b1 j h1 (by omega), mx]
      exact ih _ _ (by omega) (by omega)
  unfold r10_mixNode r11_moreOf
  have as : r10_asInt (C (4 + 16 * i) 9) = J 297 (256 * i + 1) := by
    rw [a1.1]
    rcases a1.2 with q | q <;> rw [q] <;> decide
  rw [p1, as, a2.1, a3.1, mx, mx, mx, mx]
  exact nd 5 1 _ (by omega) (by omega)
theorem E_checksum (ht : t < 2 ^ 30) (h : BR t 1 C D J) : r10_checksum C D = r11_checksum J L := by
  have lv : ∀ n j z, j + n = 33 → 1 ≤ j → r10_checksum_44 n j z C D = r11_checksum_37 n j z J L := by
    intro n
    induction n with
    | zero => intro j z _ _; rfl
    | succ n ih =>
      intro j z hj h1
      simp only [r10_checksum_44, r11_checksum_37]
      have e : r0_levelBefore 1 (nI j) C D = r11_level (nI j) J L := by
        rw [lvb_eq ht (by omega) h]
        unfold r11_level
        rw [if_pos (c := r11_in (nI j) 1 256 = true), nI_clamp (n := j) (by omega)]
        exact (by decide : ∀ j, j < 34 → 1 ≤ j → r11_in (nI j) 1 256 = true) j (by omega) h1
      rw [e, mx]
      exact ih _ _ (by omega) (by omega)
  have nd : ∀ n i z, i + n = 4 → r10_checksum_17 n i z C D = r11_checksum_17 n i z J L := by
    intro n
    induction n with
    | zero => intro i z _; exact lv 32 1 z (by omega) (by omega)
    | succ n ih =>
      intro i z hi
      simp only [r10_checksum_17, r11_checksum_17]
      rw [sm_node (L := L) (h.2.2.2.1 i (by omega))]
      exact ih _ _ (by omega)
  unfold r10_checksum r11_checksum
  rw [h.1, h.2.1, mx]
  exact nd 4 0 _ (by omega)
end SUM
