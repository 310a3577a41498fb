section AP
variable {t k l i : Nat} {C J : Nat → Nat → Int32} {D L : Nat → Nat → Int64}
theorem uI_id {a b : Nat} : uI C a b (C a b) = C := by
  funext x y
  rw [uI_eq]
  split
  · rename_i h; rw [h.1, h.2]
  · rfl
def accC (k l : Nat) (C : Nat → Nat → Int32) : Nat → Nat → Int32 := (if C k 11 < C l 0 then (if C k 11 ≤ 0 then C else uI C k 11 ((C k 11) - 1)) else uI C k 11 ((C l 0) - 8))
def accJ (i : Nat) (J : Nat → Nat → Int32) : Nat → Nat → Int32 := uI J 297 (256 * i + 5) (if J 297 (256 * i + 5) < J 297 1025 then (if J 297 (256 * i + 5) ≤ 0 then 0 else (J 297 (256 * i + 5)) - 1) else (J 297 1025) - 8)
theorem acc_n (hL : LR l C J) (h : NB t k i C J) : ∃ n, n ≤ 255 ∧ accC k l C = uI C k 11 (nI n) ∧ accJ i J = uI J 297 (256 * i + 5) (nI n) := by
  obtain ⟨p, o, r, p1, p2, -, -, -, -, e1, e2, -⟩ := hL
  obtain ⟨a3, n, n1, n2⟩ := h.2.2.1
  unfold accC accJ
  rw [a3, n2, e1, e2]
  by_cases g : n < p
  · rw [if_pos (nI_lt g (by omega)), if_pos (nI_lt g (by omega))]
    by_cases z : n = 0
    · subst z
      refine ⟨0, by omega, ?_, ?_⟩
      · rw [if_pos (by decide), ← n2, ← a3, uI_id]
      · rw [if_pos (by decide)]; rfl
    · refine ⟨n - 1, by omega, ?_, ?_⟩
      · rw [if_neg (nI_nle (by omega) (by omega)), nI_dec (by omega)]
      · rw [if_neg (nI_nle (by omega) (by omega)), nI_dec (by omega)]
  · rw [if_neg (nI_nlt (by omega) (by omega)), if_neg (nI_nlt (by omega) (by omega))]
    have e : nI p - 8 = nI (p - 8) := pk_sub (b := 8) (by omega)
    exact ⟨p - 8, by omega, by rw [e], by rw [e]⟩
theorem acc_eqC : i6_acceptFrame k l C D = if (((r2_sampledKey (k + 15) (accC k l C) D) >>> (1 &&& 31)) ^^^ (C k 7)) &&& (C k 6) = 0 then (if (if (r2_sampledKey (k + 15) (accC k l C) D) &&& 1 = 1 then r3_indexOf (k + 11) 4 ((r2_sampledKey (k + 15) (accC k l C) D) - 1) (accC k l C) D else (-1)) < 0 then (if (r3_isFull (k + 7) 6 (accC k l C) D) = true then uI (accC k l C) (k + 1) 5 ((C (k + 1) 5) + 1) else i3_insertAt (k + 7) 6 ((C (k + 7) 3).toNatClampNeg) (r2_sampledKey (k + 15) (accC k l C) D) (r2_sampledLength (k + 15) (accC k l C) D) (r2_sampledData (k + 15) (accC k l C) D) (accC k l C) D) else i6_enqueue k l ((r2_sampledKey (k + 15) (accC k l C) D) - 1) (r3_lengthAt (k + 11) 4 (if (r2_sampledKey (k + 15) (accC k l C) D) &&& 1 = 1 then r3_indexOf (k + 11) 4 ((r2_sampledKey (k + 15) (accC k l C) D) - 1) (accC k l C) D else (-1)) (accC k l C) D) (r3_dataAt (k + 11) 4 (if (r2_sampledKey (k + 15) (accC k l C) D) &&& 1 = 1 then r3_indexOf (k + 11) 4 ((r2_sampledKey (k + 15) (accC k l C) D) - 1) (accC k l C) D else (-1)) (accC k l C) D) (accC k l C) D) else accC k l C := rfl
theorem acc_eqJ : i11_accepts i J L = if ((r11_sampled i 1 11 (accJ i J) L) ^^^ (J 297 (256 * i + 17))) &&& (J 297 (256 * i + 16)) = 0 then (if (if J 297 (256 * i + 102) = 1 then r11_answerFor i (r11_sampled i 1 11 (accJ i J) L) (accJ i J) L else (-1)) < 0 then (if nI ((J 297 (256 * i + 24)).toNatClampNeg) = 6 then uI (accJ i J) 297 (256 * i + 15) ((J 297 (256 * i + 15)) + 1) else uI (uI (uI (uI (uI (accJ i J) 297 (256 * i + 4 * ((J 297 (256 * i + 24)).toNatClampNeg) + 50) (r11_sampled i 1 11 (accJ i J) L)) 297 (256 * i + 4 * ((J 297 (256 * i + 24)).toNatClampNeg) + 51) (J 297 (256 * i + 102))) 297 (256 * i + 4 * ((J 297 (256 * i + 24)).toNatClampNeg) + 52) (r11_sampledLength i (uI (uI (accJ i J) 297 (256 * i + 4 * ((J 297 (256 * i + 24)).toNatClampNeg) + 50) (r11_sampled i 1 11 (accJ i J) L)) 297 (256 * i + 4 * ((J 297 (256 * i + 24)).toNatClampNeg) + 51) (J 297 (256 * i + 102))) L)) 297 (256 * i + 4 * ((J 297 (256 * i + 24)).toNatClampNeg) + 53) (if J 297 (256 * i + 102) = 1 then 0 else r11_sampled i 19 (8 * ((r11_sampledLength i J L).toNatClampNeg)) (uI (uI (uI (accJ i J) 297 (256 * i + 4 * ((J 297 (256 * i + 24)).toNatClampNeg) + 50) (r11_sampled i 1 11 (accJ i J) L)) 297 (256 * i + 4 * ((J 297 (256 * i + 24)).toNatClampNeg) + 51) (J 297 (256 * i + 102))) 297 (256 * i + 4 * ((J 297 (256 * i + 24)).toNatClampNeg) + 52) (r11_sampledLength i (uI (uI (accJ i J) 297 (256 * i + 4 * ((J 297 (256 * i + 24)).toNatClampNeg) + 50) (r11_sampled i 1 11 (accJ i J) L)) 297 (256 * i + 4 * ((J 297 (256 * i + 24)).toNatClampNeg) + 51) (J 297 (256 * i + 102))) L)) L)) 297 (256 * i + 24) ((J 297 (256 * i + 24)) + 1)) else (if (r11_isRoom i (accJ i J) L) = true then i11_waits i (r11_sampled i 1 11 (accJ i J) L) 0 (J 297 (256 * i + 3 * (((if J 297 (256 * i + 102) = 1 then r11_answerFor i (r11_sampled i 1 11 (accJ i J) L) (accJ i J) L else (-1))).toNatClampNeg) + 75)) (J 297 (256 * i + 3 * (((if J 297 (256 * i + 102) = 1 then r11_answerFor i (r11_sampled i 1 11 (accJ i J) L) (accJ i J) L else (-1))).toNatClampNeg) + 76)) (accJ i J) L else accJ i J)) else accJ i J := rfl
/-- what was sampled, in both -/
theorem smp_all {b e T la : Nat} {bf : Nat → Nat} (hb : 19 ≤ b) (hB : bdN b bf ≤ b) (h : FP b e T la bf k i C D J) :
    ∃ idn rm ln, idn ≤ 2047 ∧ rm ≤ 1 ∧ ln ≤ 4 ∧ r2_sampledKey (k + 15) C D = nI (2 * idn + rm) ∧ r2_sampledLength (k + 15) C D = nI ln ∧ r2_sampledData (k + 15) C D = nI (numN (fun j => bf (19 + j)) (byN rm ln)) ∧ J 297 (256 * i + 102) = nI rm ∧ (∀ J' : Nat → Nat → Int32, (∀ j, j < b → J' 297 (256 * i + j + 90) = J 297 (256 * i + j + 90)) → r11_sampled i 1 11 J' L = nI idn ∧ r11_sampledLength i J' L = nI ln ∧ (rm = 0 → r11_sampled i 19 (8 * ln) J' L = nI (numN (fun j => bf (19 + j)) (byN rm ln)))) := by
  obtain ⟨⟨c1, c2, c3, c4, c5, c6, c7, c8⟩, a2, a3, a4, a5, a6, a7, a8⟩ := h
  have hb1 : ∀ j, j < 19 → bf j ≤ 1 := fun j hj => (a2 j (by omega)).1
  have h1 := numN_lt 19 hb1
  have h2 := numN_lt (f := fun j => bf (15 + j)) 4 (fun j hj => hb1 (15 + j) (by omega))
  have h3 := hb1 13 (by omega)
  have h4 := hb1 14 (by omega)
  have h5 := hb1 12 (by omega)
  have h6 := num19 bf
  have h7 := num13 bf
  have h8 := numN_add bf 1 11
  have h9 : numN bf 1 = 0 := by simp only [numN]; rw [c7]
  have h10 := numN_lt (f := fun j => bf (1 + j)) 11 (fun j hj => hb1 (1 + j) (by omega))
  rw [h9, show 1 + 11 = 12 from rfl] at h8
  have h11 := c8 hb
  have eB : bdN b bf = 19 + byN (bf 12) (numN (fun j => bf (15 + j)) 4) := by unfold bdN; rw [if_neg (by omega)]
  have hby := byN_le (rm := bf 12) h11
  refine ⟨numN (fun j => bf (1 + j)) 11, bf 12, numN (fun j => bf (15 + j)) 4, by omega, h5, h11, ?_, ?_, ?_, ?_, fun J' hJ => ⟨?_, ?_, fun e0 => ?_⟩⟩
  · unfold r2_sampledKey
    rw [a6.2.2.1, if_neg (by omega), hd_key (by omega)]
    congr 1
    omega
  · unfold r2_sampledLength
    rw [a6.2.2.1, if_neg (by omega), hd_len (by omega)]
    congr 1
    omega
  · unfold r2_sampledData
    rw [a6.1, a6.2.1, show min b (bdN b bf) = bdN b bf by omega, eB, show nI (19 + byN (bf 12) (numN (fun j => bf (15 + j)) 4)) - 19 = nI (byN (bf 12) (numN (fun j => bf (15 + j)) 4)) by
      rw [show (19 : Int32) = nI 19 from rfl, pk_sub (by omega)]; congr 1; omega, show (1 : Int64) = lN 1 from rfl, wb_shl 1 (by omega), Nat.one_mul, lN_sub (Nat.one_le_two_pow)]
    have hlt := numN_lt (f := bf) (19 + byN (bf 12) (numN (fun j => bf (15 + j)) 4)) (fun j hj => (a2 j (by omega)).1)
    rw [wb_mask (Nat.lt_of_lt_of_le hlt (Nat.pow_le_pow_right (by decide) (by omega))) (by omega), lN_i, numN_add, Nat.mul_comm, Nat.mul_add_mod, Nat.mod_eq_of_lt (numN_lt (f := fun j => bf (19 + j)) _ (fun j hj => (a2 (19 + j) (by omega)).1))]
  · exact (a2 12 (by omega)).2
  · exact sampled_N (fun j g1 g2 => ⟨(a2 j (by omega)).1, (hJ j (by omega)).trans (a2 j (by omega)).2⟩)
  · exact len_N hb (fun j hj => ⟨(a2 j hj).1, (hJ j hj).trans (a2 j hj).2⟩)
  · have e1 : byN (bf 12) (numN (fun j => bf (15 + j)) 4) = 8 * numN (fun j => bf (15 + j)) 4 := by unfold byN; rw [e0, if_neg (by decide)]
    rw [e1]
    exact sampled_N (fun j g1 g2 => ⟨(a2 j (by omega)).1, (hJ j (by omega)).trans (a2 j (by omega)).2⟩)
end AP
