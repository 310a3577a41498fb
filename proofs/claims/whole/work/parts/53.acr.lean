section AQ
variable {t k l i : Nat} {C J : Nat → Nat → Int32} {D L : Nat → Nat → Int64}
theorem has_t {c p a : Nat} (ha : C k 3 = nI a) (ha9 : a ≤ 8) (hp : p < a) : r3_has k c (nI p) C D = true := by
  unfold r3_has
  rw [ha, if_neg]
  rintro (q | q)
  · exact absurd q (nI_pos (by omega))
  · exact absurd q (nI_ge (by omega) (by omega))
theorem full_iff {c r : Nat} (hr : C k 3 = nI r) (h8 : r ≤ 8) (hc : c ≤ 8) : (r3_isFull k c C D) = true ↔ c ≤ r := by
  unfold r3_isFull
  rw [hr]
  by_cases g : r < c
  · rw [if_pos (nI_lt g (by omega))]; exact ⟨fun q => absurd q (by decide), fun q => absurd g (by omega)⟩
  · rw [if_neg (nI_nlt (by omega) (by omega))]; exact ⟨fun _ => by omega, fun _ => rfl⟩
theorem room_iff {w : Nat} (hw : J 297 (256 * i + 23) = nI w) (h4 : w ≤ 4) : (r11_isRoom i J L) = true ↔ w ≤ 3 := by
  unfold r11_isRoom
  rw [hw]
  by_cases g : w ≤ 3
  · rw [if_neg (show ¬ (4 : Int32) ≤ nI w from nI_ge (b := 4) (by omega) (by omega))]; exact ⟨fun _ => g, fun _ => rfl⟩
  · rw [if_pos (show (4 : Int32) ≤ nI w from nI_le (a := 4) (by omega) (by omega))]; exact ⟨fun q => absurd q (by decide), fun q => absurd q g⟩
theorem NR.acc {b e T la : Nat} {bf : Nat → Nat} (hi : i < 4) (hL : LR l C J) (h : NR t k i C D J) (hb : 19 ≤ b) (hB : bdN b bf ≤ b) (hf : FP b e T la bf k i C D J) : NR t k i (i6_acceptFrame k l C D) D (i11_accepts i J L) := by
  obtain ⟨n, hn, eC, eJ⟩ := acc_n hL h.1
  have h1 : NR t k i (accC k l C) D (accJ i J) := by rw [eC, eJ]; exact h.rc hn
  have hf1 : FP b e T la bf k i (accC k l C) D (accJ i J) := by
    rw [eC, eJ]
    exact hf.congr (fun b => by rw [uI_off _ _ _ (by omega)]) rfl (uI_ne _ _ _ (by decide)) rfl (uI_ne _ _ _ (by omega)) (fun s x e g1 g2 => uI_ne _ _ _ (by omega))
  have hB2 := bdN_le hf.1.2.2.2.2.2.2.2
  have hb66 := hf.1.2.1
  have jo : ∀ x, x ≠ 256 * i + 5 → (accJ i J) 297 x = J 297 x := fun x g => by rw [eJ]; exact uI_ne _ _ _ g
  have co : ∀ a b, ¬ (a = k ∧ b = 11) → (accC k l C) a b = C a b := fun a b g => by rw [eC, uI_eq, if_neg g]
  obtain ⟨idn, rm, ln, q1, q2, q3, k1, k2, k3, k4, k5⟩ := smp_all (L := L) hb hB hf1
  have s1 := (k5 (accJ i J) (fun _ _ => rfl)).1
  rw [jo _ (by omega)] at k4
  rw [acc_eqC, acc_eqJ, k1, s1, h.1.2.2.2.1.1, h.1.2.2.2.1.2, pk_shrN (show 2 * idn + rm < 2 ^ 31 by omega) (1 &&& 31) 1 (by decide), show (2 * idn + rm) / 2 ^ 1 = idn by omega, k4]
  by_cases hm : (nI idn ^^^ J 297 (256 * i + 17)) &&& J 297 (256 * i + 16) = 0
  · rw [if_pos hm, if_pos hm, pk_andN (show 2 * idn + rm < 2 ^ 32 by omega) 1 (by decide), show (2 * idn + rm) % 2 ^ 1 = rm by omega]
    obtain ⟨X, hX⟩ : ∃ X, X = (if nI rm = 1 then r3_indexOf (k + 11) 4 (nI (2 * idn + rm) - 1) (accC k l C) D else (-1)) := ⟨_, rfl⟩
    obtain ⟨Y, hY⟩ : ∃ Y, Y = (if nI rm = 1 then r11_answerFor i (nI idn) (accJ i J) L else (-1)) := ⟨_, rfl⟩
    rw [← hX, ← hY]
    have cas : (X = (-1) ∧ Y = (-1)) ∨ ∃ a p q lq, a ≤ 4 ∧ rm = 1 ∧ p < a ∧ q < a ∧ lq ≤ 4 ∧ (accC k l C) (k + 11) 3 = nI a ∧ X = nI p ∧ Y = nI q ∧ (accC k l C) (k + 13) p = nI lq ∧ (accJ i J) 297 (256 * i + 3 * q + 75) = nI lq ∧ (accC k l C) (k + 14) p = (accJ i J) 297 (256 * i + 3 * q + 76) ∧ dOK 0 lq ((accJ i J) 297 (256 * i + 3 * q + 76)) := by
      rcases (show rm = 0 ∨ rm = 1 by omega) with e0 | e0
      · subst e0
        rw [if_neg (by decide)] at hX hY
        exact Or.inl ⟨hX, hY⟩
      · subst e0
        rw [if_pos (by decide)] at hX hY
        rw [nI_dec (by omega), show 2 * idn + 1 - 1 = 2 * idn by omega] at hX
        obtain ⟨a, a1, a2, a3, a4⟩ := ans_look (D := D) (L := L) q1 h1.1.2.2.2.2.2.2.2.2
        rcases a4 with ⟨g1, g2⟩ | ⟨p, q, lq, g1, g2, g3, g4, g5, -, -, g6, g7, g8, g9⟩
        · exact Or.inl ⟨hX.trans g1, hY.trans g2⟩
        · exact Or.inr ⟨a, p, q, lq, a1, rfl, g1, g2, g3, a2, hX.trans g4, hY.trans g5, g6, g7, g8, g9⟩
    rcases cas with ⟨x1, x2⟩ | ⟨a, p, q, lq, g0, g1, g2, g3, g4, g5, g6, g7, g8, g9, g10, g11⟩
    · rw [x1, x2, if_pos (show ((-1 : Int32)) < 0 by decide), if_pos (show ((-1 : Int32)) < 0 by decide)]
      obtain ⟨r, r1, r2, r3, -⟩ := h1.1.2.2.2.2.2.2.2.1
      have r2' : C (k + 7) 3 = nI r := by rw [← co _ _ (by omega)]; exact r2
      have r3' : J 297 (256 * i + 24) = nI r := by rw [← jo _ (by omega)]; exact r3
      rw [r2', r3', nI_clamp (by omega)]
      by_cases r6 : r = 6
      · rw [if_pos ((full_iff r2 (by omega) (by omega)).mpr (by omega)), if_pos (show nI r = 6 by rw [r6]; rfl)]
        have := h1.ovr
        rw [co _ _ (by omega), jo _ (by omega)] at this
        exact this
      · rw [if_neg (fun g => absurd ((full_iff r2 (by omega) (by omega)).mp g) (by omega)), if_neg (show ¬ nI r = 6 from fun g => r6 ((nI_eq (b := 6) (by omega) (by omega)).mp g))]
        have eln : r11_sampledLength i J L = nI ln := (k5 J (fun j hj => (jo _ (by omega)).symm)).2.1
        rw [k2, k3, eln, nI_clamp (by omega)]
        refine NR.got (idn := nI idn) (rm := nI rm) r2 (by omega) ?_ h1 (fun s x e g1 g2 => ?_) ?_ ?_ ?_ ?_ ?_
        · rw [show (2 : Int32) * nI idn = nI (2 * idn) from pk_mul 2 idn, nI_add]
        · rw [uI_ne _ _ _ (by omega), uI_ne _ _ _ (by omega), uI_ne _ _ _ (by omega), uI_ne _ _ _ (by omega), uI_ne _ _ _ (by omega)]
        · rw [uI_self, nI_1]
        · rw [uI_ne _ _ _ (by omega), uI_ne _ _ _ (by omega), uI_ne _ _ _ (by omega), uI_ne _ _ _ (by omega), uI_self]
        · rw [uI_ne _ _ _ (by omega), uI_ne _ _ _ (by omega), uI_ne _ _ _ (by omega), uI_self]
        · rw [uI_ne _ _ _ (by omega), uI_ne _ _ _ (by omega), uI_self]
          exact (k5 _ (fun j hj => by rw [uI_ne _ _ _ (by omega), uI_ne _ _ _ (by omega)])).2.1
        · rw [uI_ne _ _ _ (by omega), uI_self]
          rcases (show rm = 0 ∨ rm = 1 by omega) with e0 | e0
          · rw [if_neg (show ¬ nI rm = 1 by rw [e0]; decide)]
            exact (k5 _ (fun j hj => by rw [uI_ne _ _ _ (by omega), uI_ne _ _ _ (by omega), uI_ne _ _ _ (by omega)])).2.2 e0
          · rw [if_pos (show nI rm = 1 by rw [e0]; rfl)]
            subst e0
            rfl
    · subst g1
      rw [g6, g7, if_neg (nI_pos (by omega)), if_neg (nI_pos (by omega)), nI_clamp (by omega), nI_dec (by omega), show 2 * idn + 1 - 1 = 2 * idn by omega]
      have e1 : r3_lengthAt (k + 11) 4 (nI p) (accC k l C) D = nI lq := by
        unfold r3_lengthAt
        rw [if_pos (has_t g5 (by omega) g2), nI_clamp (by omega)]
        exact g8
      have e2 : r3_dataAt (k + 11) 4 (nI p) (accC k l C) D = (accJ i J) 297 (256 * i + 3 * q + 76) := by
        unfold r3_dataAt
        rw [if_pos (has_t g5 (by omega) g2), nI_clamp (by omega)]
        exact g10
      rw [jo _ (by omega)] at g9
      rw [e1, e2, g9, ← jo _ (show 256 * i + 3 * q + 76 ≠ 256 * i + 5 by omega)]
      obtain ⟨w, w1, w2, w3, -⟩ := h1.1.2.2.2.2.2.2.1
      by_cases hw : w ≤ 3
      · rw [if_pos ((room_iff w3 w1).mpr hw)]
        have := NR.enq (l := l) (L := L) (idn := idn) (rm := 0) q1 (by omega) g4 g11 w2 hw h1
        exact this
      · rw [if_neg (fun g => hw ((room_iff w3 w1).mp g))]
        have e3 : i6_enqueue k l (nI (2 * idn)) (nI lq) ((accJ i J) 297 (256 * i + 3 * q + 76)) (accC k l C) D = accC k l C := by
          unfold i6_enqueue
          rw [if_pos ((full_iff w2 (by omega) (by omega)).mpr (by omega))]
        rw [e3]
        exact h1
  · rw [if_neg hm, if_neg hm]
    exact h1
end AQ
