/-! an answer is set -/
section SA
variable {t k i : Nat} {C J C' J' : Nat → Nat → Int32} {D D' L : Nat → Nat → Int64} {nd x : Int32}
theorem cA_ins {s : Nat} {key ln dt : Int32} (hs3 : s ≤ 3) (hs : C (k + 11) 3 = nI s) : cA k (i3_insertAt (k + 11) 4 s key ln dt C D) (s + 1) = cA k C s ++ [(key, ln, dt)] := by
  have c1 := fun j => ins_1 (c := 4) (D := D) (j := j) (k := k + 11) (key := key) (ln := ln) (dt := dt) hs (by omega) (Nat.le_refl s)
  have c2 := fun j => ins_2 (c := 4) (D := D) (j := j) (k := k + 11) (key := key) (ln := ln) (dt := dt) hs (by omega) (Nat.le_refl s)
  have c3 := fun j => ins_3 (c := 4) (D := D) (j := j) (k := k + 11) (key := key) (ln := ln) (dt := dt) hs (by omega) (Nat.le_refl s)
  unfold cA
  rw [List.range_succ, List.map_append]
  congr 1
  · apply List.map_congr_left
    intro j hj
    rw [List.mem_range] at hj
    have d1 := c1 j
    have d2 := c2 j
    have d3 := c3 j
    rw [if_neg (by omega), if_neg (by omega)] at d1 d2 d3
    exact congr (congrArg Prod.mk d1) (congr (congrArg Prod.mk d2) d3)
  · have d1 := c1 s
    have d2 := c2 s
    have d3 := c3 s
    rw [if_pos rfl] at d1 d2 d3
    show [(_, _, _)] = _
    exact congrArg (fun z => [z]) (congr (congrArg Prod.mk d1) (congr (congrArg Prod.mk d2) d3))
theorem K_setAnswer {ln dt : Int32} (h : BR t 1 C D J) : ST t C D J (i10_setAnswer nd x ln dt C D) D (i11_setAnswer nd x ln dt J L) ∧ r10_setAnswer nd x ln dt C D = r11_setAnswer nd x ln dt J L := by
  unfold i10_setAnswer i11_setAnswer r10_setAnswer r11_setAnswer
  rw [← isF_eq]
  show ST t C D J (if r10_isNode nd = true then _ else _) D (if r10_isNode nd = true then _ else _) ∧ (if r10_isNode nd = true then _ else _) = (if r10_isNode nd = true then _ else _)
  by_cases hn : r10_isNode nd = true
  · obtain ⟨i, hi, e, hN⟩ := h.n hn
    rw [if_pos hn, if_pos hn, if_pos hn, if_pos hn, e]
    by_cases hf : r10_isFrame x 0 ln dt = true
    · rw [if_pos hf, if_pos hf, if_pos hf, if_pos hf]
      obtain ⟨idn, l, i1, l1, rfl, rfl, hd⟩ := isF_N hf
      have hd : dOK 0 l dt := hd
      have ek : r10_keyOf (nI idn) 0 = nI (2 * idn) := keyO
      have e2 : (2 : Int32) * nI idn = nI (2 * idn) := pk_mul 2 idn
      rw [ek]
      obtain ⟨a', w1, w2, w3, w4, w5, w6⟩ := hN.1.2.2.2.2.2.2.2.2
      obtain ⟨a, a1, a2, a3, ⟨b1, b2⟩ | ⟨p, q, ln, b1, b2, b3, b4, b5, b6, b7, b8, b9, b10, b11⟩⟩ := ans_look (D := D) (L := L) i1 hN.1.2.2.2.2.2.2.2.2
      · obtain rfl : a' = a := (nI_eq (by omega) (by omega)).mp (w2.symm.trans a2)
        rw [b1, b2, rm_none (by decide), if_neg (show ¬ (0 : Int32) ≤ (-1) by decide), if_neg (show ¬ (0 : Int32) ≤ (-1) by decide), a3, nI_clamp (by omega)]
        by_cases g : a' = 4
        · subst g
          have hfull : r3_isFull (4 + 16 * i + 11) 4 C D = true := by unfold r3_isFull; rw [a2]; decide
          have cn : ¬ ((0 : Int32) ≤ (-1) ∨ ¬ (r3_isFull (4 + 16 * i + 11) 4 C D = true)) := fun z => z.elim (by decide) (fun z => z hfull)
          rw [if_neg cn, if_neg cn, if_pos (show nI 4 = 4 by decide), if_pos (show nI 4 = 4 by decide)]
          exact ⟨ST.rf h, rfl⟩
        · have hfull : ¬ r3_isFull (4 + 16 * i + 11) 4 C D = true := by
            unfold r3_isFull; rw [a2, if_pos (nI_lt (by omega) (by omega))]; decide
          have cn : ((0 : Int32) ≤ (-1) ∨ ¬ (r3_isFull (4 + 16 * i + 11) 4 C D = true)) := Or.inr hfull
          have n4 : ¬ nI a' = 4 := fun z => g ((nI_eq (b := 4) (by omega) (by omega)).mp z)
          rw [if_pos cn, if_pos cn, if_neg n4, if_neg n4, a2, nI_clamp (by omega), nI_1]
          obtain ⟨J1, hJ1⟩ : ∃ J1, J1 = uI (uI (uI (uI J 297 (256 * i + 25) (nI (a' + 1))) 297 (256 * i + 3 * a' + 74) (nI idn)) 297 (256 * i + 3 * a' + 75) (nI l)) 297 (256 * i + 3 * a' + 76) dt := ⟨_, rfl⟩
          rw [← hJ1]
          have jo : ∀ y, y ≠ 256 * i + 25 → y ≠ 256 * i + 3 * a' + 74 → y ≠ 256 * i + 3 * a' + 75 → y ≠ 256 * i + 3 * a' + 76 → J1 297 y = J 297 y := fun y g1 g2 g3 g4 => by rw [hJ1, uI_ne _ _ _ g4, uI_ne _ _ _ g3, uI_ne _ _ _ g2, uI_ne _ _ _ g1]
          have j25 : J1 297 (256 * i + 25) = nI (a' + 1) := by rw [hJ1, uI_ne _ _ _ (by omega), uI_ne _ _ _ (by omega), uI_ne _ _ _ (by omega), uI_self]
          have j74 : J1 297 (256 * i + 3 * a' + 74) = nI idn := by rw [hJ1, uI_ne _ _ _ (by omega), uI_ne _ _ _ (by omega), uI_self]
          have j75 : J1 297 (256 * i + 3 * a' + 75) = nI l := by rw [hJ1, uI_ne _ _ _ (by omega), uI_self]
          have j76 : J1 297 (256 * i + 3 * a' + 76) = dt := by rw [hJ1, uI_self]
          have rR : rA i J1 (a' + 1) = rA i J a' ++ [(nI (2 * idn), nI l, dt)] := by
            unfold rA
            rw [List.range_succ, List.map_append]
            congr 1
            · apply List.map_congr_left
              intro j hj
              rw [List.mem_range] at hj
              rw [jo _ (by omega) (by omega) (by omega) (by omega), jo _ (by omega) (by omega) (by omega) (by omega), jo _ (by omega) (by omega) (by omega) (by omega)]
            · show [(_, _, _)] = _
              rw [j74, j75, j76, e2]
          have s2 : (i3_insertAt (4 + 16 * i + 11) 4 a' (nI (2 * idn)) (nI l) dt C D) (4 + 16 * i + 11) 3 = nI (a' + 1) := by rw [ins_s, a2, nI_1]
          have nf : ∀ j, j < a' → ¬ J 297 (256 * i + 3 * j + 74) = nI idn := by
            unfold r11_answerFor at b2
            rw [a3, nI_clamp (by omega)] at b2
            rcases af_spec (i := i) (J := J) (L := L) (idn := nI idn) a' 0 with ⟨-, q2⟩ | ⟨p, -, p2, p3, -⟩
            · exact fun j hj => q2 j (by omega) (by omega)
            · rw [p3] at b2
              exact absurd b2 ((by decide : ∀ p, p < 4 → ¬ nI p = (-1)) p (by omega))
          refine ⟨h.set hi (hN.setA (fun a b g => ?_) (fun s x e g1 g2 g3 => ?_) ⟨a' + 1, by omega, s2, j25, ?_, fun j hj => ?_, fun j j' hj hj' ee => ?_⟩) (fun a g => x3_insertAt (by omega) (by omega) (by omega) (by omega)) (fun _ _ => rfl) ⟨fun a ha => by rw [hJ1, uI_off _ _ _ ha, uI_off _ _ _ ha, uI_off _ _ _ ha, uI_off _ _ _ ha], fun b hb => jo _ (by omega) (by omega) (by omega) (by omega)⟩, s2⟩
          · rw [x3_insertAt (by omega) (by omega) (by omega) (by omega)]
          · exact jo _ (by omega) (by omega) (by omega) (by omega)
          · rw [cA_ins (by omega) a2, rR]
            exact w4.append_right _
          · by_cases ej : j = a'
            · subst ej; exact ⟨idn, l, i1, l1, j74, j75, by rw [j76]; exact hd⟩
            · rw [jo _ (by omega) (by omega) (by omega) (by omega), jo _ (by omega) (by omega) (by omega) (by omega), jo _ (by omega) (by omega) (by omega) (by omega)]
              exact w5 j (by omega)
          · by_cases ej : j = a'
            · by_cases ej' : j' = a'
              · omega
              · rw [ej, j74, jo (256 * i + 3 * j' + 74) (by omega) (by omega) (by omega) (by omega)] at ee
                exact absurd ee.symm (nf j' (by omega))
            · by_cases ej' : j' = a'
              · rw [ej', j74, jo (256 * i + 3 * j + 74) (by omega) (by omega) (by omega) (by omega)] at ee
                exact absurd ee (nf j (by omega))
              · rw [jo (256 * i + 3 * j + 74) (by omega) (by omega) (by omega) (by omega), jo (256 * i + 3 * j' + 74) (by omega) (by omega) (by omega) (by omega)] at ee
                exact w6 j j' (by omega) (by omega) ee
      · obtain rfl : a' = a := (nI_eq (by omega) (by omega)).mp (w2.symm.trans a2)
        have p0 : (0 : Int32) ≤ nI p := nI_pos' (by omega)
        have q0 : (0 : Int32) ≤ nI q := nI_pos' (by omega)
        rw [b4, b5, if_pos q0, if_pos q0, nI_clamp (n := q) (by omega)]
        have cn : ((0 : Int32) ≤ nI p ∨ ¬ (r3_isFull (4 + 16 * i + 11) 4 C D = true)) := Or.inl p0
        rw [if_pos cn, if_pos cn, a3]
        have s1 : (i3_removeAt (4 + 16 * i + 11) 4 (nI p) C D) (4 + 16 * i + 11) 3 = nI (a' - 1) := rm_s a2 (by omega) b1
        rw [s1, nI_clamp (by omega)]
        obtain ⟨J1, hJ1⟩ : ∃ J1, J1 = uI (uI (uI J 297 (256 * i + 3 * q + 74) (nI idn)) 297 (256 * i + 3 * q + 75) (nI l)) 297 (256 * i + 3 * q + 76) dt := ⟨_, rfl⟩
        rw [← hJ1]
        have jo : ∀ y, y ≠ 256 * i + 3 * q + 74 → y ≠ 256 * i + 3 * q + 75 → y ≠ 256 * i + 3 * q + 76 → J1 297 y = J 297 y := fun y g2 g3 g4 => by rw [hJ1, uI_ne _ _ _ g4, uI_ne _ _ _ g3, uI_ne _ _ _ g2]
        have j74 : J1 297 (256 * i + 3 * q + 74) = nI idn := by rw [hJ1, uI_ne _ _ _ (by omega), uI_ne _ _ _ (by omega), uI_self]
        have j75 : J1 297 (256 * i + 3 * q + 75) = nI l := by rw [hJ1, uI_ne _ _ _ (by omega), uI_self]
        have j76 : J1 297 (256 * i + 3 * q + 76) = dt := by rw [hJ1, uI_self]
        have rR : rA i J1 a' = (List.range a').map (fun j => if j = q then (nI (2 * idn), nI l, dt) else fR i J j) := by
          unfold rA
          apply List.map_congr_left
          intro j hj
          by_cases ej : j = q
          · subst ej; rw [if_pos rfl, j74, j75, j76, e2]
          · rw [if_neg ej, jo _ (by omega) (by omega) (by omega), jo _ (by omega) (by omega) (by omega), jo _ (by omega) (by omega) (by omega)]
            rfl
        have s2 : (i3_insertAt (4 + 16 * i + 11) 4 (a' - 1) (nI (2 * idn)) (nI l) dt (i3_removeAt (4 + 16 * i + 11) 4 (nI p) C D) D) (4 + 16 * i + 11) 3 = nI a' := by rw [ins_s, s1, nI_1, show a' - 1 + 1 = a' by omega]
        have pm : (cA (4 + 16 * i) (i3_insertAt (4 + 16 * i + 11) 4 (a' - 1) (nI (2 * idn)) (nI l) dt (i3_removeAt (4 + 16 * i + 11) 4 (nI p) C D) D) a').Perm (rA i J1 a') := by
          have c1 := cA_ins (D := D) (key := nI (2 * idn)) (ln := nI l) (dt := dt) (show a' - 1 ≤ 3 by omega) s1
          rw [show a' - 1 + 1 = a' by omega, cA_rm w1 a2 b1] at c1
          rw [c1, rR]
          have y1 := L_rm (fA (4 + 16 * i) C) a' p b1
          have y2 := L_rm (fR i J) a' q b2
          have y3 : fA (4 + 16 * i) C p = fR i J q := A_same b6 b7 b8 b9 b10
          rw [y3] at y1
          have y4 := (List.perm_cons _).mp (y1.symm.trans (w4.trans y2))
          exact (List.perm_append_comm.trans (y4.cons _)).trans (L_set (fR i J) _ b2).symm
        refine ⟨h.set hi (hN.setA (fun a b g => ?_) (fun s x e g1 g2 g3 => ?_) ⟨a', w1, s2, ?_, pm, fun j hj => ?_, fun j j' hj hj' ee => ?_⟩) (fun a g => ?_) (fun _ _ => rfl) ⟨fun a ha => by rw [hJ1, uI_off _ _ _ ha, uI_off _ _ _ ha, uI_off _ _ _ ha], fun b hb => jo _ (by omega) (by omega) (by omega)⟩, s2⟩
        · rw [x3_insertAt (by omega) (by omega) (by omega) (by omega), x3_removeAt (by omega) (by omega) (by omega) (by omega)]
        · exact jo _ (by omega) (by omega) (by omega)
        · rw [jo _ (by omega) (by omega) (by omega)]; exact a3
        · by_cases ej : j = q
          · subst ej; exact ⟨idn, l, i1, l1, j74, j75, by rw [j76]; exact hd⟩
          · rw [jo _ (by omega) (by omega) (by omega), jo _ (by omega) (by omega) (by omega), jo _ (by omega) (by omega) (by omega)]
            exact w5 j (by omega)
        · have f74 : ∀ j, J1 297 (256 * i + 3 * j + 74) = J 297 (256 * i + 3 * j + 74) := fun j => by
            by_cases ej : j = q
            · subst ej; rw [j74, b6]
            · exact jo _ (by omega) (by omega) (by omega)
          rw [f74, f74] at ee
          exact w6 j j' hj hj' ee
        · rw [x3_insertAt (by omega) (by omega) (by omega) (by omega), x3_removeAt (by omega) (by omega) (by omega) (by omega)]
    · rw [if_neg hf, if_neg hf, if_neg hf, if_neg hf]; exact ⟨ST.rf h, rfl⟩
  · rw [if_neg hn, if_neg hn, if_neg hn, if_neg hn]; exact ⟨ST.rf h, rfl⟩
end SA
