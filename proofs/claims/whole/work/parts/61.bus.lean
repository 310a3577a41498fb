/-! the whole bus -/
section BU
variable {t k l i B : Nat} {C C' J J' : Nat → Nat → Int32} {D D' L : Nat → Nat → Int64} {x : Int32}
theorem NR.congr (h : NR t k i C D J) (hC : ∀ a b, k ≤ a → a ≤ k + 15 → ¬ (a = k ∧ b = 16) → C' a b = C a b) (h18 : D' k 18 = D k 18) (h2 : D' (k + 15) 2 = D (k + 15) 2) (hJ : ∀ s x, x = 256 * i + s → s < 256 → s ≠ 26 → J' 297 x = J 297 x) : NR t k i C' D' J' := by
  obtain ⟨hb, a1, a2, a3, a4, a5, a6, a7, a8⟩ := h
  have e0 : J' 297 (256 * i) = J 297 (256 * i) := hJ 0 _ rfl (by omega) (by omega)
  have e2 : J' 297 (256 * i + 2) = J 297 (256 * i + 2) := hJ 2 _ rfl (by omega) (by omega)
  have e3 : J' 297 (256 * i + 3) = J 297 (256 * i + 3) := hJ 3 _ rfl (by omega) (by omega)
  refine ⟨hb.congr (fun a b g => hC a b (by unfold sC at g; omega) (by unfold sC at g; omega) (by unfold sC at g; omega)) (fun s x e g => hJ s x e (by unfold sJ at g; omega) (by unfold sJ at g; omega)), ?_, ?_, ?_, ?_, ?_, ?_, a7.congr (hC _ _ (by omega) (by omega) (by omega)) (hC _ _ (by omega) (by omega) (by omega)) (fun s x e g => hJ s x e (by omega) (by omega)), ?_⟩
  · rw [hC k 8 (by omega) (by omega) (by omega), e0]; exact a1
  · rw [hC k 12 (by omega) (by omega) (by omega), e2]; exact a2
  · rw [e0, e2]; exact a3
  · rw [e0, hC k 13 (by omega) (by omega) (by omega), e3]; exact a4
  · rw [e0, hC k 15 (by omega) (by omega) (by omega), e3]; exact a5
  · rw [e0, hC k 14 (by omega) (by omega) (by omega), hJ 18 _ rfl (by omega) (by omega)]; exact a6
  · rw [e0]
    intro g
    obtain ⟨b, e, T, la, bf, hf⟩ := a8 g
    exact ⟨b, e, T, la, bf, hf.congr (fun b => hC _ _ (by omega) (by omega) (by omega)) h2 (hC _ _ (by omega) (by omega) (by omega)) h18 (hJ 1 _ rfl (by omega) (by omega)) (fun s x e g1 g2 => hJ s x e g2 (by omega))⟩
theorem lvl_congr (hC : ∀ a b, k ≤ a → a ≤ k + 15 → ¬ (a = k ∧ b = 16) → C' a b = C a b) (h18 : D' k 18 = D k 18) : r6_levelToDrive k l C' D' = r6_levelToDrive k l C D := by
  have e15 : C' (k + 15) = C (k + 15) := funext fun b => hC _ _ (by omega) (by omega) (by omega)
  unfold r6_levelToDrive r2_nextOfReceiver r2_nextOf r2_isInStuffedPart r2_isStuffBitDue r2_isCrcRight
  rw [e15, h18, hC k 8 (by omega) (by omega) (by omega), hC k 9 (by omega) (by omega) (by omega), hC k 14 (by omega) (by omega) (by omega), hC (k + 3) 3 (by omega) (by omega) (by omega)]
/-- the disturbances -/
def DRl (B : Nat) (C J : Nat → Nat → Int32) : Prop := ∃ d, d ≤ 8 ∧ C (B + 67) 2 = nI d ∧ J 297 1028 = nI d ∧ ∀ j, j < d → C (B + 68) j = J 297 (2 * j + 1030) ∧ C (B + 69) j = J 297 (2 * j + 1029)
/-- a bus of the class beside a row of the reference -/
def BR (t B : Nat) (C : Nat → Nat → Int32) (D : Nat → Nat → Int64) (J : Nat → Nat → Int32) : Prop := C B 4 = nI t ∧ J 297 1024 = nI t ∧ LR (B + 1) C J ∧ (∀ i, i < 4 → NR t (B + 3 + 16 * i) i C D J) ∧ DRl B C J ∧ ∀ j, j < 256 → C (B + 70) j = J 297 (j + 1050)
theorem DRl.congr (h : DRl B C J) (h1 : C' (B + 67) 2 = C (B + 67) 2) (h2 : ∀ j, j < 8 → C' (B + 68) j = C (B + 68) j) (h3 : ∀ j, j < 8 → C' (B + 69) j = C (B + 69) j) (hJ : ∀ x, 1028 ≤ x → x < 1050 → J' 297 x = J 297 x) : DRl B C' J' := by
  obtain ⟨d, d1, d2, d3, d4⟩ := h
  refine ⟨d, d1, h1.trans d2, (hJ _ (by omega) (by omega)).trans d3, fun j hj => ?_⟩
  rw [h2 j (by omega), h3 j (by omega), hJ _ (by omega) (by omega), hJ _ (by omega) (by omega)]
  exact d4 j hj
theorem inv_eq {tt : Int32} (h : DRl B C J) (h1 : J 297 1024 = tt) : r1_nodesAt (B + 67) tt C D = r11_inverted J L := by
  obtain ⟨d, d1, d2, d3, d4⟩ := h
  have key : ∀ n j z, j + n = d → r1_nodesAt_4 (B + 67) tt n j z C D = r11_inverted_4 n j z J L := by
    intro n
    induction n with
    | zero => intro j z _; rfl
    | succ n ih =>
      intro j z hj
      simp only [r1_nodesAt_4, r11_inverted_4]
      obtain ⟨e1, e2⟩ := d4 j (by omega)
      have e1' : C (B + 67 + 1) j = J 297 (2 * j + 1030) := e1
      have e2' : C (B + 67 + 2) j = J 297 (2 * j + 1029) := e2
      rw [e1', e2', h1, ih _ _ (by omega)]
      by_cases g : J 297 (2 * j + 1029) = tt
      · rw [if_pos g, if_pos g]
      · rw [if_neg g, if_neg g, Int32.or_zero]
  unfold r1_nodesAt r11_inverted
  rw [d2, d3, nI_clamp (by omega)]
  exact key d 0 0 (by omega)
theorem ps_off {b : Nat} (h : b < 1028 ∨ 1050 ≤ b) : ∀ n j q (J : Nat → Nat → Int32), j + n ≤ 8 → q ≤ j → (i11_passes_4 n j q J L) 297 b = J 297 b := by
  intro n
  induction n with
  | zero => intro j q J _ _; simp only [i11_passes_4]; exact uI_ne _ _ _ (by omega)
  | succ n ih =>
    intro j q J hj hq
    simp only [i11_passes_4]
    split
    · exact ih _ _ _ (by omega) (by omega)
    · rw [ih _ _ _ (by omega) (by omega), uI_ne _ _ _ (by omega), uI_ne _ _ _ (by omega)]
theorem ps_row {a : Nat} (h : a ≠ 297) : ∀ n j q (J : Nat → Nat → Int32), (i11_passes_4 n j q J L) a = J a := by
  intro n
  induction n with
  | zero => intro j q J; simp only [i11_passes_4]; exact uI_off _ _ _ h
  | succ n ih =>
    intro j q J
    simp only [i11_passes_4]
    rw [ih]
    split
    · rfl
    · rw [uI_off _ _ _ h, uI_off _ _ _ h]
theorem drp_eq {tt : Int32} : ∀ n j q (C J : Nat → Nat → Int32), j + n ≤ 8 → q ≤ j → J 297 1024 = tt → (∀ y, j ≤ y → y < j + n → C (B + 68) y = J 297 (2 * y + 1030) ∧ C (B + 69) y = J 297 (2 * y + 1029)) → (∀ y, y < q → C (B + 68) y = J 297 (2 * y + 1030) ∧ C (B + 69) y = J 297 (2 * y + 1029)) → DRl B (i1_dropBefore_4 (B + 67) tt n j q C D) (i11_passes_4 n j q J L) := by
  intro n
  induction n with
  | zero =>
    intro j q C J h1 h2 h3 h4 h5
    simp only [i1_dropBefore_4, i11_passes_4]
    refine ⟨q, by omega, uI_self _ _ _ _, uI_self _ _ _ _, fun y hy => ?_⟩
    rw [uI_off C _ _ (show B + 68 ≠ B + 67 by omega), uI_off C _ _ (show B + 69 ≠ B + 67 by omega), uI_ne J _ _ (show 2 * y + 1030 ≠ 1028 by omega), uI_ne J _ _ (show 2 * y + 1029 ≠ 1028 by omega)]
    exact h5 y hy
  | succ n ih =>
    intro j q C J h1 h2 h3 h4 h5
    obtain ⟨e1, e2⟩ := h4 j (by omega) (by omega)
    have e2' : C (B + 67 + 2) j = J 297 (2 * j + 1029) := e2
    have e1' : C (B + 67 + 1) j = J 297 (2 * j + 1030) := e1
    simp only [i1_dropBefore_4, i11_passes_4]
    rw [e2', h3]
    by_cases g : J 297 (2 * j + 1029) < tt
    · simp only [if_pos g]
      exact ih _ _ _ _ (by omega) (by omega) h3 (fun y g1 g2 => h4 y (by omega) (by omega)) h5
    · simp only [if_neg g]
      rw [e1']
      refine ih _ _ _ _ (by omega) (by omega) ?_ (fun y g1 g2 => ?_) (fun y hy => ?_)
      · rw [uI_ne _ _ _ (by omega), uI_ne _ _ _ (by omega)]; exact h3
      · have c8 : (uI (uI C (B + 67 + 1) q (J 297 (2 * j + 1030))) (B + 67 + 2) q (J 297 (2 * j + 1029))) (B + 68) y = C (B + 68) y := by rw [uI_off _ _ _ (by omega)]; exact uI_ne _ _ _ (by omega)
        have c9 : (uI (uI C (B + 67 + 1) q (J 297 (2 * j + 1030))) (B + 67 + 2) q (J 297 (2 * j + 1029))) (B + 69) y = C (B + 69) y := by
          rw [show (uI (uI C (B + 67 + 1) q (J 297 (2 * j + 1030))) (B + 67 + 2) q (J 297 (2 * j + 1029))) (B + 69) y = (uI C (B + 67 + 1) q (J 297 (2 * j + 1030))) (B + 69) y from uI_ne _ _ _ (by omega), uI_off _ _ _ (by omega)]
        rw [c8, c9, uI_ne _ _ _ (by omega), uI_ne _ _ _ (by omega), uI_ne _ _ _ (by omega), uI_ne _ _ _ (by omega)]
        exact h4 y (by omega) (by omega)
      · have ej : (uI J 297 (2 * q + 1029) (J 297 (2 * j + 1029))) 297 (2 * j + 1030) = J 297 (2 * j + 1030) := uI_ne _ _ _ (by omega)
        rw [ej]
        by_cases eq : y = q
        · subst eq
          have a8 : (uI (uI C (B + 67 + 1) y (J 297 (2 * j + 1030))) (B + 67 + 2) y (J 297 (2 * j + 1029))) (B + 68) y = J 297 (2 * j + 1030) := by rw [uI_off _ _ _ (show B + 68 ≠ B + 67 + 2 by omega)]; exact uI_self _ _ _ _
          have a9 : (uI (uI C (B + 67 + 1) y (J 297 (2 * j + 1030))) (B + 67 + 2) y (J 297 (2 * j + 1029))) (B + 69) y = J 297 (2 * j + 1029) := uI_self _ _ _ _
          rw [a8, a9, uI_self, uI_ne _ _ _ (show 2 * y + 1029 ≠ 2 * y + 1030 by omega), uI_self]
          exact ⟨rfl, rfl⟩
        · have c8 : (uI (uI C (B + 67 + 1) q (J 297 (2 * j + 1030))) (B + 67 + 2) q (J 297 (2 * j + 1029))) (B + 68) y = C (B + 68) y := by rw [uI_off _ _ _ (by omega)]; exact uI_ne _ _ _ (by omega)
          have c9 : (uI (uI C (B + 67 + 1) q (J 297 (2 * j + 1030))) (B + 67 + 2) q (J 297 (2 * j + 1029))) (B + 69) y = C (B + 69) y := by
            rw [show (uI (uI C (B + 67 + 1) q (J 297 (2 * j + 1030))) (B + 67 + 2) q (J 297 (2 * j + 1029))) (B + 69) y = (uI C (B + 67 + 1) q (J 297 (2 * j + 1030))) (B + 69) y from uI_ne _ _ _ (by omega), uI_off _ _ _ (by omega)]
          rw [c8, c9, uI_ne _ _ _ (by omega), uI_ne _ _ _ (by omega), uI_ne _ _ _ (by omega), uI_ne _ _ _ (by omega)]
          exact h5 y (by omega)
/-- the end of a bit time -/
theorem BR.fin {z : Int32} (ht : t < 2 ^ 27) (h4 : C B 4 = nI t) (h1 : J 297 1024 = nI t) (hL : LR (B + 1) C J) (hN : ∀ i, i < 4 → NR (t + 1) (B + 3 + 16 * i) i C D J) (hD : DRl B C J) (hV : ∀ j, j < 256 → C (B + 70) j = J 297 (j + 1050)) : BR (t + 1) B (i1_dropBefore (B + 67) ((C B 4) + 1) (uI (uI C (B + 70) (((C B 4) &&& 255).toNatClampNeg) z) B 4 ((C B 4) + 1)) D) D (i11_passes (uI (uI J 297 ((((J 297 1024).toNatClampNeg) % 256) + 1050) z) 297 1024 ((J 297 1024) + 1)) L) := by
  have e255 : (nI t &&& 255).toNatClampNeg = t % 256 := by rw [pk_andN (by omega) 8 (by decide), nI_clamp (by omega)]
  rw [h4, h1, e255, nI_clamp (by omega), nI_1]
  obtain ⟨C1, hC1⟩ : ∃ C1, C1 = uI (uI C (B + 70) (t % 256) z) B 4 (nI (t + 1)) := ⟨_, rfl⟩
  obtain ⟨J1, hJ1⟩ : ∃ J1, J1 = uI (uI J 297 (t % 256 + 1050) z) 297 1024 (nI (t + 1)) := ⟨_, rfl⟩
  rw [← hC1, ← hJ1]
  have c1 : ∀ a b, ¬ (a = B + 70) → ¬ (a = B ∧ b = 4) → C1 a b = C a b := fun a b g1 g2 => by rw [hC1, uI_eq, if_neg g2, uI_off _ _ _ g1]
  have j1 : ∀ y, y ≠ 1024 → ¬ (1050 ≤ y ∧ y < 1306) → J1 297 y = J 297 y := fun y g1 g2 => by rw [hJ1, uI_ne _ _ _ g1, uI_ne _ _ _ (by omega)]
  have hD1 : DRl B C1 J1 := hD.congr (c1 _ _ (by omega) (by omega)) (fun j _ => c1 _ _ (by omega) (by omega)) (fun j _ => c1 _ _ (by omega) (by omega)) (fun y g1 g2 => j1 y (by omega) (by omega))
  obtain ⟨d, d1, d2, d3, d4⟩ := id hD1
  have t1 : J1 297 1024 = nI (t + 1) := by rw [hJ1]; exact uI_self _ _ _ _
  have hD2 := drp_eq (B := B) (D := D) (L := L) (tt := nI (t + 1)) d 0 0 C1 J1 (by omega) (by omega) t1 (fun y _ hy => d4 y (by omega)) (fun y hy => absurd hy (by omega))
  unfold i1_dropBefore i11_passes
  rw [d2, d3, nI_clamp (by omega)]
  have c2 : ∀ a, a < B + 67 ∨ B + 69 < a → (i1_dropBefore_4 (B + 67) (nI (t + 1)) d 0 0 C1 D) a = C1 a := fun a g => x1_dropBefore_4 (by omega) (by omega) (by omega) _ _ _ _ _
  have j2 : ∀ y, y < 1028 ∨ 1050 ≤ y → (i11_passes_4 d 0 0 J1 L) 297 y = J1 297 y := fun y g => ps_off g _ _ _ _ (by omega) (by omega)
  refine ⟨?_, ?_, hL.congr ?_ (fun y g1 g2 => ?_), fun i hi => (hN i hi).congr (fun a b g1 g2 g3 => ?_) rfl rfl (fun s y e g1 g2 => ?_), hD2, fun j hj => ?_⟩
  · rw [c2 _ (by omega), hC1, uI_self]
  · rw [j2 _ (by omega), t1]
  · rw [c2 _ (by omega)]; funext b; exact c1 _ _ (by omega) (by omega)
  · rw [j2 _ (by omega), j1 _ (by omega) (by omega)]
  · rw [c2 _ (by omega), c1 _ _ (by omega) (by omega)]
  · rw [j2 _ (by omega), j1 _ (by omega) (by omega)]
  · rw [c2 _ (by omega), j2 _ (by omega)]
    by_cases e : j = t % 256
    · have a1 : C1 (B + 70) j = z := by rw [hC1, uI_off _ _ _ (show B + 70 ≠ B by omega), e, uI_self]
      have a2 : J1 297 (j + 1050) = z := by rw [hJ1, uI_ne _ _ _ (show j + 1050 ≠ 1024 by omega), e, uI_self]
      rw [a1, a2]
    · have a1 : C1 (B + 70) j = C (B + 70) j := by rw [hC1, uI_off _ _ _ (show B + 70 ≠ B by omega), uI_ne _ _ _ e]
      have a2 : J1 297 (j + 1050) = J 297 (j + 1050) := by rw [hJ1, uI_ne _ _ _ (show j + 1050 ≠ 1024 by omega), uI_ne _ _ _ (show j + 1050 ≠ t % 256 + 1050 by omega)]
      rw [a1, a2]; exact hV j hj
/-- the nodes act -/
theorem BR.acts {z y : Int32} (ht : t < 2 ^ 27) (hz : z = 0 ∨ z = 1) : ∀ n i (C : Nat → Nat → Int32) (D : Nat → Nat → Int64) (J : Nat → Nat → Int32), i + n = 4 → C B 4 = nI t → J 297 1024 = nI t → LR (B + 1) C J → (∀ j, j < i → NR (t + 1) (B + 3 + 16 * j) j C D J) → (∀ j, i ≤ j → j < 4 → NR t (B + 3 + 16 * j) j C D J ∧ C (B + 3 + 16 * j) 16 = J 297 (256 * j + 26) ∧ C (B + 3 + 16 * j) 16 = r6_levelToDrive (B + 3 + 16 * j) (B + 1) C D) → DRl B C J → (∀ j, j < 256 → C (B + 70) j = J 297 (j + 1050)) → BR (t + 1) B (i0_passBit_41 B n i z y C D) (m0_passBit_41 B n i z y C D) (i11_bit_52 n i z y J L) := by
  intro n
  induction n with
  | zero =>
    intro i C D J hi h4 h1 hL hN hM hD hV
    simp only [i0_passBit_41, m0_passBit_41, i11_bit_52]
    exact BR.fin ht h4 h1 hL (fun j hj => hN j (by omega)) hD hV
  | succ n ih =>
    intro i C D J hi h4 h1 hL hN hM hD hV
    simp only [i0_passBit_41, m0_passBit_41, i11_bit_52]
    obtain ⟨xb, hx1, hx⟩ : ∃ xb, xb ≤ 1 ∧ z ^^^ ((y >>> ((nI i) &&& 31)) &&& 1) = nI xb := by
      rcases hz with q | q <;> rcases lv_bit y (s := i) (by omega) with w | w <;> rw [q, w]
      · exact ⟨0, by omega, by decide⟩
      · exact ⟨1, by omega, by decide⟩
      · exact ⟨1, by omega, by decide⟩
      · exact ⟨0, by omega, by decide⟩
    obtain ⟨m1, m2, m3⟩ := hM i (Nat.le_refl _) (by omega)
    have act := NR.act (L := L) (l := B + 1) (by omega) (by omega) ht hx hx1 hL m1 m2 (by rw [← m2, m3]; exact drv_eq m1)
    rw [hx] at act ⊢
    have of := oF.acts (x := nI xb) (m1.aOK (L := L))
    have cx : ∀ a, a < B + 3 + 16 * i ∨ B + 3 + 16 * i + 15 < a → (i6_act (B + 3 + 16 * i) (B + 1) (nI xb) C D) a = C a := fun a g => x6_act (by omega) (by omega) (by omega) (by omega) (by omega) (by omega) (by omega) (by omega) (by omega) (by omega) (by omega) (by omega)
    have dx : ∀ a, a < B + 3 + 16 * i ∨ B + 3 + 16 * i + 15 < a → (m6_act (B + 3 + 16 * i) (B + 1) (nI xb) C D) a = D a := fun a g => y6_act (by omega) (by omega)
    refine ih (i + 1) _ _ _ (by omega) ?_ ?_ (hL.congr ?_ (fun y g1 g2 => ?_)) (fun j hj => ?_) (fun j g1 g2 => ?_) (hD.congr ?_ (fun j _ => ?_) (fun j _ => ?_) (fun y g1 g2 => ?_)) (fun j hj => ?_)
    · rw [cx _ (by omega)]; exact h4
    · rw [of.2 _ (by omega)]; exact h1
    · rw [cx _ (by omega)]
    · rw [of.2 _ (by omega)]
    · by_cases e : j = i
      · subst e; exact act
      · exact (hN j (by omega)).congr (fun a b g1 g2 g3 => by rw [cx _ (by omega)]) (by rw [dx _ (by omega)]) (by rw [dx _ (by omega)]) (fun s y e g1 g2 => of.2 _ (by omega))
    · obtain ⟨q1, q2, q3⟩ := hM j (by omega) g2
      refine ⟨q1.congr (fun a b g1 g2 g3 => by rw [cx _ (by omega)]) (by rw [dx _ (by omega)]) (by rw [dx _ (by omega)]) (fun s y e g1 g2 => of.2 _ (by omega)), ?_, ?_⟩
      · rw [cx _ (by omega), of.2 _ (by omega)]; exact q2
      · rw [cx _ (by omega), lvl_congr (C := C) (D := D) (fun a b g1 g2 g3 => by rw [cx _ (by omega)]) (by rw [dx _ (by omega)])]; exact q3
    · rw [cx _ (by omega)]
    · rw [cx _ (by omega)]
    · rw [cx _ (by omega)]
    · rw [of.2 _ (by omega)]
    · rw [cx _ (by omega), of.2 _ (by omega)]; exact hV j hj
theorem and_01 {a b : Int32} (ha : a = 0 ∨ a = 1) (hb : b = 0 ∨ b = 1) : a &&& b = 0 ∨ a &&& b = 1 := by
  rcases ha with q | q <;> rcases hb with w | w <;> rw [q, w] <;> first | exact Or.inl (by decide) | exact Or.inr (by decide)
/-- the nodes drive -/
theorem BR.drv (ht : t < 2 ^ 27) : ∀ n i (z : Int32) (C : Nat → Nat → Int32) (J : Nat → Nat → Int32), i + n = 4 → (z = 0 ∨ z = 1) → BR t B C D J → (∀ j, j < i → C (B + 3 + 16 * j) 16 = J 297 (256 * j + 26) ∧ C (B + 3 + 16 * j) 16 = r6_levelToDrive (B + 3 + 16 * j) (B + 1) C D) → BR (t + 1) B (i0_passBit_4 B n i z C D) (m0_passBit_4 B n i z C D) (i11_bit_4 n i z J L) := by
  intro n
  induction n with
  | zero =>
    intro i z C J hi hz h hv
    obtain ⟨h4, h1, hL, hN, hD, hV⟩ := h
    simp only [i0_passBit_4, m0_passBit_4, i11_bit_4]
    rw [inv_eq (L := L) hD (h1.trans h4.symm)]
    exact BR.acts ht hz 4 0 C D J (by omega) h4 h1 hL (fun j hj => absurd hj (by omega)) (fun j _ hj => ⟨hN j hj, hv j (by omega)⟩) hD hV
  | succ n ih =>
    intro i z C J hi hz h hv
    obtain ⟨h4, h1, hL, hN, hD, hV⟩ := h
    simp only [i0_passBit_4, m0_passBit_4, i11_bit_4]
    have e : r6_levelToDrive (B + 3 + 16 * i) (B + 1) C D = r11_drives i J L := drv_eq (hN i (by omega))
    unfold r6_drive i6_drive
    rw [e]
    obtain ⟨v, hv2⟩ : ∃ v, v = r11_drives i J L := ⟨_, rfl⟩
    rw [← hv2] at e ⊢
    have v01 : v = 0 ∨ v = 1 := by rw [hv2]; exact drv_01 (hN i (by omega))
    have cx : ∀ a b, ¬ (a = B + 3 + 16 * i ∧ b = 16) → (uI C (B + 3 + 16 * i) 16 v) a b = C a b := fun a b g => by rw [uI_eq, if_neg g]
    have jx : ∀ y, y ≠ 256 * i + 26 → (uI J 297 (256 * i + 26) v) 297 y = J 297 y := fun y g => uI_ne _ _ _ g
    refine ih (i + 1) _ _ _ (by omega) (and_01 hz v01) ⟨?_, ?_, hL.congr ?_ (fun y g1 g2 => ?_), fun j hj => ?_, hD.congr ?_ (fun j _ => ?_) (fun j _ => ?_) (fun y g1 g2 => ?_), fun j hj => ?_⟩ (fun j hj => ?_)
    · rw [cx _ _ (by omega)]; exact h4
    · rw [jx _ (by omega)]; exact h1
    · funext b; exact cx _ _ (by omega)
    · exact jx _ (by omega)
    · exact (hN j hj).congr (fun a b g1 g2 g3 => cx _ _ (by omega)) rfl rfl (fun s y e g1 g2 => jx _ (by omega))
    · exact cx _ _ (by omega)
    · exact cx _ _ (by omega)
    · exact cx _ _ (by omega)
    · exact jx _ (by omega)
    · rw [cx _ _ (by omega), jx _ (by omega)]; exact hV j hj
    · rw [lvl_congr (C := C) (D := D) (fun a b g1 g2 g3 => cx _ _ (by omega)) rfl]
      by_cases ej : j = i
      · subst ej
        rw [uI_self, uI_self]
        exact ⟨rfl, e.symm⟩
      · rw [cx _ _ (by omega), jx _ (by omega)]
        exact hv j (by omega)
/-- a bit time passes on both -/
theorem BR.bit (ht : t < 2 ^ 27) (h : BR t B C D J) : BR (t + 1) B (i0_passBit B C D) (m0_passBit B C D) (i11_bit J L) := by
  unfold i0_passBit m0_passBit i11_bit
  exact BR.drv ht 4 0 1 C J (by omega) (Or.inr rfl) h (fun j hj => absurd hj (by omega))
end BU
