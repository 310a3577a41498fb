/-! coming into a phase -/
section EN
variable {t k l i : Nat} {C J : Nat → Nat → Int32} {D L : Nat → Nat → Int64} {x : Int32}
theorem en_off {a b : Nat} (h : ¬ (a = k ∧ (b = 8 ∨ b = 9 ∨ b = 12 ∨ b = 13 ∨ b = 17)) ∧ ¬ (a = k + 1 ∧ b = 3)) : (i6_enter k l x C D) a b = C a b := by
  unfold i6_enter
  (repeat' split) <;> simp only [uI_eq] <;> (repeat rw [if_neg (by omega)])
theorem en_8 : (i6_enter k l x C D) k 8 = x := by
  unfold i6_enter
  (repeat' split) <;> simp [uI_eq]
theorem en_9 : (i6_enter k l x C D) k 9 = if (x < 4) ∨ (¬ (x ≤ 8)) then 0 else C k 9 := by
  unfold i6_enter
  by_cases h : (x < 4) ∨ (¬ (x ≤ 8))
  · simp only [if_pos h]; split <;> simp [uI_eq]
  · simp only [if_neg h]; split <;> simp [uI_eq]
theorem en_12 : (i6_enter k l x C D) k 12 = 0 := by
  unfold i6_enter
  (repeat' split) <;> simp [uI_eq]
theorem en_13 : (i6_enter k l x C D) k 13 = 0 := by
  unfold i6_enter
  (repeat' split) <;> simp [uI_eq]
theorem en_17 : (i6_enter k l x C D) k 17 = (-1) := by
  unfold i6_enter
  (repeat' split) <;> simp [uI_eq]
theorem en_o : (i6_enter k l x C D) (k + 1) 3 = C (k + 1) 3 + bI (if x = 6 then true else false) := by
  unfold i6_enter
  by_cases h : x = 6
  · simp [h, uI_eq, bI]
  · simp only [if_neg h]; split <;> simp [uI_eq, bI]
theorem rl_off {b : Nat} (h : b ≠ 256 * i + 34 ∧ b ≠ 256 * i + 39 ∧ b ≠ 256 * i + 44 ∧ b ≠ 256 * i + 49) : (i11_releases i J L) 297 b = J 297 b := by
  unfold i11_releases
  simp only [uI_eq]
  rw [if_neg (by omega), if_neg (by omega), if_neg (by omega), if_neg (by omega)]
theorem rl_fl {j : Nat} (h : j < 4) : (i11_releases i J L) 297 (256 * i + 5 * j + 34) = 0 := by
  unfold i11_releases
  simp only [uI_eq]
  rcases (show j = 0 ∨ j = 1 ∨ j = 2 ∨ j = 3 by omega) with rfl | rfl | rfl | rfl <;> simp
theorem rl_row {a : Nat} (h : a ≠ 297) : (i11_releases i J L) a = J a := by
  unfold i11_releases
  simp only [uI_off _ _ _ h]
theorem go_row {a : Nat} (h : a ≠ 297) : (i11_goes i x J L) a = J a := by
  unfold i11_goes
  rw [uI_off _ _ _ h]
  (repeat' split) <;> simp only [rl_row h, uI_off _ _ _ h]
theorem go_off {b : Nat} (h : b ≠ 256 * i ∧ b ≠ 256 * i + 1 ∧ b ≠ 256 * i + 2 ∧ b ≠ 256 * i + 3 ∧ b ≠ 256 * i + 13) (h2 : b ≠ 256 * i + 34 ∧ b ≠ 256 * i + 39 ∧ b ≠ 256 * i + 44 ∧ b ≠ 256 * i + 49) : (i11_goes i x J L) 297 b = J 297 b := by
  unfold i11_goes
  rw [uI_ne _ _ _ (by omega)]
  (repeat' split) <;> (try rw [rl_off h2]) <;> simp only [uI_eq] <;> (repeat rw [if_neg (by omega)])
theorem go_0 : (i11_goes i x J L) 297 (256 * i) = x := by
  unfold i11_goes
  rw [uI_ne _ _ _ (by omega)]
  (repeat' split) <;> (try rw [rl_off (by omega)]) <;> simp [uI_eq]
theorem go_1 : (i11_goes i x J L) 297 (256 * i + 1) = if (r11_in x 4 8) = true then J 297 (256 * i + 1) else 0 := by
  unfold i11_goes
  rw [uI_ne _ _ _ (by omega)]
  by_cases h : (r11_in x 4 8) = true
  · simp only [if_pos h]; split <;> (try rw [rl_off (by omega)]) <;> simp [uI_eq]
  · simp only [if_neg h]; split <;> (try rw [rl_off (by omega)]) <;> simp [uI_eq]
theorem go_2 : (i11_goes i x J L) 297 (256 * i + 2) = 0 := by
  unfold i11_goes
  rw [uI_ne _ _ _ (by omega)]
  (repeat' split) <;> (try rw [rl_off (by omega)]) <;> simp [uI_eq]
theorem go_3 : (i11_goes i x J L) 297 (256 * i + 3) = 0 := by
  unfold i11_goes
  rw [uI_ne _ _ _ (by omega)]
  (repeat' split) <;> (try rw [rl_off (by omega)]) <;> simp [uI_eq]
theorem go_13 : (i11_goes i x J L) 297 (256 * i + 13) = J 297 (256 * i + 13) + bI (if x = 6 then true else false) := by
  unfold i11_goes
  rw [uI_self]
theorem go_fl {j : Nat} (hx : x ≠ 4) (h : j < 4) : (i11_goes i x J L) 297 (256 * i + 5 * j + 34) = 0 := by
  unfold i11_goes
  rw [uI_ne _ _ _ (by omega), if_neg hx]
  exact rl_fl h
theorem in48 (x : Int32) : (r11_in x 4 8) = true ↔ ¬ ((x < 4) ∨ (¬ (x ≤ 8))) := by
  unfold r11_in
  have e : (8 < x) ↔ ¬ (x ≤ 8) := ⟨fun h => Int32.not_le.mpr h, fun h => Int32.not_le.mp h⟩
  split
  · rename_i h
    exact ⟨fun q => absurd q (by decide), fun q => absurd (h.imp id e.mp) q⟩
  · rename_i h
    exact ⟨fun _ q => h (q.imp id e.mpr), fun _ => rfl⟩
/-- NB is kept -/
theorem NB.enter (h : NB t k i C J) : NB t k i (i6_enter k l x C D) (i11_goes i x J L) := by
  obtain ⟨⟨a1, a1'⟩, a2, a3, a4, a5, a6, a7, a8, a9⟩ := h
  have hC : ∀ a b, ¬ (a = k ∧ (b = 8 ∨ b = 9 ∨ b = 12 ∨ b = 13 ∨ b = 17)) ∧ ¬ (a = k + 1 ∧ b = 3) → (i6_enter k l x C D) a b = C a b := fun a b g => en_off g
  have hJ : ∀ s y, y = 256 * i + s → (s ≠ 0 ∧ s ≠ 1 ∧ s ≠ 2 ∧ s ≠ 3 ∧ s ≠ 13 ∧ s ≠ 34 ∧ s ≠ 39 ∧ s ≠ 44 ∧ s ≠ 49) → (i11_goes i x J L) 297 y = J 297 y := fun s y e g => go_off (by omega) (by omega)
  refine ⟨⟨?_, ?_⟩, ?_, ?_, ?_, ?_, ?_, a7.congr (hC _ _ (by omega)) (fun b _ => hC _ _ (by omega)) (fun b _ => hC _ _ (by omega)) (fun b _ => hC _ _ (by omega)) (fun s y e g => hJ s y e (by unfold wJ at g; omega)), a8.congr (hC _ _ (by omega)) (fun b _ => hC _ _ (by omega)) (fun b _ => hC _ _ (by omega)) (fun b _ => hC _ _ (by omega)) (fun s y e g => hJ s y e (by omega)), a9.congr (hC _ _ (by omega)) (fun b _ => hC _ _ (by omega)) (fun b _ => hC _ _ (by omega)) (fun b _ => hC _ _ (by omega)) (fun s y e g => hJ s y e (by omega))⟩
  · rw [en_9, go_1]
    by_cases g : (r11_in x 4 8) = true
    · rw [if_pos g, if_neg ((in48 x).mp g)]; exact a1
    · rw [if_neg g, if_pos (Classical.byContradiction fun q => g ((in48 x).mpr q))]
  · rw [go_1]
    split
    · exact a1'
    · exact Or.inl rfl
  · rw [hC k 10 (by omega), hJ 4 _ rfl (by omega)]; exact a2
  · rw [hC k 11 (by omega), hJ 5 _ rfl (by omega)]; exact a3
  · rw [hC k 6 (by omega), hC k 7 (by omega), hJ 16 _ rfl (by omega), hJ 17 _ rfl (by omega)]; exact a4
  · rw [hC k 14 (by omega), hC k 15 (by omega)]; exact a5
  · obtain ⟨b1, ⟨m, m1, m2, m3⟩, b2, b3, b4, b5, s, s1, s2⟩ := a6
    refine ⟨fun kd g1 g2 => ?_, ⟨m, m1, ?_, ?_⟩, ?_, ?_, ?_, ?_, s, s1, ?_⟩
    · rw [hC _ _ (by omega), hJ (kd + 5) _ (by omega) (by omega)]; exact b1 kd g1 g2
    · rw [hJ 11 _ rfl (by omega)]; exact m2
    · rw [hC _ _ (by omega)]; exact m3
    · rw [hC _ _ (by omega), hJ 12 _ rfl (by omega)]; exact b2
    · rw [en_o, go_13, b3]
    · rw [hC _ _ (by omega), hJ 15 _ rfl (by omega)]; exact b4
    · rw [hC _ _ (by omega), hJ 14 _ rfl (by omega)]; exact b5
    · rw [hJ 14 _ rfl (by omega)]; exact s2
theorem cB0 (p : Int32) : cB p 0 := ⟨0, rfl, by omega, fun _ => by omega, fun _ => by omega, fun _ => by omega⟩
/-- a phase that is none of FRAME, FLAG, DELIMITER -/
theorem NP.enter (h4 : x ≠ 4) (h5 : x ≠ 5) (h7 : x ≠ 7) : NP k i (i6_enter k l x C D) D (i11_goes i x J L) := by
  refine ⟨by rw [en_8, go_0], by rw [en_12, go_2], ?_, fun _ => by rw [en_13, go_3], fun g => ?_, fun g => ?_, Or.inl ⟨en_17, fun j hj => go_fl h4 hj⟩, fun g => ?_⟩
  · rw [go_0, go_2]; exact cB0 x
  · rw [go_0] at g; exact absurd g h7
  · rw [go_0] at g; exact absurd g h5
  · rw [go_0] at g; exact absurd g h4
theorem NR.enter (h : NB t k i C J) (h4 : x ≠ 4) (h5 : x ≠ 5) (h7 : x ≠ 7) : NR t k i (i6_enter k l x C D) D (i11_goes i x J L) := ⟨h.enter, NP.enter h4 h5 h7⟩
/-- error-passive -/
theorem pas_eq (h : NB t k i C J) (hl : LR l C J) : r6_isErrorPassive k l C D = r11_isPassiveNow i J L := by
  obtain ⟨p, o, r, -, -, -, -, -, -, e1, e2, -⟩ := hl
  unfold r6_isErrorPassive r11_isPassiveNow
  rw [h.2.1.1, h.2.2.1.1, e1, e2]
theorem tr_eq (h : NB t k i C J) : (r11_isTransmitting i J L) = true ↔ ¬ C k 9 = 0 := by
  unfold r11_isTransmitting
  rw [h.1.1]
  rcases h.1.2 with e | e <;> rw [e] <;> decide
end EN
