section CPB
variable {t k k2 i B B2 : Nat} {C J C' : Nat → Nat → Int32} {D D' L : Nat → Nat → Int64}
theorem upS {α : Type} (f : Nat → α) (k : Nat) (x : α) : va_up f k x k = x := by simp [va_up]
theorem ty_cp (hap : k + 2 ≤ k2 ∨ k2 + 2 ≤ k) : (∀ b, 1 ≤ b → b < 6 → (i8_copyFrom k k2 C D) k b = C k2 b) ∧ ∀ b, b < 6 → (i8_copyFrom k k2 C D) (k + 1) b = C (k2 + 1) b := by
  refine ⟨fun b h1 h2 => ?_, fun b h => ?_⟩
  · unfold i8_copyFrom
    rcases (show b = 1 ∨ b = 2 ∨ b = 3 ∨ b = 4 ∨ b = 5 by omega) with rfl | rfl | rfl | rfl | rfl <;> simp [uI_eq]
  · unfold i8_copyFrom
    rw [uI_off _ _ _ (by omega), uI_off _ _ _ (by omega), uI_off _ _ _ (by omega), uI_off _ _ _ (by omega), uI_off _ _ _ (by omega), upS]
    exact sb_cpy0 h
theorem NR.copy {l l2 : Nat} (hap : k + 16 ≤ k2 ∨ k2 + 16 ≤ k) (h : NR t k2 i C D J) : NR t k i (i6_copyFrom k l k2 l2 C D) (m6_copyFrom k l k2 l2 C D) J := by
  obtain ⟨w, w1, w2, -⟩ := h.1.2.2.2.2.2.2.1
  obtain ⟨r, r1, r2, -⟩ := h.1.2.2.2.2.2.2.2.1
  obtain ⟨a, a1, a2, -⟩ := h.1.2.2.2.2.2.2.2.2
  have ty := ty_cp (k := k + 1) (k2 := k2 + 1) (C := C) (D := D) (by omega)
  obtain ⟨C1, e1⟩ : ∃ C1, C1 = i8_copyFrom (k + 1) (k2 + 1) C D := ⟨_, rfl⟩
  rw [← e1] at ty
  have o1 : ∀ a, a ≠ k + 1 → a ≠ k + 2 → C1 a = C a := fun a g1 g2 => by rw [e1]; exact x8_copyFrom g1 g2
  obtain ⟨C2, e2⟩ : ∃ C2, C2 = i3_copyFrom (k + 3) 4 (k2 + 3) 4 C1 D := ⟨_, rfl⟩
  have o2 : ∀ a, a < k + 3 ∨ k + 6 < a → C2 a = C1 a := fun a g => by rw [e2]; exact x3_copyFrom (by omega) (by omega) (by omega) (by omega)
  have f2 : flS (k + 3) (k2 + 3) C1 C2 := by rw [e2]; exact fc_cp (by omega) (by rw [o1 _ (by omega) (by omega)]; exact w2) w1 (by omega)
  obtain ⟨C3, e3⟩ : ∃ C3, C3 = i3_copyFrom (k + 7) 6 (k2 + 7) 6 C2 D := ⟨_, rfl⟩
  have o3 : ∀ a, a < k + 7 ∨ k + 10 < a → C3 a = C2 a := fun a g => by rw [e3]; exact x3_copyFrom (by omega) (by omega) (by omega) (by omega)
  have f3 : flS (k + 7) (k2 + 7) C2 C3 := by rw [e3]; exact fc_cp (by omega) (by rw [o2 _ (by omega), o1 _ (by omega) (by omega)]; exact r2) r1 (by omega)
  obtain ⟨C4, e4⟩ : ∃ C4, C4 = i3_copyFrom (k + 11) 4 (k2 + 11) 4 C3 D := ⟨_, rfl⟩
  have o4 : ∀ a, a < k + 11 ∨ k + 14 < a → C4 a = C3 a := fun a g => by rw [e4]; exact x3_copyFrom (by omega) (by omega) (by omega) (by omega)
  have f4 : flS (k + 11) (k2 + 11) C3 C4 := by rw [e4]; exact fc_cp (by omega) (by rw [o3 _ (by omega), o2 _ (by omega), o1 _ (by omega) (by omega)]; exact a2) a1 (by omega)
  obtain ⟨C5, e5⟩ : ∃ C5, C5 = i2_copyFrom (k + 15) (k2 + 15) C4 D := ⟨_, rfl⟩
  have o5 : ∀ a, a ≠ k + 15 → C5 a = C4 a := fun a g => by rw [e5]; exact x2_copyFrom g
  have o15 : C4 (k2 + 15) = C (k2 + 15) := by rw [o4 _ (by omega), o3 _ (by omega), o2 _ (by omega), o1 _ (by omega) (by omega)]
  have b5 : ∀ b, b < 9 → b ≠ 2 → C5 (k + 15) b = C (k2 + 15) b := fun b hb hb2 => by
    rw [e5]
    unfold i2_copyFrom
    rw [o15]
    rcases (show b = 0 ∨ b = 1 ∨ b = 3 ∨ b = 4 ∨ b = 5 ∨ b = 6 ∨ b = 7 ∨ b = 8 by omega) with rfl | rfl | rfl | rfl | rfl | rfl | rfl | rfl <;> simp [uI_eq]
  obtain ⟨C6, e6⟩ : ∃ C6, C6 = i6_copyFrom k l k2 l2 C D := ⟨_, rfl⟩
  have e6' : C6 = uI (uI (uI (uI (uI (uI (uI (uI (uI (uI (uI (uI C5 k 6 (C k2 6)) k 7 (C k2 7)) k 8 (C k2 8)) k 9 (C k2 9)) k 10 (C k2 10)) k 11 (C k2 11)) k 12 (C k2 12)) k 13 (C k2 13)) k 14 (C k2 14)) k 15 (C k2 15)) k 16 (C k2 16)) k 17 (C k2 17) := by rw [e6, e5, e4, e3, e2, e1]; rfl
  have o6 : ∀ a, a ≠ k → C6 a = C5 a := fun a g => by rw [e6']; simp only [uI_off _ _ _ g]
  have b6 : ∀ b, 6 ≤ b → b ≤ 17 → C6 k b = C k2 b := fun b hb hb2 => by
    rw [e6']
    rcases (show b = 6 ∨ b = 7 ∨ b = 8 ∨ b = 9 ∨ b = 10 ∨ b = 11 ∨ b = 12 ∨ b = 13 ∨ b = 14 ∨ b = 15 ∨ b = 16 ∨ b = 17 by omega) with rfl | rfl | rfl | rfl | rfl | rfl | rfl | rfl | rfl | rfl | rfl | rfl <;> simp [uI_eq]
  rw [← e6]
  have d6 : m6_copyFrom k l k2 l2 C D = uL (uL D (k + 15) 2 (D (k2 + 15) 2)) k 18 (D k2 18) := rfl
  rw [d6]
  refine h.mv b6 (fun b g1 g2 => ?_) (fun b g1 g2 => ?_) (f2.to (fun o ho => (o1 _ (by omega) (by omega)).symm) (fun o ho => ?_)) (f3.to (fun o ho => ?_) (fun o ho => ?_)) (f4.to (fun o ho => ?_) (fun o ho => ?_)) (fun b g1 g2 => ?_) ?_ ?_
  · rw [o6 _ (by omega), o5 _ (by omega), o4 _ (by omega), o3 _ (by omega), o2 _ (by omega)]; exact ty.1 b g1 g2
  · rw [o6 _ (by omega), o5 _ (by omega), o4 _ (by omega), o3 _ (by omega), o2 _ (by omega)]; exact ty.2 b g2
  · rw [o6 _ (by omega), o5 _ (by omega), o4 _ (by omega), o3 _ (by omega)]
  · rw [o2 _ (by omega), o1 _ (by omega) (by omega)]
  · rw [o6 _ (by omega), o5 _ (by omega), o4 _ (by omega)]
  · rw [o3 _ (by omega), o2 _ (by omega), o1 _ (by omega) (by omega)]
  · rw [o6 _ (by omega), o5 _ (by omega)]
  · rw [o6 _ (by omega)]; exact b5 b g1 g2
  · rw [uL_off _ _ _ (by omega), uL_self]
  · rw [uL_self]
theorem BR.cp13 (hap : B + 71 ≤ B2 ∨ B2 + 71 ≤ B) (h : BR t B2 C D J) : ∀ n i (E : Nat → Nat → Int32) (F : Nat → Nat → Int64), i + n = 4 → (∀ a, B2 ≤ a → a ≤ B2 + 70 → E a = C a ∧ F a = D a) → LR (B + 1) E J → (∀ j, j < i → NR t (B + 3 + 16 * j) j E F J) → BR t B (i0_copyFrom_13 B B2 n i E F) (m0_copyFrom_13 B B2 n i E F) J := by
  intro n
  induction n with
  | zero =>
    intro i E F hi hE hL hN
    simp only [i0_copyFrom_13, m0_copyFrom_13]
    obtain ⟨h4, h1, -, -, ⟨d, d1, d2, d3, d4⟩, hV⟩ := h
    obtain ⟨G, eG⟩ : ∃ G, G = i1_copyFrom (B + 67) (B2 + 67) E F := ⟨_, rfl⟩
    have oG : ∀ a, a < B + 67 ∨ B + 69 < a → G a = E a := fun a g => by rw [eG]; exact x1_copyFrom (by omega) (by omega) (by omega)
    have g2 : G (B + 67) 2 = E (B2 + 67) 2 := by rw [eG]; unfold i1_copyFrom; rw [uI_self]
    have g68 : ∀ j, j < 8 → G (B + 68) j = E (B2 + 68) j := fun j hj => by
      rw [eG]; unfold i1_copyFrom
      rw [uI_off _ _ _ (by omega), va_up_ne _ _ (show B + 68 ≠ B + 67 + 2 by omega), show B + 68 = B + 67 + 1 by omega, upS]
      exact sb_cpy0 hj
    have g69 : ∀ j, j < 8 → G (B + 69) j = E (B2 + 69) j := fun j hj => by
      rw [eG]; unfold i1_copyFrom
      rw [uI_off _ _ _ (by omega), show B + 69 = B + 67 + 2 by omega, upS, sb_cpy0 hj, va_up_ne _ _ (show B2 + 67 + 2 ≠ B + 67 + 1 by omega)]
    rw [← eG]
    obtain ⟨K, eK⟩ : ∃ K, K = uI (va_up G (B + 70) (va_cpy (G (B2 + 70)) (G (B + 70)) 0 0 256)) B 4 (E B2 4) := ⟨_, rfl⟩
    rw [← eK]
    have oK : ∀ a, a ≠ B → a ≠ B + 70 → K a = G a := fun a g1 g2 => by rw [eK, uI_off _ _ _ g1, va_up_ne _ _ g2]
    refine ⟨?_, h1, hL.congr (by rw [oK _ (by omega) (by omega), oG _ (by omega)]) (fun _ _ _ => rfl), fun j hj => (hN j (by omega)).congr (fun a b _ _ _ => by rw [oK _ (by omega) (by omega), oG _ (by omega)]) rfl rfl (fun _ _ _ _ _ => rfl), ⟨d, d1, ?_, d3, fun j hj => ?_⟩, fun j hj => ?_⟩
    · rw [eK, uI_self, (hE B2 (by omega) (by omega)).1]; exact h4
    · rw [oK _ (by omega) (by omega), g2, (hE _ (by omega) (by omega)).1]; exact d2
    · rw [oK _ (by omega) (by omega), oK _ (by omega) (by omega), g68 j (by omega), g69 j (by omega), (hE _ (by omega) (by omega)).1, (hE _ (by omega) (by omega)).1]; exact d4 j hj
    · rw [eK, uI_off _ _ _ (by omega), upS, sb_cpy0 hj, oG _ (by omega), (hE _ (by omega) (by omega)).1]; exact hV j hj
  | succ n ih =>
    intro i E F hi hE hL hN
    simp only [i0_copyFrom_13, m0_copyFrom_13]
    have cx : ∀ a, a < B + 3 + 16 * i ∨ B + 3 + 16 * i + 15 < a → (i6_copyFrom (B + 3 + 16 * i) (B + 1) (B2 + 3 + 16 * i) (B2 + 1) E F) a = E a := fun a g => x6_copyFrom (by omega) (by omega) (by omega) (by omega) (by omega) (by omega) (by omega) (by omega) (by omega) (by omega) (by omega) (by omega) (by omega) (by omega) (by omega) (by omega)
    have dx : ∀ a, a < B + 3 + 16 * i ∨ B + 3 + 16 * i + 15 < a → (m6_copyFrom (B + 3 + 16 * i) (B + 1) (B2 + 3 + 16 * i) (B2 + 1) E F) a = F a := fun a g => y6_copyFrom (by omega) (by omega)
    have src : NR t (B2 + 3 + 16 * i) i E F J := (h.2.2.2.1 i (by omega)).congr (fun a b g1 g2 _ => by rw [(hE a (by omega) (by omega)).1]) (by rw [(hE _ (by omega) (by omega)).2]) (by rw [(hE _ (by omega) (by omega)).2]) (fun _ _ _ _ _ => rfl)
    refine ih (i + 1) _ _ (by omega) (fun a g1 g2 => ?_) (hL.congr (cx _ (by omega)) (fun _ _ _ => rfl)) (fun j hj => ?_)
    · rw [cx _ (by omega), dx _ (by omega)]; exact hE a g1 g2
    · by_cases e : j = i
      · subst e; exact src.copy (by omega)
      · exact (hN j (by omega)).congr (fun a b _ _ _ => by rw [cx _ (by omega)]) (by rw [dx _ (by omega)]) (by rw [dx _ (by omega)]) (fun _ _ _ _ _ => rfl)
/-- a copy of a bus is beside the same row -/
theorem BR.copy (hap : B + 71 ≤ B2 ∨ B2 + 71 ≤ B) (h : BR t B2 C D J) : BR t B (i0_copyFrom B B2 C D) (m0_copyFrom B B2 C D) J := by
  unfold i0_copyFrom m0_copyFrom
  have o4 : ∀ a, a ≠ B + 1 → (i4_copyFrom (B + 1) (B2 + 1) C D) a = C a := fun a g => x4_copyFrom g
  refine BR.cp13 hap h 4 0 _ _ (by omega) (fun a g1 g2 => ⟨o4 a (by omega), rfl⟩) ?_ (fun j hj => absurd hj (by omega))
  obtain ⟨p, o, r, l1, l2, l3, l4, l5, l6, l7, l8, l9, l10, l11, l12⟩ := h.2.2.1
  refine ⟨p, o, r, l1, l2, l3, l4, l5, l6, ?_, l8, ?_, l10, ?_, l12⟩ <;> unfold i4_copyFrom <;> simp [uI_eq]
  · exact l7
  · exact l9
  · exact l11
end CPB
