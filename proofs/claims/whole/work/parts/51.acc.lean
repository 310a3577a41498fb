/-! a frame is accepted -/
section AC
variable {t k l i : Nat} {C J : Nat → Nat → Int32} {D L : Nat → Nat → Int64}
def pS (s : Nat) : Prop := s ≤ 3 ∨ (18 ≤ s ∧ s ≤ 22) ∨ s = 34 ∨ s = 39 ∨ s = 44 ∨ s = 49 ∨ (90 ≤ s ∧ s < 256)
theorem NP.congr {C' J' : Nat → Nat → Int32} (h : NP k i C D J) (hC : ∀ b, b ≠ 11 → b ≠ 10 → b ≠ 16 → b ≠ 6 → b ≠ 7 → C' k b = C k b) (h3 : C' (k + 3) 3 = C (k + 3) 3) (hC2 : ∀ b, C' (k + 15) b = C (k + 15) b) (hJ : ∀ s x, x = 256 * i + s → pS s → J' 297 x = J 297 x) : NP k i C' D J' := by
  obtain ⟨a1, a2, a3, a4, a5, a6, a7, a8⟩ := h
  have e0 : J' 297 (256 * i) = J 297 (256 * i) := hJ 0 _ rfl (by unfold pS; omega)
  have e2 : J' 297 (256 * i + 2) = J 297 (256 * i + 2) := hJ 2 _ rfl (by unfold pS; omega)
  have e3 : J' 297 (256 * i + 3) = J 297 (256 * i + 3) := hJ 3 _ rfl (by unfold pS; omega)
  refine ⟨?_, ?_, ?_, ?_, ?_, ?_, a7.congr (hC 17 (by decide) (by decide) (by decide) (by decide) (by decide)) h3 (fun s x e g => hJ s x e (by unfold pS; omega)), ?_⟩
  · rw [hC 8 (by decide) (by decide) (by decide) (by decide) (by decide), e0]; exact a1
  · rw [hC 12 (by decide) (by decide) (by decide) (by decide) (by decide), e2]; exact a2
  · rw [e0, e2]; exact a3
  · rw [e0, hC 13 (by decide) (by decide) (by decide) (by decide) (by decide), e3]; exact a4
  · rw [e0, hC 15 (by decide) (by decide) (by decide) (by decide) (by decide), e3]; exact a5
  · rw [e0, hC 14 (by decide) (by decide) (by decide) (by decide) (by decide), hJ 18 _ rfl (by unfold pS; omega)]; exact a6
  · rw [e0]
    intro g
    obtain ⟨b, e, T, la, bf, h⟩ := a8 g
    exact ⟨b, e, T, la, bf, h.congr hC2 rfl (hC 17 (by decide) (by decide) (by decide) (by decide) (by decide)) rfl (hJ 1 _ rfl (by unfold pS; omega)) (fun s x e g1 g2 => hJ s x e (by unfold pS; omega))⟩
theorem NB.rc {n : Nat} (hn : n ≤ 255) (h : NB t k i C J) : NB t k i (uI C k 11 (nI n)) (uI J 297 (256 * i + 5) (nI n)) := by
  obtain ⟨a1, a2, a3, a4, a5, a6, a7, a8, a9⟩ := h
  have hC : ∀ a b, ¬ (a = k ∧ b = 11) → (uI C k 11 (nI n)) a b = C a b := fun a b g => by rw [uI_eq, if_neg g]
  have hJ : ∀ s y, y = 256 * i + s → s ≠ 5 → (uI J 297 (256 * i + 5) (nI n)) 297 y = J 297 y := fun s y e g => uI_ne _ _ _ (by omega)
  refine ⟨?_, ?_, ⟨by rw [uI_self, uI_self], n, hn, uI_self _ _ _ _⟩, ?_, ?_, a6.congr (fun b _ => hC _ _ (by omega)) (fun b _ => hC _ _ (by omega)) (fun s y e g1 g2 => hJ s y e (by omega)), a7.congr (hC _ _ (by omega)) (fun b _ => hC _ _ (by omega)) (fun b _ => hC _ _ (by omega)) (fun b _ => hC _ _ (by omega)) (fun s y e g => hJ s y e (by unfold wJ at g; omega)), a8.congr (hC _ _ (by omega)) (fun b _ => hC _ _ (by omega)) (fun b _ => hC _ _ (by omega)) (fun b _ => hC _ _ (by omega)) (fun s y e g => hJ s y e (by omega)), a9.congr (hC _ _ (by omega)) (fun b _ => hC _ _ (by omega)) (fun b _ => hC _ _ (by omega)) (fun b _ => hC _ _ (by omega)) (fun s y e g => hJ s y e (by omega))⟩
  · rw [hC k 9 (by omega), hJ 1 _ rfl (by omega)]; exact a1
  · rw [hC k 10 (by omega), hJ 4 _ rfl (by omega)]; exact a2
  · rw [hC k 6 (by omega), hC k 7 (by omega), hJ 16 _ rfl (by omega), hJ 17 _ rfl (by omega)]; exact a4
  · rw [hC k 14 (by omega), hC k 15 (by omega)]; exact a5
theorem NR.rc {n : Nat} (hn : n ≤ 255) (h : NR t k i C D J) : NR t k i (uI C k 11 (nI n)) D (uI J 297 (256 * i + 5) (nI n)) :=
  ⟨h.1.rc hn, h.2.congr (fun b g _ _ _ _ => uI_ne _ _ _ g) (by rw [uI_off _ _ _ (by omega)]) (fun b => by rw [uI_off _ _ _ (by omega)]) (fun s x e g => uI_ne _ _ _ (by unfold pS at g; omega))⟩
theorem NB.ovr (h : NB t k i C J) : NB t k i (uI C (k + 1) 5 ((C (k + 1) 5) + 1)) (uI J 297 (256 * i + 15) ((J 297 (256 * i + 15)) + 1)) := by
  obtain ⟨a1, a2, a3, a4, a5, a6, a7, a8, a9⟩ := h
  have hC : ∀ a b, ¬ (a = k + 1 ∧ b = 5) → (uI C (k + 1) 5 ((C (k + 1) 5) + 1)) a b = C a b := fun a b g => by rw [uI_eq, if_neg g]
  have hJ : ∀ s y, y = 256 * i + s → s ≠ 15 → (uI J 297 (256 * i + 15) ((J 297 (256 * i + 15)) + 1)) 297 y = J 297 y := fun s y e g => uI_ne _ _ _ (by omega)
  refine ⟨?_, ?_, ?_, ?_, ?_, ?_, a7.congr (hC _ _ (by omega)) (fun b _ => hC _ _ (by omega)) (fun b _ => hC _ _ (by omega)) (fun b _ => hC _ _ (by omega)) (fun s y e g => hJ s y e (by unfold wJ at g; omega)), a8.congr (hC _ _ (by omega)) (fun b _ => hC _ _ (by omega)) (fun b _ => hC _ _ (by omega)) (fun b _ => hC _ _ (by omega)) (fun s y e g => hJ s y e (by omega)), a9.congr (hC _ _ (by omega)) (fun b _ => hC _ _ (by omega)) (fun b _ => hC _ _ (by omega)) (fun b _ => hC _ _ (by omega)) (fun s y e g => hJ s y e (by omega))⟩
  · rw [hC k 9 (by omega), hJ 1 _ rfl (by omega)]; exact a1
  · rw [hC k 10 (by omega), hJ 4 _ rfl (by omega)]; exact a2
  · rw [hC k 11 (by omega), hJ 5 _ rfl (by omega)]; exact a3
  · rw [hC k 6 (by omega), hC k 7 (by omega), hJ 16 _ rfl (by omega), hJ 17 _ rfl (by omega)]; exact a4
  · rw [hC k 14 (by omega), hC k 15 (by omega)]; exact a5
  · obtain ⟨b1, ⟨m, m1, m2, m3⟩, b2, b3, b4, b5, s, s1, s2⟩ := a6
    refine ⟨fun kd g1 g2 => ?_, ⟨m, m1, ?_, ?_⟩, ?_, ?_, ?_, ?_, s, s1, ?_⟩
    · rw [hC _ _ (by omega), hJ (kd + 5) _ (by omega) (by omega)]; exact b1 kd g1 g2
    · rw [hJ 11 _ rfl (by omega)]; exact m2
    · rw [hC _ _ (by omega)]; exact m3
    · rw [hC _ _ (by omega), hJ 12 _ rfl (by omega)]; exact b2
    · rw [hC _ _ (by omega), hJ 13 _ rfl (by omega)]; exact b3
    · rw [uI_self, uI_self, b4]
    · rw [hC _ _ (by omega), hJ 14 _ rfl (by omega)]; exact b5
    · rw [hJ 14 _ rfl (by omega)]; exact s2
theorem NR.ovr (h : NR t k i C D J) : NR t k i (uI C (k + 1) 5 ((C (k + 1) 5) + 1)) D (uI J 297 (256 * i + 15) ((J 297 (256 * i + 15)) + 1)) :=
  ⟨h.1.ovr, h.2.congr (fun b _ _ _ _ _ => by rw [uI_off _ _ _ (by omega)]) (by rw [uI_off _ _ _ (by omega)]) (fun b => by rw [uI_off _ _ _ (by omega)]) (fun s x e g => uI_ne _ _ _ (by unfold pS at g; omega))⟩
/-- a frame is received -/
theorem NR.got {r : Nat} {key ln d idn rm : Int32} (h7 : C (k + 7) 3 = nI r) (hr : r < 6) (hk : key = (2 : Int32) * idn + rm) (h : NR t k i C D J) {J' : Nat → Nat → Int32} (hJ : ∀ s x, x = 256 * i + s → s ≠ 24 → (s < 50 + 4 * r ∨ 54 + 4 * r ≤ s) → J' 297 x = J 297 x) (j24 : J' 297 (256 * i + 24) = nI (r + 1)) (j0 : J' 297 (256 * i + 4 * r + 50) = idn) (j1 : J' 297 (256 * i + 4 * r + 51) = rm) (j2 : J' 297 (256 * i + 4 * r + 52) = ln) (j3 : J' 297 (256 * i + 4 * r + 53) = d) : NR t k i (i3_insertAt (k + 7) 6 r key ln d C D) D J' := by
  obtain ⟨r', r1, r2, r3, r4⟩ := h.1.2.2.2.2.2.2.2.1
  obtain rfl : r' = r := (nI_eq (by omega) (by omega)).mp (r2.symm.trans h7)
  have hC : ∀ a b, a < k + 7 ∨ k + 10 < a → (i3_insertAt (k + 7) 6 r' key ln d C D) a b = C a b := fun a b g => by rw [ins_row (by omega)]
  obtain ⟨a1, a2, a3, a4, a5, a6, a7, a8, a9⟩ := h.1
  refine ⟨⟨?_, ?_, ?_, ?_, ?_, a6.congr (fun b _ => hC _ _ (by omega)) (fun b _ => hC _ _ (by omega)) (fun s x e g1 g2 => hJ s x e (by omega) (by omega)), a7.congr (hC _ _ (by omega)) (fun b _ => hC _ _ (by omega)) (fun b _ => hC _ _ (by omega)) (fun b _ => hC _ _ (by omega)) (fun s x e g => hJ s x e (by unfold wJ at g; omega) (by unfold wJ at g; omega)), ⟨r' + 1, by omega, ?_, j24, fun j hj => ?_⟩, a9.congr (hC _ _ (by omega)) (fun b _ => hC _ _ (by omega)) (fun b _ => hC _ _ (by omega)) (fun b _ => hC _ _ (by omega)) (fun s x e g => hJ s x e (by omega) (by omega))⟩, h.2.congr (fun b _ _ _ _ _ => hC _ _ (by omega)) (hC _ _ (by omega)) (fun b => hC _ _ (by omega)) (fun s x e g => hJ s x e (by unfold pS at g; omega) (by unfold pS at g; omega))⟩
  · rw [hC k 9 (by omega), hJ 1 _ rfl (by omega) (by omega)]; exact a1
  · rw [hC k 10 (by omega), hJ 4 _ rfl (by omega) (by omega)]; exact a2
  · rw [hC k 11 (by omega), hJ 5 _ rfl (by omega) (by omega)]; exact a3
  · rw [hC k 6 (by omega), hC k 7 (by omega), hJ 16 _ rfl (by omega) (by omega), hJ 17 _ rfl (by omega) (by omega)]; exact a4
  · rw [hC k 14 (by omega), hC k 15 (by omega)]; exact a5
  · rw [ins_s, r2, nI_1]
  · have c8 : (i3_insertAt (k + 7) 6 r' key ln d C D) (k + 8) j = if j = r' then key else if r' < j ∧ j ≤ r' then C (k + 8) (j - 1) else C (k + 8) j := ins_1 (k := k + 7) r2 (by omega) (by omega)
    have c9 : (i3_insertAt (k + 7) 6 r' key ln d C D) (k + 9) j = if j = r' then ln else if r' < j ∧ j ≤ r' then C (k + 9) (j - 1) else C (k + 9) j := ins_2 (k := k + 7) r2 (by omega) (by omega)
    have c10 : (i3_insertAt (k + 7) 6 r' key ln d C D) (k + 10) j = if j = r' then d else if r' < j ∧ j ≤ r' then C (k + 10) (j - 1) else C (k + 10) j := ins_3 (k := k + 7) r2 (by omega) (by omega)
    rw [c8, c9, c10]
    by_cases e : j = r'
    · subst e
      rw [if_pos rfl, if_pos rfl, if_pos rfl, j0, j1, j2, j3]
      exact ⟨hk, rfl, rfl⟩
    · rw [if_neg e, if_neg e, if_neg e, if_neg (by omega), if_neg (by omega), if_neg (by omega), hJ (4 * j + 50) _ (by omega) (by omega) (by omega), hJ (4 * j + 51) _ (by omega) (by omega) (by omega), hJ (4 * j + 52) _ (by omega) (by omega) (by omega), hJ (4 * j + 53) _ (by omega) (by omega) (by omega)]
      exact r4 j (by omega)
/-! looking for an answer -/
theorem ix_spec {c : Nat} {key : Int32} : ∀ n q, (r3_indexOf_2 k c key n q C D = (-1) ∧ ∀ j, q ≤ j → j < q + n → ¬ C (k + 1) j = key) ∨ ∃ p, q ≤ p ∧ p < q + n ∧ r3_indexOf_2 k c key n q C D = nI p ∧ C (k + 1) p = key := by
  intro n
  induction n with
  | zero => intro q; exact Or.inl ⟨rfl, fun j g1 g2 => absurd g2 (by omega)⟩
  | succ n ih =>
    intro q
    simp only [r3_indexOf_2]
    by_cases hc : C (k + 1) q = key
    · rw [if_pos hc]; exact Or.inr ⟨q, by omega, by omega, rfl, hc⟩
    · rw [if_neg hc]
      rcases ih (q + 1) with ⟨h1, h2⟩ | ⟨p, h1, h2, h3, h4⟩
      · refine Or.inl ⟨h1, fun j g1 g2 => ?_⟩
        by_cases e : j = q
        · rw [e]; exact hc
        · exact h2 j (by omega) (by omega)
      · exact Or.inr ⟨p, by omega, by omega, h3, h4⟩
theorem af_spec {idn : Int32} : ∀ n q, (r11_answerFor_2 i idn n q J L = (-1) ∧ ∀ j, q ≤ j → j < q + n → ¬ J 297 (256 * i + 3 * j + 74) = idn) ∨ ∃ p, q ≤ p ∧ p < q + n ∧ r11_answerFor_2 i idn n q J L = nI p ∧ J 297 (256 * i + 3 * p + 74) = idn := by
  intro n
  induction n with
  | zero => intro q; exact Or.inl ⟨rfl, fun j g1 g2 => absurd g2 (by omega)⟩
  | succ n ih =>
    intro q
    simp only [r11_answerFor_2]
    by_cases hc : J 297 (256 * i + 3 * q + 74) = idn
    · rw [if_pos hc]; exact Or.inr ⟨q, by omega, by omega, rfl, hc⟩
    · rw [if_neg hc]
      rcases ih (q + 1) with ⟨h1, h2⟩ | ⟨p, h1, h2, h3, h4⟩
      · refine Or.inl ⟨h1, fun j g1 g2 => ?_⟩
        by_cases e : j = q
        · rw [e]; exact hc
        · exact h2 j (by omega) (by omega)
      · exact Or.inr ⟨p, by omega, by omega, h3, h4⟩
theorem dbl {a b : Nat} (ha : a ≤ 2047) (hb : b ≤ 2047) : (2 : Int32) * nI a = nI (2 * b) ↔ a = b := by
  rw [show (2 : Int32) * nI a = nI (2 * a) from pk_mul 2 a, nI_eq (by omega) (by omega)]
  omega
theorem ans_look {idn : Nat} (hid : idn ≤ 2047) (h : AR k i C J) : ∃ a, a ≤ 4 ∧ C (k + 11) 3 = nI a ∧ J 297 (256 * i + 25) = nI a ∧ ((r3_indexOf (k + 11) 4 (nI (2 * idn)) C D = (-1) ∧ r11_answerFor i (nI idn) J L = (-1)) ∨ ∃ p q ln, p < a ∧ q < a ∧ ln ≤ 4 ∧ r3_indexOf (k + 11) 4 (nI (2 * idn)) C D = nI p ∧ r11_answerFor i (nI idn) J L = nI q ∧ J 297 (256 * i + 3 * q + 74) = nI idn ∧ C (k + 12) p = nI (2 * idn) ∧ C (k + 13) p = nI ln ∧ J 297 (256 * i + 3 * q + 75) = nI ln ∧ C (k + 14) p = J 297 (256 * i + 3 * q + 76) ∧ dOK 0 ln (J 297 (256 * i + 3 * q + 76))) := by
  obtain ⟨a, a1, a2, a3, a4, a5, a6⟩ := h
  refine ⟨a, a1, a2, a3, ?_⟩
  have e1 : r3_indexOf (k + 11) 4 (nI (2 * idn)) C D = r3_indexOf_2 (k + 11) 4 (nI (2 * idn)) a 0 C D := by unfold r3_indexOf; rw [a2, nI_clamp (by omega)]
  have e2 : r11_answerFor i (nI idn) J L = r11_answerFor_2 i (nI idn) a 0 J L := by unfold r11_answerFor; rw [a3, nI_clamp (by omega)]
  rw [e1, e2]
  have fwd : ∀ p, p < a → C (k + 12) p = nI (2 * idn) → ∃ q, q < a ∧ J 297 (256 * i + 3 * q + 74) = nI idn ∧ C (k + 13) p = J 297 (256 * i + 3 * q + 75) ∧ C (k + 14) p = J 297 (256 * i + 3 * q + 76) := fun p hp e => by
    have hm : (C (k + 12) p, C (k + 13) p, C (k + 14) p) ∈ cA k C a := List.mem_map.mpr ⟨p, List.mem_range.mpr hp, rfl⟩
    obtain ⟨q, hq, hqe⟩ := List.mem_map.mp (a4.mem_iff.mp hm)
    rw [List.mem_range] at hq
    obtain ⟨id', ln', i1, -, i2, -⟩ := a5 q hq
    have c1 := congrArg Prod.fst hqe
    have c2 := congrArg (fun z => z.2.1) hqe
    have c3 := congrArg (fun z => z.2.2) hqe
    simp only [] at c1 c2 c3
    rw [e, i2] at c1
    have := (dbl i1 hid).mp c1
    exact ⟨q, hq, by rw [i2, this], c2.symm, c3.symm⟩
  have bwd : ∀ q, q < a → J 297 (256 * i + 3 * q + 74) = nI idn → ∃ p, p < a ∧ C (k + 12) p = nI (2 * idn) := fun q hq e => by
    have hm : ((2 : Int32) * J 297 (256 * i + 3 * q + 74), J 297 (256 * i + 3 * q + 75), J 297 (256 * i + 3 * q + 76)) ∈ rA i J a := List.mem_map.mpr ⟨q, List.mem_range.mpr hq, rfl⟩
    obtain ⟨p, hp, hpe⟩ := List.mem_map.mp (a4.mem_iff.mpr hm)
    rw [List.mem_range] at hp
    have c1 := congrArg Prod.fst hpe
    simp only [] at c1
    rw [e, show (2 : Int32) * nI idn = nI (2 * idn) from pk_mul 2 idn] at c1
    exact ⟨p, hp, c1⟩
  rcases ix_spec (k := k + 11) (C := C) (D := D) (c := 4) (key := nI (2 * idn)) a 0 with ⟨h1, h2⟩ | ⟨p, -, h2, h3, h4⟩
  · rcases af_spec (i := i) (J := J) (L := L) (idn := nI idn) a 0 with ⟨g1, g2⟩ | ⟨q, -, g2, g3, g4⟩
    · exact Or.inl ⟨h1, g1⟩
    · obtain ⟨p, hp, e⟩ := bwd q (by omega) g4
      exact absurd e (h2 p (by omega) (by omega))
  · obtain ⟨q, hq, f1, f2, f3⟩ := fwd p (by omega) h4
    rcases af_spec (i := i) (J := J) (L := L) (idn := nI idn) a 0 with ⟨g1, g2⟩ | ⟨q', -, g2, g3, g4⟩
    · exact absurd f1 (g2 q (by omega) (by omega))
    · obtain rfl := a6 q q' hq (by omega) (f1.trans g4.symm)
      obtain ⟨id', ln', -, i1, -, i2, i3⟩ := a5 q hq
      exact Or.inr ⟨p, q, ln', by omega, hq, i1, h3, g3, f1, h4, f2.trans i2, i2, f3, i3⟩
end AC
