/-! a waiting frame goes -/
section RM
variable {t k l i : Nat} {C J : Nat → Nat → Int32} {D L : Nat → Nat → Int64}
theorem WR.rmv {p w : Nat} (h3 : C (k + 3) 3 = nI w) (hw4 : w ≤ 4) (hp : p < w) (h : WR k i C J) : WR k i (i3_removeAt (k + 3) 4 (nI p) C D) (i11_unwaits i p J L) := by
  obtain ⟨w', w1, w2, w3, w4, w5, w6⟩ := h
  obtain rfl : w' = w := (nI_eq (by omega) (by omega)).mp (w2.symm.trans h3)
  have c4 : ∀ j, (i3_removeAt (k + 3) 4 (nI p) C D) (k + 4) j = if p ≤ j ∧ j < w' - 1 then C (k + 4) (j + 1) else C (k + 4) j := fun j => rm_1 (k := k + 3) w2 (by omega) hp
  have c5 : ∀ j, (i3_removeAt (k + 3) 4 (nI p) C D) (k + 5) j = if p ≤ j ∧ j < w' - 1 then C (k + 5) (j + 1) else C (k + 5) j := fun j => rm_2 (k := k + 3) w2 (by omega) hp
  have c6 : ∀ j, (i3_removeAt (k + 3) 4 (nI p) C D) (k + 6) j = if p ≤ j ∧ j < w' - 1 then C (k + 6) (j + 1) else C (k + 6) j := fun j => rm_3 (k := k + 3) w2 (by omega) hp
  have tr : ∀ j q, j < 4 → q < 4 → (i11_unwaits i p J L) 297 (256 * i + 5 * j + q + 30) = J 297 (256 * i + 5 * (if p ≤ j ∧ j < 3 then j + 1 else j) + q + 30) := fun j q hj hq => by
    have := un_get (L := L) (s := 5 * j + q + 30) (p := p) (by omega) w3 w1 (by omega) (by omega) (by omega)
    rw [show 256 * i + 5 * j + q + 30 = 256 * i + (5 * j + q + 30) by omega, this]
    by_cases g : p ≤ j ∧ j < 3
    · rw [if_pos g, if_pos (by omega)]; congr 1 <;> omega
    · rw [if_neg g, if_neg (by omega)]; congr 1 <;> omega
  refine ⟨w' - 1, by omega, rm_size w2 hp (by omega), unw_23 w3 (by omega), fun j hj => ?_, fun j hj => ?_, fun j hj => ?_⟩
  · obtain ⟨f1, f2, f3, a1, a2, a3, a4, a5, a6, a7, a8, a9, a10⟩ := w4 (if p ≤ j ∧ j < 3 then j + 1 else j) (by split <;> omega)
    have e9 : (i11_unwaits i p J L) 297 (256 * i + 5 * j + 33) = J 297 (256 * i + 5 * (if p ≤ j ∧ j < 3 then j + 1 else j) + 33) := tr j 3 (by omega) (by omega)
    refine ⟨f1, f2, f3, a1, a2, a3, (tr j 0 (by omega) (by omega)).trans a4, (tr j 1 (by omega) (by omega)).trans a5, (tr j 2 (by omega) (by omega)).trans a6, ?_, ?_, ?_, ?_⟩
    · rw [c4, ← a7]
      by_cases g : p ≤ j
      · rw [if_pos ⟨g, hj⟩, if_pos ⟨g, by omega⟩]
      · rw [if_neg (by omega), if_neg (by omega)]
    · rw [c5, ← a8]
      by_cases g : p ≤ j
      · rw [if_pos ⟨g, hj⟩, if_pos ⟨g, by omega⟩]
      · rw [if_neg (by omega), if_neg (by omega)]
    · rw [c6, e9, ← a9]
      by_cases g : p ≤ j
      · rw [if_pos ⟨g, hj⟩, if_pos ⟨g, by omega⟩]
      · rw [if_neg (by omega), if_neg (by omega)]
    · rw [e9]; exact a10
  · rw [c4, c4]
    by_cases g : p ≤ j
    · rw [if_pos (by omega), if_pos (by omega)]; exact w5 (j + 1) (by omega)
    · by_cases g2 : p ≤ j + 1
      · rw [if_neg (by omega), if_pos (by omega)]; exact i32_tr (w5 j (by omega)) (w5 (j + 1) (by omega))
      · rw [if_neg (by omega), if_neg (by omega)]; exact w5 j (by omega)
  · obtain ⟨q, q1, q2⟩ := w6 (if p ≤ j ∧ j < 3 then j + 1 else j) (by split <;> omega)
    exact ⟨q, q1, (tr j 2 hj (by omega)).trans q2⟩
theorem un_jo {p w : Nat} (hp : p ≤ 3) (hw : J 297 (256 * i + 23) = nI w) (hw4 : w ≤ 4) (h28 : ∀ s, s = 28 ∨ s = 29 → (i11_unwaits i p J L) 297 (256 * i + s) = J 297 (256 * i + s)) : ∀ s x, x = 256 * i + s → s ≠ 23 ∧ ¬ (30 ≤ s ∧ s < 50) → s < 256 → (i11_unwaits i p J L) 297 x = J 297 x := by
  intro s x e g1 g2
  subst e
  by_cases q : s = 28 ∨ s = 29
  · exact h28 s q
  · exact un_off hp hw hw4 (by omega)
theorem un7_28 {p b : Nat} (h : b = 256 * i + 28 ∨ b = 256 * i + 29) : ∀ (n t : Nat) (J : Nat → Nat → Int32), t + n = 45 → 30 ≤ t → (∃ w, w ≤ 4 ∧ J 297 (256 * i + 23) = nI w) → (i11_unwaits_7 i p n t J L) 297 b = J 297 b := by
  intro n
  induction n with
  | zero =>
    intro t J h1 h2 ⟨w, hw4, hw⟩
    simp only [i11_unwaits_7]
    rw [hw, nI_clamp (by omega), uI_ne _ _ _ (by omega), uI_ne _ _ _ (by omega)]
  | succ n ih =>
    intro t J h1 h2 ⟨w, hw4, hw⟩
    simp only [i11_unwaits_7]
    rw [ih (t + 1) _ (by omega) (by omega) ⟨w, hw4, by rw [uI_ne _ _ _ (by omega)]; exact hw⟩, uI_ne _ _ _ (by omega)]
theorem un_all {p w : Nat} (hp : p ≤ 3) (hw : J 297 (256 * i + 23) = nI w) (hw4 : w ≤ 4) : ∀ s x, x = 256 * i + s → s ≠ 23 ∧ ¬ (30 ≤ s ∧ s < 50) → s < 256 → (i11_unwaits i p J L) 297 x = J 297 x := un_jo hp hw hw4 (fun s hs => by
  unfold i11_unwaits
  exact un7_28 (by omega) _ _ J (by omega) (by omega) ⟨w, hw4, hw⟩)
theorem NB.rmv {p w : Nat} (h3 : C (k + 3) 3 = nI w) (hw4 : w ≤ 4) (hp : p < w) (h : NB t k i C J) : NB t k i (i3_removeAt (k + 3) 4 (nI p) C D) (i11_unwaits i p J L) := by
  obtain ⟨w', w1, w2, w3, -⟩ := h.2.2.2.2.2.2.1
  obtain rfl : w' = w := (nI_eq (by omega) (by omega)).mp (w2.symm.trans h3)
  exact h.wait (fun b _ => by rw [rm_row (by omega)]) (fun a b g => by rw [rm_row (by omega)]) (un_all (by omega) w3 w1) (WR.rmv h3 hw4 hp h.2.2.2.2.2.2.1)
/-- a frame that isn't being sent is withdrawn -/
theorem NR.wdr {p w : Nat} (h3 : C (k + 3) 3 = nI w) (hw4 : w ≤ 4) (hp : p < w) (hn : ¬ nI p = C k 17) (h : NR t k i C D J) : NR t k i (if C k 17 ≤ nI p then i3_removeAt (k + 3) 4 (nI p) C D else uI (i3_removeAt (k + 3) 4 (nI p) C D) k 17 ((C k 17) - 1)) D (i11_unwaits i p J L) := by
  obtain ⟨w', w1, w2, w3, -⟩ := h.1.2.2.2.2.2.2.1
  obtain rfl : w' = w := (nI_eq (by omega) (by omega)).mp (w2.symm.trans h3)
  obtain ⟨C', hC'⟩ : ∃ C', C' = (if C k 17 ≤ nI p then i3_removeAt (k + 3) 4 (nI p) C D else uI (i3_removeAt (k + 3) 4 (nI p) C D) k 17 ((C k 17) - 1)) := ⟨_, rfl⟩
  rw [← hC']
  have cM : ∀ a b, ¬ (a = k ∧ b = 17) → C' a b = (i3_removeAt (k + 3) 4 (nI p) C D) a b := fun a b g => by
    rw [hC']
    split
    · rfl
    · rw [uI_eq, if_neg g]
  have mk17 : (i3_removeAt (k + 3) 4 (nI p) C D) k 17 = C k 17 := by rw [rm_row (by omega)]
  have jo := un_all (i := i) (J := J) (L := L) (p := p) (by omega) w3 w1
  have hW : WR k i C' (i11_unwaits i p J L) := (WR.rmv (D := D) (L := L) h3 hw4 hp h.1.2.2.2.2.2.2.1).congr (cM _ _ (by omega)) (fun j _ => cM _ _ (by omega)) (fun j _ => cM _ _ (by omega)) (fun j _ => cM _ _ (by omega)) (fun _ _ _ _ => rfl)
  have c3 : C' (k + 3) 3 = nI (w' - 1) := by rw [cM _ _ (by omega)]; exact rm_size w2 hp (by omega)
  have tr : ∀ j, j < 4 → j ≠ w' - 1 → (i11_unwaits i p J L) 297 (256 * i + 5 * j + 34) = J 297 (256 * i + 5 * (if p ≤ j ∧ j < 3 then j + 1 else j) + 34) := fun j hj hq => by
    have := un_get (L := L) (s := 5 * j + 34) (p := p) (by omega) w3 w1 (by omega) (by omega) (by omega)
    rw [show 256 * i + 5 * j + 34 = 256 * i + (5 * j + 34) by omega, this]
    by_cases g : p ≤ j ∧ j < 3
    · rw [if_pos g, if_pos (by omega)]; congr 1 <;> omega
    · rw [if_neg g, if_neg (by omega)]; congr 1 <;> omega
  have fl0 : (i11_unwaits i p J L) 297 (256 * i + 5 * (w' - 1) + 34) = 0 := un_fl (by omega) w3 w1
  have hcK : ∀ b, b ≠ 17 → C' k b = C k b := fun b g => by rw [cM _ _ (by omega), rm_row (by omega)]
  have hS : SR k i C' (i11_unwaits i p J L) ∧ (¬ C k 17 = (-1) → ¬ C' k 17 = (-1)) := by
    rcases h.2.2.2.2.2.2.2.1 with ⟨s1, s2⟩ | ⟨s, w, s1, s2, s3, s4, s5⟩
    · refine ⟨Or.inl ⟨?_, fun j hj => ?_⟩, fun q => absurd s1 q⟩
      · rw [hC', s1, if_pos (Int32.le_iff_toInt_le.mpr (by have := Int32.lt_iff_toInt_lt.mp (m1_lt (p := p) (by omega)); omega)), mk17, s1]
      · by_cases ej : j = w' - 1
        · rw [ej]; exact fl0
        · exact (tr j hj ej).trans (s2 _ (by split <;> omega))
    · obtain rfl : w = w' := (nI_eq (by omega) (by omega)).mp (s3.symm.trans w2)
      have hsp : s ≠ p := fun q => hn (by rw [s4, q])
      have e17 : C' k 17 = nI (if s < p then s else s - 1) := by
        rw [hC', s4]
        by_cases g : s < p
        · rw [if_pos (nI_le (by omega) (by omega)), if_pos g, mk17, s4]
        · rw [if_neg (nI_ge (by omega) (by omega)), if_neg g, uI_self, nI_dec (by omega)]
      refine ⟨Or.inr ⟨if s < p then s else s - 1, w - 1, by split <;> omega, by omega, c3, e17, fun j hj => ?_⟩, fun _ => by rw [e17]; exact m1_ne (by split <;> omega)⟩
      by_cases ej : j = w - 1
      · subst ej
        rw [if_neg (by split <;> omega)]; exact fl0
      · refine (tr j hj ej).trans ((s5 _ (by split <;> omega)).trans ?_)
        by_cases g : (if p ≤ j ∧ j < 3 then j + 1 else j) = s
        · rw [if_pos g, if_pos]
          split at g <;> split <;> omega
        · rw [if_neg g, if_neg]
          split at g <;> split <;> omega
  exact ⟨h.1.wait hcK (fun a b g => by rw [cM _ _ (by omega), rm_row (by omega)]) jo hW, h.2.wait hcK (fun b => by rw [cM _ _ (by omega), rm_row (by omega)]) hS.2 jo hS.1⟩
/-- a frame has been sent -/
theorem NB.sent {t' : Nat} (ht : t < t') (h : NB t k i C J) : NB t' k i (uI C (k + 1) 4 ((C (k + 1) 4) + 1)) (uI J 297 (256 * i + 14) ((J 297 (256 * i + 14)) + 1)) := by
  obtain ⟨a1, ⟨a2, n, n1, n2⟩, a3, a4, a5, a6, a7, a8, a9⟩ := h
  have hC : ∀ a b, ¬ (a = k + 1 ∧ b = 4) → (uI C (k + 1) 4 ((C (k + 1) 4) + 1)) a b = C a b := fun a b g => by rw [uI_eq, if_neg g]
  have hJ : ∀ s y, y = 256 * i + s → s ≠ 14 → (uI J 297 (256 * i + 14) ((J 297 (256 * i + 14)) + 1)) 297 y = J 297 y := fun s y e g => uI_ne _ _ _ (by omega)
  refine ⟨?_, ⟨?_, n, by omega, ?_⟩, ?_, ?_, ?_, ?_, a7.congr (hC _ _ (by omega)) (fun b _ => hC _ _ (by omega)) (fun b _ => hC _ _ (by omega)) (fun b _ => hC _ _ (by omega)) (fun s y e g => hJ s y e (by unfold wJ at g; omega)), a8.congr (hC _ _ (by omega)) (fun b _ => hC _ _ (by omega)) (fun b _ => hC _ _ (by omega)) (fun b _ => hC _ _ (by omega)) (fun s y e g => hJ s y e (by omega)), a9.congr (hC _ _ (by omega)) (fun b _ => hC _ _ (by omega)) (fun b _ => hC _ _ (by omega)) (fun b _ => hC _ _ (by omega)) (fun s y e g => hJ s y e (by omega))⟩
  · rw [hC k 9 (by omega), hJ 1 _ rfl (by omega)]; exact a1
  · rw [hC k 10 (by omega), hJ 4 _ rfl (by omega)]; exact a2
  · rw [hJ 4 _ rfl (by omega)]; exact n2
  · rw [hC k 11 (by omega), hJ 5 _ rfl (by omega)]; exact a3
  · rw [hC k 6 (by omega), hC k 7 (by omega), hJ 16 _ rfl (by omega), hJ 17 _ rfl (by omega)]; exact a4
  · rw [hC k 14 (by omega), hC k 15 (by omega)]; exact a5
  · obtain ⟨b1, ⟨m, m1, m2, m3⟩, b2, b3, b4, b5, s, s1, s2⟩ := a6
    refine ⟨fun kd g1 g2 => ?_, ⟨m, m1, ?_, ?_⟩, ?_, ?_, ?_, ?_, s + 1, by omega, ?_⟩
    · rw [hC _ _ (by omega), hJ (kd + 5) _ (by omega) (by omega)]; exact b1 kd g1 g2
    · rw [hJ 11 _ rfl (by omega)]; exact m2
    · rw [hC _ _ (by omega)]; exact m3
    · rw [hC _ _ (by omega), hJ 12 _ rfl (by omega)]; exact b2
    · rw [hC _ _ (by omega), hJ 13 _ rfl (by omega)]; exact b3
    · rw [hC _ _ (by omega), hJ 15 _ rfl (by omega)]; exact b4
    · rw [uI_self, uI_self, b5]
    · rw [uI_self, s2, nI_1]
end RM
