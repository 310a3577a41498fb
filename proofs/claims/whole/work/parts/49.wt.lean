/-! the waiting frames of both -/
section WT
variable {t k l i : Nat} {C J : Nat → Nat → Int32} {D L : Nat → Nat → Int64}
theorem i32_tr {a b c : Int32} (h : a ≤ b) (g : b ≤ c) : a ≤ c := by
  have h1 := Int32.le_iff_toInt_le.mp h
  have h2 := Int32.le_iff_toInt_le.mp g
  exact Int32.le_iff_toInt_le.mpr (by omega)
theorem i32_nl {a b : Int32} (h : ¬ a ≤ b) : b ≤ a := by
  have h1 : ¬ a.toInt ≤ b.toInt := fun q => h (Int32.le_iff_toInt_le.mpr q)
  exact Int32.le_iff_toInt_le.mpr (by omega)
theorem i32_rf (a : Int32) : a ≤ a := Int32.le_iff_toInt_le.mpr (by omega)
theorem srt {f : Nat → Int32} {w : Nat} (h : ∀ j, j + 1 < w → f j ≤ f (j + 1)) : ∀ d a, a + d < w → f a ≤ f (a + d) := by
  intro d
  induction d with
  | zero => intro a _; exact i32_rf _
  | succ d ih =>
    intro a ha
    exact i32_tr (ih a (by omega)) (h (a + d) (by omega))
theorem p3_spec {key : Int32} : ∀ n q, (∀ j, q ≤ j → j < p3_place k key n q C → C (k + 1) j ≤ key) ∧ (p3_place k key n q C < q + n → ¬ C (k + 1) (p3_place k key n q C) ≤ key) := by
  intro n
  induction n with
  | zero => intro q; simp only [p3_place]; exact ⟨fun j g1 g2 => absurd g2 (by omega), fun g => absurd g (by omega)⟩
  | succ n ih =>
    intro q
    by_cases hc : C (k + 1) q ≤ key
    · have e : p3_place k key (n + 1) q C = p3_place k key n (q + 1) C := by simp only [p3_place]; rw [if_pos hc]
      rw [e]
      obtain ⟨h1, h2⟩ := ih (q + 1)
      refine ⟨fun j g1 g2 => ?_, fun g => h2 (by omega)⟩
      by_cases ej : j = q
      · rw [ej]; exact hc
      · exact h1 j (by omega) g2
    · have e : p3_place k key (n + 1) q C = q := by simp only [p3_place]; rw [if_neg hc]
      rw [e]
      exact ⟨fun j g1 g2 => absurd g2 (by omega), fun _ => hc⟩
def rkey (i j : Nat) (J : Nat → Nat → Int32) : Int32 := ((2 : Int32) * (J 297 (256 * i + 5 * j + 30))) + (J 297 (256 * i + 5 * j + 31))
theorem wpl_spec {ky : Int32} : ∀ n, (∀ j, wpl i ky J n ≤ j → j < n → ¬ rkey i j J ≤ ky) ∧ (1 ≤ wpl i ky J n → rkey i (wpl i ky J n - 1) J ≤ ky) := by
  intro n
  induction n with
  | zero => exact ⟨fun j g1 g2 => absurd g2 (by omega), fun g => absurd g (by simp [wpl])⟩
  | succ n ih =>
    by_cases hc : rkey i n J ≤ ky
    · have e : wpl i ky J (n + 1) = n + 1 := by simp only [wpl]; exact if_pos hc
      rw [e]
      exact ⟨fun j g1 g2 => absurd g2 (by omega), fun _ => hc⟩
    · have e : wpl i ky J (n + 1) = wpl i ky J n := by simp only [wpl]; exact if_neg hc
      rw [e]
      refine ⟨fun j g1 g2 => ?_, ih.2⟩
      by_cases ej : j = n
      · rw [ej]; exact hc
      · exact ih.1 j g1 (by omega)
theorem wE.key {j : Nat} (h : wE k i j C J) : rkey i j J = C (k + 4) j := by
  obtain ⟨idn, rm, ln, -, -, -, h1, h2, -, h3, -⟩ := h
  unfold rkey
  rw [h1, h2, h3, show (2 : Int32) * nI idn = nI (2 * idn) from pk_mul 2 idn, nI_add]
theorem plc_eq {key : Int32} {w : Nat} (hw4 : w ≤ 4) (h3 : C (k + 3) 3 = nI w) (hE : ∀ j, j < w → wE k i j C J) (hs : ∀ j, j + 1 < w → C (k + 4) j ≤ C (k + 4) (j + 1)) : P3 (k + 3) key C = wpl i key J w ∧ wpl i key J w ≤ w ∧ (∀ j, j < wpl i key J w → C (k + 4) j ≤ key) ∧ ∀ j, wpl i key J w ≤ j → j < w → ¬ C (k + 4) j ≤ key := by
  have hl := wpl_le (i := i) (ky := key) (J := J) w
  obtain ⟨a1, a2⟩ := p3_spec (k := k + 3) (C := C) (key := key) w 0
  have a3 := p3_le (k + 3) key C w 0
  obtain ⟨b1, b2⟩ := wpl_spec (i := i) (J := J) (ky := key) w
  have e : P3 (k + 3) key C = p3_place (k + 3) key w 0 C := by unfold P3; rw [h3, nI_clamp (by omega)]
  rw [e]
  have b3 : ∀ j, wpl i key J w ≤ j → j < w → ¬ C (k + 4) j ≤ key := fun j g1 g2 => by rw [← (hE j g2).key]; exact b1 j g1 g2
  have eq : p3_place (k + 3) key w 0 C = wpl i key J w := by
    rcases Nat.lt_trichotomy (p3_place (k + 3) key w 0 C) (wpl i key J w) with g | g | g
    · have h1 : rkey i (wpl i key J w - 1) J ≤ key := b2 (by omega)
      rw [(hE _ (by omega)).key] at h1
      have h2 := srt hs (wpl i key J w - 1 - p3_place (k + 3) key w 0 C) (p3_place (k + 3) key w 0 C) (by omega)
      rw [show p3_place (k + 3) key w 0 C + (wpl i key J w - 1 - p3_place (k + 3) key w 0 C) = wpl i key J w - 1 by omega] at h2
      exact absurd (i32_tr h2 h1) (a2 (by omega))
    · exact g
    · exact absurd (a1 (wpl i key J w) (by omega) g) (b3 _ (by omega) (by omega))
  exact ⟨eq, hl, fun j hj => a1 j (by omega) (by omega), b3⟩
theorem FP.congr' {C' J' : Nat → Nat → Int32} {D' : Nat → Nat → Int64} {b e T la : Nat} {bf : Nat → Nat} (h : FP b e T la bf k i C D J) (hC : ∀ b, C' (k + 15) b = C (k + 15) b) (hD : D' (k + 15) 2 = D (k + 15) 2) (h17 : ¬ C k 17 = (-1) → ¬ C' k 17 = (-1)) (h18 : D' k 18 = D k 18) (h1 : J' 297 (256 * i + 1) = J 297 (256 * i + 1)) (hJ : ∀ s x, x = 256 * i + s → ((19 ≤ s ∧ s ≤ 22) ∨ 90 ≤ s) → s < 256 → J' 297 x = J 297 x) : FP b e T la bf k i C' D' J' := by
  obtain ⟨a1, a2, a3, a4, a5, a6, a7, a8⟩ := h
  have hB := bdN_le a1.2.2.2.2.2.2.2
  refine ⟨a1, fun j hj => ⟨(a2 j hj).1, ?_⟩, ⟨(hC 0).trans a3.1, ?_⟩, ⟨(hC 6).trans a4.1, ?_⟩, ⟨(hC 7).trans a5.1, ?_⟩, ⟨(hC 1).trans a6.1, hD.trans a6.2.1, (hC 3).trans a6.2.2.1, (hC 4).trans a6.2.2.2.1, (hC 5).trans a6.2.2.2.2⟩, ⟨(hC 8).trans a7.1, ?_, ?_⟩, fun g => ?_⟩
  · rw [hJ (j + 90) _ (by omega) (by omega) (by omega)]; exact (a2 j hj).2
  · rw [hJ 19 _ rfl (by omega) (by omega)]; exact a3.2
  · rw [hJ 21 _ rfl (by omega) (by omega)]; exact a4.2
  · rw [hJ 20 _ rfl (by omega) (by omega)]; exact a5.2
  · rw [hJ 22 _ rfl (by omega) (by omega)]; exact a7.2.1
  · rw [hJ 22 _ rfl (by omega) (by omega)]; exact a7.2.2
  · rw [h1] at g
    obtain ⟨q, idn, rm, ln, d, q1, q2, q3, q4, q5, q6, q7⟩ := a8 g
    have hby := byN_le (rm := rm) q3
    refine ⟨h17 q, idn, rm, ln, d, q1, q2, q3, q4, h18.trans q5, fun j hj => ?_, fun j hj => ?_⟩
    · rw [hJ (j + 160) _ (by omega) (by omega) (by omega)]; exact q6 j hj
    · rw [hJ (j + 90) _ (by omega) (by omega) (by omega), hJ (j + 160) _ (by omega) (by omega) (by omega)]; exact q7 j hj
/-- NP, where only the waiting frames change -/
theorem NP.wait {C' J' : Nat → Nat → Int32} (h : NP k i C D J) (hC : ∀ b, b ≠ 17 → C' k b = C k b) (hC2 : ∀ b, C' (k + 15) b = C (k + 15) b) (h17 : ¬ C k 17 = (-1) → ¬ C' k 17 = (-1)) (hJ : ∀ s x, x = 256 * i + s → s ≠ 23 ∧ ¬ (30 ≤ s ∧ s < 50) → s < 256 → J' 297 x = J 297 x) (hS : SR k i C' J') : NP k i C' D J' := by
  obtain ⟨a1, a2, a3, a4, a5, a6, -, a8⟩ := h
  have e0 : J' 297 (256 * i) = J 297 (256 * i) := hJ 0 _ rfl (by omega) (by omega)
  have e2 : J' 297 (256 * i + 2) = J 297 (256 * i + 2) := hJ 2 _ rfl (by omega) (by omega)
  have e3 : J' 297 (256 * i + 3) = J 297 (256 * i + 3) := hJ 3 _ rfl (by omega) (by omega)
  refine ⟨?_, ?_, ?_, ?_, ?_, ?_, hS, ?_⟩
  · rw [hC 8 (by decide), e0]; exact a1
  · rw [hC 12 (by decide), e2]; exact a2
  · rw [e0, e2]; exact a3
  · rw [e0, hC 13 (by decide), e3]; exact a4
  · rw [e0, hC 15 (by decide), e3]; exact a5
  · rw [e0, hC 14 (by decide), hJ 18 _ rfl (by omega) (by omega)]; exact a6
  · rw [e0]
    intro g
    obtain ⟨b, e, T, la, bf, h⟩ := a8 g
    exact ⟨b, e, T, la, bf, h.congr' hC2 rfl h17 rfl (hJ 1 _ rfl (by omega) (by omega)) (fun s x e g1 g2 => hJ s x e (by omega) g2)⟩
theorem NB.wait {C' J' : Nat → Nat → Int32} (h : NB t k i C J) (hC : ∀ b, b ≠ 17 → C' k b = C k b) (hC2 : ∀ a b, (k + 1 ≤ a ∧ a ≤ k + 2) ∨ (k + 7 ≤ a ∧ a ≤ k + 14) → C' a b = C a b) (hJ : ∀ s x, x = 256 * i + s → s ≠ 23 ∧ ¬ (30 ≤ s ∧ s < 50) → s < 256 → J' 297 x = J 297 x) (hW : WR k i C' J') : NB t k i C' J' := by
  obtain ⟨a1, a2, a3, a4, a5, a6, -, a8, a9⟩ := h
  refine ⟨?_, ?_, ?_, ?_, ?_, a6.congr (fun b _ => hC2 _ _ (by omega)) (fun b _ => hC2 _ _ (by omega)) (fun s x e g1 g2 => hJ s x e (by omega) (by omega)), hW, a8.congr (hC2 _ _ (by omega)) (fun b _ => hC2 _ _ (by omega)) (fun b _ => hC2 _ _ (by omega)) (fun b _ => hC2 _ _ (by omega)) (fun s x e g => hJ s x e (by omega) (by omega)), a9.congr (hC2 _ _ (by omega)) (fun b _ => hC2 _ _ (by omega)) (fun b _ => hC2 _ _ (by omega)) (fun b _ => hC2 _ _ (by omega)) (fun s x e g => hJ s x e (by omega) (by omega))⟩
  · rw [hC 9 (by decide), hJ 1 _ rfl (by omega) (by omega)]; exact a1
  · rw [hC 10 (by decide), hJ 4 _ rfl (by omega) (by omega)]; exact a2
  · rw [hC 11 (by decide), hJ 5 _ rfl (by omega) (by omega)]; exact a3
  · rw [hC 6 (by decide), hC 7 (by decide), hJ 16 _ rfl (by omega) (by omega), hJ 17 _ rfl (by omega) (by omega)]; exact a4
  · rw [hC 14 (by decide), hC 15 (by decide)]; exact a5
theorem m1_lt {p : Nat} (h : p < 2 ^ 31) : ((-1 : Int32)) < nI p := Int32.lt_iff_toInt_lt.mpr (by rw [nI_toInt h]; exact Int.lt_of_lt_of_le (show ((-1 : Int32)).toInt < 0 by decide) (Int.natCast_nonneg _))
theorem m1_ne {p : Nat} (h : p < 2 ^ 31) : ¬ nI p = (-1) := fun e => by
  have := m1_lt h
  rw [e] at this
  exact absurd this (by decide)
/-- a frame comes among the waiting ones -/
theorem NR.enq {idn rm ln w : Nat} {d : Int32} (hid : idn ≤ 2047) (hrm : rm ≤ 1) (hln : ln ≤ 4) (hd : dOK rm ln d) (h3 : C (k + 3) 3 = nI w) (hw3 : w ≤ 3) (h : NR t k i C D J) : NR t k i (i6_enqueue k l (nI (2 * idn + rm)) (nI ln) d C D) D (i11_waits i (nI idn) (nI rm) (nI ln) d J L) := by
  obtain ⟨w', w1, w2, w3, w4, w5, w6⟩ := h.1.2.2.2.2.2.2.1
  obtain rfl : w' = w := (nI_eq (by omega) (by omega)).mp (w2.symm.trans h3)
  obtain ⟨e1, e2, e3, e4⟩ := plc_eq (key := nI (2 * idn + rm)) (by omega) w2 w4 w5
  obtain ⟨P, hP⟩ : ∃ P, P = wpl i (nI (2 * idn + rm)) J w' := ⟨_, rfl⟩
  rw [← hP] at e1 e2 e3 e4
  have hnf : ¬ (r3_isFull (k + 3) 4 C D) = true := by
    unfold r3_isFull
    rw [w2, if_pos (nI_lt (show w' < 4 by omega) (by omega))]
    decide
  obtain ⟨M, hM⟩ : ∃ M, M = i3_insertAt (k + 3) 4 P (nI (2 * idn + rm)) (nI ln) d C D := ⟨_, rfl⟩
  obtain ⟨C', hC'⟩ : ∃ C', C' = i6_enqueue k l (nI (2 * idn + rm)) (nI ln) d C D := ⟨_, rfl⟩
  obtain ⟨J', hJ'⟩ : ∃ J', J' = i11_waits i (nI idn) (nI rm) (nI ln) d J L := ⟨_, rfl⟩
  have eC : C' = if C k 17 < nI P then M else uI M k 17 ((C k 17) + 1) := by
    rw [hC', hM]
    unfold i6_enqueue
    rw [if_neg hnf, e1]
  rw [← hC', ← hJ']
  have cM : ∀ a b, ¬ (a = k ∧ b = 17) → C' a b = M a b := fun a b g => by
    rw [eC]
    split
    · rfl
    · rw [uI_eq, if_neg g]
  have mR : ∀ a b, a < k + 3 ∨ k + 6 < a → M a b = C a b := fun a b g => by rw [hM, ins_row (by omega)]
  have c4 : ∀ j, C' (k + 4) j = if j = P then nI (2 * idn + rm) else if P < j ∧ j ≤ w' then C (k + 4) (j - 1) else C (k + 4) j := fun j => by rw [cM _ _ (by omega), hM]; exact ins_1 (k := k + 3) w2 (by omega) e2
  have c5 : ∀ j, C' (k + 5) j = if j = P then nI ln else if P < j ∧ j ≤ w' then C (k + 5) (j - 1) else C (k + 5) j := fun j => by rw [cM _ _ (by omega), hM]; exact ins_2 (k := k + 3) w2 (by omega) e2
  have c6 : ∀ j, C' (k + 6) j = if j = P then d else if P < j ∧ j ≤ w' then C (k + 6) (j - 1) else C (k + 6) j := fun j => by rw [cM _ _ (by omega), hM]; exact ins_3 (k := k + 3) w2 (by omega) e2
  have c3 : C' (k + 3) 3 = nI (w' + 1) := by rw [cM _ _ (by omega), hM, ins_s, w2, nI_1]
  have ky : ((2 : Int32) * nI idn) + nI rm = nI (2 * idn + rm) := by rw [show (2 : Int32) * nI idn = nI (2 * idn) from pk_mul 2 idn, nI_add]
  have jg : ∀ j q s, q < 5 → s = 256 * i + 5 * j + q + 30 → J' 297 s = if j < P then J 297 s else if j = P then nwF (nI idn) (nI rm) (nI ln) d q else if j ≤ w' then J 297 (s - 5) else J 297 s := fun j q s hq hs => by
    rw [hJ', hP]
    unfold i11_waits
    rw [w3, nI_clamp (by omega), ky]
    exact wt_get w' w' J j q s hw3 hq hs
  have jo : ∀ s x, x = 256 * i + s → s ≠ 23 ∧ ¬ (30 ≤ s ∧ s < 50) → s < 256 → J' 297 x = J 297 x := fun s x e g1 g2 => by
    rw [hJ']
    unfold i11_waits
    rw [w3, nI_clamp (by omega)]
    exact wt_sl (by omega) (fun s' _ _ => by omega) _ _ _ _ _ hw3
  have j23 : J' 297 (256 * i + 23) = nI (w' + 1) := by
    rw [hJ']
    unfold i11_waits
    rw [w3, nI_clamp (by omega), wt_23, w3, nI_1]
  -- a frame at its new place
  have tr : ∀ j, j < 4 → j ≠ P → ∀ q, q < 5 → J' 297 (256 * i + 5 * j + q + 30) = J 297 (256 * i + 5 * (if P < j ∧ j ≤ w' then j - 1 else j) + q + 30) := fun j hj hjP q hq => by
    rw [jg j q _ hq rfl]
    by_cases g1 : j < P
    · rw [if_pos g1, if_neg (show ¬ (P < j ∧ j ≤ w') by omega)]
    · rw [if_neg g1, if_neg hjP]
      by_cases g2 : j ≤ w'
      · rw [if_pos g2, if_pos (show P < j ∧ j ≤ w' by omega)]
        congr 1
        omega
      · rw [if_neg g2, if_neg (show ¬ (P < j ∧ j ≤ w') by omega)]
  have hW : WR k i C' J' := by
    refine ⟨w' + 1, by omega, c3, j23, fun j hj => ?_, fun j hj => ?_, fun j hj => ?_⟩
    · by_cases ej : j = P
      · subst ej
        refine ⟨idn, rm, ln, hid, hrm, hln, ?_, ?_, ?_, ?_, ?_, ?_, ?_⟩
        · have := jg j 0 _ (by omega) rfl; rw [if_neg (by omega), if_pos rfl] at this; exact this
        · have := jg j 1 _ (by omega) rfl; rw [if_neg (by omega), if_pos rfl] at this; exact this
        · have := jg j 2 _ (by omega) rfl; rw [if_neg (by omega), if_pos rfl] at this; exact this
        · rw [c4, if_pos rfl]
        · rw [c5, if_pos rfl]
        · have := jg j 3 _ (by omega) rfl; rw [if_neg (by omega), if_pos rfl] at this; rw [c6, if_pos rfl]; exact this.symm
        · have := jg j 3 _ (by omega) rfl; rw [if_neg (by omega), if_pos rfl] at this
          have e9 : J' 297 (256 * i + 5 * j + 33) = d := this
          rw [e9]; exact hd
      · obtain ⟨f1, f2, f3, a1, a2, a3, a4, a5, a6, a7, a8, a9, a10⟩ := w4 (if P < j ∧ j ≤ w' then j - 1 else j) (by split <;> omega)
        have q0 := tr j (by omega) ej 0 (by omega)
        have q1 := tr j (by omega) ej 1 (by omega)
        have q2 := tr j (by omega) ej 2 (by omega)
        have q3 := tr j (by omega) ej 3 (by omega)
        refine ⟨f1, f2, f3, a1, a2, a3, q0.trans a4, q1.trans a5, q2.trans a6, ?_, ?_, ?_, ?_⟩
        · rw [c4, if_neg ej, ← a7]; split <;> rfl
        · rw [c5, if_neg ej, ← a8]; split <;> rfl
        · have e9 : J' 297 (256 * i + 5 * j + 33) = J 297 (256 * i + 5 * (if P < j ∧ j ≤ w' then j - 1 else j) + 33) := q3
          rw [c6, if_neg ej, e9, ← a9]; split <;> rfl
        · have e9 : J' 297 (256 * i + 5 * j + 33) = J 297 (256 * i + 5 * (if P < j ∧ j ≤ w' then j - 1 else j) + 33) := q3
          rw [e9]; exact a10
    · rw [c4, c4]
      by_cases g1 : j + 1 < P
      · rw [if_neg (by omega), if_neg (by omega), if_neg (by omega), if_neg (by omega)]; exact w5 j (by omega)
      · by_cases g2 : j + 1 = P
        · rw [if_neg (by omega), if_neg (by omega), if_pos g2]; exact e3 j (by omega)
        · by_cases g3 : j = P
          · rw [if_pos g3, if_neg g2, if_pos (by omega)]; exact i32_nl (e4 j (by omega) (by omega))
          · rw [if_neg g3, if_pos (by omega), if_neg g2, if_pos (by omega)]
            have := w5 (j - 1) (by omega)
            rw [show j - 1 + 1 = j + 1 - 1 by omega] at this
            exact this
    · by_cases ej : j = P
      · subst ej
        have := jg j 2 _ (by omega) rfl; rw [if_neg (by omega), if_pos rfl] at this
        exact ⟨ln, hln, this⟩
      · obtain ⟨q, q1, q2⟩ := w6 (if P < j ∧ j ≤ w' then j - 1 else j) (by split <;> omega)
        exact ⟨q, q1, (tr j hj ej 2 (by omega)).trans q2⟩
  have hcK : ∀ b, b ≠ 17 → C' k b = C k b := fun b g => by rw [cM _ _ (by omega), mR _ _ (by omega)]
  have mk17 : M k 17 = C k 17 := mR _ _ (by omega)
  have hS : SR k i C' J' := by
    rcases h.2.2.2.2.2.2.2.1 with ⟨s1, s2⟩ | ⟨s, w, s1, s2, s3, s4, s5⟩
    · refine Or.inl ⟨?_, fun j hj => ?_⟩
      · rw [eC, s1, if_pos (m1_lt (by omega)), mk17, s1]
      · by_cases ej : j = P
        · subst ej
          have := jg j 4 _ (by omega) rfl; rw [if_neg (by omega), if_pos rfl] at this; exact this
        · exact (tr j hj ej 4 (by omega)).trans (s2 _ (by split <;> omega))
    · obtain rfl : w = w' := (nI_eq (by omega) (by omega)).mp (s3.symm.trans w2)
      refine Or.inr ⟨if s < P then s else s + 1, w + 1, by split <;> omega, by omega, c3, ?_, fun j hj => ?_⟩
      · rw [eC, s4]
        by_cases g : s < P
        · rw [if_pos (nI_lt g (by omega)), if_pos g, mk17, s4]
        · rw [if_neg (nI_nlt (by omega) (by omega)), if_neg g, uI_self, nI_1]
      · by_cases ej : j = P
        · subst ej
          have := jg j 4 _ (by omega) rfl; rw [if_neg (by omega), if_pos rfl] at this
          rw [if_neg (by split <;> omega)]; exact this
        · refine (tr j hj ej 4 (by omega)).trans ((s5 _ (by split <;> omega)).trans ?_)
          by_cases g : (if P < j ∧ j ≤ w then j - 1 else j) = s
          · rw [if_pos g, if_pos]
            split at g <;> split <;> omega
          · rw [if_neg g, if_neg]
            split at g <;> split <;> omega
  refine ⟨h.1.wait hcK (fun a b g => by rw [cM _ _ (by omega), mR _ _ (by omega)]) jo hW, h.2.wait hcK (fun b => by rw [cM _ _ (by omega), mR _ _ (by omega)]) (fun q => ?_) jo hS⟩
  rcases h.2.2.2.2.2.2.2.1 with ⟨s1, s2⟩ | ⟨s, w, s1, s2, s3, s4, s5⟩
  · exact absurd s1 q
  · rw [eC]
    split
    · rw [mk17]; exact q
    · rw [uI_self, s4, nI_1]; exact m1_ne (by omega)
end WT
