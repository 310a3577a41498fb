/-! readers of a node answer alike -/
section RD
variable {t : Nat} {C J : Nat → Nat → Int32} {D L : Nat → Nat → Int64} {nd x : Int32}
theorem BR.n (h : BR t 1 C D J) (hn : r10_isNode nd = true) : ∃ i, i < 4 ∧ nd.toNatClampNeg = i ∧ NR t (4 + 16 * i) i C D J := by
  obtain ⟨i, h1, -, rfl⟩ := within_nat (a := 0) (b := 3) (by decide) (by decide) hn
  exact ⟨i, by omega, nI_clamp (by omega), h.2.2.2.1 i (by omega)⟩
theorem key2 (a b : Nat) : (2 : Int32) * nI a + nI b = nI (2 * a + b) := by
  simp only [nI, Int32.ofNat_add, Int32.ofNat_mul]
  rfl
theorem has_in {w : Nat} (hw : w ≤ 6) (x : Int32) : (nI w ≤ x) ↔ (nI w - 1 < x) := by
  rw [Int32.le_iff_toInt_le, Int32.lt_iff_toInt_lt, nI_toInt (by omega)]
  have h : (nI w - 1).toInt = (w : Int) - 1 := by
    match w, hw with
    | 0, _ => decide
    | 1, _ => decide
    | 2, _ => decide
    | 3, _ => decide
    | 4, _ => decide
    | 5, _ => decide
    | 6, _ => decide
    | n + 7, h => omega
  rw [h]
  omega
theorem has_eq {k c w s : Nat} (hw : w ≤ 6) (h1 : C k 3 = nI w) (h2 : J 297 s = nI w) : (r3_has k c x C D = true) ↔ (r11_in x 0 (J 297 s - 1) = true) := by
  unfold r3_has r11_in
  rw [h1, h2]
  have := has_in hw x
  by_cases g1 : x < 0
  · rw [if_pos (Or.inl g1), if_pos (Or.inl g1)]
  · by_cases g2 : nI w ≤ x
    · rw [if_pos (Or.inr g2), if_pos (Or.inr (this.mp g2))]
    · rw [if_neg (fun q => q.elim g1 g2), if_neg (fun q => q.elim g1 (fun g => g2 (this.mpr g)))]
theorem has_ix {k c w : Nat} (hw : w ≤ 6) (h1 : C k 3 = nI w) (h : r3_has k c x C D = true) : ∃ j, j < w ∧ x.toNatClampNeg = j := by
  unfold r3_has at h
  rw [h1] at h
  by_cases g : (x < 0) ∨ (nI w ≤ x)
  · rw [if_pos g] at h; cases h
  · have g1 : ¬ x < 0 := fun q => g (Or.inl q)
    have g2 : ¬ nI w ≤ x := fun q => g (Or.inr q)
    rw [Int32.le_iff_toInt_le, nI_toInt (by omega)] at g2
    rw [Int32.lt_iff_toInt_lt] at g1
    have z0 : (0 : Int32).toInt = 0 := by decide
    rw [z0] at g1
    refine ⟨x.toNatClampNeg, ?_, rfl⟩
    show x.toInt.toNat < w
    omega

theorem E_phase (h : BR t 1 C D J) : r10_phase nd C D = r11_phase nd J L := by
  unfold r10_phase r11_phase
  unfold r11_of
  show (if r10_isNode nd = true then _ else _) = (if r10_isNode nd = true then _ else _)
  by_cases hn : r10_isNode nd = true
  · obtain ⟨i, hi, e, hN⟩ := h.n hn
    rw [if_pos hn, if_pos hn, e]
    rw [Nat.zero_add]
    exact hN.2.1
  · rw [if_neg hn, if_neg hn]
theorem E_isTransmitter (h : BR t 1 C D J) : r10_isTransmitter nd C D = r11_isTransmitter nd J L := by
  unfold r10_isTransmitter r11_isTransmitter
  unfold r11_of
  show (if r10_isNode nd = true then _ else _) = (if r10_isNode nd = true then _ else _)
  by_cases hn : r10_isNode nd = true
  · obtain ⟨i, hi, e, hN⟩ := h.n hn
    rw [if_pos hn, if_pos hn, e]
    rw [Nat.add_comm 1]
    obtain ⟨e1, e2⟩ := hN.1.1
    rw [e1]
    rcases e2 with q | q <;> rw [q] <;> decide
  · rw [if_neg hn, if_neg hn]
theorem E_transmitErrors (h : BR t 1 C D J) : r10_transmitErrors nd C D = r11_transmitErrors nd J L := by
  unfold r10_transmitErrors r11_transmitErrors
  unfold r11_of
  show (if r10_isNode nd = true then _ else _) = (if r10_isNode nd = true then _ else _)
  by_cases hn : r10_isNode nd = true
  · obtain ⟨i, hi, e, hN⟩ := h.n hn
    rw [if_pos hn, if_pos hn, e]
    have f := hN.1.2.1.1
    rw [Nat.add_comm _ (256 * i)]
    exact f
  · rw [if_neg hn, if_neg hn]
theorem E_receiveErrors (h : BR t 1 C D J) : r10_receiveErrors nd C D = r11_receiveErrors nd J L := by
  unfold r10_receiveErrors r11_receiveErrors
  unfold r11_of
  show (if r10_isNode nd = true then _ else _) = (if r10_isNode nd = true then _ else _)
  by_cases hn : r10_isNode nd = true
  · obtain ⟨i, hi, e, hN⟩ := h.n hn
    rw [if_pos hn, if_pos hn, e]
    have f := hN.1.2.2.1.1
    rw [Nat.add_comm _ (256 * i)]
    exact f
  · rw [if_neg hn, if_neg hn]
theorem E_lostArbitrations (h : BR t 1 C D J) : r10_lostArbitrations nd C D = r11_lostArbitrations nd J L := by
  unfold r10_lostArbitrations r11_lostArbitrations
  unfold r11_of
  show (if r10_isNode nd = true then _ else _) = (if r10_isNode nd = true then _ else _)
  by_cases hn : r10_isNode nd = true
  · obtain ⟨i, hi, e, hN⟩ := h.n hn
    rw [if_pos hn, if_pos hn, e]
    have f := hN.1.2.2.2.2.2.1.2.2.1
    rw [Nat.add_comm _ (256 * i)]
    exact f
  · rw [if_neg hn, if_neg hn]
theorem E_overloads (h : BR t 1 C D J) : r10_overloads nd C D = r11_overloads nd J L := by
  unfold r10_overloads r11_overloads
  unfold r11_of
  show (if r10_isNode nd = true then _ else _) = (if r10_isNode nd = true then _ else _)
  by_cases hn : r10_isNode nd = true
  · obtain ⟨i, hi, e, hN⟩ := h.n hn
    rw [if_pos hn, if_pos hn, e]
    have f := hN.1.2.2.2.2.2.1.2.2.2.1
    rw [Nat.add_comm _ (256 * i)]
    exact f
  · rw [if_neg hn, if_neg hn]
theorem E_overruns (h : BR t 1 C D J) : r10_overruns nd C D = r11_overruns nd J L := by
  unfold r10_overruns r11_overruns
  unfold r11_of
  show (if r10_isNode nd = true then _ else _) = (if r10_isNode nd = true then _ else _)
  by_cases hn : r10_isNode nd = true
  · obtain ⟨i, hi, e, hN⟩ := h.n hn
    rw [if_pos hn, if_pos hn, e]
    have f := hN.1.2.2.2.2.2.1.2.2.2.2.1
    rw [Nat.add_comm _ (256 * i)]
    exact f
  · rw [if_neg hn, if_neg hn]
theorem E_sent (h : BR t 1 C D J) : r10_sent nd C D = r11_sent nd J L := by
  unfold r10_sent r11_sent
  unfold r11_of
  show (if r10_isNode nd = true then _ else _) = (if r10_isNode nd = true then _ else _)
  by_cases hn : r10_isNode nd = true
  · obtain ⟨i, hi, e, hN⟩ := h.n hn
    rw [if_pos hn, if_pos hn, e]
    have f := hN.1.2.2.2.2.2.1.2.2.2.2.2.1
    rw [Nat.add_comm _ (256 * i)]
    exact f
  · rw [if_neg hn, if_neg hn]
theorem E_waiting (h : BR t 1 C D J) : r10_waiting nd C D = r11_waiting nd J L := by
  unfold r10_waiting r11_waiting
  unfold r11_of
  show (if r10_isNode nd = true then _ else _) = (if r10_isNode nd = true then _ else _)
  by_cases hn : r10_isNode nd = true
  · obtain ⟨i, hi, e, hN⟩ := h.n hn
    rw [if_pos hn, if_pos hn, e]
    obtain ⟨w, w1, w2, w3, -⟩ := hN.1.2.2.2.2.2.2.1
    rw [Nat.add_comm 23, w3]
    exact w2
  · rw [if_neg hn, if_neg hn]
theorem E_received (h : BR t 1 C D J) : r10_received nd C D = r11_received nd J L := by
  unfold r10_received r11_received
  unfold r11_of
  show (if r10_isNode nd = true then _ else _) = (if r10_isNode nd = true then _ else _)
  by_cases hn : r10_isNode nd = true
  · obtain ⟨i, hi, e, hN⟩ := h.n hn
    rw [if_pos hn, if_pos hn, e]
    obtain ⟨w, w1, w2, w3, -⟩ := hN.1.2.2.2.2.2.2.2.1
    rw [Nat.add_comm 24, w3]
    exact w2
  · rw [if_neg hn, if_neg hn]
theorem psv_eq {i : Nat} (h : BR t 1 C D J) (hN : NR t (4 + 16 * i) i C D J) : r6_isErrorPassive (4 + 16 * i) 2 C D = r11_isPassiveNow i J L := by
  obtain ⟨p, q, r, -, -, -, -, -, -, e1, e2, -⟩ := h.2.2.1
  unfold r6_isErrorPassive r11_isPassiveNow
  rw [show C 2 0 = nI p from e1, e2, hN.1.2.1.1, hN.1.2.2.1.1]
theorem E_isPassive (h : BR t 1 C D J) : r10_isPassive nd C D = r11_isPassive nd J L := by
  unfold r10_isPassive r11_isPassive
  show (if r10_isNode nd = true then _ else _) = (if r10_isNode nd = true then _ else _)
  by_cases hn : r10_isNode nd = true
  · obtain ⟨i, hi, e, hN⟩ := h.n hn
    rw [if_pos hn, if_pos hn, e]
    rw [psv_eq (L := L) h hN]
    cases r11_isPassiveNow i J L <;> decide
  · rw [if_neg hn, if_neg hn]
theorem E_lastError (h : BR t 1 C D J) : r10_lastError nd C D = r11_lastError nd J L := by
  unfold r10_lastError r11_lastError
  show (if r10_isNode nd = true then _ else _) = (if r10_isNode nd = true then _ else _)
  by_cases hn : r10_isNode nd = true
  · obtain ⟨i, hi, e, hN⟩ := h.n hn
    rw [if_pos hn, if_pos hn, e]
    obtain ⟨m, m1, m2, m3⟩ := hN.1.2.2.2.2.2.1.2.1
    unfold r11_lastOf
    rw [m2, show C (4 + 16 * i + 1) 1 = _ from m3]
    by_cases g : m = 0
    · subst g; decide
    · rw [if_neg g, if_neg (nI_ne0 (by omega) (by omega))]
  · rw [if_neg hn, if_neg hn]
theorem E_errors {kd : Int32} (h : BR t 1 C D J) : r10_errors nd kd C D = r11_errors nd kd J L := by
  unfold r10_errors r11_errors
  show (if r10_isNode nd = true then _ else _) = (if r10_isNode nd = true then _ else _)
  by_cases hn : r10_isNode nd = true
  · obtain ⟨i, hi, e, hN⟩ := h.n hn
    rw [if_pos hn, if_pos hn, e]
    show (if r10_isWithin kd 1 5 = true then _ else _) = (if r10_isWithin kd 1 5 = true then _ else _)
    by_cases g : r10_isWithin kd 1 5 = true
    · obtain ⟨d, d1, d2, rfl⟩ := within_nat (a := 1) (b := 5) (by decide) (by decide) g
      rw [if_pos g, if_pos g, nI_clamp (by omega)]
      exact (hN.1.2.2.2.2.2.1.1 d d2 d1).trans (by rw [show d + 256 * i + 5 = 256 * i + d + 5 by omega])
    · rw [if_neg g, if_neg g]
  · rw [if_neg hn, if_neg hn]
theorem E_waitingFrame (h : BR t 1 C D J) : r10_waitingFrame nd x C D = r11_waitingFrame nd x J L := by
  unfold r10_waitingFrame r11_waitingFrame
  show (if r10_isNode nd = true then _ else _) = (if r10_isNode nd = true then _ else _)
  by_cases hn : r10_isNode nd = true
  · obtain ⟨i, hi, e, hN⟩ := h.n hn
    rw [if_pos hn, if_pos hn, e]
    obtain ⟨w, w1, w2, w3, w4, -⟩ := hN.1.2.2.2.2.2.2.1
    unfold r3_keyAt
    have q := has_eq (x := x) (D := D) (c := 4) (by omega) w2 w3
    by_cases g : r3_has (4 + 16 * i + 3) 4 x C D = true
    · rw [if_pos g, if_pos (q.mp g)]
      obtain ⟨j, j1, j2⟩ := has_ix (by omega) w2 g
      obtain ⟨idn, rm, ln, -, -, -, a4, a5, -, a7, -⟩ := w4 j j1
      unfold r11_keyOf
      rw [j2, a4, a5, key2]
      exact a7
    · rw [if_neg g, if_neg (fun z => g (q.mpr z))]
  · rw [if_neg hn, if_neg hn]
theorem E_receivedFrame (h : BR t 1 C D J) : r10_receivedFrame nd x C D = r11_receivedFrame nd x J L := by
  unfold r10_receivedFrame r11_receivedFrame
  show (if r10_isNode nd = true then _ else _) = (if r10_isNode nd = true then _ else _)
  by_cases hn : r10_isNode nd = true
  · obtain ⟨i, hi, e, hN⟩ := h.n hn
    rw [if_pos hn, if_pos hn, e]
    obtain ⟨w, w1, w2, w3, a4⟩ := hN.1.2.2.2.2.2.2.2.1
    unfold r3_keyAt r11_isGot
    have q := has_eq (x := x) (D := D) (c := 6) (by omega) w2 w3
    by_cases g : r3_has (4 + 16 * i + 7) 6 x C D = true
    · rw [if_pos g, if_pos (q.mp g)]
      obtain ⟨j, j1, j2⟩ := has_ix (by omega) w2 g
      unfold r11_gotKey
      rw [j2]
      exact (a4 j j1).1
    · rw [if_neg g, if_neg (fun z => g (q.mpr z))]
  · rw [if_neg hn, if_neg hn]
theorem E_receivedLength (h : BR t 1 C D J) : r10_receivedLength nd x C D = r11_receivedLength nd x J L := by
  unfold r10_receivedLength r11_receivedLength
  show (if r10_isNode nd = true then _ else _) = (if r10_isNode nd = true then _ else _)
  by_cases hn : r10_isNode nd = true
  · obtain ⟨i, hi, e, hN⟩ := h.n hn
    rw [if_pos hn, if_pos hn, e]
    obtain ⟨w, w1, w2, w3, a4⟩ := hN.1.2.2.2.2.2.2.2.1
    unfold r3_lengthAt r11_isGot
    have q := has_eq (x := x) (D := D) (c := 6) (by omega) w2 w3
    by_cases g : r3_has (4 + 16 * i + 7) 6 x C D = true
    · rw [if_pos g, if_pos (q.mp g)]
      obtain ⟨j, j1, j2⟩ := has_ix (by omega) w2 g
      rw [j2, show 4 * j + 256 * i + 52 = 256 * i + 4 * j + 52 by omega]
      exact (a4 j j1).2.1
    · rw [if_neg g, if_neg (fun z => g (q.mpr z))]
  · rw [if_neg hn, if_neg hn]
theorem E_receivedData (h : BR t 1 C D J) : r10_receivedData nd x C D = r11_receivedData nd x J L := by
  unfold r10_receivedData r11_receivedData
  show (if r10_isNode nd = true then _ else _) = (if r10_isNode nd = true then _ else _)
  by_cases hn : r10_isNode nd = true
  · obtain ⟨i, hi, e, hN⟩ := h.n hn
    rw [if_pos hn, if_pos hn, e]
    obtain ⟨w, w1, w2, w3, a4⟩ := hN.1.2.2.2.2.2.2.2.1
    unfold r3_dataAt r11_isGot
    have q := has_eq (x := x) (D := D) (c := 6) (by omega) w2 w3
    by_cases g : r3_has (4 + 16 * i + 7) 6 x C D = true
    · rw [if_pos g, if_pos (q.mp g)]
      obtain ⟨j, j1, j2⟩ := has_ix (by omega) w2 g
      rw [j2, show 4 * j + 256 * i + 53 = 256 * i + 4 * j + 53 by omega]
      exact (a4 j j1).2.2
    · rw [if_neg g, if_neg (fun z => g (q.mpr z))]
  · rw [if_neg hn, if_neg hn]
theorem E_time (h : BR t 1 C D J) : r10_time C D = r11_time J L := h.1.trans h.2.1.symm
theorem nI_sub {a b : Nat} (h : b ≤ a) : nI a - nI b = nI (a - b) := by
  have e : a = (a - b) + b := by omega
  have e2 : nI a = nI (a - b) + nI b := by
    conv => lhs; rw [e]
    simp only [nI, Int32.ofNat_add]
  rw [e2]
  exact Int32.add_sub_cancel _ _
theorem lvb_eq (ht : t < 2 ^ 30) {y : Nat} (hy : y ≤ 256) (h : BR t 1 C D J) : r0_levelBefore 1 (nI y) C D = (if nI y ≤ nI ((J 297 1024).toNatClampNeg) then J 297 ((1050) + ((((J 297 1024).toNatClampNeg) - y) % 256)) else (-5)) := by
  unfold r0_levelBefore
  rw [h.1, h.2.1, nI_clamp (by omega)]
  by_cases g : y ≤ t
  · rw [if_pos (nI_le g (by omega)), if_pos (nI_le g (by omega)), nI_sub g, pk_andN (by omega) 8 (by decide), nI_clamp (by omega), Nat.add_comm 1050]
    exact h.2.2.2.2.2 _ (Nat.mod_lt _ (by decide))
  · rw [if_neg (nI_ge (by omega) (by omega)), if_neg (nI_ge (by omega) (by omega))]
theorem E_level (ht : t < 2 ^ 30) (h : BR t 1 C D J) : r10_level x C D = r11_level x J L := by
  unfold r10_level r11_level
  show (if r10_isWithin x 1 256 = true then _ else _) = (if r10_isWithin x 1 256 = true then _ else _)
  by_cases g : r10_isWithin x 1 256 = true
  · obtain ⟨y, y1, y2, rfl⟩ := within_nat (a := 1) (b := 256) (by decide) (by decide) g
    rw [if_pos g, if_pos g, nI_clamp (n := y) (by omega)]
    exact lvb_eq ht y1 h
  · rw [if_neg g, if_neg g]
theorem tk_eq {i k l : Nat} (hN : NR t k i C D J) : (r6_takesPart k l C D = true) ↔ ¬ (J 297 (256 * i) = 0 ∨ J 297 (256 * i) = 1) := by
  unfold r6_takesPart
  rw [hN.2.1]
  by_cases g : J 297 (256 * i) = 0 ∨ J 297 (256 * i) = 1
  · rw [if_pos g]; exact ⟨fun h => absurd h (by decide), fun h => absurd g h⟩
  · rw [if_neg g]; exact ⟨fun _ => g, fun _ => rfl⟩
theorem key0_eq {i k : Nat} (hN : NR t k i C D J) {w : Nat} (h0 : 0 < w) (hw : J 297 (256 * i + 23) = nI w) (hw4 : w ≤ 4) : r3_keyAt (k + 3) 4 0 C D = r11_keyOf i 0 J L := by
  obtain ⟨w', w1, w2, w3, w4, -⟩ := hN.1.2.2.2.2.2.2.1
  have e : w' = w := by
    have q := w3.symm.trans hw
    have := congrArg Int32.toNatClampNeg q
    rwa [nI_clamp (by omega), nI_clamp (by omega)] at this
  subst e
  unfold r3_keyAt r3_has r11_keyOf
  rw [w2, if_neg (c := (0 : Int32) < 0 ∨ nI w' ≤ 0) (fun g => g.elim (by decide) (fun g => nI_ge (a := 0) h0 (by omega) g)), if_pos rfl]
  obtain ⟨idn, rm, ln, -, -, -, a4, a5, -, a7, -⟩ := w4 0 h0
  rw [a4, a5, key2]
  exact a7
theorem E_winner (h : BR t 1 C D J) : r10_winner C D = r11_winner J L := by
  unfold r10_winner r11_winner r0_nextWinner
  have key : ∀ n i z y, i + n = 4 → (z = (-5) ∨ ∃ b, b < 4 ∧ z = nI b ∧ y = r11_keyOf b 0 J L) → r0_nextWinner_7 1 n i z y C D = r11_winner_5 n i z J L := by
    intro n
    induction n with
    | zero => intro i z y _ _; rfl
    | succ n ih =>
      intro i z y hi hz
      have hN := h.2.2.2.1 i (by omega)
      simp only [r0_nextWinner_7, r11_winner_5]
      obtain ⟨w, w1, w2, w3, -⟩ := hN.1.2.2.2.2.2.2.1
      have w2' : C (1 + 3 + 16 * i + 3) 3 = nI w := w2
      have tk := tk_eq (l := 1 + 1) hN
      rw [w2', w3]
      by_cases g : J 297 (256 * i) = 0 ∨ J 297 (256 * i) = 1
      · have e1 : ¬ (r6_takesPart (1 + 3 + 16 * i) (1 + 1) C D = true) := fun q => tk.mp q g
        simp only [if_neg e1]
        rw [if_pos (c := J 297 (256 * i) = 0 ∨ J 297 (256 * i) = 1 ∨ nI w ≤ 0) (g.elim Or.inl (fun q => Or.inr (Or.inl q))), if_neg (c := false = true) (by decide)]
        exact ih _ _ _ (by omega) hz
      · simp only [if_pos (tk.mpr g)]
        by_cases g0 : w = 0
        · subst g0
          rw [if_pos (c := J 297 (256 * i) = 0 ∨ J 297 (256 * i) = 1 ∨ nI 0 ≤ 0) (Or.inr (Or.inr (by decide))), if_neg (c := false = true) (by decide), if_pos (c := nI 0 = 0) rfl, if_pos (c := nI 0 = 0) rfl]
          exact ih _ _ _ (by omega) hz
        · have n0 : ¬ nI w = 0 := nI_ne0 (by omega) (by omega)
          have k0 := key0_eq (L := L) hN (by omega) w3 w1
          rw [if_neg (c := J 297 (256 * i) = 0 ∨ J 297 (256 * i) = 1 ∨ nI w ≤ 0) (fun q => q.elim (fun q => g (Or.inl q)) (fun q => q.elim (fun q => g (Or.inr q)) (fun q => nI_ge (a := 0) (by omega) (by omega) q))), if_pos (c := true = true) rfl, if_neg n0, if_neg n0, k0]
          rcases hz with q | ⟨b, b1, b2, b3⟩
          · rw [if_pos (c := z = (-5) ∨ ¬ y ≤ r11_keyOf i 0 J L) (Or.inl q), if_pos (c := z = (-5) ∨ ¬ y ≤ r11_keyOf i 0 J L) (Or.inl q), if_pos q]
            exact ih _ _ _ (by omega) (Or.inr ⟨i, by omega, rfl, rfl⟩)
          · have nz : ¬ z = (-5) := by rw [b2]; exact (by decide : ∀ b, b < 4 → ¬ nI b = (-5)) b b1
            rw [if_neg nz, b2, nI_clamp (by omega), ← b3, ← b2]
            by_cases g2 : y ≤ r11_keyOf i 0 J L
            · rw [if_pos g2, if_neg (c := z = (-5) ∨ ¬ y ≤ r11_keyOf i 0 J L) (fun q => q.elim nz (fun q => q g2)), if_neg (c := z = (-5) ∨ ¬ y ≤ r11_keyOf i 0 J L) (fun q => q.elim nz (fun q => q g2))]
              exact ih _ _ _ (by omega) (Or.inr ⟨b, b1, b2, b3⟩)
            · rw [if_neg g2, if_pos (c := z = (-5) ∨ ¬ y ≤ r11_keyOf i 0 J L) (Or.inr g2), if_pos (c := z = (-5) ∨ ¬ y ≤ r11_keyOf i 0 J L) (Or.inr g2)]
              exact ih _ _ _ (by omega) (Or.inr ⟨i, by omega, rfl, rfl⟩)
  exact key 4 0 (-5) 0 (by omega) (Or.inl rfl)
theorem E_worstBits : r10_worstBits x C D = r11_worstBits x J L := rfl
end RD
