/-! every call: equal answers, everything beside everything again; the class leaves the reference's cells, the reference the class's -/
section YES
variable {b t : Nat} {C J C' J' : Nat → Nat → Int32} {D D' L : Nat → Nat → Int64} {x nd : Int32}
def OK2 (b : Nat) (C : Nat → Nat → Int32) (J C' : Nat → Nat → Int32) (D' : Nat → Nat → Int64) (J' : Nat → Nat → Int32) : Prop := REL (b + 1000) C' D' J' ∧ (∀ a, 296 ≤ a → C' a = C a) ∧ ∀ a, a < 296 → J' a = J a
theorem REL.le {b' : Nat} (h : REL b C D J) (hb : b ≤ b') : REL b' C D J := by
  obtain ⟨t, h1, h2⟩ := h.1
  exact h.of hb ⟨t, by omega, h2⟩ (fun _ _ => rfl) (fun _ _ _ => rfl) (fun _ _ _ => rfl) rfl rfl
theorem OK2.rf (h : REL b C D J) : OK2 b C J C D J := ⟨h.le (by omega), fun _ _ => rfl, fun _ _ => rfl⟩
theorem OK2.st (h : REL b C D J) (ht : t ≤ b + 1000) (s : ST t C D J C' D' J') : OK2 b C J C' D' J' := ⟨h.st (by omega) ht s, fun a ha => s.2.1 a (by omega), fun a ha => s.2.2.2 a (by omega)⟩
theorem REL.ofJ (h : REL b C D J) (e : ∀ a, 296 ≤ a → J' a = J a) : REL b C D J' := by
  obtain ⟨t, h1, h2⟩ := h.1
  exact h.of (Nat.le_refl _) ⟨t, h1, h2.row (e 297 (by decide))⟩ (fun _ _ => rfl) (fun _ _ _ => rfl) (fun a g1 g2 => e a (by omega)) (by rw [e 296 (by decide)]) (by rw [e 296 (by decide)])
theorem REL.ofC (h : REL b C D J) (e : ∀ a, a < 296 → C' a = C a) : REL b C' D J := by
  obtain ⟨t, h1, h2⟩ := h.1
  exact h.of (Nat.le_refl _) ⟨t, h1, h2.rows (fun a g1 g2 => ⟨e a (by omega), rfl⟩)⟩ (fun a g => e a (by omega)) (fun _ _ _ => rfl) (fun _ _ _ => rfl) rfl rfl
theorem Y_setLimits {a1 a2 a3 : Int32} (h : REL b C D J) : r10_setLimits a1 a2 a3 C D = r11_setLimits a1 a2 a3 J L ∧ OK2 b C J (i10_setLimits a1 a2 a3 C D) D (i11_setLimits a1 a2 a3 J L) := by
  obtain ⟨t, h1, h2⟩ := h.1
  exact ⟨E_setLimits h2, OK2.st h (by omega) (K_setLimits h2)⟩
theorem Y_setFilter {a1 a2 : Int32} (h : REL b C D J) : r10_setFilter nd a1 a2 C D = r11_setFilter nd a1 a2 J L ∧ OK2 b C J (i10_setFilter nd a1 a2 C D) D (i11_setFilter nd a1 a2 J L) := by
  obtain ⟨t, h1, h2⟩ := h.1
  exact ⟨E_setFilter h2, OK2.st h (by omega) (K_setFilter h2)⟩
theorem Y_setAnswer {a1 a2 a3 : Int32} (h : REL b C D J) : r10_setAnswer nd a1 a2 a3 C D = r11_setAnswer nd a1 a2 a3 J L ∧ OK2 b C J (i10_setAnswer nd a1 a2 a3 C D) D (i11_setAnswer nd a1 a2 a3 J L) := by
  obtain ⟨t, h1, h2⟩ := h.1
  exact ⟨(K_setAnswer h2).2, OK2.st h (by omega) (K_setAnswer h2).1⟩
theorem Y_removeAnswer (h : REL b C D J) : r10_removeAnswer nd x C D = r11_removeAnswer nd x J L ∧ OK2 b C J (i10_removeAnswer nd x C D) D (i11_removeAnswer nd x J L) := by
  obtain ⟨t, h1, h2⟩ := h.1
  exact ⟨(K_removeAnswer h2).2, OK2.st h (by omega) (K_removeAnswer h2).1⟩
theorem Y_detach (h : REL b C D J) : r10_detach nd C D = r11_detach nd J L ∧ OK2 b C J (i10_detach nd C D) D (i11_detach nd J L) := by
  obtain ⟨t, h1, h2⟩ := h.1
  exact ⟨E_detach h2, OK2.st h (by omega) (K_detach h2)⟩
theorem Y_attach (h : REL b C D J) : r10_attach nd C D = r11_attach nd J L ∧ OK2 b C J (i10_attach nd C D) D (i11_attach nd J L) := by
  obtain ⟨t, h1, h2⟩ := h.1
  exact ⟨E_attach h2, OK2.st h (by omega) (K_attach h2)⟩
theorem Y_request {a1 a2 a3 a4 : Int32} (h : REL b C D J) : r10_request nd a1 a2 a3 a4 C D = r11_request nd a1 a2 a3 a4 J L ∧ OK2 b C J (i10_request nd a1 a2 a3 a4 C D) D (i11_request nd a1 a2 a3 a4 J L) := by
  obtain ⟨t, h1, h2⟩ := h.1
  exact ⟨(K_request h2).2, OK2.st h (by omega) (K_request h2).1⟩
theorem Y_cancel (h : REL b C D J) : r10_cancel nd x C D = r11_cancel nd x J L ∧ OK2 b C J (i10_cancel nd x C D) D (i11_cancel nd x J L) := by
  obtain ⟨t, h1, h2⟩ := h.1
  exact ⟨(K_cancel h2).2, OK2.st h (by omega) (K_cancel h2).1⟩
theorem Y_disturb {a1 : Int32} (h : REL b C D J) : r10_disturb a1 x C D = r11_disturb a1 x J L ∧ OK2 b C J (i10_disturb a1 x C D) D (i11_disturb a1 x J L) := by
  obtain ⟨t, h1, h2⟩ := h.1
  exact ⟨(K_disturb h2).2, OK2.st h (by omega) (K_disturb h2).1⟩
theorem Y_discard (h : REL b C D J) : r10_discard nd C D = r11_discard nd J L ∧ OK2 b C J (i10_discard nd C D) D (i11_discard nd J L) := by
  obtain ⟨t, h1, h2⟩ := h.1
  exact ⟨(K_discard h2).2, OK2.st h (by omega) (K_discard h2).1⟩
theorem Y_run (hb : b < 2 ^ 26) (h : REL b C D J) : r10_run x C D = r11_run x J L ∧ OK2 b C J (i10_run x C D) (m10_run x C D) (i11_run x J L) := by
  obtain ⟨t, h1, h2⟩ := h.1
  obtain ⟨t', k1, k2, k3⟩ := K_run (x := x) (L := L) (show t < 2 ^ 26 by omega) h2
  exact ⟨k3, OK2.st h (by omega) k2⟩
theorem Y_settle (hb : b < 2 ^ 26) (h : REL b C D J) : r10_settle  C D = r11_settle  J L ∧ OK2 b C J (i10_settle  C D) (m10_settle  C D) (i11_settle  J L) := by
  obtain ⟨t, h1, h2⟩ := h.1
  obtain ⟨t', k1, k2, k3⟩ := K_settle (L := L) (show t < 2 ^ 26 by omega) h2
  exact ⟨k3, OK2.st h (by omega) k2⟩
theorem Y_phase (h : REL b C D J) : r10_phase nd C D = r11_phase nd J L ∧ OK2 b C J C D J := by
  obtain ⟨t, h1, h2⟩ := h.1
  exact ⟨E_phase h2, OK2.rf h⟩
theorem Y_isTransmitter (h : REL b C D J) : r10_isTransmitter nd C D = r11_isTransmitter nd J L ∧ OK2 b C J C D J := by
  obtain ⟨t, h1, h2⟩ := h.1
  exact ⟨E_isTransmitter h2, OK2.rf h⟩
theorem Y_transmitErrors (h : REL b C D J) : r10_transmitErrors nd C D = r11_transmitErrors nd J L ∧ OK2 b C J C D J := by
  obtain ⟨t, h1, h2⟩ := h.1
  exact ⟨E_transmitErrors h2, OK2.rf h⟩
theorem Y_receiveErrors (h : REL b C D J) : r10_receiveErrors nd C D = r11_receiveErrors nd J L ∧ OK2 b C J C D J := by
  obtain ⟨t, h1, h2⟩ := h.1
  exact ⟨E_receiveErrors h2, OK2.rf h⟩
theorem Y_isPassive (h : REL b C D J) : r10_isPassive nd C D = r11_isPassive nd J L ∧ OK2 b C J C D J := by
  obtain ⟨t, h1, h2⟩ := h.1
  exact ⟨E_isPassive h2, OK2.rf h⟩
theorem Y_errors (h : REL b C D J) : r10_errors nd x C D = r11_errors nd x J L ∧ OK2 b C J C D J := by
  obtain ⟨t, h1, h2⟩ := h.1
  exact ⟨E_errors h2, OK2.rf h⟩
theorem Y_lastError (h : REL b C D J) : r10_lastError nd C D = r11_lastError nd J L ∧ OK2 b C J C D J := by
  obtain ⟨t, h1, h2⟩ := h.1
  exact ⟨E_lastError h2, OK2.rf h⟩
theorem Y_lostArbitrations (h : REL b C D J) : r10_lostArbitrations nd C D = r11_lostArbitrations nd J L ∧ OK2 b C J C D J := by
  obtain ⟨t, h1, h2⟩ := h.1
  exact ⟨E_lostArbitrations h2, OK2.rf h⟩
theorem Y_overloads (h : REL b C D J) : r10_overloads nd C D = r11_overloads nd J L ∧ OK2 b C J C D J := by
  obtain ⟨t, h1, h2⟩ := h.1
  exact ⟨E_overloads h2, OK2.rf h⟩
theorem Y_sent (h : REL b C D J) : r10_sent nd C D = r11_sent nd J L ∧ OK2 b C J C D J := by
  obtain ⟨t, h1, h2⟩ := h.1
  exact ⟨E_sent h2, OK2.rf h⟩
theorem Y_overruns (h : REL b C D J) : r10_overruns nd C D = r11_overruns nd J L ∧ OK2 b C J C D J := by
  obtain ⟨t, h1, h2⟩ := h.1
  exact ⟨E_overruns h2, OK2.rf h⟩
theorem Y_waiting (h : REL b C D J) : r10_waiting nd C D = r11_waiting nd J L ∧ OK2 b C J C D J := by
  obtain ⟨t, h1, h2⟩ := h.1
  exact ⟨E_waiting h2, OK2.rf h⟩
theorem Y_waitingFrame (h : REL b C D J) : r10_waitingFrame nd x C D = r11_waitingFrame nd x J L ∧ OK2 b C J C D J := by
  obtain ⟨t, h1, h2⟩ := h.1
  exact ⟨E_waitingFrame h2, OK2.rf h⟩
theorem Y_received (h : REL b C D J) : r10_received nd C D = r11_received nd J L ∧ OK2 b C J C D J := by
  obtain ⟨t, h1, h2⟩ := h.1
  exact ⟨E_received h2, OK2.rf h⟩
theorem Y_receivedFrame (h : REL b C D J) : r10_receivedFrame nd x C D = r11_receivedFrame nd x J L ∧ OK2 b C J C D J := by
  obtain ⟨t, h1, h2⟩ := h.1
  exact ⟨E_receivedFrame h2, OK2.rf h⟩
theorem Y_receivedLength (h : REL b C D J) : r10_receivedLength nd x C D = r11_receivedLength nd x J L ∧ OK2 b C J C D J := by
  obtain ⟨t, h1, h2⟩ := h.1
  exact ⟨E_receivedLength h2, OK2.rf h⟩
theorem Y_receivedData (h : REL b C D J) : r10_receivedData nd x C D = r11_receivedData nd x J L ∧ OK2 b C J C D J := by
  obtain ⟨t, h1, h2⟩ := h.1
  exact ⟨E_receivedData h2, OK2.rf h⟩
theorem Y_time (h : REL b C D J) : r10_time  C D = r11_time  J L ∧ OK2 b C J C D J := by
  obtain ⟨t, h1, h2⟩ := h.1
  exact ⟨E_time h2, OK2.rf h⟩
theorem Y_winner (h : REL b C D J) : r10_winner  C D = r11_winner  J L ∧ OK2 b C J C D J := by
  obtain ⟨t, h1, h2⟩ := h.1
  exact ⟨E_winner h2, OK2.rf h⟩
theorem Y_level (hb : b < 2 ^ 26) (h : REL b C D J) : r10_level x C D = r11_level x J L ∧ OK2 b C J C D J := by
  obtain ⟨t, h1, h2⟩ := h.1
  exact ⟨E_level (by omega) h2, OK2.rf h⟩
theorem Y_checksum (hb : b < 2 ^ 26) (h : REL b C D J) : r10_checksum  C D = r11_checksum  J L ∧ OK2 b C J C D J := by
  obtain ⟨t, h1, h2⟩ := h.1
  exact ⟨E_checksum (by omega) h2, OK2.rf h⟩
theorem Y_worstBits (h : REL b C D J) : r10_worstBits x C D = r11_worstBits x J L ∧ OK2 b C J C D J := ⟨E_worstBits, OK2.rf h⟩
theorem Y_responseTime (h : REL b C D J) : r10_responseTime x C D = r11_responseTime x J L ∧ OK2 b C J C D J := ⟨E_responseTime h.2.2.1, OK2.rf h⟩
theorem Y_misses (h : REL b C D J) : r10_misses C D = r11_misses J L ∧ OK2 b C J C D J := ⟨E_misses h.2.2.1, OK2.rf h⟩
theorem Y_bitsUntilSent (hb : b < 2 ^ 26) (h : REL b C D J) : r10_bitsUntilSent nd C D = r11_bitsUntilSent nd J L ∧ OK2 b C J (i10_bitsUntilSent nd C D) (m10_bitsUntilSent nd C D) (i11_bitsUntilSent nd J L) := by
  obtain ⟨k1, k2⟩ := Z_bitsUntilSent (L := L) (nd := nd) hb h
  refine ⟨k1, k2.le (by omega), fun a ha => ?_, fun a ha => ?_⟩
  · unfold i10_bitsUntilSent
    split
    · rw [(bus_rows _ _ _ _ _ a (by omega)).1]; exact x0_copyFrom (by omega)
    · rfl
  · obtain ⟨t, ht, hB⟩ := h.1
    unfold i11_bitsUntilSent
    by_cases hn : r10_isNode nd = true
    · have hn' : r11_isNode nd = true := hn
      obtain ⟨i, hi, e, -⟩ := hB.n hn
      rw [if_pos hn', e]
      obtain ⟨K, q1, -, -, q4, -⟩ := sp_1 (nd := nd) (ni := i) (L := L) 1310 0 J
      have hK : BR t 72 (i0_copyFrom 72 1 C D) (m0_copyFrom 72 1 C D) K := (BR.copy (B := 72) (B2 := 1) (by omega) hB).row (q1 297 (by decide))
      rw [q4, (bus_K (nd := nd) (L := L) hi 1000 0 t (K 297 (256 * i + 14)) _ _ _ (by omega) hK rfl).2.1 a (by omega), q1 a (by omega)]
    · have hn' : ¬ r11_isNode nd = true := hn
      rw [if_neg hn']
theorem Y_save (h : REL b C D J) : r10_save x C D = r11_save x J L ∧ OK2 b C J (i10_save x C D) (m10_save x C D) (i11_save x J L) := by
  obtain ⟨k1, k2⟩ := Z_save (L := L) (x := x) h
  refine ⟨k1, k2.le (by omega), fun a ha => ?_, fun a ha => ?_⟩
  · unfold i10_save
    by_cases g : r10_isSlot x = true
    · obtain ⟨s, s1, -, e⟩ := within_nat (a := 0) (b := 1) (by decide) (by decide) g
      rw [if_pos g, uI_off _ _ _ (by omega)]
      exact x0_copyFrom (by rw [e, nI_clamp (by omega)]; omega)
    · rw [if_neg g]
  · unfold i11_save
    split
    · exact (sv_1 _ _ _).1 a (by omega) (by omega)
    · rfl
theorem Y_restore (h : REL b C D J) : r10_restore x C D = r11_restore x J L ∧ OK2 b C J (i10_restore x C D) (m10_restore x C D) (i11_restore x J L) := by
  obtain ⟨k1, k2⟩ := Z_restore (L := L) (x := x) h
  refine ⟨k1, k2.le (by omega), fun a ha => ?_, fun a ha => ?_⟩
  · unfold i10_restore
    split
    · split
      · rfl
      · exact x0_copyFrom (by omega)
    · rfl
  · unfold i11_restore
    split
    · split
      · rfl
      · exact (rs_1 _ _ _).1 a (by omega)
    · rfl
/-- only the walker and the row that is asked about change -/
theorem OK2.wk (h : REL b C D J) (hC : ∀ a, a ≠ 287 → C' a = C a) (hD : ∀ a, a ≠ 287 → D' a = D a) (hJ : ∀ a, a ≠ 303 → J' a = J a) : OK2 b C J C' D' J' := by
  obtain ⟨t, h1, h2⟩ := h.1
  exact ⟨h.of (by omega) ⟨t, by omega, (h2.rows (fun a g1 g2 => ⟨hC a (by omega), hD a (by omega)⟩)).row (hJ 297 (by decide))⟩ (fun a g => hC a (by omega)) (fun a g1 g2 => hD a (by omega)) (fun a g1 g2 => hJ a (by omega)) (by rw [hJ 296 (by decide)]) (by rw [hJ 296 (by decide)]), fun a ha => hC a (by omega), fun a ha => hJ a (by omega)⟩
theorem lays_row {idi rmi lni dt : Int32} {f : Nat} {I : Nat → Nat → Int32} {a : Nat} (ha : a ≠ 303) : (i11_lays 303 f idi rmi (lni.toNatClampNeg) dt I L) a = I a := by
  funext y
  rw [laysG rfl, if_neg (fun z => ha z.1)]
theorem Y_crc {a1 a2 a3 a4 : Int32} (h : REL b C D J) : r10_crc a1 a2 a3 a4 C D = r11_crc a1 a2 a3 a4 J L ∧ OK2 b C J (i10_crc a1 a2 a3 a4 C D) (m10_crc a1 a2 a3 a4 C D) (i11_crc a1 a2 a3 a4 J L) := by
  refine ⟨E_crc, OK2.wk h (fun a ha => ?_) (fun a ha => ?_) (fun a ha => ?_)⟩
  · unfold i10_crc
    split
    · exact x10_walk ha
    · rfl
  · unfold m10_crc
    split
    · exact y10_walk ha
    · rfl
  · unfold i11_crc
    split
    · exact lays_row ha
    · rfl
theorem Y_frameBits {a1 a2 a3 a4 : Int32} (h : REL b C D J) : r10_frameBits a1 a2 a3 a4 C D = r11_frameBits a1 a2 a3 a4 J L ∧ OK2 b C J (i10_frameBits a1 a2 a3 a4 C D) (m10_frameBits a1 a2 a3 a4 C D) (i11_frameBits a1 a2 a3 a4 J L) := by
  refine ⟨E_frameBits, OK2.wk h (fun a ha => ?_) (fun a ha => ?_) (fun a ha => ?_)⟩
  · unfold i10_frameBits
    split
    · exact x10_walk ha
    · rfl
  · unfold m10_frameBits
    split
    · exact y10_walk ha
    · rfl
  · unfold i11_frameBits
    split
    · exact lays_row ha
    · rfl
theorem Y_frameBit {a1 a2 a3 a4 : Int32} (h : REL b C D J) : r10_frameBit a1 a2 a3 a4 x C D = r11_frameBit a1 a2 a3 a4 x J L ∧ OK2 b C J (i10_frameBit a1 a2 a3 a4 x C D) (m10_frameBit a1 a2 a3 a4 x C D) (i11_frameBit a1 a2 a3 a4 x J L) := by
  refine ⟨E_frameBit, OK2.wk h (fun a ha => ?_) (fun a ha => ?_) (fun a ha => ?_)⟩
  · unfold i10_frameBit
    split
    · split
      · rfl
      · exact x10_walk ha
    · rfl
  · unfold m10_frameBit
    split
    · split
      · rfl
      · exact y10_walk ha
    · rfl
  · unfold i11_frameBit
    split
    · split
      · exact lays_row ha
      · rfl
    · rfl
theorem Y_addMessage {a1 a2 a3 a4 : Int32} (h : REL b C D J) : r10_addMessage a1 a2 a3 a4 C D = r11_addMessage a1 a2 a3 a4 J L ∧ OK2 b C J (i10_addMessage a1 a2 a3 a4 C D) D (i11_addMessage a1 a2 a3 a4 J L) := by
  obtain ⟨k1, k2, k3, k4, k5⟩ := K_addMessage (D := D) (L := L) (idn := a1) (ln := a2) (pd := a3) (jt := a4) h.2.2.1
  obtain ⟨t, h1, h2⟩ := h.1
  refine ⟨k1, ⟨⟨t, by omega, (h2.rows (fun a g1 g2 => ⟨k3 a (by omega), rfl⟩)).row (k4 297 (by decide) (by decide))⟩, h.2.1.of (by omega) (fun a g1 g2 => k3 a (by omega)) (fun _ _ _ => rfl) (k4 299 (by decide) (by decide)) (k4 300 (by decide) (by decide)), k2, h.2.2.2.of (by rw [k3 293 (by omega)]) (k3 295 (by omega)) (k5 5 (by decide)) (k4 301 (by decide) (by decide))⟩, fun a ha => k3 a (by omega), fun a ha => k4 a (by omega) (by omega)⟩
theorem Y_removeMessage (h : REL b C D J) : r10_removeMessage x C D = r11_removeMessage x J L ∧ OK2 b C J (i10_removeMessage x C D) D (i11_removeMessage x J L) := by
  obtain ⟨k1, k2, k3, k4, k5⟩ := K_removeMessage (D := D) (L := L) (x := x) h.2.2.1
  obtain ⟨t, h1, h2⟩ := h.1
  refine ⟨k1, ⟨⟨t, by omega, (h2.rows (fun a g1 g2 => ⟨k3 a (by omega), rfl⟩)).row (k4 297 (by decide) (by decide))⟩, h.2.1.of (by omega) (fun a g1 g2 => k3 a (by omega)) (fun _ _ _ => rfl) (k4 299 (by decide) (by decide)) (k4 300 (by decide) (by decide)), k2, h.2.2.2.of (by rw [k3 293 (by omega)]) (k3 295 (by omega)) (k5 5 (by decide)) (k4 301 (by decide) (by decide))⟩, fun a ha => k3 a (by omega), fun a ha => k4 a (by omega) (by omega)⟩
theorem Y_append (h : REL b C D J) : r10_append x C D = r11_append x J L ∧ OK2 b C J (i10_append x C D) D (i11_append x J L) := by
  obtain ⟨k1, k2⟩ := Z_append (L := L) (x := x) h
  refine ⟨k1, k2.le (by omega), fun a ha => ?_, fun a ha => ?_⟩
  · unfold i10_append
    split
    · exact x9_add (by omega) (by omega)
    · rfl
  · unfold i11_append
    split
    · split
      · rfl
      · rw [uI_off _ _ _ (by omega), uI_off _ _ _ (by omega)]
    · rfl
theorem Y_clearText (h : REL b C D J) : r10_clearText C D = r11_clearText J L ∧ OK2 b C J (i10_clearText C D) D (i11_clearText J L) := by
  obtain ⟨k1, k2⟩ := Z_clearText (L := L) h
  exact ⟨k1, k2.le (by omega), fun a ha => uI_off _ _ _ (by omega), fun a ha => uI_off _ _ _ (by omega)⟩
theorem Y_faultPosition (h : REL b C D J) : r10_faultPosition C D = r11_faultPosition J L ∧ OK2 b C J (i10_faultPosition C D) D (i11_faultPosition J L) := by
  obtain ⟨k1, k2⟩ := Z_faultPosition (L := L) h
  obtain ⟨t, t1, t2, t3, -⟩ := h.2.2.2.hr
  exact ⟨k1, k2.le (by omega), fun a ha => x9_findFault (by omega), fun a ha => (fo_k (L := L) t1 t3).2 a (by omega) (by omega)⟩
theorem Y_load (h : REL b C D J) : r10_load C D = r11_load J L ∧ OK2 b C J (i10_load C D) D (i11_load J L) := by
  obtain ⟨k1, k2, k3, k4⟩ := Z_load (L := L) h
  exact ⟨k1, k2.le (by omega), k3, k4⟩
/-- one memory for both -/
theorem OK2.join {I I1 : Nat → Nat → Int32} {L L1 : Nat → Nat → Int64} {r : Int32} {R : (Nat → Nat → Int32) → Int32} {F : (Nat → Nat → Int32) → Nat → Nat → Int32} (h : REL b I L I) (hE : ∀ J, REL b I L J → r = R J ∧ OK2 b I J I1 L1 (F J)) : r = R I1 ∧ REL b I L I1 ∧ REL (b + 1000) (F I1) L1 (F I1) := by
  have h1 : REL b I L I1 := h.ofJ (hE I h).2.2.1
  obtain ⟨k1, k2⟩ := hE I1 h1
  exact ⟨k1, h1, k2.1.ofC k2.2.2⟩
theorem OK2.joinl {I I1 : Nat → Nat → Int32} {L L1 : Nat → Nat → Int64} {r : Int64} {R : (Nat → Nat → Int32) → Int64} {F : (Nat → Nat → Int32) → Nat → Nat → Int32} (h : REL b I L I) (hE : ∀ J, REL b I L J → r = R J ∧ OK2 b I J I1 L1 (F J)) : r = R I1 ∧ REL b I L I1 ∧ REL (b + 1000) (F I1) L1 (F I1) := by
  have h1 : REL b I L I1 := h.ofJ (hE I h).2.2.1
  obtain ⟨k1, k2⟩ := hE I1 h1
  exact ⟨k1, h1, k2.1.ofC k2.2.2⟩
end YES
