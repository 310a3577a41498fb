/-! what the node's and the bus's own steps keep: sizes of lists, booleans -/
theorem ins31 {k c p : Nat} {key ln dt : Int32} : ∀ (n i : Nat) (I : Nat → Nat → Int32) (L : Nat → Nat → Int64), i3_insertAt_31 k c p key ln dt n i I L k 3 = I k 3 + 1 := by
  intro n
  induction n with
  | zero => intro i I L; simp only [i3_insertAt_31]; rw [uI_self]
  | succ n ih =>
    intro i I L
    simp only [i3_insertAt_31]
    rw [ih, uI_off _ _ _ (by omega), uI_off _ _ _ (by omega), uI_off _ _ _ (by omega)]
theorem ins_size {k c p s : Nat} {key ln dt : Int32} {I : Nat → Nat → Int32} {L : Nat → Nat → Int64} (hs : I k 3 = nI s) : (i3_insertAt k c p key ln dt I L) k 3 = nI (s + 1) := by
  unfold i3_insertAt
  rw [ins31, hs]
  exact nI_1 s
theorem rm_size2 {k c s : Nat} {x : Int32} {I : Nat → Nat → Int32} {L : Nat → Nat → Int64} (hs : I k 3 = nI s) (h6 : s ≤ 6) : ∃ t, t ≤ s ∧ (i3_removeAt k c x I L) k 3 = nI t := by
  by_cases h : r3_has k c x I L = true
  · obtain ⟨p, hp, rfl⟩ := has_p hs h6 h
    exact ⟨s - 1, by omega, rm_size hs hp h6⟩
  · refine ⟨s, Nat.le_refl _, ?_⟩
    unfold i3_removeAt
    rw [if_neg h]
    exact hs
theorem nV_rm {k : Nat} {x : Int32} {I : Nat → Nat → Int32} {L : Nat → Nat → Int64} (h : nV k I) : nV k (i3_removeAt (k + 3) 4 x I L) := by
  obtain ⟨⟨w, hw4, hw⟩, ⟨r, hr6, hr⟩, a, ha4, ha⟩ := h
  obtain ⟨t, h1, h2⟩ := rm_size2 (c := 4) (x := x) (L := L) hw (by omega)
  exact ⟨⟨t, by omega, h2⟩, ⟨r, hr6, (congrFun (x3_removeAt (by omega) (by omega) (by omega) (by omega)) _).trans hr⟩, a, ha4, (congrFun (x3_removeAt (by omega) (by omega) (by omega) (by omega)) _).trans ha⟩
theorem nV_o {k a j : Nat} {x : Int32} {I : Nat → Nat → Int32} (h1 : k + 3 ≠ a) (h2 : k + 7 ≠ a) (h3 : k + 11 ≠ a) (h : nV k I) : nV k (uI I a j x) := nV.of1 (uI_off _ _ _ h1) (uI_off _ _ _ h2) (uI_off _ _ _ h3) h
theorem nV_enq {k l : Nat} {key ln dt : Int32} {I : Nat → Nat → Int32} {L : Nat → Nat → Int64} (h : nV k I) : nV k (i6_enqueue k l key ln dt I L) := by
  unfold i6_enqueue
  split
  · exact h
  · rename_i hf
    have key2 : ∀ p, nV k (i3_insertAt (k + 3) 4 p key ln dt I L) := by
      intro p
      obtain ⟨⟨w, hw4, hw⟩, ⟨r, hr6, hr⟩, a, ha4, ha⟩ := h
      have h4 := nfull hw (by omega) (by omega) hf
      exact ⟨⟨w + 1, by omega, ins_size hw⟩, ⟨r, hr6, (congrFun (x3_insertAt (by omega) (by omega) (by omega) (by omega)) _).trans hr⟩, a, ha4, (congrFun (x3_insertAt (by omega) (by omega) (by omega) (by omega)) _).trans ha⟩
    split
    · exact key2 _
    · exact nV_o (by omega) (by omega) (by omega) (key2 _)
theorem nV_got {k p : Nat} {key ln dt : Int32} {I : Nat → Nat → Int32} {L : Nat → Nat → Int64} (hf : ¬ r3_isFull (k + 7) 6 I L = true) (h : nV k I) : nV k (i3_insertAt (k + 7) 6 p key ln dt I L) := by
  obtain ⟨⟨w, hw4, hw⟩, ⟨r, hr6, hr⟩, a, ha4, ha⟩ := h
  have h4 := nfull hr (by omega) (by omega) hf
  exact ⟨⟨w, hw4, (congrFun (x3_insertAt (by omega) (by omega) (by omega) (by omega)) _).trans hw⟩, ⟨r + 1, by omega, ins_size hr⟩, a, ha4, (congrFun (x3_insertAt (by omega) (by omega) (by omega) (by omega)) _).trans ha⟩
/-- the receive counter's step of an accepted frame -/
def aF (k l : Nat) (I : Nat → Nat → Int32) : Nat → Nat → Int32 := (if I k 11 < I l 0 then (if I k 11 ≤ 0 then I else uI I k 11 ((I k 11) - 1)) else uI I k 11 ((I l 0) - 8))
/-- the answer's index for a key -/
def aX (k : Nat) (key : Int32) (J : Nat → Nat → Int32) (L : Nat → Nat → Int64) : Int32 := (if key &&& 1 = 1 then r3_indexOf (k + 11) 4 (key - 1) J L else (-1))
theorem accept_eq (k l : Nat) (I : Nat → Nat → Int32) (L : Nat → Nat → Int64) : i6_acceptFrame k l I L =
    (if ((r2_sampledKey (k + 15) (aF k l I) L >>> (1 &&& 31)) ^^^ (I k 7)) &&& (I k 6) = 0 then
      (if aX k (r2_sampledKey (k + 15) (aF k l I) L) (aF k l I) L < 0 then
        (if (r3_isFull (k + 7) 6 (aF k l I) L) = true then uI (aF k l I) (k + 1) 5 ((I (k + 1) 5) + 1)
         else i3_insertAt (k + 7) 6 ((I (k + 7) 3).toNatClampNeg) (r2_sampledKey (k + 15) (aF k l I) L) (r2_sampledLength (k + 15) (aF k l I) L) (r2_sampledData (k + 15) (aF k l I) L) (aF k l I) L)
       else i6_enqueue k l (r2_sampledKey (k + 15) (aF k l I) L - 1) (r3_lengthAt (k + 11) 4 (aX k (r2_sampledKey (k + 15) (aF k l I) L) (aF k l I) L) (aF k l I) L) (r3_dataAt (k + 11) 4 (aX k (r2_sampledKey (k + 15) (aF k l I) L) (aF k l I) L) (aF k l I) L) (aF k l I) L)
     else aF k l I) := rfl
theorem nV_aF {k l : Nat} {I : Nat → Nat → Int32} (h : nV k I) : nV k (aF k l I) := by
  unfold aF
  (repeat' split) <;> first | exact h | exact nV_o (by omega) (by omega) (by omega) h
theorem nV_accept {k l : Nat} {I : Nat → Nat → Int32} {L : Nat → Nat → Int64} (h : nV k I) : nV k (i6_acceptFrame k l I L) := by
  rw [accept_eq]
  have h2 := nV_aF (l := l) h
  generalize aF k l I = J at h2 ⊢
  split
  · split
    · split
      · exact nV_o (by omega) (by omega) (by omega) h2
      · exact nV_got (by assumption) h2
    · exact nV_enq h2
  · exact h2
theorem nV_enter {k l : Nat} {x : Int32} {I : Nat → Nat → Int32} {L : Nat → Nat → Int64} (h : nV k I) : nV k (i6_enter k l x I L) := nV.of1 (x6_enter (by omega) (by omega)) (x6_enter (by omega) (by omega)) (x6_enter (by omega) (by omega)) h
theorem nV_fail {k l kd : Nat} {I : Nat → Nat → Int32} {L : Nat → Nat → Int64} (h : nV k I) : nV k (i6_fail k l kd I L) := nV.of1 (x6_fail (by omega) (by omega) (by omega)) (x6_fail (by omega) (by omega) (by omega)) (x6_fail (by omega) (by omega) (by omega)) h
theorem nV_end {k l : Nat} {x : Int32} {I : Nat → Nat → Int32} {L : Nat → Nat → Int64} (h : nV k I) : nV k (i6_endFrame k l x I L) := by
  unfold i6_endFrame
  split
  · split
    · exact nV_enter h
    · exact nV_fail h
  · apply nV_enter
    split
    · exact h
    · exact nV_o (by omega) (by omega) (by omega) (nV_o (by omega) (by omega) (by omega) (nV_rm h))
theorem nV_tail {k l : Nat} {x : Int32} {I : Nat → Nat → Int32} {L : Nat → Nat → Int64} (h : nV k I) : nV k (i6_actTail k l x I L) := by
  unfold i6_actTail
  have h2 : nV k (uI I (k + 15) 8 ((I (k + 15) 8) + 1)) := nV_o (by omega) (by omega) (by omega) h
  generalize uI I (k + 15) 8 ((I (k + 15) 8) + 1) = J at h2 ⊢
  (repeat' split) <;> first | exact h2 | exact nV_fail h2 | exact nV_accept h2 | exact nV_end h2
theorem nV_act {k l : Nat} {x : Int32} {I : Nat → Nat → Int32} {L : Nat → Nat → Int64} (h : nV k I) : nV k (i6_act k l x I L) := by
  unfold i6_act
  split
  · exact nV.of1 (x6_actBusOff (by omega) (by omega)) (x6_actBusOff (by omega) (by omega)) (x6_actBusOff (by omega) (by omega)) h
  split
  · exact nV.of1 (x6_actJoining (by omega) (by omega)) (x6_actJoining (by omega) (by omega)) (x6_actJoining (by omega) (by omega)) h
  split
  · exact nV.of1 (x6_actIdle (by omega) (by omega) (by omega) (by omega)) (x6_actIdle (by omega) (by omega) (by omega) (by omega)) (x6_actIdle (by omega) (by omega) (by omega) (by omega)) h
  split
  · split
    · exact nV.of1 (x6_actStuffedPart (by omega) (by omega) (by omega) (by omega)) (x6_actStuffedPart (by omega) (by omega) (by omega) (by omega)) (x6_actStuffedPart (by omega) (by omega) (by omega) (by omega)) h
    · exact nV_tail h
  split
  · exact nV.of1 (x6_actFlag (by omega) (by omega)) (x6_actFlag (by omega) (by omega)) (x6_actFlag (by omega) (by omega)) h
  split
  · exact nV.of1 (x6_actFlag (by omega) (by omega)) (x6_actFlag (by omega) (by omega)) (x6_actFlag (by omega) (by omega)) h
  split
  · exact nV.of1 (x6_actDelimiter (by omega) (by omega) (by omega)) (x6_actDelimiter (by omega) (by omega) (by omega)) (x6_actDelimiter (by omega) (by omega) (by omega)) h
  split
  · exact nV.of1 (x6_actIntermission (by omega) (by omega) (by omega)) (x6_actIntermission (by omega) (by omega) (by omega)) (x6_actIntermission (by omega) (by omega) (by omega)) h
  split
  · exact nV.of1 (x6_actSuspend (by omega) (by omega) (by omega)) (x6_actSuspend (by omega) (by omega) (by omega)) (x6_actSuspend (by omega) (by omega) (by omega)) h
  · exact h
theorem nV_act_ne {k i j l : Nat} {x : Int32} {I : Nat → Nat → Int32} {L : Nat → Nat → Int64} (hij : i ≠ j) (h : nV (k + 3 + 16 * j) I) : nV (k + 3 + 16 * j) (i6_act (k + 3 + 16 * i) l x I L) := nV.of1 (x6_act (by omega) (by omega) (by omega) (by omega) (by omega) (by omega) (by omega) (by omega) (by omega) (by omega) (by omega) (by omega)) (x6_act (by omega) (by omega) (by omega) (by omega) (by omega) (by omega) (by omega) (by omega) (by omega) (by omega) (by omega) (by omega)) (x6_act (by omega) (by omega) (by omega) (by omega) (by omega) (by omega) (by omega) (by omega) (by omega) (by omega) (by omega) (by omega)) h
theorem bV_act {k i : Nat} {x : Int32} {I : Nat → Nat → Int32} {L : Nat → Nat → Int64} (hi : i < 4) (h : bV k I) : bV k (i6_act (k + 3 + 16 * i) (k + 1) x I L) := by
  refine ⟨fun j hj => ?_, ?_⟩
  · by_cases e : i = j
    · subst e; exact nV_act (h.1 i hj)
    · exact nV_act_ne e (h.1 j hj)
  · obtain ⟨d, h8, hd⟩ := h.2
    exact ⟨d, h8, d_act_off hi hd⟩
theorem drop4 {k : Nat} {t : Int32} : ∀ (n i q : Nat) (I : Nat → Nat → Int32) (L : Nat → Nat → Int64), ∃ d, d ≤ q + n ∧ (i1_dropBefore_4 k t n i q I L) k 2 = nI d := by
  intro n
  induction n with
  | zero => intro i q I L; exact ⟨q, by omega, by simp only [i1_dropBefore_4]; rw [uI_self]⟩
  | succ n ih =>
    intro i q I L
    simp only [i1_dropBefore_4]
    obtain ⟨d, h1, h2⟩ := ih (i + 1) (if I (k + 2) i < t then q else q + 1) (if I (k + 2) i < t then I else uI (uI I (k + 1) q (I (k + 1) i)) (k + 2) q (I (k + 2) i)) L
    refine ⟨d, ?_, h2⟩
    split at h1 <;> omega
theorem bV_o {k a j : Nat} {x : Int32} {I : Nat → Nat → Int32} (ha : a = k ∨ a = k + 70 ∨ a = k + 1) (h : bV k I) : bV k (uI I a j x) := by
  refine ⟨fun i hi => nV_o (by omega) (by omega) (by omega) (h.1 i hi), ?_⟩
  obtain ⟨d, h8, hd⟩ := h.2
  exact ⟨d, h8, (congrFun (uI_off _ _ _ (by omega)) _).trans hd⟩
theorem bV_drop {k : Nat} {t : Int32} {I : Nat → Nat → Int32} {L : Nat → Nat → Int64} (h : bV k I) : bV k (i1_dropBefore (k + 67) t I L) := by
  refine ⟨fun i hi => nV.of1 (x1_dropBefore (by omega) (by omega) (by omega)) (x1_dropBefore (by omega) (by omega) (by omega)) (x1_dropBefore (by omega) (by omega) (by omega)) (h.1 i hi), ?_⟩
  obtain ⟨d, h8, hd⟩ := h.2
  have e : (I (k + 67) 2).toNatClampNeg = d := by rw [hd]; exact nI_clamp (by omega)
  obtain ⟨d2, h1, h2⟩ := drop4 (k := k + 67) (t := t) d 0 0 I L
  refine ⟨d2, by omega, ?_⟩
  unfold i1_dropBefore
  rw [e]
  exact h2
theorem bV_p41 {k : Nat} : ∀ (n i : Nat) (z y : Int32) (I : Nat → Nat → Int32) (L : Nat → Nat → Int64), i + n ≤ 4 → bV k I → bV k (i0_passBit_41 k n i z y I L) := by
  intro n
  induction n with
  | zero => intro i z y I L hi h; exact bV_drop (bV_o (by omega) (bV_o (by omega) h))
  | succ n ih => intro i z y I L hi h; exact ih _ _ _ _ _ (by omega) (bV_act (by omega) h)
theorem bV_p4 {k : Nat} : ∀ (n i : Nat) (z : Int32) (I : Nat → Nat → Int32) (L : Nat → Nat → Int64), i + n ≤ 4 → bV k I → bV k (i0_passBit_4 k n i z I L) := by
  intro n
  induction n with
  | zero => intro i z I L hi h; exact bV_p41 _ _ _ _ _ _ (by omega) h
  | succ n ih => intro i z I L hi h; exact ih _ _ _ _ (by omega) (bV_drive (by omega) h)
theorem bV_pass {k : Nat} {I : Nat → Nat → Int32} {L : Nat → Nat → Int64} (h : bV k I) : bV k (i0_passBit k I L) := bV_p4 _ _ _ _ _ (by omega) h
