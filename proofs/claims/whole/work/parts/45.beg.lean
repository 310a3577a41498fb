/-! a frame begins -/
section BG
variable {t k l i : Nat} {C J : Nat → Nat → Int32} {D L : Nat → Nat → Int64} {x : Int32}
theorem bg_row {a : Nat} (h : a ≠ k) : (i2_begin k C D) a = C a := by
  unfold i2_begin
  simp only [uI_off _ _ _ h]
/-- the reference's row behind the beginning, before the frame is laid -/
def bgJ (i : Nat) (x : Int32) (J : Nat → Nat → Int32) (L : Nat → Nat → Int64) : Nat → Nat → Int32 := i11_releases i (uI (uI (uI (uI (uI (uI (i11_goes i 4 J L) 297 (256 * i + 1) (bI (if x = 0 then false else true))) 297 (256 * i + 19) 1) 297 (256 * i + 90) 0) 297 (256 * i + 20) 1) 297 (256 * i + 21) 0) 297 (256 * i + 22) (-1)) L
theorem begins_eq : i11_begins i x J L = if x = 0 then bgJ i x J L else i11_lays 297 (256 * i + 160) (J 297 (256 * i + 30)) (J 297 (256 * i + 31)) ((J 297 (256 * i + 32)).toNatClampNeg) (J 297 (256 * i + 33)) (uI (bgJ i x J L) 297 (256 * i + 34) 1) L := rfl
theorem bgJ_off {b : Nat} (h : b ≠ 256 * i + 1 ∧ b ≠ 256 * i + 19 ∧ b ≠ 256 * i + 20 ∧ b ≠ 256 * i + 21 ∧ b ≠ 256 * i + 22 ∧ b ≠ 256 * i + 90) (h2 : b ≠ 256 * i + 34 ∧ b ≠ 256 * i + 39 ∧ b ≠ 256 * i + 44 ∧ b ≠ 256 * i + 49) : (bgJ i x J L) 297 b = (i11_goes i 4 J L) 297 b := by
  unfold bgJ
  rw [rl_off h2, uI_ne _ _ _ (by omega), uI_ne _ _ _ (by omega), uI_ne _ _ _ (by omega), uI_ne _ _ _ (by omega), uI_ne _ _ _ (by omega), uI_ne _ _ _ (by omega)]
theorem bgJ_1 : (bgJ i x J L) 297 (256 * i + 1) = bI (if x = 0 then false else true) := by
  unfold bgJ
  rw [rl_off (by omega), uI_ne _ _ _ (by omega), uI_ne _ _ _ (by omega), uI_ne _ _ _ (by omega), uI_ne _ _ _ (by omega), uI_ne _ _ _ (by omega), uI_self]
theorem bgJ_19 : (bgJ i x J L) 297 (256 * i + 19) = 1 := by
  unfold bgJ
  rw [rl_off (by omega), uI_ne _ _ _ (by omega), uI_ne _ _ _ (by omega), uI_ne _ _ _ (by omega), uI_ne _ _ _ (by omega), uI_self]
theorem bgJ_90 : (bgJ i x J L) 297 (256 * i + 90) = 0 := by
  unfold bgJ
  rw [rl_off (by omega), uI_ne _ _ _ (by omega), uI_ne _ _ _ (by omega), uI_ne _ _ _ (by omega), uI_self]
theorem bgJ_20 : (bgJ i x J L) 297 (256 * i + 20) = 1 := by
  unfold bgJ
  rw [rl_off (by omega), uI_ne _ _ _ (by omega), uI_ne _ _ _ (by omega), uI_self]
theorem bgJ_21 : (bgJ i x J L) 297 (256 * i + 21) = 0 := by
  unfold bgJ
  rw [rl_off (by omega), uI_ne _ _ _ (by omega), uI_self]
theorem bgJ_22 : (bgJ i x J L) 297 (256 * i + 22) = (-1) := by
  unfold bgJ
  rw [rl_off (by omega), uI_self]
/-- the frame's first bit -/
theorem FP.first {C' J' : Nat → Nat → Int32} {D' : Nat → Nat → Int64} (hC : ∀ b, C' (k + 15) b = (i2_begin (k + 15) C D) (k + 15) b) (hD : D' (k + 15) 2 = 0) (h19 : J' 297 (256 * i + 19) = 1) (h90 : J' 297 (256 * i + 90) = 0) (h20 : J' 297 (256 * i + 20) = 1) (h21 : J' 297 (256 * i + 21) = 0) (h22 : J' 297 (256 * i + 22) = (-1)) (hx : J' 297 (256 * i + 1) = 1 → XR 1 k i C' D' J') : FP 1 1 0 0 (fun _ => 0) k i C' D' J' := by
  have e0 : bdN 1 (fun _ => 0) = 19 := rfl
  refine ⟨⟨by omega, by rw [e0]; omega, by omega, by omega, by omega, by omega, rfl, fun h => absurd h (by omega)⟩, fun j hj => ⟨Nat.zero_le _, ?_⟩, ⟨?_, h19⟩, ⟨?_, h21⟩, ⟨?_, h20⟩, ⟨?_, ?_, ?_, ?_, ?_⟩, ⟨?_, fun _ => ⟨rfl, h22⟩, fun h => ?_⟩, hx⟩
  · rw [show j = 0 by omega]; exact h90
  · rw [hC]; unfold i2_begin; simp [uI_eq]; rfl
  · rw [hC]; unfold i2_begin; simp [uI_eq]; rfl
  · rw [hC]; unfold i2_begin; simp [uI_eq]; rfl
  · rw [hC]; unfold i2_begin; simp [uI_eq]; rfl
  · rw [hD]; rfl
  · rw [hC]; unfold i2_begin; simp [uI_eq]
  · rw [hC]; unfold i2_begin; simp [uI_eq]; rfl
  · rw [hC]; unfold i2_begin; simp [uI_eq]; rfl
  · rw [hC]; unfold i2_begin; simp [uI_eq]; rfl
  · rw [e0] at h; exact absurd (Or.inl (by omega)) h
theorem NP.frame {C' J' : Nat → Nat → Int32} {D' : Nat → Nat → Int64} {b e T la : Nat} {bf : Nat → Nat} (h8 : C' k 8 = 4) (h0 : J' 297 (256 * i) = 4) (h12 : C' k 12 = 0) (h2 : J' 297 (256 * i + 2) = 0) (hs : SR k i C' J') (hf : FP b e T la bf k i C' D' J') : NP k i C' D' J' := by
  refine ⟨by rw [h8, h0], by rw [h12, h2], by rw [h0, h2]; exact cB0 4, fun g => ?_, fun g => ?_, fun g => ?_, hs, fun _ => ⟨b, e, T, la, bf, hf⟩⟩ <;> (rw [h0] at g; exact absurd g (by decide))
theorem NR.rbegin (h : NB t k i C J) : NR t k i (i6_beginFrame k l 0 C D) (m6_beginFrame k l 0 C D) (i11_begins i 0 J L) := by
  have hb : NB t k i (uI (i6_enter k l 4 C D) k 9 0) (uI (i11_goes i 4 J L) 297 (256 * i + 1) 0) := NB.role (Or.inl rfl) h.enter
  rw [begins_eq, if_pos rfl]
  unfold i6_beginFrame m6_beginFrame
  rw [if_pos rfl, if_pos rfl]
  have hC : ∀ a, a ≠ k + 15 → (i2_begin (k + 15) (uI (i6_enter k l 4 C D) k 9 0) D) a = (uI (i6_enter k l 4 C D) k 9 0) a := fun a g => bg_row g
  refine ⟨hb.congr (fun a b g => by rw [hC a (by unfold sC at g; omega)]) (fun s y e g => ?_), NP.frame (b := 1) (e := 1) (T := 0) (la := 0) (bf := fun _ => 0) ?_ ?_ ?_ ?_ (Or.inl ⟨?_, fun j hj => rl_fl hj⟩) (FP.first (fun _ => rfl) ?_ bgJ_19 bgJ_90 bgJ_20 bgJ_21 bgJ_22 (fun g => ?_))⟩
  · by_cases e1 : s = 1
    · subst e1; subst e
      rw [bgJ_1, uI_self]
      rfl
    · rw [bgJ_off (by unfold sJ at g; omega) (by unfold sJ at g; omega), uI_ne _ _ _ (by omega)]
  · rw [hC k (by omega), uI_ne _ _ _ (by decide), en_8]
  · rw [bgJ_off (by omega) (by omega), go_0]
  · rw [hC k (by omega), uI_ne _ _ _ (by decide), en_12]
  · rw [bgJ_off (by omega) (by omega), go_2]
  · rw [hC k (by omega), uI_ne _ _ _ (by decide), en_17]
  · unfold m2_begin; exact uL_self _ _ _ _
  · rw [bgJ_1] at g; exact absurd g (by decide)
theorem byI {rm ln : Nat} (h : rm ≤ 1) : (if nI rm = 1 then 0 else 8 * ln) = byN rm ln := by
  unfold byN
  rcases (show rm = 0 ∨ rm = 1 by omega) with rfl | rfl
  · rw [if_neg (by decide), if_neg (by decide)]
  · rw [if_pos (by decide), if_pos rfl]
theorem kAt {M : Nat → Nat → Int32} {w : Nat} {E : Nat → Nat → Int64} (h3 : M (k + 3) 3 = nI w) (hw : 1 ≤ w) (hw4 : w ≤ 4) : r3_keyAt (k + 3) 4 0 M E = M (k + 4) 0 ∧ r3_lengthAt (k + 3) 4 0 M E = M (k + 5) 0 ∧ r3_dataAt (k + 3) 4 0 M E = M (k + 6) 0 := by
  have hh : r3_has (k + 3) 4 0 M E = true := by
    unfold r3_has
    rw [h3, if_neg]
    rintro (q | q)
    · exact absurd q (by decide)
    · exact absurd q (nI_nle (by omega) (by omega))
  unfold r3_keyAt r3_lengthAt r3_dataAt
  rw [if_pos hh, if_pos hh, if_pos hh]
  exact ⟨rfl, rfl, rfl⟩
theorem NR.tbegin (h : NB t k i C J) (hw : ¬ C (k + 3) 3 = 0) : NR t k i (i6_beginFrame k l 1 C D) (m6_beginFrame k l 1 C D) (i11_begins i 1 J L) := by
  have hb : NB t k i (uI (i6_enter k l 4 C D) k 9 1) (uI (i11_goes i 4 J L) 297 (256 * i + 1) 1) := NB.role (Or.inr rfl) h.enter
  obtain ⟨w, w1, w2, w3, w4, -⟩ := h.2.2.2.2.2.2.1
  have hw1 : 1 ≤ w := by
    rcases Nat.eq_zero_or_pos w with q | q
    · subst q; exact absurd w2 hw
    · exact q
  obtain ⟨idn, rm, ln, a1, a2, a3, a4, a5, a6, a7, a8, a9, a10⟩ := w4 0 hw1
  rw [show 256 * i + 5 * 0 + 30 = 256 * i + 30 from rfl] at a4
  rw [show 256 * i + 5 * 0 + 31 = 256 * i + 31 from rfl] at a5
  rw [show 256 * i + 5 * 0 + 32 = 256 * i + 32 from rfl] at a6
  rw [show 256 * i + 5 * 0 + 33 = 256 * i + 33 from rfl] at a9 a10
  rw [begins_eq, if_neg (by decide), a4, a5, a6, nI_clamp (by omega)]
  unfold i6_beginFrame m6_beginFrame
  rw [if_neg (by decide), if_neg (by decide)]
  obtain ⟨M, hM⟩ : ∃ M, M = uI (i2_begin (k + 15) (uI (i6_enter k l 4 C D) k 9 1) D) k 17 0 := ⟨_, rfl⟩
  obtain ⟨E, hE⟩ : ∃ E, E = m2_begin (k + 15) (uI (i6_enter k l 4 C D) k 9 1) D := ⟨_, rfl⟩
  rw [← hM, ← hE]
  have hC : ∀ a b, a ≠ k + 15 → ¬ (a = k ∧ b = 17) → M a b = (uI (i6_enter k l 4 C D) k 9 1) a b := fun a b g g2 => by rw [hM, uI_eq, if_neg g2, bg_row g]
  have hC2 : ∀ a b, k + 3 ≤ a → a ≤ k + 14 → M a b = C a b := fun a b g g2 => by rw [hC a b (by omega) (by omega), uI_eq, if_neg (by omega), en_off (by omega)]
  have kk := kAt (k := k) (M := M) (E := E) ((hC2 _ _ (by omega) (by omega)).trans w2) hw1 w1
  rw [kk.1, kk.2.1, kk.2.2, hC2 _ _ (by omega) (by omega), hC2 _ _ (by omega) (by omega), hC2 _ _ (by omega) (by omega), a7, a8, a9]
  have hby := byN_le (rm := rm) a3
  obtain ⟨K, hK⟩ : ∃ K, K = i11_lays 297 (256 * i + 160) (nI idn) (nI rm) ln (J 297 (256 * i + 33)) (uI (bgJ i 1 J L) 297 (256 * i + 34) 1) L := ⟨_, rfl⟩
  rw [← hK]
  have hJ : ∀ s y, y = 256 * i + s → s < 160 → s ≠ 34 → K 297 y = (bgJ i 1 J L) 297 y := fun s y e g g2 => by rw [hK, laysG (byI a2), if_neg (by omega), uI_ne _ _ _ (by omega)]
  have hV : ∀ j, j < 34 + byN rm ln → K 297 (256 * i + j + 160) = layV (nI idn) (nI rm) ln (J 297 (256 * i + 33)) (byN rm ln) j := fun j hj => by rw [hK, laysG (byI a2), if_pos ⟨rfl, by omega, by omega⟩, show 256 * i + j + 160 - (256 * i + 160) = j by omega]
  refine ⟨hb.congr (fun a b g => hC a b (by unfold sC at g; omega) (by unfold sC at g; omega)) (fun s y e g => ?_), NP.frame (b := 1) (e := 1) (T := 0) (la := 0) (bf := fun _ => 0) ?_ ?_ ?_ ?_ (Or.inr ⟨0, w, hw1, w1, (hC2 _ _ (by omega) (by omega)).trans w2, ?_, fun j hj => ?_⟩) (FP.first (C := uI (i6_enter k l 4 C D) k 9 1) (D := D) (fun b => ?_) ?_ ?_ ?_ ?_ ?_ ?_ (fun _ => ⟨?_, idn, rm, ln, J 297 (256 * i + 33), a1, a2, a3, a10, uL_self _ _ _ _, hV, fun j hj => ?_⟩))⟩
  · by_cases e1 : s = 1
    · subst e1; subst e
      rw [hJ 1 _ rfl (by omega) (by omega), bgJ_1, uI_self]
      rfl
    · rw [hJ s y e (by unfold sJ at g; omega) (by unfold sJ at g; omega), bgJ_off (by unfold sJ at g; omega) (by unfold sJ at g; omega), uI_ne _ _ _ (by omega)]
  · rw [hC k 8 (by omega) (by omega), uI_ne _ _ _ (by decide), en_8]
  · rw [hJ 0 _ (by omega) (by omega) (by omega), bgJ_off (by omega) (by omega), go_0]
  · rw [hC k 12 (by omega) (by omega), uI_ne _ _ _ (by decide), en_12]
  · rw [hJ 2 _ rfl (by omega) (by omega), bgJ_off (by omega) (by omega), go_2]
  · rw [hM, uI_self]; rfl
  · rcases Nat.eq_zero_or_pos j with q | q
    · subst q
      rw [hK, laysG (byI a2), if_neg (by omega), if_pos rfl]
      exact uI_self _ _ _ _
    · rw [hJ (5 * j + 34) _ (by omega) (by omega) (by omega), if_neg (by omega)]
      exact rl_fl hj
  · rw [hM, uI_eq, if_neg (by omega)]
  · rw [uL_eq, if_neg (by omega), hE]; unfold m2_begin; exact uL_self _ _ _ _
  · rw [hJ 19 _ rfl (by omega) (by omega)]; exact bgJ_19
  · rw [hJ 90 _ rfl (by omega) (by omega)]; exact bgJ_90
  · rw [hJ 20 _ rfl (by omega) (by omega)]; exact bgJ_20
  · rw [hJ 21 _ rfl (by omega) (by omega)]; exact bgJ_21
  · rw [hJ 22 _ rfl (by omega) (by omega)]; exact bgJ_22
  · rw [hM, uI_self]; decide
  · obtain rfl : j = 0 := by omega
    rw [hV 0 (by omega), show 256 * i + 0 + 90 = 256 * i + 90 from rfl, hJ 90 _ rfl (by omega) (by omega), bgJ_90]
    unfold layV layH
    rw [if_pos (by omega), if_pos rfl]
end BG
