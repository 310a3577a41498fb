section SQ
variable {t k l i : Nat} {C J : Nat → Nat → Int32} {D L : Nat → Nat → Int64} {x : Int32}
theorem NB.lost (h : NB t k i C J) : NB t k i (uI C (k + 1) 2 ((C (k + 1) 2) + 1)) (uI J 297 (256 * i + 12) ((J 297 (256 * i + 12)) + 1)) := by
  obtain ⟨a1, a2, a3, a4, a5, a6, a7, a8, a9⟩ := h
  have hC : ∀ a b, ¬ (a = k + 1 ∧ b = 2) → (uI C (k + 1) 2 ((C (k + 1) 2) + 1)) a b = C a b := fun a b g => by rw [uI_eq, if_neg g]
  have hJ : ∀ s y, y = 256 * i + s → s ≠ 12 → (uI J 297 (256 * i + 12) ((J 297 (256 * i + 12)) + 1)) 297 y = J 297 y := fun s y e g => uI_ne _ _ _ (by omega)
  refine ⟨?_, ?_, ?_, ?_, ?_, ?_, a7.congr (hC _ _ (by omega)) (fun b _ => hC _ _ (by omega)) (fun b _ => hC _ _ (by omega)) (fun b _ => hC _ _ (by omega)) (fun s y e g => hJ s y e (by unfold wJ at g; omega)), a8.congr (hC _ _ (by omega)) (fun b _ => hC _ _ (by omega)) (fun b _ => hC _ _ (by omega)) (fun b _ => hC _ _ (by omega)) (fun s y e g => hJ s y e (by omega)), a9.congr (hC _ _ (by omega)) (fun b _ => hC _ _ (by omega)) (fun b _ => hC _ _ (by omega)) (fun b _ => hC _ _ (by omega)) (fun s y e g => hJ s y e (by omega))⟩
  · rw [hC k 9 (by omega), hJ 1 _ rfl (by omega)]; exact a1
  · rw [hC k 10 (by omega), hJ 4 _ rfl (by omega)]; exact a2
  · rw [hC k 11 (by omega), hJ 5 _ rfl (by omega)]; exact a3
  · rw [hC k 6 (by omega), hC k 7 (by omega), hJ 16 _ rfl (by omega), hJ 17 _ rfl (by omega)]; exact a4
  · rw [hC k 14 (by omega), hC k 15 (by omega)]; exact a5
  · obtain ⟨b1, ⟨m, m1, m2, m3⟩, b2, b3, b4, b5, s, s1, s2⟩ := a6
    refine ⟨fun kd g1 g2 => ?_, ⟨m, m1, ?_, ?_⟩, ?_, ?_, ?_, ?_, s, s1, ?_⟩
    · rw [hC _ _ (by omega), hJ (kd + 5) _ (by omega) (by omega)]; exact b1 kd g1 g2
    · rw [hJ 11 _ rfl (by omega)]; exact m2
    · rw [hC _ _ (by omega)]; exact m3
    · rw [uI_self, uI_self, b2]
    · rw [hC _ _ (by omega), hJ 13 _ rfl (by omega)]; exact b3
    · rw [hC _ _ (by omega), hJ 15 _ rfl (by omega)]; exact b4
    · rw [hC _ _ (by omega), hJ 14 _ rfl (by omega)]; exact b5
    · rw [hJ 14 _ rfl (by omega)]; exact s2
def lstC (k : Nat) (C : Nat → Nat → Int32) : Nat → Nat → Int32 := uI (uI (uI C k 9 0) k 17 (-1)) (k + 1) 2 ((C (k + 1) 2) + 1)
theorem lstJ_off {b : Nat} (h : b ≠ 256 * i + 1 ∧ b ≠ 256 * i + 12) (h2 : b ≠ 256 * i + 34 ∧ b ≠ 256 * i + 39 ∧ b ≠ 256 * i + 44 ∧ b ≠ 256 * i + 49) : (lstJ i J L) 297 b = J 297 b := by
  unfold lstJ
  rw [rl_off h2, uI_ne _ _ _ h.2, uI_ne _ _ _ h.1]
theorem lstJ_1 : (lstJ i J L) 297 (256 * i + 1) = 0 := by
  unfold lstJ
  rw [rl_off (by omega), uI_ne _ _ _ (by omega), uI_self]
theorem lstC_row {a : Nat} (h : a ≠ k ∧ a ≠ k + 1) : (lstC k C) a = C a := by
  unfold lstC
  rw [uI_off _ _ _ h.2, uI_off _ _ _ h.1, uI_off _ _ _ h.1]
/-- the arbitration is lost -/
theorem NR.lost {b e T la : Nat} {bf : Nat → Nat} (h : NR t k i C D J) (hf : FP b e T la bf k i C D J) : NR t k i (lstC k C) D (lstJ i J L) ∧ FP b e T la bf k i (lstC k C) D (lstJ i J L) := by
  have hb66 := hf.b66
  have hN : NB t k i (lstC k C) (lstJ i J L) := by
    have h1 : NB t k i (uI C k 9 0) (uI J 297 (256 * i + 1) 0) := NB.role (Or.inl rfl) h.1
    have h2 : NB t k i (uI (uI C k 9 0) k 17 (-1)) (uI J 297 (256 * i + 1) 0) := h1.congr (fun a b g => by rw [uI_eq, if_neg (by unfold sC at g; omega)]) (fun _ _ _ _ => rfl)
    have h3 := h2.lost
    rw [uI_off _ _ _ (show k + 1 ≠ k by omega), uI_off _ _ _ (show k + 1 ≠ k by omega), uI_ne J _ _ (show 256 * i + 12 ≠ 256 * i + 1 by omega)] at h3
    unfold lstC lstJ
    exact h3.congr (fun _ _ _ => rfl) (fun s y e g => rl_off (by unfold sJ at g; omega))
  have hF : FP b e T la bf k i (lstC k C) D (lstJ i J L) := by
    obtain ⟨a1, a2, a3, a4, a5, a6, a7, a8⟩ := hf
    refine ⟨a1, fun j hj => ⟨(a2 j hj).1, ?_⟩, ⟨?_, ?_⟩, ⟨?_, ?_⟩, ⟨?_, ?_⟩, ?_, ⟨?_, ?_, ?_⟩, fun g => ?_⟩
    · rw [lstJ_off (by omega) (by omega)]; exact (a2 j hj).2
    · rw [lstC_row (by omega)]; exact a3.1
    · rw [lstJ_off (by omega) (by omega)]; exact a3.2
    · rw [lstC_row (by omega)]; exact a4.1
    · rw [lstJ_off (by omega) (by omega)]; exact a4.2
    · rw [lstC_row (by omega)]; exact a5.1
    · rw [lstJ_off (by omega) (by omega)]; exact a5.2
    · rw [lstC_row (by omega)]; exact a6
    · rw [lstC_row (by omega)]; exact a7.1
    · rw [lstJ_off (by omega) (by omega)]; exact a7.2.1
    · rw [lstJ_off (by omega) (by omega)]; exact a7.2.2
    · rw [lstJ_1] at g; exact absurd g (by decide)
  refine ⟨⟨hN, h.2.upd (fun b g => ?_) (fun s y e g => lstJ_off (by omega) (by omega)) (Or.inl ⟨?_, fun j hj => rl_fl hj⟩) ⟨_, _, _, _, _, hF⟩⟩, hF⟩
  · unfold lstC
    rw [uI_off _ _ _ (by omega), uI_ne _ _ _ (by omega), uI_ne _ _ _ (by omega)]
  · unfold lstC
    rw [uI_off _ _ _ (by omega), uI_self]
theorem drv_tr {b e T la : Nat} {bf : Nat → Nat} (hn : NB t k i C J) (hf : FP b e T la bf k i C D J) (s : b < bdN b bf + 15 ∨ e = 5) (p4 : J 297 (256 * i) = 4) (h9 : ¬ C k 9 = 0) : r11_drives i J L = if e = 5 then 1 - nI la else J 297 (256 * i + b + 160) := by
  have hb66 := hf.b66
  have he := hf.1.2.2.2.1
  unfold r11_drives r11_drivesFrame
  rw [if_neg (show ¬ J 297 (256 * i) = 3 by rw [p4]; decide), if_pos p4, if_pos ((tr_eq hn).mpr h9), (hf.2.2.2.2.2.2.1.2.1 s).2, if_pos (show ((-1 : Int32)) < 0 by decide), hf.2.2.2.2.1.2, hf.2.2.2.1.2, hf.2.2.1.2, nI_clamp (by omega)]
  by_cases c : e = 5
  · rw [if_pos c, if_pos (show nI e = 5 by rw [c]; rfl)]
  · rw [if_neg c, if_neg (show ¬ nI e = 5 from fun q => c ((nI_eq (b := 5) (by omega) (by omega)).mp q)), show b + 256 * i + 160 = 256 * i + b + 160 by omega]
theorem arb_eq {b : Nat} (hb : b ≤ 66) (h0 : C (k + 15) 0 = nI b) : r2_isInArbitration (k + 15) C D = r11_in (nI b) 1 12 := by
  unfold r2_isInArbitration r11_in
  rw [h0]
/-- the stuffed part -/
theorem NR.stuffed {b e T la xb : Nat} {bf : Nat → Nat} (hi : i < 4) (hlk : l < k) (ht : t < 2 ^ 27) (hx : x = nI xb) (hx1 : xb ≤ 1) (hL : LR l C J) (h : NR t k i C D J) (hf : FP b e T la bf k i C D J) (s : b < bdN b bf + 15 ∨ e = 5) (p4 : J 297 (256 * i) = 4) (hd : C k 16 = J 297 (256 * i + 26)) (hd2 : J 297 (256 * i + 26) = r11_drives i J L) : NR (t + 1) k i (i6_actStuffedPart k l x C D) (m6_actStuffedPart k l x C D) (i11_stuffed i x J L) := by
  have hb66 := hf.b66
  have hB := bdN_le hf.1.2.2.2.2.2.2.2
  have he := hf.1.2.2.2.1
  have hla := hf.1.2.2.2.2.2.1
  have tr := tr_eq (L := L) h.1
  have j26 := drv_01 (L := L) h
  rw [← hd2] at j26
  have xla : x = nI la ↔ xb = la := by rw [hx]; exact nI_eq (by omega) (by omega)
  rw [st_eq]
  unfold i6_actStuffedPart m6_actStuffedPart
  by_cases c5 : e = 5
  · subst c5
    have e20 : J 297 (256 * i + 20) = 5 := hf.2.2.2.2.1.2
    have eS : stS i x J = 1 := by unfold stS; rw [if_pos (Or.inl (by rw [if_pos e20]))]
    rw [if_pos (show (if J 297 (256 * i + 20) = 5 then true else false) = true by rw [if_pos e20]), if_pos (hf.due.mpr rfl), if_pos (hf.due.mpr rfl), eS, hf.2.2.2.1.1, hf.2.2.2.1.2, hf.2.2.1.2]
    have good : NR (t + 1) k i (i2_takeStuffBit (k + 15) x C D) D (endJ i 1 x J L (nI b)) := by
      have hF := FP.stuff (L := L) hx hx1 hf
      have row : ∀ a, a ≠ k + 15 → (i2_takeStuffBit (k + 15) x C D) a = C a := fun a g => by
        unfold i2_takeStuffBit
        rw [uI_off _ _ _ g, uI_off _ _ _ g]
      exact ⟨(h.1.le (by omega)).congr (fun a c g => by rw [row a (by unfold sC at g; omega)]) (fun s y e g => endJ_off (by unfold sJ at g; omega)), h.2.upd (fun c _ => by rw [row k (by omega)]) (fun s y e g => endJ_off (by omega)) (h.2.2.2.2.2.2.2.1.congr (by rw [row k (by omega)]) (by rw [row (k + 3) (by omega)]) (fun s y e g => endJ_off (by omega))) ⟨_, _, _, _, _, hF⟩⟩
    by_cases c9 : C k 9 = 0
    · rw [if_pos (show (¬ ((r11_isTransmitting i J L) = true)) ∨ _ from Or.inl (fun q => (tr.mp q) c9))]
      by_cases xl : x = nI la
      · rw [if_pos xl, if_pos c9, if_neg (fun q => q.elim (fun z => (tr.mp z) c9) (fun z => z xl))]
        exact NR.fail hi hlk (by omega) (by omega) ht h.1 hL
      · rw [if_neg xl, if_pos (Or.inr xl)]
        exact good
    · have e26 : J 297 (256 * i + 26) = 1 - nI la := by rw [hd2, drv_tr h.1 hf s p4 c9, if_pos rfl]
      have xd : x = J 297 (256 * i + 26) ↔ ¬ xb = la := by
        rw [e26, hx]
        rcases (show la = 0 ∨ la = 1 by omega) with q | q <;> rcases (show xb = 0 ∨ xb = 1 by omega) with z | z <;> subst q <;> subst z <;> decide
      by_cases xl : x = nI la
      · rw [if_pos xl, if_neg c9, if_neg (fun q => q.elim (fun z => z (tr.mpr c9)) (fun z => z (by rw [if_neg (fun w => (xd.mp w) (xla.mp xl))])))]
        exact NR.fail hi hlk (by omega) (by omega) ht h.1 hL
      · rw [if_neg xl, if_pos (show _ ∨ (¬ ((if x = J 297 (256 * i + 26) then false else true) = true)) from Or.inr (by rw [if_pos (xd.mpr (fun q => xl (xla.mpr q)))]; decide)), if_pos (Or.inl (tr.mpr c9))]
        exact good
  · have hbl : b < bdN b bf + 15 := by omega
    have n20 : ¬ J 297 (256 * i + 20) = 5 := by rw [hf.2.2.2.2.1.2]; exact fun q => c5 ((nI_eq (b := 5) (by omega) (by omega)).mp q)
    have eS : stS i x J = nI (tkS la xb e) := by
      unfold stS tkS
      rw [if_neg n20, hf.2.2.2.2.1.2, hf.2.2.2.1.2]
      by_cases q : xb = la
      · rw [if_pos q, if_neg (fun z => z.elim (fun z => absurd z (by decide)) (fun z => z (xla.mpr q))), nI_1]
      · rw [if_neg q, if_pos (Or.inr (fun z => q (xla.mp z)))]; rfl
    rw [if_neg (show ¬ (if J 297 (256 * i + 20) = 5 then true else false) = true by rw [if_neg n20]; decide), if_neg (fun q => c5 (hf.due.mp q)), if_neg (fun q => c5 (hf.due.mp q)), eS, hf.2.2.1.2, nI_clamp (by omega), nI_1]
    unfold i6_actBasicBit m6_actBasicBit
    by_cases c : (C k 9 = 0) ∨ (x = C k 16)
    · rw [if_pos c, if_pos c, if_pos (c.imp (fun q => fun z => (tr.mp z) q) (fun q => by rw [if_pos (q.trans hd)]; decide))]
      refine NR.cnt hi hlk ht hx hx1 hL h hf c5 hbl (fun q => ?_) rfl
      have c9 : ¬ C k 9 = 0 := by rw [h.1.1.1, q]; decide
      rw [c.resolve_left c9, hd, hd2, drv_tr h.1 hf s p4 c9, if_neg c5]
    · have c9 : ¬ C k 9 = 0 := fun q => c (Or.inl q)
      have cx : ¬ x = J 297 (256 * i + 26) := fun q => c (Or.inr (q.trans hd.symm))
      have x1 : C k 16 = 0 ↔ x = 1 := by
        rw [hd]
        rcases j26 with q | q <;> rw [q] at cx ⊢ <;> rw [hx] at cx ⊢ <;> rcases (show xb = 0 ∨ xb = 1 by omega) with z | z <;> subst z <;> first | exact absurd rfl cx | decide
      rw [if_neg c, if_neg c, if_neg (show ¬ ((¬ ((r11_isTransmitting i J L) = true)) ∨ (¬ ((if x = J 297 (256 * i + 26) then false else true) = true))) from fun q => q.elim (fun z => z (tr.mpr c9)) (fun z => z (by rw [if_neg cx]))), arb_eq hb66 hf.2.2.1.1]
      by_cases ca : (C k 16 = 0) ∨ (¬ (r11_in (nI b) 1 12) = true)
      · rw [if_pos ca, if_pos ca, if_pos (ca.imp x1.mp id)]
        exact NR.fail hi hlk (by omega) (by omega) ht h.1 hL
      · rw [if_neg ca, if_neg ca, if_neg (show ¬ ((x = 1) ∨ (¬ (r11_in (nI b) 1 12) = true)) from fun q => ca (q.imp x1.mpr id))]
        obtain ⟨hR, hF⟩ := NR.lost (L := L) h hf
        have hL2 : LR l (lstC k C) (lstJ i J L) := hL.congr (lstC_row (by omega)) (fun y g1 g2 => lstJ_off (by omega) (by omega))
        have res := NR.cnt (L := L) hi hlk ht hx hx1 hL2 hR hF c5 hbl (fun q => by rw [lstJ_1] at q; exact absurd q (by decide)) rfl
        have z9 : (lstC k C) k 9 = 0 := by
          unfold lstC
          rw [uI_off _ _ _ (by omega), uI_ne _ _ _ (by decide), uI_self]
        rw [z9] at res
        have e1 : ∀ (P : Prop) [Decidable P] (A B : Nat → Nat → Int32), (if P then B else A) = (if (¬ ((0 : Int32) = 0)) ∨ ¬ P then A else B) := fun P _ A B => by
          by_cases q : P
          · rw [if_pos q, if_neg (fun z => z.elim (fun z => z rfl) (fun z => z q))]
          · rw [if_neg q, if_pos (Or.inr q)]
        rw [e1]
        exact res
end SQ
